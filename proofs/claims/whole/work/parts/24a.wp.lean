/-! 0: X0_init -/
theorem am_q0 : (am_mt 0).2.2.2.2.2 = am_m0.2.2.2.2.2 := rfl
set_option maxRecDepth 20000 in
set_option maxHeartbeats 2000000 in
theorem wp0 {d : Nat} (a0 : Nat) {h : AH} {Q : Option Value → AH → Prop} (H : (¬ (24 : Int32) < (0 : Int32) ∧ (Int32.toNatClampNeg (24 : Int32)) ≤ 100000) ∧ ∀ b3, b3 = am_sz h → ∀ h2, h2 = am_nw h 100 (Int32.toNatClampNeg (24 : Int32)) (Int32.toNatClampNeg (24 : Int32)) → am_kd h2 a0 = 0 ∧ ∀ h6, h6 = am_sr h2 a0 0 (some b3) → (¬ (13 : Int32) < (0 : Int32) ∧ (Int32.toNatClampNeg (13 : Int32)) ≤ 100000) ∧ ∀ b8, b8 = am_sz h6 → ∀ h7, h7 = am_nw h6 100 (Int32.toNatClampNeg (13 : Int32)) (Int32.toNatClampNeg (13 : Int32)) → am_kd h7 a0 = 0 ∧ ∀ h11, h11 = am_sr h7 a0 1 (some b8) → (¬ (13 : Int32) < (0 : Int32) ∧ (Int32.toNatClampNeg (13 : Int32)) ≤ 100000) ∧ ∀ b13, b13 = am_sz h11 → ∀ h12, h12 = am_nw h11 100 (Int32.toNatClampNeg (13 : Int32)) (Int32.toNatClampNeg (13 : Int32)) → am_kd h12 a0 = 0 ∧ ∀ h16, h16 = am_sr h12 a0 2 (some b13) → (¬ (13 : Int32) < (0 : Int32) ∧ (Int32.toNatClampNeg (13 : Int32)) ≤ 100000) ∧ ∀ b18, b18 = am_sz h16 → ∀ h17, h17 = am_nw h16 100 (Int32.toNatClampNeg (13 : Int32)) (Int32.toNatClampNeg (13 : Int32)) → am_kd h17 a0 = 0 ∧ ∀ h21, h21 = am_sr h17 a0 3 (some b18) → ((¬ (13 : Int32) < (0 : Int32) ∧ (Int32.toNatClampNeg (13 : Int32)) ≤ 1000) ∧ (¬ (13 : Int32) < (0 : Int32) ∧ (Int32.toNatClampNeg (13 : Int32)) ≤ 1000)) ∧ ∀ b23, b23 = am_sz h21 → ∀ h22, h22 = am_mna h21 (Int32.toNatClampNeg (13 : Int32)) (Int32.toNatClampNeg (13 : Int32)) → am_kd h22 a0 = 0 ∧ ∀ h26, h26 = am_sr h22 a0 4 (some b23) → (¬ (13 : Int32) < (0 : Int32) ∧ (Int32.toNatClampNeg (13 : Int32)) ≤ 100000) ∧ ∀ b28, b28 = am_sz h26 → ∀ h27, h27 = am_nw h26 101 (Int32.toNatClampNeg (13 : Int32)) (Int32.toNatClampNeg (13 : Int32)) → am_kd h27 a0 = 0 ∧ ∀ h31, h31 = am_sr h27 a0 5 (some b28) → (¬ (13 : Int32) < (0 : Int32) ∧ (Int32.toNatClampNeg (13 : Int32)) ≤ 100000) ∧ ∀ b33, b33 = am_sz h31 → ∀ h32, h32 = am_nw h31 101 (Int32.toNatClampNeg (13 : Int32)) (Int32.toNatClampNeg (13 : Int32)) → am_kd h32 a0 = 0 ∧ ∀ h36, h36 = am_sr h32 a0 6 (some b33) → (¬ (13 : Int32) < (0 : Int32) ∧ (Int32.toNatClampNeg (13 : Int32)) ≤ 100000) ∧ ∀ b38, b38 = am_sz h36 → ∀ h37, h37 = am_nw h36 101 (Int32.toNatClampNeg (13 : Int32)) (Int32.toNatClampNeg (13 : Int32)) → am_kd h37 a0 = 0 ∧ ∀ h41, h41 = am_sr h37 a0 7 (some b38) → (¬ (13 : Int32) < (0 : Int32) ∧ (Int32.toNatClampNeg (13 : Int32)) ≤ 100000) ∧ ∀ b43, b43 = am_sz h41 → ∀ h42, h42 = am_nw h41 100 (Int32.toNatClampNeg (13 : Int32)) (Int32.toNatClampNeg (13 : Int32)) → am_kd h42 a0 = 0 ∧ ∀ h46, h46 = am_sr h42 a0 8 (some b43) → (¬ (13 : Int32) < (0 : Int32) ∧ (Int32.toNatClampNeg (13 : Int32)) ≤ 100000) ∧ ∀ b48, b48 = am_sz h46 → ∀ h47, h47 = am_nw h46 103 (Int32.toNatClampNeg (13 : Int32)) (Int32.toNatClampNeg (13 : Int32)) → am_kd h47 a0 = 0 ∧ ∀ h51, h51 = am_sr h47 a0 9 (some b48) → (¬ (13 : Int32) < (0 : Int32) ∧ (Int32.toNatClampNeg (13 : Int32)) ≤ 100000) ∧ ∀ b53, b53 = am_sz h51 → ∀ h52, h52 = am_nw h51 100 (Int32.toNatClampNeg (13 : Int32)) (Int32.toNatClampNeg (13 : Int32)) → am_kd h52 a0 = 0 ∧ ∀ h56, h56 = am_sr h52 a0 10 (some b53) → Q none h56) : Cl d 0 [.ref a0] h Q := by
  show Ev d 0 0 [.ref a0] [] h Q
  refine ev_p (pc' := 1) (loc' := [.ref a0]) (st' := [.ref a0]) 1 am_q0 rfl ?_
  refine ev_b (st' := []) (h1 := h) am_q0 rfl rfl rfl rfl (rfl) rfl ?_
  refine ev_p (pc' := 7) (loc' := [.ref a0]) (st' := [.int (24 : Int32), .ref a0]) 2 am_q0 rfl ?_
  obtain ⟨g4, H⟩ := H
  refine ev_s (pc' := 9) (loc' := [.ref a0]) (st' := [.ref (am_sz h), .ref a0]) (h1 := am_nw h 100 (Int32.toNatClampNeg (24 : Int32)) (Int32.toNatClampNeg (24 : Int32))) am_q0 rfl rfl rfl (if_pos (e := none) g4) ?_
  replace H := H _ rfl _ rfl
  generalize am_nw h 100 (Int32.toNatClampNeg (24 : Int32)) (Int32.toNatClampNeg (24 : Int32)) = h2 at H ⊢
  generalize am_sz h = b3 at H ⊢
  obtain ⟨g5, H⟩ := H
  refine ev_s (pc' := 12) (loc' := [.ref a0]) (st' := []) (h1 := am_sr h2 a0 0 (some b3)) am_q0 rfl rfl rfl (if_pos (e := none) g5) ?_
  replace H := H _ rfl
  generalize am_sr h2 a0 0 (some b3) = h6 at H ⊢
  refine ev_p (pc' := 15) (loc' := [.ref a0]) (st' := [.int (13 : Int32), .ref a0]) 2 am_q0 rfl ?_
  obtain ⟨g9, H⟩ := H
  refine ev_s (pc' := 17) (loc' := [.ref a0]) (st' := [.ref (am_sz h6), .ref a0]) (h1 := am_nw h6 100 (Int32.toNatClampNeg (13 : Int32)) (Int32.toNatClampNeg (13 : Int32))) am_q0 rfl rfl rfl (if_pos (e := none) g9) ?_
  replace H := H _ rfl _ rfl
  generalize am_nw h6 100 (Int32.toNatClampNeg (13 : Int32)) (Int32.toNatClampNeg (13 : Int32)) = h7 at H ⊢
  generalize am_sz h6 = b8 at H ⊢
  obtain ⟨g10, H⟩ := H
  refine ev_s (pc' := 20) (loc' := [.ref a0]) (st' := []) (h1 := am_sr h7 a0 1 (some b8)) am_q0 rfl rfl rfl (if_pos (e := none) g10) ?_
  replace H := H _ rfl
  generalize am_sr h7 a0 1 (some b8) = h11 at H ⊢
  refine ev_p (pc' := 23) (loc' := [.ref a0]) (st' := [.int (13 : Int32), .ref a0]) 2 am_q0 rfl ?_
  obtain ⟨g14, H⟩ := H
  refine ev_s (pc' := 25) (loc' := [.ref a0]) (st' := [.ref (am_sz h11), .ref a0]) (h1 := am_nw h11 100 (Int32.toNatClampNeg (13 : Int32)) (Int32.toNatClampNeg (13 : Int32))) am_q0 rfl rfl rfl (if_pos (e := none) g14) ?_
  replace H := H _ rfl _ rfl
  generalize am_nw h11 100 (Int32.toNatClampNeg (13 : Int32)) (Int32.toNatClampNeg (13 : Int32)) = h12 at H ⊢
  generalize am_sz h11 = b13 at H ⊢
  obtain ⟨g15, H⟩ := H
  refine ev_s (pc' := 28) (loc' := [.ref a0]) (st' := []) (h1 := am_sr h12 a0 2 (some b13)) am_q0 rfl rfl rfl (if_pos (e := none) g15) ?_
  replace H := H _ rfl
  generalize am_sr h12 a0 2 (some b13) = h16 at H ⊢
  refine ev_p (pc' := 31) (loc' := [.ref a0]) (st' := [.int (13 : Int32), .ref a0]) 2 am_q0 rfl ?_
  obtain ⟨g19, H⟩ := H
  refine ev_s (pc' := 33) (loc' := [.ref a0]) (st' := [.ref (am_sz h16), .ref a0]) (h1 := am_nw h16 100 (Int32.toNatClampNeg (13 : Int32)) (Int32.toNatClampNeg (13 : Int32))) am_q0 rfl rfl rfl (if_pos (e := none) g19) ?_
  replace H := H _ rfl _ rfl
  generalize am_nw h16 100 (Int32.toNatClampNeg (13 : Int32)) (Int32.toNatClampNeg (13 : Int32)) = h17 at H ⊢
  generalize am_sz h16 = b18 at H ⊢
  obtain ⟨g20, H⟩ := H
  refine ev_s (pc' := 36) (loc' := [.ref a0]) (st' := []) (h1 := am_sr h17 a0 3 (some b18)) am_q0 rfl rfl rfl (if_pos (e := none) g20) ?_
  replace H := H _ rfl
  generalize am_sr h17 a0 3 (some b18) = h21 at H ⊢
  refine ev_p (pc' := 41) (loc' := [.ref a0]) (st' := [.int (13 : Int32), .int (13 : Int32), .ref a0]) 3 am_q0 rfl ?_
  obtain ⟨g24, H⟩ := H
  refine ev_s (pc' := 45) (loc' := [.ref a0]) (st' := [.ref (am_sz h21), .ref a0]) (h1 := am_mna h21 (Int32.toNatClampNeg (13 : Int32)) (Int32.toNatClampNeg (13 : Int32))) am_q0 rfl rfl rfl (if_pos (e := none) g24) ?_
  replace H := H _ rfl _ rfl
  generalize am_mna h21 (Int32.toNatClampNeg (13 : Int32)) (Int32.toNatClampNeg (13 : Int32)) = h22 at H ⊢
  generalize am_sz h21 = b23 at H ⊢
  obtain ⟨g25, H⟩ := H
  refine ev_s (pc' := 48) (loc' := [.ref a0]) (st' := []) (h1 := am_sr h22 a0 4 (some b23)) am_q0 rfl rfl rfl (if_pos (e := none) g25) ?_
  replace H := H _ rfl
  generalize am_sr h22 a0 4 (some b23) = h26 at H ⊢
  refine ev_p (pc' := 51) (loc' := [.ref a0]) (st' := [.int (13 : Int32), .ref a0]) 2 am_q0 rfl ?_
  obtain ⟨g29, H⟩ := H
  refine ev_s (pc' := 53) (loc' := [.ref a0]) (st' := [.ref (am_sz h26), .ref a0]) (h1 := am_nw h26 101 (Int32.toNatClampNeg (13 : Int32)) (Int32.toNatClampNeg (13 : Int32))) am_q0 rfl rfl rfl (if_pos (e := none) g29) ?_
  replace H := H _ rfl _ rfl
  generalize am_nw h26 101 (Int32.toNatClampNeg (13 : Int32)) (Int32.toNatClampNeg (13 : Int32)) = h27 at H ⊢
  generalize am_sz h26 = b28 at H ⊢
  obtain ⟨g30, H⟩ := H
  refine ev_s (pc' := 56) (loc' := [.ref a0]) (st' := []) (h1 := am_sr h27 a0 5 (some b28)) am_q0 rfl rfl rfl (if_pos (e := none) g30) ?_
  replace H := H _ rfl
  generalize am_sr h27 a0 5 (some b28) = h31 at H ⊢
  refine ev_p (pc' := 59) (loc' := [.ref a0]) (st' := [.int (13 : Int32), .ref a0]) 2 am_q0 rfl ?_
  obtain ⟨g34, H⟩ := H
  refine ev_s (pc' := 61) (loc' := [.ref a0]) (st' := [.ref (am_sz h31), .ref a0]) (h1 := am_nw h31 101 (Int32.toNatClampNeg (13 : Int32)) (Int32.toNatClampNeg (13 : Int32))) am_q0 rfl rfl rfl (if_pos (e := none) g34) ?_
  replace H := H _ rfl _ rfl
  generalize am_nw h31 101 (Int32.toNatClampNeg (13 : Int32)) (Int32.toNatClampNeg (13 : Int32)) = h32 at H ⊢
  generalize am_sz h31 = b33 at H ⊢
  obtain ⟨g35, H⟩ := H
  refine ev_s (pc' := 64) (loc' := [.ref a0]) (st' := []) (h1 := am_sr h32 a0 6 (some b33)) am_q0 rfl rfl rfl (if_pos (e := none) g35) ?_
  replace H := H _ rfl
  generalize am_sr h32 a0 6 (some b33) = h36 at H ⊢
  refine ev_p (pc' := 67) (loc' := [.ref a0]) (st' := [.int (13 : Int32), .ref a0]) 2 am_q0 rfl ?_
  obtain ⟨g39, H⟩ := H
  refine ev_s (pc' := 69) (loc' := [.ref a0]) (st' := [.ref (am_sz h36), .ref a0]) (h1 := am_nw h36 101 (Int32.toNatClampNeg (13 : Int32)) (Int32.toNatClampNeg (13 : Int32))) am_q0 rfl rfl rfl (if_pos (e := none) g39) ?_
  replace H := H _ rfl _ rfl
  generalize am_nw h36 101 (Int32.toNatClampNeg (13 : Int32)) (Int32.toNatClampNeg (13 : Int32)) = h37 at H ⊢
  generalize am_sz h36 = b38 at H ⊢
  obtain ⟨g40, H⟩ := H
  refine ev_s (pc' := 72) (loc' := [.ref a0]) (st' := []) (h1 := am_sr h37 a0 7 (some b38)) am_q0 rfl rfl rfl (if_pos (e := none) g40) ?_
  replace H := H _ rfl
  generalize am_sr h37 a0 7 (some b38) = h41 at H ⊢
  refine ev_p (pc' := 75) (loc' := [.ref a0]) (st' := [.int (13 : Int32), .ref a0]) 2 am_q0 rfl ?_
  obtain ⟨g44, H⟩ := H
  refine ev_s (pc' := 77) (loc' := [.ref a0]) (st' := [.ref (am_sz h41), .ref a0]) (h1 := am_nw h41 100 (Int32.toNatClampNeg (13 : Int32)) (Int32.toNatClampNeg (13 : Int32))) am_q0 rfl rfl rfl (if_pos (e := none) g44) ?_
  replace H := H _ rfl _ rfl
  generalize am_nw h41 100 (Int32.toNatClampNeg (13 : Int32)) (Int32.toNatClampNeg (13 : Int32)) = h42 at H ⊢
  generalize am_sz h41 = b43 at H ⊢
  obtain ⟨g45, H⟩ := H
  refine ev_s (pc' := 80) (loc' := [.ref a0]) (st' := []) (h1 := am_sr h42 a0 8 (some b43)) am_q0 rfl rfl rfl (if_pos (e := none) g45) ?_
  replace H := H _ rfl
  generalize am_sr h42 a0 8 (some b43) = h46 at H ⊢
  refine ev_p (pc' := 83) (loc' := [.ref a0]) (st' := [.int (13 : Int32), .ref a0]) 2 am_q0 rfl ?_
  obtain ⟨g49, H⟩ := H
  refine ev_s (pc' := 85) (loc' := [.ref a0]) (st' := [.ref (am_sz h46), .ref a0]) (h1 := am_nw h46 103 (Int32.toNatClampNeg (13 : Int32)) (Int32.toNatClampNeg (13 : Int32))) am_q0 rfl rfl rfl (if_pos (e := none) g49) ?_
  replace H := H _ rfl _ rfl
  generalize am_nw h46 103 (Int32.toNatClampNeg (13 : Int32)) (Int32.toNatClampNeg (13 : Int32)) = h47 at H ⊢
  generalize am_sz h46 = b48 at H ⊢
  obtain ⟨g50, H⟩ := H
  refine ev_s (pc' := 88) (loc' := [.ref a0]) (st' := []) (h1 := am_sr h47 a0 9 (some b48)) am_q0 rfl rfl rfl (if_pos (e := none) g50) ?_
  replace H := H _ rfl
  generalize am_sr h47 a0 9 (some b48) = h51 at H ⊢
  refine ev_p (pc' := 91) (loc' := [.ref a0]) (st' := [.int (13 : Int32), .ref a0]) 2 am_q0 rfl ?_
  obtain ⟨g54, H⟩ := H
  refine ev_s (pc' := 93) (loc' := [.ref a0]) (st' := [.ref (am_sz h51), .ref a0]) (h1 := am_nw h51 100 (Int32.toNatClampNeg (13 : Int32)) (Int32.toNatClampNeg (13 : Int32))) am_q0 rfl rfl rfl (if_pos (e := none) g54) ?_
  replace H := H _ rfl _ rfl
  generalize am_nw h51 100 (Int32.toNatClampNeg (13 : Int32)) (Int32.toNatClampNeg (13 : Int32)) = h52 at H ⊢
  generalize am_sz h51 = b53 at H ⊢
  obtain ⟨g55, H⟩ := H
  refine ev_s (pc' := 96) (loc' := [.ref a0]) (st' := []) (h1 := am_sr h52 a0 10 (some b53)) am_q0 rfl rfl rfl (if_pos (e := none) g55) ?_
  replace H := H _ rfl
  generalize am_sr h52 a0 10 (some b53) = h56 at H ⊢
  exact ev_r (v := none) am_q0 rfl rfl rfl rfl H
/-! 1: X0_begin -/
theorem am_q1 : (am_mt 1).2.2.2.2.2 = am_m1.2.2.2.2.2 := rfl
set_option maxRecDepth 20000 in
set_option maxHeartbeats 2000000 in
theorem wp1 {d : Nat} (a0 : Nat) (i1 : Int32) (i2 : Int32) {h : AH} {Q : Option Value → AH → Prop} (H : Cl d 265 [.int i1, .int (12 : Int32)] h (fun r2 h1 => ∃ x3, r2 = some (.int x3) ∧ am_kd h1 a0 = 0 ∧ ∀ h5, h5 = am_si h1 a0 11 x3 → am_kd h5 a0 = 0 ∧ ∀ h7, h7 = am_si h5 a0 12 (0 : Int32) → am_kd h7 a0 = 0 ∧ ∀ h9, h9 = am_si h7 a0 13 i2 → Q none h9)) : Cl (d + 1) 1 [.ref a0, .int i1, .int i2] h Q := by
  show Ev (d + 1) 1 0 [.ref a0, .int i1, .int i2] [] h Q
  refine ev_p (pc' := 4) (loc' := [.ref a0, .int i1, .int i2]) (st' := [.int (12 : Int32), .int i1, .ref a0]) 3 am_q1 rfl ?_
  refine ev_c (vs := [.int i1, .int (12 : Int32)]) (rest := [.ref a0]) 265 am_q1 rfl rfl rfl rfl rfl rfl rfl rfl rfl rfl rfl rfl (Or.inl rfl) (Cl.mono H (Nat.le_refl _) (fun r2 h1 H => ?_))
  obtain ⟨x3, rfl, H⟩ := H
  obtain ⟨g4, H⟩ := H
  refine ev_s (pc' := 10) (loc' := [.ref a0, .int i1, .int i2]) (st' := []) (h1 := am_si h1 a0 11 x3) am_q1 rfl rfl rfl (if_pos (e := none) g4) ?_
  replace H := H _ rfl
  generalize am_si h1 a0 11 x3 = h5 at H ⊢
  refine ev_p (pc' := 12) (loc' := [.ref a0, .int i1, .int i2]) (st' := [.int (0 : Int32), .ref a0]) 2 am_q1 rfl ?_
  obtain ⟨g6, H⟩ := H
  refine ev_s (pc' := 15) (loc' := [.ref a0, .int i1, .int i2]) (st' := []) (h1 := am_si h5 a0 12 (0 : Int32)) am_q1 rfl rfl rfl (if_pos (e := none) g6) ?_
  replace H := H _ rfl
  generalize am_si h5 a0 12 (0 : Int32) = h7 at H ⊢
  refine ev_p (pc' := 17) (loc' := [.ref a0, .int i1, .int i2]) (st' := [.int i2, .ref a0]) 2 am_q1 rfl ?_
  obtain ⟨g8, H⟩ := H
  refine ev_s (pc' := 20) (loc' := [.ref a0, .int i1, .int i2]) (st' := []) (h1 := am_si h7 a0 13 i2) am_q1 rfl rfl rfl (if_pos (e := none) g8) ?_
  replace H := H _ rfl
  generalize am_si h7 a0 13 i2 = h9 at H ⊢
  exact ev_r (v := none) am_q1 rfl rfl rfl rfl H
/-! 2: X0_enter -/
theorem am_q2 : (am_mt 2).2.2.2.2.2 = am_m2.2.2.2.2.2 := rfl
set_option maxRecDepth 20000 in
set_option maxHeartbeats 2000000 in
theorem wp2 {d : Nat} (a0 : Nat) (i1 : Int32) (i2 : Int32) (i3 : Int32) {h : AH} {Q : Option Value → AH → Prop} (H : am_kd h a0 = 0 ∧ am_kd h a0 = 0 ∧ ((am_gi h a0 12) < (am_gi h a0 11) → am_kd h a0 = 0 ∧ am_kd h a0 = 0 ∧ ∀ h5, h5 = am_si h a0 12 ((am_gi h a0 12) + (1 : Int32)) → am_kd h5 a0 = 0 ∧ ∃ b7, am_gr h5 a0 1 = some b7 ∧ am_kd h5 a0 = 0 ∧ (am_kd h5 b7 = 100 ∧ 6 ≤ b7) ∧ am_in (am_gi h5 a0 12) (am_ln h5 b7) ∧ ∀ h12, h12 = am_si h5 b7 (Int32.toNatClampNeg (am_gi h5 a0 12)) i1 → am_kd h12 a0 = 0 ∧ ∃ b14, am_gr h12 a0 2 = some b14 ∧ am_kd h12 a0 = 0 ∧ (am_kd h12 b14 = 100 ∧ 6 ≤ b14) ∧ am_in (am_gi h12 a0 12) (am_ln h12 b14) ∧ ∀ h19, h19 = am_si h12 b14 (Int32.toNatClampNeg (am_gi h12 a0 12)) i2 → am_kd h19 a0 = 0 ∧ ∃ b21, am_gr h19 a0 3 = some b21 ∧ am_kd h19 a0 = 0 ∧ (am_kd h19 b21 = 100 ∧ 6 ≤ b21) ∧ am_in (am_gi h19 a0 12) (am_ln h19 b21) ∧ ∀ h26, h26 = am_si h19 b21 (Int32.toNatClampNeg (am_gi h19 a0 12)) i3 → am_kd h26 a0 = 0 ∧ am_kd h26 a0 = 0 ∧ ∀ h29, h29 = am_si h26 a0 13 ((am_gi h26 a0 13) ||| ((1 : Int32) <<< (i2 &&& 31))) → Q none h29) ∧ (¬ (am_gi h a0 12) < (am_gi h a0 11) → Q none h)) : Cl d 2 [.ref a0, .int i1, .int i2, .int i3] h Q := by
  show Ev d 2 0 [.ref a0, .int i1, .int i2, .int i3] [] h Q
  refine ev_p (pc' := 1) (loc' := [.ref a0, .int i1, .int i2, .int i3]) (st' := [.ref a0]) 1 am_q2 rfl ?_
  obtain ⟨g1, H⟩ := H
  refine ev_s (pc' := 4) (loc' := [.ref a0, .int i1, .int i2, .int i3]) (st' := [.int (am_gi h a0 12)]) (h1 := h) am_q2 rfl rfl rfl (if_pos (e := none) g1) ?_
  refine ev_p (pc' := 5) (loc' := [.ref a0, .int i1, .int i2, .int i3]) (st' := [.ref a0, .int (am_gi h a0 12)]) 1 am_q2 rfl ?_
  obtain ⟨g2, H⟩ := H
  refine ev_s (pc' := 8) (loc' := [.ref a0, .int i1, .int i2, .int i3]) (st' := [.int (am_gi h a0 11), .int (am_gi h a0 12)]) (h1 := h) am_q2 rfl rfl rfl (if_pos (e := none) g2) ?_
  refine ev_jc (t := 12) am_q2 rfl rfl (fun hq => ?_) (fun hq => ?_)
  · replace H := H.1 hq
    refine ev_p (pc' := 14) (loc' := [.ref a0, .int i1, .int i2, .int i3]) (st' := [.ref a0, .ref a0]) 2 am_q2 rfl ?_
    obtain ⟨g3, H⟩ := H
    refine ev_s (pc' := 17) (loc' := [.ref a0, .int i1, .int i2, .int i3]) (st' := [.int (am_gi h a0 12), .ref a0]) (h1 := h) am_q2 rfl rfl rfl (if_pos (e := none) g3) ?_
    refine ev_p (pc' := 19) (loc' := [.ref a0, .int i1, .int i2, .int i3]) (st' := [.int ((am_gi h a0 12) + (1 : Int32)), .ref a0]) 2 am_q2 rfl ?_
    obtain ⟨g4, H⟩ := H
    refine ev_s (pc' := 22) (loc' := [.ref a0, .int i1, .int i2, .int i3]) (st' := []) (h1 := am_si h a0 12 ((am_gi h a0 12) + (1 : Int32))) am_q2 rfl rfl rfl (if_pos (e := none) g4) ?_
    replace H := H _ rfl
    generalize am_si h a0 12 ((am_gi h a0 12) + (1 : Int32)) = h5 at H ⊢
    refine ev_p (pc' := 23) (loc' := [.ref a0, .int i1, .int i2, .int i3]) (st' := [.ref a0]) 1 am_q2 rfl ?_
    obtain ⟨g6, b7, e8, H⟩ := H
    refine ev_s (pc' := 26) (loc' := [.ref a0, .int i1, .int i2, .int i3]) (st' := [.ref b7]) (h1 := h5) am_q2 rfl rfl rfl (am_gf2 g6 e8) ?_
    refine ev_p (pc' := 27) (loc' := [.ref a0, .int i1, .int i2, .int i3]) (st' := [.ref a0, .ref b7]) 1 am_q2 rfl ?_
    obtain ⟨g9, H⟩ := H
    refine ev_s (pc' := 30) (loc' := [.ref a0, .int i1, .int i2, .int i3]) (st' := [.int (am_gi h5 a0 12), .ref b7]) (h1 := h5) am_q2 rfl rfl rfl (if_pos (e := none) g9) ?_
    refine ev_p (pc' := 31) (loc' := [.ref a0, .int i1, .int i2, .int i3]) (st' := [.int i1, .int (am_gi h5 a0 12), .ref b7]) 1 am_q2 rfl ?_
    obtain ⟨g10, g11, H⟩ := H
    refine ev_s (pc' := 32) (loc' := [.ref a0, .int i1, .int i2, .int i3]) (st' := []) (h1 := am_si h5 b7 (Int32.toNatClampNeg (am_gi h5 a0 12)) i1) am_q2 rfl rfl rfl (am_xx g10 g11) ?_
    replace H := H _ rfl
    generalize am_si h5 b7 (Int32.toNatClampNeg (am_gi h5 a0 12)) i1 = h12 at H ⊢
    refine ev_p (pc' := 33) (loc' := [.ref a0, .int i1, .int i2, .int i3]) (st' := [.ref a0]) 1 am_q2 rfl ?_
    obtain ⟨g13, b14, e15, H⟩ := H
    refine ev_s (pc' := 36) (loc' := [.ref a0, .int i1, .int i2, .int i3]) (st' := [.ref b14]) (h1 := h12) am_q2 rfl rfl rfl (am_gf2 g13 e15) ?_
    refine ev_p (pc' := 37) (loc' := [.ref a0, .int i1, .int i2, .int i3]) (st' := [.ref a0, .ref b14]) 1 am_q2 rfl ?_
    obtain ⟨g16, H⟩ := H
    refine ev_s (pc' := 40) (loc' := [.ref a0, .int i1, .int i2, .int i3]) (st' := [.int (am_gi h12 a0 12), .ref b14]) (h1 := h12) am_q2 rfl rfl rfl (if_pos (e := none) g16) ?_
    refine ev_p (pc' := 41) (loc' := [.ref a0, .int i1, .int i2, .int i3]) (st' := [.int i2, .int (am_gi h12 a0 12), .ref b14]) 1 am_q2 rfl ?_
    obtain ⟨g17, g18, H⟩ := H
    refine ev_s (pc' := 42) (loc' := [.ref a0, .int i1, .int i2, .int i3]) (st' := []) (h1 := am_si h12 b14 (Int32.toNatClampNeg (am_gi h12 a0 12)) i2) am_q2 rfl rfl rfl (am_xx g17 g18) ?_
    replace H := H _ rfl
    generalize am_si h12 b14 (Int32.toNatClampNeg (am_gi h12 a0 12)) i2 = h19 at H ⊢
    refine ev_p (pc' := 43) (loc' := [.ref a0, .int i1, .int i2, .int i3]) (st' := [.ref a0]) 1 am_q2 rfl ?_
    obtain ⟨g20, b21, e22, H⟩ := H
    refine ev_s (pc' := 46) (loc' := [.ref a0, .int i1, .int i2, .int i3]) (st' := [.ref b21]) (h1 := h19) am_q2 rfl rfl rfl (am_gf2 g20 e22) ?_
    refine ev_p (pc' := 47) (loc' := [.ref a0, .int i1, .int i2, .int i3]) (st' := [.ref a0, .ref b21]) 1 am_q2 rfl ?_
    obtain ⟨g23, H⟩ := H
    refine ev_s (pc' := 50) (loc' := [.ref a0, .int i1, .int i2, .int i3]) (st' := [.int (am_gi h19 a0 12), .ref b21]) (h1 := h19) am_q2 rfl rfl rfl (if_pos (e := none) g23) ?_
    refine ev_p (pc' := 51) (loc' := [.ref a0, .int i1, .int i2, .int i3]) (st' := [.int i3, .int (am_gi h19 a0 12), .ref b21]) 1 am_q2 rfl ?_
    obtain ⟨g24, g25, H⟩ := H
    refine ev_s (pc' := 52) (loc' := [.ref a0, .int i1, .int i2, .int i3]) (st' := []) (h1 := am_si h19 b21 (Int32.toNatClampNeg (am_gi h19 a0 12)) i3) am_q2 rfl rfl rfl (am_xx g24 g25) ?_
    replace H := H _ rfl
    generalize am_si h19 b21 (Int32.toNatClampNeg (am_gi h19 a0 12)) i3 = h26 at H ⊢
    refine ev_p (pc' := 54) (loc' := [.ref a0, .int i1, .int i2, .int i3]) (st' := [.ref a0, .ref a0]) 2 am_q2 rfl ?_
    obtain ⟨g27, H⟩ := H
    refine ev_s (pc' := 57) (loc' := [.ref a0, .int i1, .int i2, .int i3]) (st' := [.int (am_gi h26 a0 13), .ref a0]) (h1 := h26) am_q2 rfl rfl rfl (if_pos (e := none) g27) ?_
    refine ev_p (pc' := 61) (loc' := [.ref a0, .int i1, .int i2, .int i3]) (st' := [.int ((am_gi h26 a0 13) ||| ((1 : Int32) <<< (i2 &&& 31))), .ref a0]) 4 am_q2 rfl ?_
    obtain ⟨g28, H⟩ := H
    refine ev_s (pc' := 64) (loc' := [.ref a0, .int i1, .int i2, .int i3]) (st' := []) (h1 := am_si h26 a0 13 ((am_gi h26 a0 13) ||| ((1 : Int32) <<< (i2 &&& 31)))) am_q2 rfl rfl rfl (if_pos (e := none) g28) ?_
    replace H := H _ rfl
    generalize am_si h26 a0 13 ((am_gi h26 a0 13) ||| ((1 : Int32) <<< (i2 &&& 31))) = h29 at H ⊢
    exact ev_r (v := none) am_q2 rfl rfl rfl rfl H
  · replace H := H.2 hq
    exact ev_r (v := none) am_q2 rfl rfl rfl rfl H
/-! 3: X0_settle -/
theorem am_q3 : (am_mt 3).2.2.2.2.2 = am_m3.2.2.2.2.2 := rfl
set_option maxRecDepth 20000 in
set_option maxHeartbeats 2000000 in
theorem wp3 {d : Nat} (a0 : Nat) {h : AH} {Q : Option Value → AH → Prop} (H : am_kd h a0 = 0 ∧ Cl d 4 [.ref a0] h (fun r2 h1 => r2 = none ∧ Ev (d + 1) 3 6 [.ref a0, .int (0 : Int32)] [] h1 Q)) : Cl (d + 1) 3 [.ref a0] h Q := by
  show Ev (d + 1) 3 0 [.ref a0, .null] [] h Q
  refine ev_p (pc' := 1) (loc' := [.ref a0, .null]) (st' := [.ref a0]) 1 am_q3 rfl ?_
  obtain ⟨g3, H⟩ := H
  refine ev_c (vs := [.ref a0]) (rest := []) 4 am_q3 rfl rfl rfl rfl rfl rfl rfl rfl rfl rfl rfl rfl (Or.inr (congrArg some g3)) (Cl.mono H (Nat.le_refl _) (fun r2 h1 H => ?_))
  obtain ⟨rfl, H⟩ := H
  refine ev_p (pc' := 6) (loc' := [.ref a0, .int (0 : Int32)]) (st' := []) 2 am_q3 rfl ?_
  exact ev_m (loc' := [.ref a0, .int (0 : Int32)]) am_q3 rfl rfl H
set_option maxRecDepth 20000 in
set_option maxHeartbeats 2000000 in
theorem wp3_6 {d : Nat} (a0 : Nat) (i1 : Int32) {h : AH} {Q : Option Value → AH → Prop} (H : am_kd h a0 = 0 ∧ ((am_gi h a0 11) < i1 → Ev (d + 1) 3 43 [.ref a0, .int (1 : Int32)] [] h Q) ∧ (¬ (am_gi h a0 11) < i1 → am_kd h a0 = 0 ∧ ∃ b3, am_gr h a0 10 = some b3 ∧ (am_kd h b3 = 100 ∧ 6 ≤ b3) ∧ am_in i1 (am_ln h b3) ∧ ∀ h7, h7 = am_si h b3 (Int32.toNatClampNeg i1) (0 : Int32) → am_kd h7 a0 = 0 ∧ ∃ b9, am_gr h7 a0 6 = some b9 ∧ am_kd h7 b9 = 101 ∧ am_in i1 (am_ln h7 b9) ∧ ∀ h13, h13 = am_sl h7 b9 (Int32.toNatClampNeg i1) (0 : Int64) → am_kd h13 a0 = 0 ∧ ∃ b15, am_gr h13 a0 5 = some b15 ∧ am_kd h13 b15 = 101 ∧ am_in i1 (am_ln h13 b15) ∧ ∀ h19, h19 = am_sl h13 b15 (Int32.toNatClampNeg i1) (0 : Int64) → Ev (d + 1) 3 6 [.ref a0, .int (i1 + (1 : Int32))] [] h19 Q)) : Ev (d + 1) 3 6 [.ref a0, .int i1] [] h Q := by
  refine ev_p (pc' := 8) (loc' := [.ref a0, .int i1]) (st' := [.ref a0, .int i1]) 2 am_q3 rfl ?_
  obtain ⟨g1, H⟩ := H
  refine ev_s (pc' := 11) (loc' := [.ref a0, .int i1]) (st' := [.int (am_gi h a0 11), .int i1]) (h1 := h) am_q3 rfl rfl rfl (if_pos (e := none) g1) ?_
  refine ev_jc (t := 41) am_q3 rfl rfl (fun hq => ?_) (fun hq => ?_)
  · replace H := H.1 hq
    refine ev_p (pc' := 43) (loc' := [.ref a0, .int (1 : Int32)]) (st' := []) 2 am_q3 rfl ?_
    exact ev_m (loc' := [.ref a0, .int (1 : Int32)]) am_q3 rfl rfl H
  · replace H := H.2 hq
    refine ev_p (pc' := 15) (loc' := [.ref a0, .int i1]) (st' := [.ref a0]) 1 am_q3 rfl ?_
    obtain ⟨g2, b3, e4, H⟩ := H
    refine ev_s (pc' := 18) (loc' := [.ref a0, .int i1]) (st' := [.ref b3]) (h1 := h) am_q3 rfl rfl rfl (am_gf2 g2 e4) ?_
    refine ev_p (pc' := 20) (loc' := [.ref a0, .int i1]) (st' := [.int (0 : Int32), .int i1, .ref b3]) 2 am_q3 rfl ?_
    obtain ⟨g5, g6, H⟩ := H
    refine ev_s (pc' := 21) (loc' := [.ref a0, .int i1]) (st' := []) (h1 := am_si h b3 (Int32.toNatClampNeg i1) (0 : Int32)) am_q3 rfl rfl rfl (am_xx g5 g6) ?_
    replace H := H _ rfl
    generalize am_si h b3 (Int32.toNatClampNeg i1) (0 : Int32) = h7 at H ⊢
    refine ev_p (pc' := 22) (loc' := [.ref a0, .int i1]) (st' := [.ref a0]) 1 am_q3 rfl ?_
    obtain ⟨g8, b9, e10, H⟩ := H
    refine ev_s (pc' := 25) (loc' := [.ref a0, .int i1]) (st' := [.ref b9]) (h1 := h7) am_q3 rfl rfl rfl (am_gf2 g8 e10) ?_
    refine ev_p (pc' := 27) (loc' := [.ref a0, .int i1]) (st' := [.long (0 : Int64), .int i1, .ref b9]) 2 am_q3 rfl ?_
    obtain ⟨g11, g12, H⟩ := H
    refine ev_s (pc' := 28) (loc' := [.ref a0, .int i1]) (st' := []) (h1 := am_sl h7 b9 (Int32.toNatClampNeg i1) (0 : Int64)) am_q3 rfl rfl rfl (am_xx g11 g12) ?_
    replace H := H _ rfl
    generalize am_sl h7 b9 (Int32.toNatClampNeg i1) (0 : Int64) = h13 at H ⊢
    refine ev_p (pc' := 29) (loc' := [.ref a0, .int i1]) (st' := [.ref a0]) 1 am_q3 rfl ?_
    obtain ⟨g14, b15, e16, H⟩ := H
    refine ev_s (pc' := 32) (loc' := [.ref a0, .int i1]) (st' := [.ref b15]) (h1 := h13) am_q3 rfl rfl rfl (am_gf2 g14 e16) ?_
    refine ev_p (pc' := 34) (loc' := [.ref a0, .int i1]) (st' := [.long (0 : Int64), .int i1, .ref b15]) 2 am_q3 rfl ?_
    obtain ⟨g17, g18, H⟩ := H
    refine ev_s (pc' := 35) (loc' := [.ref a0, .int i1]) (st' := []) (h1 := am_sl h13 b15 (Int32.toNatClampNeg i1) (0 : Int64)) am_q3 rfl rfl rfl (am_xx g17 g18) ?_
    replace H := H _ rfl
    generalize am_sl h13 b15 (Int32.toNatClampNeg i1) (0 : Int64) = h19 at H ⊢
    refine ev_p (pc' := 6) (loc' := [.ref a0, .int (i1 + (1 : Int32))]) (st' := []) 2 am_q3 rfl ?_
    exact ev_m (loc' := [.ref a0, .int (i1 + (1 : Int32))]) am_q3 rfl rfl H
set_option maxRecDepth 20000 in
set_option maxHeartbeats 2000000 in
theorem wp3_43 {d : Nat} (a0 : Nat) (i1 : Int32) {h : AH} {Q : Option Value → AH → Prop} (H : am_kd h a0 = 0 ∧ ((am_gi h a0 12) < i1 → am_kd h a0 = 0 ∧ Cl d 10 [.ref a0] h (fun r3 h2 => ∃ x5, r3 = some (.int x5) ∧ Q (some (.int x5)) h2)) ∧ (¬ (am_gi h a0 12) < i1 → am_kd h a0 = 0 ∧ Cl d 6 [.ref a0, .int i1] h (fun r7 h6 => r7 = none ∧ Ev (d + 1) 3 43 [.ref a0, .int (i1 + (1 : Int32))] [] h6 Q))) : Ev (d + 1) 3 43 [.ref a0, .int i1] [] h Q := by
  refine ev_p (pc' := 45) (loc' := [.ref a0, .int i1]) (st' := [.ref a0, .int i1]) 2 am_q3 rfl ?_
  obtain ⟨g1, H⟩ := H
  refine ev_s (pc' := 48) (loc' := [.ref a0, .int i1]) (st' := [.int (am_gi h a0 12), .int i1]) (h1 := h) am_q3 rfl rfl rfl (if_pos (e := none) g1) ?_
  refine ev_jc (t := 62) am_q3 rfl rfl (fun hq => ?_) (fun hq => ?_)
  · replace H := H.1 hq
    refine ev_p (pc' := 63) (loc' := [.ref a0, .int i1]) (st' := [.ref a0]) 1 am_q3 rfl ?_
    obtain ⟨g4, H⟩ := H
    refine ev_c (vs := [.ref a0]) (rest := []) 10 am_q3 rfl rfl rfl rfl rfl rfl rfl rfl rfl rfl rfl rfl (Or.inr (congrArg some g4)) (Cl.mono H (Nat.le_refl _) (fun r3 h2 H => ?_))
    obtain ⟨x5, rfl, H⟩ := H
    exact ev_r (v := some (.int x5)) am_q3 rfl rfl rfl rfl H
  · replace H := H.2 hq
    refine ev_p (pc' := 53) (loc' := [.ref a0, .int i1]) (st' := [.int i1, .ref a0]) 2 am_q3 rfl ?_
    obtain ⟨g8, H⟩ := H
    refine ev_c (vs := [.ref a0, .int i1]) (rest := []) 6 am_q3 rfl rfl rfl rfl rfl rfl rfl rfl rfl rfl rfl rfl (Or.inr (congrArg some g8)) (Cl.mono H (Nat.le_refl _) (fun r7 h6 H => ?_))
    obtain ⟨rfl, H⟩ := H
    refine ev_p (pc' := 43) (loc' := [.ref a0, .int (i1 + (1 : Int32))]) (st' := []) 2 am_q3 rfl ?_
    exact ev_m (loc' := [.ref a0, .int (i1 + (1 : Int32))]) am_q3 rfl rfl H
/-! 4: X0_setPrices -/
theorem am_q4 : (am_mt 4).2.2.2.2.2 = am_m4.2.2.2.2.2 := rfl
set_option maxRecDepth 20000 in
set_option maxHeartbeats 2000000 in
theorem wp4 {d : Nat} (a0 : Nat) {h : AH} {Q : Option Value → AH → Prop} (H : Ev (d + 1) 4 6 [.ref a0, .long (1792160394037 : Int64), .null, .int (1 : Int32), .null] [] h Q) : Cl (d + 1) 4 [.ref a0] h Q := by
  show Ev (d + 1) 4 0 [.ref a0, .null, .null, .null, .null] [] h Q
  refine ev_p (pc' := 6) (loc' := [.ref a0, .long (1792160394037 : Int64), .null, .int (1 : Int32), .null]) (st' := []) 4 am_q4 rfl ?_
  exact ev_m (loc' := [.ref a0, .long (1792160394037 : Int64), .null, .int (1 : Int32), .null]) am_q4 rfl rfl H
set_option maxRecDepth 20000 in
set_option maxHeartbeats 2000000 in
theorem wp4_6 {d : Nat} (a0 : Nat) (l1 : Int64) (i3 : Int32) {h : AH} {Q : Option Value → AH → Prop} (H : am_kd h a0 = 0 ∧ ((am_gi h a0 12) < i3 → Q none h) ∧ (¬ (am_gi h a0 12) < i3 → Ev (d + 1) 4 17 [.ref a0, .long l1, .null, .int i3, .int (0 : Int32)] [] h Q)) : Ev (d + 1) 4 6 [.ref a0, .long l1, .null, .int i3, .null] [] h Q := by
  refine ev_p (pc' := 8) (loc' := [.ref a0, .long l1, .null, .int i3, .null]) (st' := [.ref a0, .int i3]) 2 am_q4 rfl ?_
  obtain ⟨g1, H⟩ := H
  refine ev_s (pc' := 11) (loc' := [.ref a0, .long l1, .null, .int i3, .null]) (st' := [.int (am_gi h a0 12), .int i3]) (h1 := h) am_q4 rfl rfl rfl (if_pos (e := none) g1) ?_
  refine ev_jc (t := 63) am_q4 rfl rfl (fun hq => ?_) (fun hq => ?_)
  · replace H := H.1 hq
    exact ev_r (v := none) am_q4 rfl rfl rfl rfl H
  · replace H := H.2 hq
    refine ev_p (pc' := 17) (loc' := [.ref a0, .long l1, .null, .int i3, .int (0 : Int32)]) (st' := []) 2 am_q4 rfl ?_
    exact ev_m (loc' := [.ref a0, .long l1, .null, .int i3, .int (0 : Int32)]) am_q4 rfl rfl H
set_option maxRecDepth 20000 in
set_option maxHeartbeats 2000000 in
theorem wp4_17 {d : Nat} (a0 : Nat) (l1 : Int64) (i3 : Int32) (i4 : Int32) {h : AH} {Q : Option Value → AH → Prop} (H : am_kd h a0 = 0 ∧ ((am_gi h a0 11) ≤ i4 → ¬ (13 : Int64) = (0 : Int64) ∧ Ev (d + 1) 4 6 [.ref a0, .long (l1 / (13 : Int64)), .null, .int (i3 + (1 : Int32)), .null] [] h Q) ∧ (¬ (am_gi h a0 11) ≤ i4 → am_kd h a0 = 0 ∧ ∃ b4, am_gr h a0 4 = some b4 ∧ (104 ≤ am_kd h b4 ∧ am_kd h b4 ≤ 109) ∧ am_in i3 (am_ln h b4) ∧ ∃ b8, am_gr h b4 (Int32.toNatClampNeg i3) = some b8 ∧ am_kd h a0 = 0 ∧ Cl d 5 [.ref a0, .int i3, .int i4, .long l1] h (fun r11 h10 => ∃ y13, r11 = some (.long y13) ∧ am_kd h10 b8 = 101 ∧ am_in (i4 + (1 : Int32)) (am_ln h10 b8) ∧ ∀ h16, h16 = am_sl h10 b8 (Int32.toNatClampNeg (i4 + (1 : Int32))) y13 → Ev (d + 1) 4 17 [.ref a0, .long l1, .null, .int i3, .int (i4 + (1 : Int32))] [] h16 Q))) : Ev (d + 1) 4 17 [.ref a0, .long l1, .null, .int i3, .int i4] [] h Q := by
  refine ev_p (pc' := 20) (loc' := [.ref a0, .long l1, .null, .int i3, .int i4]) (st' := [.ref a0, .int i4]) 2 am_q4 rfl ?_
  obtain ⟨g1, H⟩ := H
  refine ev_s (pc' := 23) (loc' := [.ref a0, .long l1, .null, .int i3, .int i4]) (st' := [.int (am_gi h a0 11), .int i4]) (h1 := h) am_q4 rfl rfl rfl (if_pos (e := none) g1) ?_
  refine ev_jc (t := 51) am_q4 rfl rfl (fun hq => ?_) (fun hq => ?_)
  · replace H := H.1 hq
    refine ev_p (pc' := 55) (loc' := [.ref a0, .long l1, .null, .int i3, .int i4]) (st' := [.long (13 : Int64), .long l1]) 2 am_q4 rfl ?_
    obtain ⟨g2, H⟩ := H
    refine ev_s (pc' := 56) (loc' := [.ref a0, .long l1, .null, .int i3, .int i4]) (st' := [.long (l1 / (13 : Int64))]) (h1 := h) am_q4 rfl rfl rfl (if_neg (t := none) g2) ?_
    refine ev_p (pc' := 6) (loc' := [.ref a0, .long (l1 / (13 : Int64)), .null, .int (i3 + (1 : Int32)), .int i4]) (st' := []) 3 am_q4 rfl ?_
    exact ev_m (loc' := [.ref a0, .long (l1 / (13 : Int64)), .null, .int (i3 + (1 : Int32)), .null]) am_q4 rfl rfl H
  · replace H := H.2 hq
    refine ev_p (pc' := 27) (loc' := [.ref a0, .long l1, .null, .int i3, .int i4]) (st' := [.ref a0]) 1 am_q4 rfl ?_
    obtain ⟨g3, b4, e5, H⟩ := H
    refine ev_s (pc' := 30) (loc' := [.ref a0, .long l1, .null, .int i3, .int i4]) (st' := [.ref b4]) (h1 := h) am_q4 rfl rfl rfl (am_gf2 g3 e5) ?_
    refine ev_p (pc' := 31) (loc' := [.ref a0, .long l1, .null, .int i3, .int i4]) (st' := [.int i3, .ref b4]) 1 am_q4 rfl ?_
    obtain ⟨g6, g7, b8, e9, H⟩ := H
    refine ev_s (pc' := 32) (loc' := [.ref a0, .long l1, .null, .int i3, .int i4]) (st' := [.ref b8]) (h1 := h) am_q4 rfl rfl rfl (am_xa g6 g7 e9) ?_
    refine ev_p (pc' := 41) (loc' := [.ref a0, .long l1, .null, .int i3, .int i4]) (st' := [.long l1, .int i4, .int i3, .ref a0, .int (i4 + (1 : Int32)), .ref b8]) 7 am_q4 rfl ?_
    obtain ⟨g12, H⟩ := H
    refine ev_c (vs := [.ref a0, .int i3, .int i4, .long l1]) (rest := [.int (i4 + (1 : Int32)), .ref b8]) 5 am_q4 rfl rfl rfl rfl rfl rfl rfl rfl rfl rfl rfl rfl (Or.inr (congrArg some g12)) (Cl.mono H (Nat.le_refl _) (fun r11 h10 H => ?_))
    obtain ⟨y13, rfl, H⟩ := H
    obtain ⟨g14, g15, H⟩ := H
    refine ev_s (pc' := 45) (loc' := [.ref a0, .long l1, .null, .int i3, .int i4]) (st' := []) (h1 := am_sl h10 b8 (Int32.toNatClampNeg (i4 + (1 : Int32))) y13) am_q4 rfl rfl rfl (am_xx g14 g15) ?_
    replace H := H _ rfl
    generalize am_sl h10 b8 (Int32.toNatClampNeg (i4 + (1 : Int32))) y13 = h16 at H ⊢
    refine ev_p (pc' := 17) (loc' := [.ref a0, .long l1, .null, .int i3, .int (i4 + (1 : Int32))]) (st' := []) 2 am_q4 rfl ?_
    exact ev_m (loc' := [.ref a0, .long l1, .null, .int i3, .int (i4 + (1 : Int32))]) am_q4 rfl rfl H
/-! 5: X0_priceOf -/
theorem am_q5 : (am_mt 5).2.2.2.2.2 = am_m5.2.2.2.2.2 := rfl
set_option maxRecDepth 20000 in
set_option maxHeartbeats 2000000 in
theorem wp5 {d : Nat} (a0 : Nat) (i1 : Int32) (i2 : Int32) (l3 : Int64) {h : AH} {Q : Option Value → AH → Prop} (H : am_kd h a0 = 0 ∧ ∃ b2, am_gr h a0 2 = some b2 ∧ am_kd h b2 = 100 ∧ am_in i1 (am_ln h b2) ∧ ((¬ (am_gi h b2 (Int32.toNatClampNeg i1)) = i2) → am_kd h a0 = 0 ∧ ∃ b7, am_gr h a0 3 = some b7 ∧ am_kd h b7 = 100 ∧ am_in i1 (am_ln h b7) ∧ am_kd h a0 = 0 ∧ (((((am_gi h b7 (Int32.toNatClampNeg i1)) &&& (am_gi h a0 13)) >>> (i2 &&& 31)) &&& (1 : Int32)) = (0 : Int32) → ((0 : Int32) = (0 : Int32) → Q (some (.long (10000000000000000 : Int64))) h) ∧ (¬ (0 : Int32) = (0 : Int32) → Q (some (.long (((Int32.toInt64 i2) * l3) - (23298085122481 : Int64)))) h)) ∧ (¬ ((((am_gi h b7 (Int32.toNatClampNeg i1)) &&& (am_gi h a0 13)) >>> (i2 &&& 31)) &&& (1 : Int32)) = (0 : Int32) → ((1 : Int32) = (0 : Int32) → Q (some (.long (10000000000000000 : Int64))) h) ∧ (¬ (1 : Int32) = (0 : Int32) → Q (some (.long (((Int32.toInt64 i2) * l3) - (23298085122481 : Int64)))) h))) ∧ (¬ (¬ (am_gi h b2 (Int32.toNatClampNeg i1)) = i2) → Q (some (.long ((12 : Int64) * l3))) h)) : Cl d 5 [.ref a0, .int i1, .int i2, .long l3] h Q := by
  show Ev d 5 0 [.ref a0, .int i1, .int i2, .long l3, .null, .null] [] h Q
  refine ev_p (pc' := 1) (loc' := [.ref a0, .int i1, .int i2, .long l3, .null, .null]) (st' := [.ref a0]) 1 am_q5 rfl ?_
  obtain ⟨g1, b2, e3, H⟩ := H
  refine ev_s (pc' := 4) (loc' := [.ref a0, .int i1, .int i2, .long l3, .null, .null]) (st' := [.ref b2]) (h1 := h) am_q5 rfl rfl rfl (am_gf2 g1 e3) ?_
  refine ev_p (pc' := 5) (loc' := [.ref a0, .int i1, .int i2, .long l3, .null, .null]) (st' := [.int i1, .ref b2]) 1 am_q5 rfl ?_
  obtain ⟨g4, g5, H⟩ := H
  refine ev_s (pc' := 6) (loc' := [.ref a0, .int i1, .int i2, .long l3, .null, .null]) (st' := [.int (am_gi h b2 (Int32.toNatClampNeg i1))]) (h1 := h) am_q5 rfl rfl rfl (am_xx g4 g5) ?_
  refine ev_p (pc' := 7) (loc' := [.ref a0, .int i1, .int i2, .long l3, .null, .null]) (st' := [.int i2, .int (am_gi h b2 (Int32.toNatClampNeg i1))]) 1 am_q5 rfl ?_
  refine ev_jc (t := 16) am_q5 rfl rfl (fun hq => ?_) (fun hq => ?_)
  · replace H := H.1 hq
    refine ev_p (pc' := 17) (loc' := [.ref a0, .int i1, .int i2, .long l3, .null, .null]) (st' := [.ref a0]) 1 am_q5 rfl ?_
    obtain ⟨g6, b7, e8, H⟩ := H
    refine ev_s (pc' := 20) (loc' := [.ref a0, .int i1, .int i2, .long l3, .null, .null]) (st' := [.ref b7]) (h1 := h) am_q5 rfl rfl rfl (am_gf2 g6 e8) ?_
    refine ev_p (pc' := 21) (loc' := [.ref a0, .int i1, .int i2, .long l3, .null, .null]) (st' := [.int i1, .ref b7]) 1 am_q5 rfl ?_
    obtain ⟨g9, g10, H⟩ := H
    refine ev_s (pc' := 22) (loc' := [.ref a0, .int i1, .int i2, .long l3, .null, .null]) (st' := [.int (am_gi h b7 (Int32.toNatClampNeg i1))]) (h1 := h) am_q5 rfl rfl rfl (am_xx g9 g10) ?_
    refine ev_p (pc' := 23) (loc' := [.ref a0, .int i1, .int i2, .long l3, .null, .null]) (st' := [.ref a0, .int (am_gi h b7 (Int32.toNatClampNeg i1))]) 1 am_q5 rfl ?_
    obtain ⟨g11, H⟩ := H
    refine ev_s (pc' := 26) (loc' := [.ref a0, .int i1, .int i2, .long l3, .null, .null]) (st' := [.int (am_gi h a0 13), .int (am_gi h b7 (Int32.toNatClampNeg i1))]) (h1 := h) am_q5 rfl rfl rfl (if_pos (e := none) g11) ?_
    refine ev_p (pc' := 31) (loc' := [.ref a0, .int i1, .int i2, .long l3, .null, .null]) (st' := [.int ((((am_gi h b7 (Int32.toNatClampNeg i1)) &&& (am_gi h a0 13)) >>> (i2 &&& 31)) &&& (1 : Int32))]) 5 am_q5 rfl ?_
    refine ev_jz (t := 38) am_q5 rfl rfl (fun hq => ?_) (fun hq => ?_)
    · replace H := H.1 hq
      refine ev_p (pc' := 43) (loc' := [.null, .null, .int i2, .long l3, .null, .int (0 : Int32)]) (st' := [.int (0 : Int32)]) 3 am_q5 rfl ?_
      refine ev_jz (t := 57) am_q5 rfl rfl (fun hq => ?_) (fun hq => ?_)
      · replace H := H.1 hq
        refine ev_p (pc' := 60) (loc' := [.null, .null, .int i2, .long l3, .null, .int (0 : Int32)]) (st' := [.long (10000000000000000 : Int64)]) 1 am_q5 rfl ?_
        exact ev_r (v := some (.long (10000000000000000 : Int64))) am_q5 rfl rfl rfl rfl H
      · replace H := H.2 hq
        refine ev_p (pc' := 60) (loc' := [.null, .null, .int i2, .long l3, .null, .int (0 : Int32)]) (st' := [.long (((Int32.toInt64 i2) * l3) - (23298085122481 : Int64))]) 7 am_q5 rfl ?_
        exact ev_r (v := some (.long (((Int32.toInt64 i2) * l3) - (23298085122481 : Int64)))) am_q5 rfl rfl rfl rfl H
    · replace H := H.2 hq
      refine ev_p (pc' := 43) (loc' := [.null, .null, .int i2, .long l3, .null, .int (1 : Int32)]) (st' := [.int (1 : Int32)]) 4 am_q5 rfl ?_
      refine ev_jz (t := 57) am_q5 rfl rfl (fun hq => ?_) (fun hq => ?_)
      · replace H := H.1 hq
        refine ev_p (pc' := 60) (loc' := [.null, .null, .int i2, .long l3, .null, .int (1 : Int32)]) (st' := [.long (10000000000000000 : Int64)]) 1 am_q5 rfl ?_
        exact ev_r (v := some (.long (10000000000000000 : Int64))) am_q5 rfl rfl rfl rfl H
      · replace H := H.2 hq
        refine ev_p (pc' := 60) (loc' := [.null, .null, .int i2, .long l3, .null, .int (1 : Int32)]) (st' := [.long (((Int32.toInt64 i2) * l3) - (23298085122481 : Int64))]) 7 am_q5 rfl ?_
        exact ev_r (v := some (.long (((Int32.toInt64 i2) * l3) - (23298085122481 : Int64)))) am_q5 rfl rfl rfl rfl H
  · replace H := H.2 hq
    refine ev_p (pc' := 15) (loc' := [.ref a0, .int i1, .int i2, .long l3, .null, .null]) (st' := [.long ((12 : Int64) * l3)]) 3 am_q5 rfl ?_
    exact ev_r (v := some (.long ((12 : Int64) * l3))) am_q5 rfl rfl rfl rfl H
/-! 6: X0_seat -/
theorem am_q6 : (am_mt 6).2.2.2.2.2 = am_m6.2.2.2.2.2 := rfl
set_option maxRecDepth 20000 in
set_option maxHeartbeats 2000000 in
theorem wp6 {d : Nat} (a0 : Nat) (i1 : Int32) {h : AH} {Q : Option Value → AH → Prop} (H : am_kd h a0 = 0 ∧ ∃ b2, am_gr h a0 10 = some b2 ∧ (am_kd h b2 = 100 ∧ 6 ≤ b2) ∧ am_in (0 : Int32) (am_ln h b2) ∧ ∀ h6, h6 = am_si h b2 (Int32.toNatClampNeg (0 : Int32)) i1 → Ev (d + 1) 6 9 [.ref a0, .null, .int (0 : Int32), .null, .null] [] h6 Q) : Cl (d + 1) 6 [.ref a0, .int i1] h Q := by
  show Ev (d + 1) 6 0 [.ref a0, .int i1, .null, .null, .null] [] h Q
  refine ev_p (pc' := 1) (loc' := [.ref a0, .int i1, .null, .null, .null]) (st' := [.ref a0]) 1 am_q6 rfl ?_
  obtain ⟨g1, b2, e3, H⟩ := H
  refine ev_s (pc' := 4) (loc' := [.ref a0, .int i1, .null, .null, .null]) (st' := [.ref b2]) (h1 := h) am_q6 rfl rfl rfl (am_gf2 g1 e3) ?_
  refine ev_p (pc' := 6) (loc' := [.ref a0, .int i1, .null, .null, .null]) (st' := [.int i1, .int (0 : Int32), .ref b2]) 2 am_q6 rfl ?_
  obtain ⟨g4, g5, H⟩ := H
  refine ev_s (pc' := 7) (loc' := [.ref a0, .int i1, .null, .null, .null]) (st' := []) (h1 := am_si h b2 (Int32.toNatClampNeg (0 : Int32)) i1) am_q6 rfl rfl rfl (am_xx g4 g5) ?_
  replace H := H _ rfl
  generalize am_si h b2 (Int32.toNatClampNeg (0 : Int32)) i1 = h6 at H ⊢
  refine ev_p (pc' := 9) (loc' := [.ref a0, .int i1, .int (0 : Int32), .null, .null]) (st' := []) 2 am_q6 rfl ?_
  exact ev_m (loc' := [.ref a0, .null, .int (0 : Int32), .null, .null]) am_q6 rfl rfl H
set_option maxRecDepth 20000 in
set_option maxHeartbeats 2000000 in
theorem wp6_9 {d : Nat} (a0 : Nat) (i2 : Int32) {h : AH} {Q : Option Value → AH → Prop} (H : am_kd h a0 = 0 ∧ ((am_gi h a0 11) < i2 → Ev (d + 1) 6 43 [.ref a0, .null, .int (0 : Int32), .int (0 : Int32), .null] [] h Q) ∧ (¬ (am_gi h a0 11) < i2 → am_kd h a0 = 0 ∧ ∃ b3, am_gr h a0 7 = some b3 ∧ am_kd h b3 = 101 ∧ am_in i2 (am_ln h b3) ∧ ∀ h7, h7 = am_sl h b3 (Int32.toNatClampNeg i2) (4000000000000000000 : Int64) → am_kd h7 a0 = 0 ∧ ∃ b9, am_gr h7 a0 9 = some b9 ∧ (am_kd h7 b9 = 103 ∧ ((0 : Int32) = (0 : Int32) ∨ (0 : Int32) = (1 : Int32))) ∧ am_in i2 (am_ln h7 b9) ∧ ∀ h13, h13 = am_si h7 b9 (Int32.toNatClampNeg i2) (0 : Int32) → Ev (d + 1) 6 9 [.ref a0, .null, .int (i2 + (1 : Int32)), .null, .null] [] h13 Q)) : Ev (d + 1) 6 9 [.ref a0, .null, .int i2, .null, .null] [] h Q := by
  refine ev_p (pc' := 11) (loc' := [.ref a0, .null, .int i2, .null, .null]) (st' := [.ref a0, .int i2]) 2 am_q6 rfl ?_
  obtain ⟨g1, H⟩ := H
  refine ev_s (pc' := 14) (loc' := [.ref a0, .null, .int i2, .null, .null]) (st' := [.int (am_gi h a0 11), .int i2]) (h1 := h) am_q6 rfl rfl rfl (if_pos (e := none) g1) ?_
  refine ev_jc (t := 39) am_q6 rfl rfl (fun hq => ?_) (fun hq => ?_)
  · replace H := H.1 hq
    refine ev_p (pc' := 43) (loc' := [.ref a0, .null, .int (0 : Int32), .int (0 : Int32), .null]) (st' := []) 4 am_q6 rfl ?_
    exact ev_m (loc' := [.ref a0, .null, .int (0 : Int32), .int (0 : Int32), .null]) am_q6 rfl rfl H
  · replace H := H.2 hq
    refine ev_p (pc' := 18) (loc' := [.ref a0, .null, .int i2, .null, .null]) (st' := [.ref a0]) 1 am_q6 rfl ?_
    obtain ⟨g2, b3, e4, H⟩ := H
    refine ev_s (pc' := 21) (loc' := [.ref a0, .null, .int i2, .null, .null]) (st' := [.ref b3]) (h1 := h) am_q6 rfl rfl rfl (am_gf2 g2 e4) ?_
    refine ev_p (pc' := 25) (loc' := [.ref a0, .null, .int i2, .null, .null]) (st' := [.long (4000000000000000000 : Int64), .int i2, .ref b3]) 2 am_q6 rfl ?_
    obtain ⟨g5, g6, H⟩ := H
    refine ev_s (pc' := 26) (loc' := [.ref a0, .null, .int i2, .null, .null]) (st' := []) (h1 := am_sl h b3 (Int32.toNatClampNeg i2) (4000000000000000000 : Int64)) am_q6 rfl rfl rfl (am_xx g5 g6) ?_
    replace H := H _ rfl
    generalize am_sl h b3 (Int32.toNatClampNeg i2) (4000000000000000000 : Int64) = h7 at H ⊢
    refine ev_p (pc' := 27) (loc' := [.ref a0, .null, .int i2, .null, .null]) (st' := [.ref a0]) 1 am_q6 rfl ?_
    obtain ⟨g8, b9, e10, H⟩ := H
    refine ev_s (pc' := 30) (loc' := [.ref a0, .null, .int i2, .null, .null]) (st' := [.ref b9]) (h1 := h7) am_q6 rfl rfl rfl (am_gf2 g8 e10) ?_
    refine ev_p (pc' := 32) (loc' := [.ref a0, .null, .int i2, .null, .null]) (st' := [.int (0 : Int32), .int i2, .ref b9]) 2 am_q6 rfl ?_
    obtain ⟨g11, g12, H⟩ := H
    refine ev_s (pc' := 33) (loc' := [.ref a0, .null, .int i2, .null, .null]) (st' := []) (h1 := am_si h7 b9 (Int32.toNatClampNeg i2) (0 : Int32)) am_q6 rfl rfl rfl (am_yz g11 g12) ?_
    replace H := H _ rfl
    generalize am_si h7 b9 (Int32.toNatClampNeg i2) (0 : Int32) = h13 at H ⊢
    refine ev_p (pc' := 9) (loc' := [.ref a0, .null, .int (i2 + (1 : Int32)), .null, .null]) (st' := []) 2 am_q6 rfl ?_
    exact ev_m (loc' := [.ref a0, .null, .int (i2 + (1 : Int32)), .null, .null]) am_q6 rfl rfl H
set_option maxRecDepth 20000 in
set_option maxHeartbeats 2000000 in
theorem wp6_43 {d : Nat} (a0 : Nat) (i2 : Int32) (i3 : Int32) {h : AH} {Q : Option Value → AH → Prop} (H : am_kd h a0 = 0 ∧ ((am_gi h a0 11) < i3 → Ev (d + 1) 6 100 [.ref a0, .null, .int i2, .int (0 : Int32), .null] [] h Q) ∧ (¬ (am_gi h a0 11) < i3 → am_kd h a0 = 0 ∧ ∃ b3, am_gr h a0 10 = some b3 ∧ am_kd h b3 = 100 ∧ am_in i2 (am_ln h b3) ∧ ((am_gi h b3 (Int32.toNatClampNeg i2)) = (0 : Int32) → Ev (d + 1) 6 100 [.ref a0, .null, .int i2, .int (0 : Int32), .null] [] h Q) ∧ (¬ (am_gi h b3 (Int32.toNatClampNeg i2)) = (0 : Int32) → am_kd h a0 = 0 ∧ ∃ b8, am_gr h a0 9 = some b8 ∧ (am_kd h b8 = 103 ∧ ((1 : Int32) = (0 : Int32) ∨ (1 : Int32) = (1 : Int32))) ∧ am_in i2 (am_ln h b8) ∧ ∀ h12, h12 = am_si h b8 (Int32.toNatClampNeg i2) (1 : Int32) → am_kd h12 a0 = 0 ∧ Cl d 7 [.ref a0, .int i2] h12 (fun r14 h13 => r14 = none ∧ am_kd h13 a0 = 0 ∧ Cl d 8 [.ref a0] h13 (fun r17 h16 => ∃ x19, r17 = some (.int x19) ∧ am_kd h16 a0 = 0 ∧ ∃ b21, am_gr h16 a0 7 = some b21 ∧ am_kd h16 b21 = 101 ∧ am_in x19 (am_ln h16 b21) ∧ am_kd h16 a0 = 0 ∧ Cl d 9 [.ref a0, .long (am_gl h16 b21 (Int32.toNatClampNeg x19))] h16 (fun r26 h25 => r26 = none ∧ Ev (d + 1) 6 43 [.ref a0, .null, .int x19, .int (i3 + (1 : Int32)), .null] [] h25 Q)))))) : Ev (d + 1) 6 43 [.ref a0, .null, .int i2, .int i3, .null] [] h Q := by
  refine ev_p (pc' := 45) (loc' := [.ref a0, .null, .int i2, .int i3, .null]) (st' := [.ref a0, .int i3]) 2 am_q6 rfl ?_
  obtain ⟨g1, H⟩ := H
  refine ev_s (pc' := 48) (loc' := [.ref a0, .null, .int i2, .int i3, .null]) (st' := [.int (am_gi h a0 11), .int i3]) (h1 := h) am_q6 rfl rfl rfl (if_pos (e := none) g1) ?_
  refine ev_jc (t := 98) am_q6 rfl rfl (fun hq => ?_) (fun hq => ?_)
  · replace H := H.1 hq
    refine ev_p (pc' := 100) (loc' := [.ref a0, .null, .int i2, .int (0 : Int32), .null]) (st' := []) 2 am_q6 rfl ?_
    exact ev_m (loc' := [.ref a0, .null, .int i2, .int (0 : Int32), .null]) am_q6 rfl rfl H
  · replace H := H.2 hq
    refine ev_p (pc' := 52) (loc' := [.ref a0, .null, .int i2, .int i3, .null]) (st' := [.ref a0]) 1 am_q6 rfl ?_
    obtain ⟨g2, b3, e4, H⟩ := H
    refine ev_s (pc' := 55) (loc' := [.ref a0, .null, .int i2, .int i3, .null]) (st' := [.ref b3]) (h1 := h) am_q6 rfl rfl rfl (am_gf2 g2 e4) ?_
    refine ev_p (pc' := 56) (loc' := [.ref a0, .null, .int i2, .int i3, .null]) (st' := [.int i2, .ref b3]) 1 am_q6 rfl ?_
    obtain ⟨g5, g6, H⟩ := H
    refine ev_s (pc' := 57) (loc' := [.ref a0, .null, .int i2, .int i3, .null]) (st' := [.int (am_gi h b3 (Int32.toNatClampNeg i2))]) (h1 := h) am_q6 rfl rfl rfl (am_xx g5 g6) ?_
    refine ev_jz (t := 98) am_q6 rfl rfl (fun hq => ?_) (fun hq => ?_)
    · replace H := H.1 hq
      refine ev_p (pc' := 100) (loc' := [.ref a0, .null, .int i2, .int (0 : Int32), .null]) (st' := []) 2 am_q6 rfl ?_
      exact ev_m (loc' := [.ref a0, .null, .int i2, .int (0 : Int32), .null]) am_q6 rfl rfl H
    · replace H := H.2 hq
      refine ev_p (pc' := 61) (loc' := [.ref a0, .null, .int i2, .int i3, .null]) (st' := [.ref a0]) 1 am_q6 rfl ?_
      obtain ⟨g7, b8, e9, H⟩ := H
      refine ev_s (pc' := 64) (loc' := [.ref a0, .null, .int i2, .int i3, .null]) (st' := [.ref b8]) (h1 := h) am_q6 rfl rfl rfl (am_gf2 g7 e9) ?_
      refine ev_p (pc' := 66) (loc' := [.ref a0, .null, .int i2, .int i3, .null]) (st' := [.int (1 : Int32), .int i2, .ref b8]) 2 am_q6 rfl ?_
      obtain ⟨g10, g11, H⟩ := H
      refine ev_s (pc' := 67) (loc' := [.ref a0, .null, .int i2, .int i3, .null]) (st' := []) (h1 := am_si h b8 (Int32.toNatClampNeg i2) (1 : Int32)) am_q6 rfl rfl rfl (am_yz g10 g11) ?_
      replace H := H _ rfl
      generalize am_si h b8 (Int32.toNatClampNeg i2) (1 : Int32) = h12 at H ⊢
      refine ev_p (pc' := 69) (loc' := [.ref a0, .null, .int i2, .int i3, .null]) (st' := [.int i2, .ref a0]) 2 am_q6 rfl ?_
      obtain ⟨g15, H⟩ := H
      refine ev_c (vs := [.ref a0, .int i2]) (rest := []) 7 am_q6 rfl rfl rfl rfl rfl rfl rfl rfl rfl rfl rfl rfl (Or.inr (congrArg some g15)) (Cl.mono H (Nat.le_refl _) (fun r14 h13 H => ?_))
      obtain ⟨rfl, H⟩ := H
      refine ev_p (pc' := 73) (loc' := [.ref a0, .null, .int i2, .int i3, .null]) (st' := [.ref a0]) 1 am_q6 rfl ?_
      obtain ⟨g18, H⟩ := H
      refine ev_c (vs := [.ref a0]) (rest := []) 8 am_q6 rfl rfl rfl rfl rfl rfl rfl rfl rfl rfl rfl rfl (Or.inr (congrArg some g18)) (Cl.mono H (Nat.le_refl _) (fun r17 h16 H => ?_))
      obtain ⟨x19, rfl, H⟩ := H
      refine ev_p (pc' := 80) (loc' := [.ref a0, .null, .int i2, .int i3, .int x19]) (st' := [.ref a0, .ref a0]) 3 am_q6 rfl ?_
      obtain ⟨g20, b21, e22, H⟩ := H
      refine ev_s (pc' := 83) (loc' := [.ref a0, .null, .int i2, .int i3, .int x19]) (st' := [.ref b21, .ref a0]) (h1 := h16) am_q6 rfl rfl rfl (am_gf2 g20 e22) ?_
      refine ev_p (pc' := 85) (loc' := [.ref a0, .null, .int i2, .int i3, .int x19]) (st' := [.int x19, .ref b21, .ref a0]) 1 am_q6 rfl ?_
      obtain ⟨g23, g24, H⟩ := H
      refine ev_s (pc' := 86) (loc' := [.ref a0, .null, .int i2, .int i3, .int x19]) (st' := [.long (am_gl h16 b21 (Int32.toNatClampNeg x19)), .ref a0]) (h1 := h16) am_q6 rfl rfl rfl (am_xx g23 g24) ?_
      obtain ⟨g27, H⟩ := H
      refine ev_c (vs := [.ref a0, .long (am_gl h16 b21 (Int32.toNatClampNeg x19))]) (rest := []) 9 am_q6 rfl rfl rfl rfl rfl rfl rfl rfl rfl rfl rfl rfl (Or.inr (congrArg some g27)) (Cl.mono H (Nat.le_refl _) (fun r26 h25 H => ?_))
      obtain ⟨rfl, H⟩ := H
      refine ev_p (pc' := 43) (loc' := [.ref a0, .null, .int x19, .int (i3 + (1 : Int32)), .int x19]) (st' := []) 4 am_q6 rfl ?_
      exact ev_m (loc' := [.ref a0, .null, .int x19, .int (i3 + (1 : Int32)), .null]) am_q6 rfl rfl H
set_option maxRecDepth 20000 in
set_option maxHeartbeats 2000000 in
theorem wp6_100 {d : Nat} (a0 : Nat) (i2 : Int32) (i3 : Int32) {h : AH} {Q : Option Value → AH → Prop} (H : am_kd h a0 = 0 ∧ ((am_gi h a0 11) < i3 → Q none h) ∧ (¬ (am_gi h a0 11) < i3 → (i2 = (0 : Int32) → Q none h) ∧ (¬ i2 = (0 : Int32) → am_kd h a0 = 0 ∧ ∃ b3, am_gr h a0 10 = some b3 ∧ am_kd h a0 = 0 ∧ ∃ b6, am_gr h a0 10 = some b6 ∧ am_kd h a0 = 0 ∧ ∃ b9, am_gr h a0 8 = some b9 ∧ am_kd h b9 = 100 ∧ am_in i2 (am_ln h b9) ∧ am_kd h b6 = 100 ∧ am_in (am_gi h b9 (Int32.toNatClampNeg i2)) (am_ln h b6) ∧ (am_kd h b3 = 100 ∧ 6 ≤ b3) ∧ am_in i2 (am_ln h b3) ∧ ∀ h17, h17 = am_si h b3 (Int32.toNatClampNeg i2) (am_gi h b6 (Int32.toNatClampNeg (am_gi h b9 (Int32.toNatClampNeg i2)))) → am_kd h17 a0 = 0 ∧ ∃ b19, am_gr h17 a0 8 = some b19 ∧ am_kd h17 b19 = 100 ∧ am_in i2 (am_ln h17 b19) ∧ Ev (d + 1) 6 100 [.ref a0, .null, .int (am_gi h17 b19 (Int32.toNatClampNeg i2)), .int (i3 + (1 : Int32)), .null] [] h17 Q))) : Ev (d + 1) 6 100 [.ref a0, .null, .int i2, .int i3, .null] [] h Q := by
  refine ev_p (pc' := 102) (loc' := [.ref a0, .null, .int i2, .int i3, .null]) (st' := [.ref a0, .int i3]) 2 am_q6 rfl ?_
  obtain ⟨g1, H⟩ := H
  refine ev_s (pc' := 105) (loc' := [.ref a0, .null, .int i2, .int i3, .null]) (st' := [.int (am_gi h a0 11), .int i3]) (h1 := h) am_q6 rfl rfl rfl (if_pos (e := none) g1) ?_
  refine ev_jc (t := 142) am_q6 rfl rfl (fun hq => ?_) (fun hq => ?_)
  · replace H := H.1 hq
    exact ev_r (v := none) am_q6 rfl rfl rfl rfl H
  · replace H := H.2 hq
    refine ev_p (pc' := 109) (loc' := [.ref a0, .null, .int i2, .int i3, .null]) (st' := [.int i2]) 1 am_q6 rfl ?_
    refine ev_jz (t := 142) am_q6 rfl rfl (fun hq => ?_) (fun hq => ?_)
    · replace H := H.1 hq
      exact ev_r (v := none) am_q6 rfl rfl rfl rfl H
    · replace H := H.2 hq
      refine ev_p (pc' := 113) (loc' := [.ref a0, .null, .int i2, .int i3, .null]) (st' := [.ref a0]) 1 am_q6 rfl ?_
      obtain ⟨g2, b3, e4, H⟩ := H
      refine ev_s (pc' := 116) (loc' := [.ref a0, .null, .int i2, .int i3, .null]) (st' := [.ref b3]) (h1 := h) am_q6 rfl rfl rfl (am_gf2 g2 e4) ?_
      refine ev_p (pc' := 118) (loc' := [.ref a0, .null, .int i2, .int i3, .null]) (st' := [.ref a0, .int i2, .ref b3]) 2 am_q6 rfl ?_
      obtain ⟨g5, b6, e7, H⟩ := H
      refine ev_s (pc' := 121) (loc' := [.ref a0, .null, .int i2, .int i3, .null]) (st' := [.ref b6, .int i2, .ref b3]) (h1 := h) am_q6 rfl rfl rfl (am_gf2 g5 e7) ?_
      refine ev_p (pc' := 122) (loc' := [.ref a0, .null, .int i2, .int i3, .null]) (st' := [.ref a0, .ref b6, .int i2, .ref b3]) 1 am_q6 rfl ?_
      obtain ⟨g8, b9, e10, H⟩ := H
      refine ev_s (pc' := 125) (loc' := [.ref a0, .null, .int i2, .int i3, .null]) (st' := [.ref b9, .ref b6, .int i2, .ref b3]) (h1 := h) am_q6 rfl rfl rfl (am_gf2 g8 e10) ?_
      refine ev_p (pc' := 126) (loc' := [.ref a0, .null, .int i2, .int i3, .null]) (st' := [.int i2, .ref b9, .ref b6, .int i2, .ref b3]) 1 am_q6 rfl ?_
      obtain ⟨g11, g12, H⟩ := H
      refine ev_s (pc' := 127) (loc' := [.ref a0, .null, .int i2, .int i3, .null]) (st' := [.int (am_gi h b9 (Int32.toNatClampNeg i2)), .ref b6, .int i2, .ref b3]) (h1 := h) am_q6 rfl rfl rfl (am_xx g11 g12) ?_
      obtain ⟨g13, g14, H⟩ := H
      refine ev_s (pc' := 128) (loc' := [.ref a0, .null, .int i2, .int i3, .null]) (st' := [.int (am_gi h b6 (Int32.toNatClampNeg (am_gi h b9 (Int32.toNatClampNeg i2)))), .int i2, .ref b3]) (h1 := h) am_q6 rfl rfl rfl (am_xx g13 g14) ?_
      obtain ⟨g15, g16, H⟩ := H
      refine ev_s (pc' := 129) (loc' := [.ref a0, .null, .int i2, .int i3, .null]) (st' := []) (h1 := am_si h b3 (Int32.toNatClampNeg i2) (am_gi h b6 (Int32.toNatClampNeg (am_gi h b9 (Int32.toNatClampNeg i2))))) am_q6 rfl rfl rfl (am_xx g15 g16) ?_
      replace H := H _ rfl
      generalize am_si h b3 (Int32.toNatClampNeg i2) (am_gi h b6 (Int32.toNatClampNeg (am_gi h b9 (Int32.toNatClampNeg i2)))) = h17 at H ⊢
      refine ev_p (pc' := 130) (loc' := [.ref a0, .null, .int i2, .int i3, .null]) (st' := [.ref a0]) 1 am_q6 rfl ?_
      obtain ⟨g18, b19, e20, H⟩ := H
      refine ev_s (pc' := 133) (loc' := [.ref a0, .null, .int i2, .int i3, .null]) (st' := [.ref b19]) (h1 := h17) am_q6 rfl rfl rfl (am_gf2 g18 e20) ?_
      refine ev_p (pc' := 134) (loc' := [.ref a0, .null, .int i2, .int i3, .null]) (st' := [.int i2, .ref b19]) 1 am_q6 rfl ?_
      obtain ⟨g21, g22, H⟩ := H
      refine ev_s (pc' := 135) (loc' := [.ref a0, .null, .int i2, .int i3, .null]) (st' := [.int (am_gi h17 b19 (Int32.toNatClampNeg i2))]) (h1 := h17) am_q6 rfl rfl rfl (am_xx g21 g22) ?_
      refine ev_p (pc' := 100) (loc' := [.ref a0, .null, .int (am_gi h17 b19 (Int32.toNatClampNeg i2)), .int (i3 + (1 : Int32)), .null]) (st' := []) 3 am_q6 rfl ?_
      exact ev_m (loc' := [.ref a0, .null, .int (am_gi h17 b19 (Int32.toNatClampNeg i2)), .int (i3 + (1 : Int32)), .null]) am_q6 rfl rfl H
/-! 7: X0_look -/
theorem am_q7 : (am_mt 7).2.2.2.2.2 = am_m7.2.2.2.2.2 := rfl
set_option maxRecDepth 20000 in
set_option maxHeartbeats 2000000 in
theorem wp7 {d : Nat} (a0 : Nat) (i1 : Int32) {h : AH} {Q : Option Value → AH → Prop} (H : am_kd h a0 = 0 ∧ ∃ b2, am_gr h a0 10 = some b2 ∧ am_kd h b2 = 100 ∧ am_in i1 (am_ln h b2) ∧ Ev d 7 9 [.ref a0, .int i1, .int (am_gi h b2 (Int32.toNatClampNeg i1)), .int (1 : Int32), .null, .null] [] h Q) : Cl d 7 [.ref a0, .int i1] h Q := by
  show Ev d 7 0 [.ref a0, .int i1, .null, .null, .null, .null] [] h Q
  refine ev_p (pc' := 1) (loc' := [.ref a0, .int i1, .null, .null, .null, .null]) (st' := [.ref a0]) 1 am_q7 rfl ?_
  obtain ⟨g1, b2, e3, H⟩ := H
  refine ev_s (pc' := 4) (loc' := [.ref a0, .int i1, .null, .null, .null, .null]) (st' := [.ref b2]) (h1 := h) am_q7 rfl rfl rfl (am_gf2 g1 e3) ?_
  refine ev_p (pc' := 5) (loc' := [.ref a0, .int i1, .null, .null, .null, .null]) (st' := [.int i1, .ref b2]) 1 am_q7 rfl ?_
  obtain ⟨g4, g5, H⟩ := H
  refine ev_s (pc' := 6) (loc' := [.ref a0, .int i1, .null, .null, .null, .null]) (st' := [.int (am_gi h b2 (Int32.toNatClampNeg i1))]) (h1 := h) am_q7 rfl rfl rfl (am_xx g4 g5) ?_
  refine ev_p (pc' := 9) (loc' := [.ref a0, .int i1, .int (am_gi h b2 (Int32.toNatClampNeg i1)), .int (1 : Int32), .null, .null]) (st' := []) 3 am_q7 rfl ?_
  exact ev_m (loc' := [.ref a0, .int i1, .int (am_gi h b2 (Int32.toNatClampNeg i1)), .int (1 : Int32), .null, .null]) am_q7 rfl rfl H
set_option maxRecDepth 20000 in
set_option maxHeartbeats 2000000 in
theorem wp7_9 {d : Nat} (a0 : Nat) (i1 : Int32) (i2 : Int32) (i3 : Int32) {h : AH} {Q : Option Value → AH → Prop} (H : am_kd h a0 = 0 ∧ ((am_gi h a0 11) < i3 → Q none h) ∧ (¬ (am_gi h a0 11) < i3 → am_kd h a0 = 0 ∧ ∃ b3, am_gr h a0 4 = some b3 ∧ (104 ≤ am_kd h b3 ∧ am_kd h b3 ≤ 109) ∧ am_in i2 (am_ln h b3) ∧ ∃ b7, am_gr h b3 (Int32.toNatClampNeg i2) = some b7 ∧ am_kd h b7 = 101 ∧ am_in i3 (am_ln h b7) ∧ am_kd h a0 = 0 ∧ ∃ b12, am_gr h a0 5 = some b12 ∧ am_kd h b12 = 101 ∧ am_in i2 (am_ln h b12) ∧ am_kd h a0 = 0 ∧ ∃ b17, am_gr h a0 6 = some b17 ∧ am_kd h b17 = 101 ∧ am_in i3 (am_ln h b17) ∧ am_kd h a0 = 0 ∧ ∃ b22, am_gr h a0 9 = some b22 ∧ (am_kd h b22 = 102 ∨ am_kd h b22 = 103) ∧ am_in i3 (am_ln h b22) ∧ ((¬ (am_gi h b22 (Int32.toNatClampNeg i3)) = (0 : Int32)) → Ev d 7 9 [.ref a0, .int i1, .int i2, .int (i3 + (1 : Int32)), .null, .null] [] h Q) ∧ (¬ (¬ (am_gi h b22 (Int32.toNatClampNeg i3)) = (0 : Int32)) → am_kd h a0 = 0 ∧ ∃ b27, am_gr h a0 7 = some b27 ∧ am_kd h b27 = 101 ∧ am_in i3 (am_ln h b27) ∧ ((0 : Int32) ≤ (lg_cmp (((am_gl h b7 (Int32.toNatClampNeg i3)) - (am_gl h b12 (Int32.toNatClampNeg i2))) - (am_gl h b17 (Int32.toNatClampNeg i3))) (am_gl h b27 (Int32.toNatClampNeg i3))) → Ev d 7 9 [.ref a0, .int i1, .int i2, .int (i3 + (1 : Int32)), .null, .null] [] h Q) ∧ (¬ (0 : Int32) ≤ (lg_cmp (((am_gl h b7 (Int32.toNatClampNeg i3)) - (am_gl h b12 (Int32.toNatClampNeg i2))) - (am_gl h b17 (Int32.toNatClampNeg i3))) (am_gl h b27 (Int32.toNatClampNeg i3))) → am_kd h a0 = 0 ∧ ∃ b32, am_gr h a0 7 = some b32 ∧ am_kd h b32 = 101 ∧ am_in i3 (am_ln h b32) ∧ ∀ h36, h36 = am_sl h b32 (Int32.toNatClampNeg i3) (((am_gl h b7 (Int32.toNatClampNeg i3)) - (am_gl h b12 (Int32.toNatClampNeg i2))) - (am_gl h b17 (Int32.toNatClampNeg i3))) → am_kd h36 a0 = 0 ∧ ∃ b38, am_gr h36 a0 8 = some b38 ∧ (am_kd h36 b38 = 100 ∧ 6 ≤ b38) ∧ am_in i3 (am_ln h36 b38) ∧ ∀ h42, h42 = am_si h36 b38 (Int32.toNatClampNeg i3) i1 → Ev d 7 9 [.ref a0, .int i1, .int i2, .int (i3 + (1 : Int32)), .null, .null] [] h42 Q)))) : Ev d 7 9 [.ref a0, .int i1, .int i2, .int i3, .null, .null] [] h Q := by
  refine ev_p (pc' := 11) (loc' := [.ref a0, .int i1, .int i2, .int i3, .null, .null]) (st' := [.ref a0, .int i3]) 2 am_q7 rfl ?_
  obtain ⟨g1, H⟩ := H
  refine ev_s (pc' := 14) (loc' := [.ref a0, .int i1, .int i2, .int i3, .null, .null]) (st' := [.int (am_gi h a0 11), .int i3]) (h1 := h) am_q7 rfl rfl rfl (if_pos (e := none) g1) ?_
  refine ev_jc (t := 83) am_q7 rfl rfl (fun hq => ?_) (fun hq => ?_)
  · replace H := H.1 hq
    exact ev_r (v := none) am_q7 rfl rfl rfl rfl H
  · replace H := H.2 hq
    refine ev_p (pc' := 18) (loc' := [.ref a0, .int i1, .int i2, .int i3, .null, .null]) (st' := [.ref a0]) 1 am_q7 rfl ?_
    obtain ⟨g2, b3, e4, H⟩ := H
    refine ev_s (pc' := 21) (loc' := [.ref a0, .int i1, .int i2, .int i3, .null, .null]) (st' := [.ref b3]) (h1 := h) am_q7 rfl rfl rfl (am_gf2 g2 e4) ?_
    refine ev_p (pc' := 22) (loc' := [.ref a0, .int i1, .int i2, .int i3, .null, .null]) (st' := [.int i2, .ref b3]) 1 am_q7 rfl ?_
    obtain ⟨g5, g6, b7, e8, H⟩ := H
    refine ev_s (pc' := 23) (loc' := [.ref a0, .int i1, .int i2, .int i3, .null, .null]) (st' := [.ref b7]) (h1 := h) am_q7 rfl rfl rfl (am_xa g5 g6 e8) ?_
    refine ev_p (pc' := 24) (loc' := [.ref a0, .int i1, .int i2, .int i3, .null, .null]) (st' := [.int i3, .ref b7]) 1 am_q7 rfl ?_
    obtain ⟨g9, g10, H⟩ := H
    refine ev_s (pc' := 25) (loc' := [.ref a0, .int i1, .int i2, .int i3, .null, .null]) (st' := [.long (am_gl h b7 (Int32.toNatClampNeg i3))]) (h1 := h) am_q7 rfl rfl rfl (am_xx g9 g10) ?_
    refine ev_p (pc' := 26) (loc' := [.ref a0, .int i1, .int i2, .int i3, .null, .null]) (st' := [.ref a0, .long (am_gl h b7 (Int32.toNatClampNeg i3))]) 1 am_q7 rfl ?_
    obtain ⟨g11, b12, e13, H⟩ := H
    refine ev_s (pc' := 29) (loc' := [.ref a0, .int i1, .int i2, .int i3, .null, .null]) (st' := [.ref b12, .long (am_gl h b7 (Int32.toNatClampNeg i3))]) (h1 := h) am_q7 rfl rfl rfl (am_gf2 g11 e13) ?_
    refine ev_p (pc' := 30) (loc' := [.ref a0, .int i1, .int i2, .int i3, .null, .null]) (st' := [.int i2, .ref b12, .long (am_gl h b7 (Int32.toNatClampNeg i3))]) 1 am_q7 rfl ?_
    obtain ⟨g14, g15, H⟩ := H
    refine ev_s (pc' := 31) (loc' := [.ref a0, .int i1, .int i2, .int i3, .null, .null]) (st' := [.long (am_gl h b12 (Int32.toNatClampNeg i2)), .long (am_gl h b7 (Int32.toNatClampNeg i3))]) (h1 := h) am_q7 rfl rfl rfl (am_xx g14 g15) ?_
    refine ev_p (pc' := 33) (loc' := [.ref a0, .int i1, .int i2, .int i3, .null, .null]) (st' := [.ref a0, .long ((am_gl h b7 (Int32.toNatClampNeg i3)) - (am_gl h b12 (Int32.toNatClampNeg i2)))]) 2 am_q7 rfl ?_
    obtain ⟨g16, b17, e18, H⟩ := H
    refine ev_s (pc' := 36) (loc' := [.ref a0, .int i1, .int i2, .int i3, .null, .null]) (st' := [.ref b17, .long ((am_gl h b7 (Int32.toNatClampNeg i3)) - (am_gl h b12 (Int32.toNatClampNeg i2)))]) (h1 := h) am_q7 rfl rfl rfl (am_gf2 g16 e18) ?_
    refine ev_p (pc' := 37) (loc' := [.ref a0, .int i1, .int i2, .int i3, .null, .null]) (st' := [.int i3, .ref b17, .long ((am_gl h b7 (Int32.toNatClampNeg i3)) - (am_gl h b12 (Int32.toNatClampNeg i2)))]) 1 am_q7 rfl ?_
    obtain ⟨g19, g20, H⟩ := H
    refine ev_s (pc' := 38) (loc' := [.ref a0, .int i1, .int i2, .int i3, .null, .null]) (st' := [.long (am_gl h b17 (Int32.toNatClampNeg i3)), .long ((am_gl h b7 (Int32.toNatClampNeg i3)) - (am_gl h b12 (Int32.toNatClampNeg i2)))]) (h1 := h) am_q7 rfl rfl rfl (am_xx g19 g20) ?_
    refine ev_p (pc' := 42) (loc' := [.ref a0, .int i1, .int i2, .int i3, .long (((am_gl h b7 (Int32.toNatClampNeg i3)) - (am_gl h b12 (Int32.toNatClampNeg i2))) - (am_gl h b17 (Int32.toNatClampNeg i3))), .null]) (st' := [.ref a0]) 3 am_q7 rfl ?_
    obtain ⟨g21, b22, e23, H⟩ := H
    refine ev_s (pc' := 45) (loc' := [.ref a0, .int i1, .int i2, .int i3, .long (((am_gl h b7 (Int32.toNatClampNeg i3)) - (am_gl h b12 (Int32.toNatClampNeg i2))) - (am_gl h b17 (Int32.toNatClampNeg i3))), .null]) (st' := [.ref b22]) (h1 := h) am_q7 rfl rfl rfl (am_gf2 g21 e23) ?_
    refine ev_p (pc' := 46) (loc' := [.ref a0, .int i1, .int i2, .int i3, .long (((am_gl h b7 (Int32.toNatClampNeg i3)) - (am_gl h b12 (Int32.toNatClampNeg i2))) - (am_gl h b17 (Int32.toNatClampNeg i3))), .null]) (st' := [.int i3, .ref b22]) 1 am_q7 rfl ?_
    obtain ⟨g24, g25, H⟩ := H
    refine ev_s (pc' := 47) (loc' := [.ref a0, .int i1, .int i2, .int i3, .long (((am_gl h b7 (Int32.toNatClampNeg i3)) - (am_gl h b12 (Int32.toNatClampNeg i2))) - (am_gl h b17 (Int32.toNatClampNeg i3))), .null]) (st' := [.int (am_gi h b22 (Int32.toNatClampNeg i3))]) (h1 := h) am_q7 rfl rfl rfl (am_xx g24 g25) ?_
    refine ev_jz (t := 77) am_q7 rfl rfl (fun hq => ?_) (fun hq => ?_)
    · replace H := H.1 hq
      refine ev_p (pc' := 9) (loc' := [.ref a0, .int i1, .int i2, .int (i3 + (1 : Int32)), .null, .null]) (st' := []) 2 am_q7 rfl ?_
      exact ev_m (loc' := [.ref a0, .int i1, .int i2, .int (i3 + (1 : Int32)), .null, .null]) am_q7 rfl rfl H
    · replace H := H.2 hq
      refine ev_p (pc' := 53) (loc' := [.ref a0, .int i1, .int i2, .int i3, .long (((am_gl h b7 (Int32.toNatClampNeg i3)) - (am_gl h b12 (Int32.toNatClampNeg i2))) - (am_gl h b17 (Int32.toNatClampNeg i3))), .null]) (st' := [.ref a0, .long (((am_gl h b7 (Int32.toNatClampNeg i3)) - (am_gl h b12 (Int32.toNatClampNeg i2))) - (am_gl h b17 (Int32.toNatClampNeg i3)))]) 2 am_q7 rfl ?_
      obtain ⟨g26, b27, e28, H⟩ := H
      refine ev_s (pc' := 56) (loc' := [.ref a0, .int i1, .int i2, .int i3, .long (((am_gl h b7 (Int32.toNatClampNeg i3)) - (am_gl h b12 (Int32.toNatClampNeg i2))) - (am_gl h b17 (Int32.toNatClampNeg i3))), .null]) (st' := [.ref b27, .long (((am_gl h b7 (Int32.toNatClampNeg i3)) - (am_gl h b12 (Int32.toNatClampNeg i2))) - (am_gl h b17 (Int32.toNatClampNeg i3)))]) (h1 := h) am_q7 rfl rfl rfl (am_gf2 g26 e28) ?_
      refine ev_p (pc' := 57) (loc' := [.ref a0, .int i1, .int i2, .int i3, .long (((am_gl h b7 (Int32.toNatClampNeg i3)) - (am_gl h b12 (Int32.toNatClampNeg i2))) - (am_gl h b17 (Int32.toNatClampNeg i3))), .null]) (st' := [.int i3, .ref b27, .long (((am_gl h b7 (Int32.toNatClampNeg i3)) - (am_gl h b12 (Int32.toNatClampNeg i2))) - (am_gl h b17 (Int32.toNatClampNeg i3)))]) 1 am_q7 rfl ?_
      obtain ⟨g29, g30, H⟩ := H
      refine ev_s (pc' := 58) (loc' := [.ref a0, .int i1, .int i2, .int i3, .long (((am_gl h b7 (Int32.toNatClampNeg i3)) - (am_gl h b12 (Int32.toNatClampNeg i2))) - (am_gl h b17 (Int32.toNatClampNeg i3))), .null]) (st' := [.long (am_gl h b27 (Int32.toNatClampNeg i3)), .long (((am_gl h b7 (Int32.toNatClampNeg i3)) - (am_gl h b12 (Int32.toNatClampNeg i2))) - (am_gl h b17 (Int32.toNatClampNeg i3)))]) (h1 := h) am_q7 rfl rfl rfl (am_xx g29 g30) ?_
      refine ev_p (pc' := 59) (loc' := [.ref a0, .int i1, .int i2, .int i3, .long (((am_gl h b7 (Int32.toNatClampNeg i3)) - (am_gl h b12 (Int32.toNatClampNeg i2))) - (am_gl h b17 (Int32.toNatClampNeg i3))), .null]) (st' := [.int (lg_cmp (((am_gl h b7 (Int32.toNatClampNeg i3)) - (am_gl h b12 (Int32.toNatClampNeg i2))) - (am_gl h b17 (Int32.toNatClampNeg i3))) (am_gl h b27 (Int32.toNatClampNeg i3)))]) 1 am_q7 rfl ?_
      refine ev_jz (t := 77) am_q7 rfl rfl (fun hq => ?_) (fun hq => ?_)
      · replace H := H.1 hq
        refine ev_p (pc' := 9) (loc' := [.ref a0, .int i1, .int i2, .int (i3 + (1 : Int32)), .null, .null]) (st' := []) 2 am_q7 rfl ?_
        exact ev_m (loc' := [.ref a0, .int i1, .int i2, .int (i3 + (1 : Int32)), .null, .null]) am_q7 rfl rfl H
      · replace H := H.2 hq
        refine ev_p (pc' := 63) (loc' := [.ref a0, .int i1, .int i2, .int i3, .long (((am_gl h b7 (Int32.toNatClampNeg i3)) - (am_gl h b12 (Int32.toNatClampNeg i2))) - (am_gl h b17 (Int32.toNatClampNeg i3))), .null]) (st' := [.ref a0]) 1 am_q7 rfl ?_
        obtain ⟨g31, b32, e33, H⟩ := H
        refine ev_s (pc' := 66) (loc' := [.ref a0, .int i1, .int i2, .int i3, .long (((am_gl h b7 (Int32.toNatClampNeg i3)) - (am_gl h b12 (Int32.toNatClampNeg i2))) - (am_gl h b17 (Int32.toNatClampNeg i3))), .null]) (st' := [.ref b32]) (h1 := h) am_q7 rfl rfl rfl (am_gf2 g31 e33) ?_
        refine ev_p (pc' := 69) (loc' := [.ref a0, .int i1, .int i2, .int i3, .long (((am_gl h b7 (Int32.toNatClampNeg i3)) - (am_gl h b12 (Int32.toNatClampNeg i2))) - (am_gl h b17 (Int32.toNatClampNeg i3))), .null]) (st' := [.long (((am_gl h b7 (Int32.toNatClampNeg i3)) - (am_gl h b12 (Int32.toNatClampNeg i2))) - (am_gl h b17 (Int32.toNatClampNeg i3))), .int i3, .ref b32]) 2 am_q7 rfl ?_
        obtain ⟨g34, g35, H⟩ := H
        refine ev_s (pc' := 70) (loc' := [.ref a0, .int i1, .int i2, .int i3, .long (((am_gl h b7 (Int32.toNatClampNeg i3)) - (am_gl h b12 (Int32.toNatClampNeg i2))) - (am_gl h b17 (Int32.toNatClampNeg i3))), .null]) (st' := []) (h1 := am_sl h b32 (Int32.toNatClampNeg i3) (((am_gl h b7 (Int32.toNatClampNeg i3)) - (am_gl h b12 (Int32.toNatClampNeg i2))) - (am_gl h b17 (Int32.toNatClampNeg i3)))) am_q7 rfl rfl rfl (am_xx g34 g35) ?_
        replace H := H _ rfl
        generalize am_sl h b32 (Int32.toNatClampNeg i3) (((am_gl h b7 (Int32.toNatClampNeg i3)) - (am_gl h b12 (Int32.toNatClampNeg i2))) - (am_gl h b17 (Int32.toNatClampNeg i3))) = h36 at H ⊢
        refine ev_p (pc' := 71) (loc' := [.ref a0, .int i1, .int i2, .int i3, .long (((am_gl h b7 (Int32.toNatClampNeg i3)) - (am_gl h b12 (Int32.toNatClampNeg i2))) - (am_gl h b17 (Int32.toNatClampNeg i3))), .null]) (st' := [.ref a0]) 1 am_q7 rfl ?_
        obtain ⟨g37, b38, e39, H⟩ := H
        refine ev_s (pc' := 74) (loc' := [.ref a0, .int i1, .int i2, .int i3, .long (((am_gl h b7 (Int32.toNatClampNeg i3)) - (am_gl h b12 (Int32.toNatClampNeg i2))) - (am_gl h b17 (Int32.toNatClampNeg i3))), .null]) (st' := [.ref b38]) (h1 := h36) am_q7 rfl rfl rfl (am_gf2 g37 e39) ?_
        refine ev_p (pc' := 76) (loc' := [.ref a0, .int i1, .int i2, .int i3, .long (((am_gl h b7 (Int32.toNatClampNeg i3)) - (am_gl h b12 (Int32.toNatClampNeg i2))) - (am_gl h b17 (Int32.toNatClampNeg i3))), .null]) (st' := [.int i1, .int i3, .ref b38]) 2 am_q7 rfl ?_
        obtain ⟨g40, g41, H⟩ := H
        refine ev_s (pc' := 77) (loc' := [.ref a0, .int i1, .int i2, .int i3, .long (((am_gl h b7 (Int32.toNatClampNeg i3)) - (am_gl h b12 (Int32.toNatClampNeg i2))) - (am_gl h b17 (Int32.toNatClampNeg i3))), .null]) (st' := []) (h1 := am_si h36 b38 (Int32.toNatClampNeg i3) i1) am_q7 rfl rfl rfl (am_xx g40 g41) ?_
        replace H := H _ rfl
        generalize am_si h36 b38 (Int32.toNatClampNeg i3) i1 = h42 at H ⊢
        refine ev_p (pc' := 9) (loc' := [.ref a0, .int i1, .int i2, .int (i3 + (1 : Int32)), .null, .null]) (st' := []) 2 am_q7 rfl ?_
        exact ev_m (loc' := [.ref a0, .int i1, .int i2, .int (i3 + (1 : Int32)), .null, .null]) am_q7 rfl rfl H
/-! 8: X0_nearest -/
theorem am_q8 : (am_mt 8).2.2.2.2.2 = am_m8.2.2.2.2.2 := rfl
set_option maxRecDepth 20000 in
set_option maxHeartbeats 2000000 in
theorem wp8 {d : Nat} (a0 : Nat) {h : AH} {Q : Option Value → AH → Prop} (H : Ev d 8 4 [.ref a0, .int (0 : Int32), .int (1 : Int32)] [] h Q) : Cl d 8 [.ref a0] h Q := by
  show Ev d 8 0 [.ref a0, .null, .null] [] h Q
  refine ev_p (pc' := 4) (loc' := [.ref a0, .int (0 : Int32), .int (1 : Int32)]) (st' := []) 4 am_q8 rfl ?_
  exact ev_m (loc' := [.ref a0, .int (0 : Int32), .int (1 : Int32)]) am_q8 rfl rfl H
set_option maxRecDepth 20000 in
set_option maxHeartbeats 2000000 in
theorem wp8_4 {d : Nat} (a0 : Nat) (i1 : Int32) (i2 : Int32) {h : AH} {Q : Option Value → AH → Prop} (H : am_kd h a0 = 0 ∧ ((am_gi h a0 11) < i2 → Q (some (.int i1)) h) ∧ (¬ (am_gi h a0 11) < i2 → am_kd h a0 = 0 ∧ ∃ b3, am_gr h a0 9 = some b3 ∧ (am_kd h b3 = 102 ∨ am_kd h b3 = 103) ∧ am_in i2 (am_ln h b3) ∧ ((¬ (am_gi h b3 (Int32.toNatClampNeg i2)) = (0 : Int32)) → Ev d 8 4 [.ref a0, .int i1, .int (i2 + (1 : Int32))] [] h Q) ∧ (¬ (¬ (am_gi h b3 (Int32.toNatClampNeg i2)) = (0 : Int32)) → (i1 = (0 : Int32) → Ev d 8 4 [.ref a0, .int i2, .int (i2 + (1 : Int32))] [] h Q) ∧ (¬ i1 = (0 : Int32) → am_kd h a0 = 0 ∧ ∃ b8, am_gr h a0 7 = some b8 ∧ am_kd h b8 = 101 ∧ am_in i2 (am_ln h b8) ∧ am_kd h a0 = 0 ∧ ∃ b13, am_gr h a0 7 = some b13 ∧ am_kd h b13 = 101 ∧ am_in i1 (am_ln h b13) ∧ ((0 : Int32) ≤ (lg_cmp (am_gl h b8 (Int32.toNatClampNeg i2)) (am_gl h b13 (Int32.toNatClampNeg i1))) → Ev d 8 4 [.ref a0, .int i1, .int (i2 + (1 : Int32))] [] h Q) ∧ (¬ (0 : Int32) ≤ (lg_cmp (am_gl h b8 (Int32.toNatClampNeg i2)) (am_gl h b13 (Int32.toNatClampNeg i1))) → Ev d 8 4 [.ref a0, .int i2, .int (i2 + (1 : Int32))] [] h Q))))) : Ev d 8 4 [.ref a0, .int i1, .int i2] [] h Q := by
  refine ev_p (pc' := 6) (loc' := [.ref a0, .int i1, .int i2]) (st' := [.ref a0, .int i2]) 2 am_q8 rfl ?_
  obtain ⟨g1, H⟩ := H
  refine ev_s (pc' := 9) (loc' := [.ref a0, .int i1, .int i2]) (st' := [.int (am_gi h a0 11), .int i2]) (h1 := h) am_q8 rfl rfl rfl (if_pos (e := none) g1) ?_
  refine ev_jc (t := 49) am_q8 rfl rfl (fun hq => ?_) (fun hq => ?_)
  · replace H := H.1 hq
    refine ev_p (pc' := 50) (loc' := [.ref a0, .int i1, .int i2]) (st' := [.int i1]) 1 am_q8 rfl ?_
    exact ev_r (v := some (.int i1)) am_q8 rfl rfl rfl rfl H
  · replace H := H.2 hq
    refine ev_p (pc' := 13) (loc' := [.ref a0, .int i1, .int i2]) (st' := [.ref a0]) 1 am_q8 rfl ?_
    obtain ⟨g2, b3, e4, H⟩ := H
    refine ev_s (pc' := 16) (loc' := [.ref a0, .int i1, .int i2]) (st' := [.ref b3]) (h1 := h) am_q8 rfl rfl rfl (am_gf2 g2 e4) ?_
    refine ev_p (pc' := 17) (loc' := [.ref a0, .int i1, .int i2]) (st' := [.int i2, .ref b3]) 1 am_q8 rfl ?_
    obtain ⟨g5, g6, H⟩ := H
    refine ev_s (pc' := 18) (loc' := [.ref a0, .int i1, .int i2]) (st' := [.int (am_gi h b3 (Int32.toNatClampNeg i2))]) (h1 := h) am_q8 rfl rfl rfl (am_xx g5 g6) ?_
    refine ev_jz (t := 43) am_q8 rfl rfl (fun hq => ?_) (fun hq => ?_)
    · replace H := H.1 hq
      refine ev_p (pc' := 4) (loc' := [.ref a0, .int i1, .int (i2 + (1 : Int32))]) (st' := []) 2 am_q8 rfl ?_
      exact ev_m (loc' := [.ref a0, .int i1, .int (i2 + (1 : Int32))]) am_q8 rfl rfl H
    · replace H := H.2 hq
      refine ev_p (pc' := 22) (loc' := [.ref a0, .int i1, .int i2]) (st' := [.int i1]) 1 am_q8 rfl ?_
      refine ev_jz (t := 41) am_q8 rfl rfl (fun hq => ?_) (fun hq => ?_)
      · replace H := H.1 hq
        refine ev_p (pc' := 4) (loc' := [.ref a0, .int i2, .int (i2 + (1 : Int32))]) (st' := []) 4 am_q8 rfl ?_
        exact ev_m (loc' := [.ref a0, .int i2, .int (i2 + (1 : Int32))]) am_q8 rfl rfl H
      · replace H := H.2 hq
        refine ev_p (pc' := 26) (loc' := [.ref a0, .int i1, .int i2]) (st' := [.ref a0]) 1 am_q8 rfl ?_
        obtain ⟨g7, b8, e9, H⟩ := H
        refine ev_s (pc' := 29) (loc' := [.ref a0, .int i1, .int i2]) (st' := [.ref b8]) (h1 := h) am_q8 rfl rfl rfl (am_gf2 g7 e9) ?_
        refine ev_p (pc' := 30) (loc' := [.ref a0, .int i1, .int i2]) (st' := [.int i2, .ref b8]) 1 am_q8 rfl ?_
        obtain ⟨g10, g11, H⟩ := H
        refine ev_s (pc' := 31) (loc' := [.ref a0, .int i1, .int i2]) (st' := [.long (am_gl h b8 (Int32.toNatClampNeg i2))]) (h1 := h) am_q8 rfl rfl rfl (am_xx g10 g11) ?_
        refine ev_p (pc' := 32) (loc' := [.ref a0, .int i1, .int i2]) (st' := [.ref a0, .long (am_gl h b8 (Int32.toNatClampNeg i2))]) 1 am_q8 rfl ?_
        obtain ⟨g12, b13, e14, H⟩ := H
        refine ev_s (pc' := 35) (loc' := [.ref a0, .int i1, .int i2]) (st' := [.ref b13, .long (am_gl h b8 (Int32.toNatClampNeg i2))]) (h1 := h) am_q8 rfl rfl rfl (am_gf2 g12 e14) ?_
        refine ev_p (pc' := 36) (loc' := [.ref a0, .int i1, .int i2]) (st' := [.int i1, .ref b13, .long (am_gl h b8 (Int32.toNatClampNeg i2))]) 1 am_q8 rfl ?_
        obtain ⟨g15, g16, H⟩ := H
        refine ev_s (pc' := 37) (loc' := [.ref a0, .int i1, .int i2]) (st' := [.long (am_gl h b13 (Int32.toNatClampNeg i1)), .long (am_gl h b8 (Int32.toNatClampNeg i2))]) (h1 := h) am_q8 rfl rfl rfl (am_xx g15 g16) ?_
        refine ev_p (pc' := 38) (loc' := [.ref a0, .int i1, .int i2]) (st' := [.int (lg_cmp (am_gl h b8 (Int32.toNatClampNeg i2)) (am_gl h b13 (Int32.toNatClampNeg i1)))]) 1 am_q8 rfl ?_
        refine ev_jz (t := 43) am_q8 rfl rfl (fun hq => ?_) (fun hq => ?_)
        · replace H := H.1 hq
          refine ev_p (pc' := 4) (loc' := [.ref a0, .int i1, .int (i2 + (1 : Int32))]) (st' := []) 2 am_q8 rfl ?_
          exact ev_m (loc' := [.ref a0, .int i1, .int (i2 + (1 : Int32))]) am_q8 rfl rfl H
        · replace H := H.2 hq
          refine ev_p (pc' := 4) (loc' := [.ref a0, .int i2, .int (i2 + (1 : Int32))]) (st' := []) 4 am_q8 rfl ?_
          exact ev_m (loc' := [.ref a0, .int i2, .int (i2 + (1 : Int32))]) am_q8 rfl rfl H
/-! 9: X0_shiftRents -/
theorem am_q9 : (am_mt 9).2.2.2.2.2 = am_m9.2.2.2.2.2 := rfl
set_option maxRecDepth 20000 in
set_option maxHeartbeats 2000000 in
theorem wp9 {d : Nat} (a0 : Nat) (l1 : Int64) {h : AH} {Q : Option Value → AH → Prop} (H : Ev d 9 2 [.ref a0, .long l1, .null, .int (0 : Int32)] [] h Q) : Cl d 9 [.ref a0, .long l1] h Q := by
  show Ev d 9 0 [.ref a0, .long l1, .null, .null] [] h Q
  refine ev_p (pc' := 2) (loc' := [.ref a0, .long l1, .null, .int (0 : Int32)]) (st' := []) 2 am_q9 rfl ?_
  exact ev_m (loc' := [.ref a0, .long l1, .null, .int (0 : Int32)]) am_q9 rfl rfl H
set_option maxRecDepth 20000 in
set_option maxHeartbeats 2000000 in
theorem wp9_2 {d : Nat} (a0 : Nat) (l1 : Int64) (i3 : Int32) {h : AH} {Q : Option Value → AH → Prop} (H : am_kd h a0 = 0 ∧ ((am_gi h a0 11) < i3 → Q none h) ∧ (¬ (am_gi h a0 11) < i3 → am_kd h a0 = 0 ∧ ∃ b3, am_gr h a0 9 = some b3 ∧ (am_kd h b3 = 102 ∨ am_kd h b3 = 103) ∧ am_in i3 (am_ln h b3) ∧ ((am_gi h b3 (Int32.toNatClampNeg i3)) = (0 : Int32) → am_kd h a0 = 0 ∧ ∃ b8, am_gr h a0 7 = some b8 ∧ am_kd h b8 = 101 ∧ am_in i3 (am_ln h b8) ∧ am_kd h b8 = 101 ∧ am_in i3 (am_ln h b8) ∧ ∀ h14, h14 = am_sl h b8 (Int32.toNatClampNeg i3) ((am_gl h b8 (Int32.toNatClampNeg i3)) - l1) → Ev d 9 2 [.ref a0, .long l1, .null, .int (i3 + (1 : Int32))] [] h14 Q) ∧ (¬ (am_gi h b3 (Int32.toNatClampNeg i3)) = (0 : Int32) → am_kd h a0 = 0 ∧ ∃ b16, am_gr h a0 5 = some b16 ∧ am_kd h a0 = 0 ∧ ∃ b19, am_gr h a0 10 = some b19 ∧ am_kd h b19 = 100 ∧ am_in i3 (am_ln h b19) ∧ am_kd h b16 = 101 ∧ am_in (am_gi h b19 (Int32.toNatClampNeg i3)) (am_ln h b16) ∧ am_kd h b16 = 101 ∧ am_in (am_gi h b19 (Int32.toNatClampNeg i3)) (am_ln h b16) ∧ ∀ h27, h27 = am_sl h b16 (Int32.toNatClampNeg (am_gi h b19 (Int32.toNatClampNeg i3))) ((am_gl h b16 (Int32.toNatClampNeg (am_gi h b19 (Int32.toNatClampNeg i3)))) + l1) → am_kd h27 a0 = 0 ∧ ∃ b29, am_gr h27 a0 6 = some b29 ∧ am_kd h27 b29 = 101 ∧ am_in i3 (am_ln h27 b29) ∧ am_kd h27 b29 = 101 ∧ am_in i3 (am_ln h27 b29) ∧ ∀ h35, h35 = am_sl h27 b29 (Int32.toNatClampNeg i3) ((am_gl h27 b29 (Int32.toNatClampNeg i3)) - l1) → Ev d 9 2 [.ref a0, .long l1, .null, .int (i3 + (1 : Int32))] [] h35 Q))) : Ev d 9 2 [.ref a0, .long l1, .null, .int i3] [] h Q := by
  refine ev_p (pc' := 4) (loc' := [.ref a0, .long l1, .null, .int i3]) (st' := [.ref a0, .int i3]) 2 am_q9 rfl ?_
  obtain ⟨g1, H⟩ := H
  refine ev_s (pc' := 7) (loc' := [.ref a0, .long l1, .null, .int i3]) (st' := [.int (am_gi h a0 11), .int i3]) (h1 := h) am_q9 rfl rfl rfl (if_pos (e := none) g1) ?_
  refine ev_jc (t := 63) am_q9 rfl rfl (fun hq => ?_) (fun hq => ?_)
  · replace H := H.1 hq
    exact ev_r (v := none) am_q9 rfl rfl rfl rfl H
  · replace H := H.2 hq
    refine ev_p (pc' := 11) (loc' := [.ref a0, .long l1, .null, .int i3]) (st' := [.ref a0]) 1 am_q9 rfl ?_
    obtain ⟨g2, b3, e4, H⟩ := H
    refine ev_s (pc' := 14) (loc' := [.ref a0, .long l1, .null, .int i3]) (st' := [.ref b3]) (h1 := h) am_q9 rfl rfl rfl (am_gf2 g2 e4) ?_
    refine ev_p (pc' := 15) (loc' := [.ref a0, .long l1, .null, .int i3]) (st' := [.int i3, .ref b3]) 1 am_q9 rfl ?_
    obtain ⟨g5, g6, H⟩ := H
    refine ev_s (pc' := 16) (loc' := [.ref a0, .long l1, .null, .int i3]) (st' := [.int (am_gi h b3 (Int32.toNatClampNeg i3))]) (h1 := h) am_q9 rfl rfl rfl (am_xx g5 g6) ?_
    refine ev_jz (t := 47) am_q9 rfl rfl (fun hq => ?_) (fun hq => ?_)
    · replace H := H.1 hq
      refine ev_p (pc' := 48) (loc' := [.ref a0, .long l1, .null, .int i3]) (st' := [.ref a0]) 1 am_q9 rfl ?_
      obtain ⟨g7, b8, e9, H⟩ := H
      refine ev_s (pc' := 51) (loc' := [.ref a0, .long l1, .null, .int i3]) (st' := [.ref b8]) (h1 := h) am_q9 rfl rfl rfl (am_gf2 g7 e9) ?_
      refine ev_p (pc' := 53) (loc' := [.ref a0, .long l1, .null, .int i3]) (st' := [.int i3, .ref b8, .int i3, .ref b8]) 2 am_q9 rfl ?_
      obtain ⟨g10, g11, H⟩ := H
      refine ev_s (pc' := 54) (loc' := [.ref a0, .long l1, .null, .int i3]) (st' := [.long (am_gl h b8 (Int32.toNatClampNeg i3)), .int i3, .ref b8]) (h1 := h) am_q9 rfl rfl rfl (am_xx g10 g11) ?_
      refine ev_p (pc' := 56) (loc' := [.ref a0, .long l1, .null, .int i3]) (st' := [.long ((am_gl h b8 (Int32.toNatClampNeg i3)) - l1), .int i3, .ref b8]) 2 am_q9 rfl ?_
      obtain ⟨g12, g13, H⟩ := H
      refine ev_s (pc' := 57) (loc' := [.ref a0, .long l1, .null, .int i3]) (st' := []) (h1 := am_sl h b8 (Int32.toNatClampNeg i3) ((am_gl h b8 (Int32.toNatClampNeg i3)) - l1)) am_q9 rfl rfl rfl (am_xx g12 g13) ?_
      replace H := H _ rfl
      generalize am_sl h b8 (Int32.toNatClampNeg i3) ((am_gl h b8 (Int32.toNatClampNeg i3)) - l1) = h14 at H ⊢
      refine ev_p (pc' := 2) (loc' := [.ref a0, .long l1, .null, .int (i3 + (1 : Int32))]) (st' := []) 2 am_q9 rfl ?_
      exact ev_m (loc' := [.ref a0, .long l1, .null, .int (i3 + (1 : Int32))]) am_q9 rfl rfl H
    · replace H := H.2 hq
      refine ev_p (pc' := 20) (loc' := [.ref a0, .long l1, .null, .int i3]) (st' := [.ref a0]) 1 am_q9 rfl ?_
      obtain ⟨g15, b16, e17, H⟩ := H
      refine ev_s (pc' := 23) (loc' := [.ref a0, .long l1, .null, .int i3]) (st' := [.ref b16]) (h1 := h) am_q9 rfl rfl rfl (am_gf2 g15 e17) ?_
      refine ev_p (pc' := 24) (loc' := [.ref a0, .long l1, .null, .int i3]) (st' := [.ref a0, .ref b16]) 1 am_q9 rfl ?_
      obtain ⟨g18, b19, e20, H⟩ := H
      refine ev_s (pc' := 27) (loc' := [.ref a0, .long l1, .null, .int i3]) (st' := [.ref b19, .ref b16]) (h1 := h) am_q9 rfl rfl rfl (am_gf2 g18 e20) ?_
      refine ev_p (pc' := 28) (loc' := [.ref a0, .long l1, .null, .int i3]) (st' := [.int i3, .ref b19, .ref b16]) 1 am_q9 rfl ?_
      obtain ⟨g21, g22, H⟩ := H
      refine ev_s (pc' := 29) (loc' := [.ref a0, .long l1, .null, .int i3]) (st' := [.int (am_gi h b19 (Int32.toNatClampNeg i3)), .ref b16]) (h1 := h) am_q9 rfl rfl rfl (am_xx g21 g22) ?_
      refine ev_p (pc' := 30) (loc' := [.ref a0, .long l1, .null, .int i3]) (st' := [.int (am_gi h b19 (Int32.toNatClampNeg i3)), .ref b16, .int (am_gi h b19 (Int32.toNatClampNeg i3)), .ref b16]) 1 am_q9 rfl ?_
      obtain ⟨g23, g24, H⟩ := H
      refine ev_s (pc' := 31) (loc' := [.ref a0, .long l1, .null, .int i3]) (st' := [.long (am_gl h b16 (Int32.toNatClampNeg (am_gi h b19 (Int32.toNatClampNeg i3)))), .int (am_gi h b19 (Int32.toNatClampNeg i3)), .ref b16]) (h1 := h) am_q9 rfl rfl rfl (am_xx g23 g24) ?_
      refine ev_p (pc' := 33) (loc' := [.ref a0, .long l1, .null, .int i3]) (st' := [.long ((am_gl h b16 (Int32.toNatClampNeg (am_gi h b19 (Int32.toNatClampNeg i3)))) + l1), .int (am_gi h b19 (Int32.toNatClampNeg i3)), .ref b16]) 2 am_q9 rfl ?_
      obtain ⟨g25, g26, H⟩ := H
      refine ev_s (pc' := 34) (loc' := [.ref a0, .long l1, .null, .int i3]) (st' := []) (h1 := am_sl h b16 (Int32.toNatClampNeg (am_gi h b19 (Int32.toNatClampNeg i3))) ((am_gl h b16 (Int32.toNatClampNeg (am_gi h b19 (Int32.toNatClampNeg i3)))) + l1)) am_q9 rfl rfl rfl (am_xx g25 g26) ?_
      replace H := H _ rfl
      generalize am_sl h b16 (Int32.toNatClampNeg (am_gi h b19 (Int32.toNatClampNeg i3))) ((am_gl h b16 (Int32.toNatClampNeg (am_gi h b19 (Int32.toNatClampNeg i3)))) + l1) = h27 at H ⊢
      refine ev_p (pc' := 35) (loc' := [.ref a0, .long l1, .null, .int i3]) (st' := [.ref a0]) 1 am_q9 rfl ?_
      obtain ⟨g28, b29, e30, H⟩ := H
      refine ev_s (pc' := 38) (loc' := [.ref a0, .long l1, .null, .int i3]) (st' := [.ref b29]) (h1 := h27) am_q9 rfl rfl rfl (am_gf2 g28 e30) ?_
      refine ev_p (pc' := 40) (loc' := [.ref a0, .long l1, .null, .int i3]) (st' := [.int i3, .ref b29, .int i3, .ref b29]) 2 am_q9 rfl ?_
      obtain ⟨g31, g32, H⟩ := H
      refine ev_s (pc' := 41) (loc' := [.ref a0, .long l1, .null, .int i3]) (st' := [.long (am_gl h27 b29 (Int32.toNatClampNeg i3)), .int i3, .ref b29]) (h1 := h27) am_q9 rfl rfl rfl (am_xx g31 g32) ?_
      refine ev_p (pc' := 43) (loc' := [.ref a0, .long l1, .null, .int i3]) (st' := [.long ((am_gl h27 b29 (Int32.toNatClampNeg i3)) - l1), .int i3, .ref b29]) 2 am_q9 rfl ?_
      obtain ⟨g33, g34, H⟩ := H
      refine ev_s (pc' := 44) (loc' := [.ref a0, .long l1, .null, .int i3]) (st' := []) (h1 := am_sl h27 b29 (Int32.toNatClampNeg i3) ((am_gl h27 b29 (Int32.toNatClampNeg i3)) - l1)) am_q9 rfl rfl rfl (am_xx g33 g34) ?_
      replace H := H _ rfl
      generalize am_sl h27 b29 (Int32.toNatClampNeg i3) ((am_gl h27 b29 (Int32.toNatClampNeg i3)) - l1) = h35 at H ⊢
      refine ev_p (pc' := 2) (loc' := [.ref a0, .long l1, .null, .int (i3 + (1 : Int32))]) (st' := []) 3 am_q9 rfl ?_
      exact ev_m (loc' := [.ref a0, .long l1, .null, .int (i3 + (1 : Int32))]) am_q9 rfl rfl H
/-! 10: X0_readGoals -/
theorem am_q10 : (am_mt 10).2.2.2.2.2 = am_m10.2.2.2.2.2 := rfl
set_option maxRecDepth 20000 in
set_option maxHeartbeats 2000000 in
theorem wp10 {d : Nat} (a0 : Nat) {h : AH} {Q : Option Value → AH → Prop} (H : Ev d 10 2 [.ref a0, .int (0 : Int32), .null, .null] [] h Q) : Cl d 10 [.ref a0] h Q := by
  show Ev d 10 0 [.ref a0, .null, .null, .null] [] h Q
  refine ev_p (pc' := 2) (loc' := [.ref a0, .int (0 : Int32), .null, .null]) (st' := []) 2 am_q10 rfl ?_
  exact ev_m (loc' := [.ref a0, .int (0 : Int32), .null, .null]) am_q10 rfl rfl H
set_option maxRecDepth 20000 in
set_option maxHeartbeats 2000000 in
theorem wp10_2 {d : Nat} (a0 : Nat) (i1 : Int32) {h : AH} {Q : Option Value → AH → Prop} (H : ((24 : Int32) ≤ i1 → Ev d 10 25 [.ref a0, .int (0 : Int32), .int (1 : Int32), .null] [] h Q) ∧ (¬ (24 : Int32) ≤ i1 → am_kd h a0 = 0 ∧ ∃ b2, am_gr h a0 0 = some b2 ∧ (am_kd h b2 = 100 ∧ 6 ≤ b2) ∧ am_in i1 (am_ln h b2) ∧ ∀ h6, h6 = am_si h b2 (Int32.toNatClampNeg i1) (-1 : Int32) → Ev d 10 2 [.ref a0, .int (i1 + (1 : Int32)), .null, .null] [] h6 Q)) : Ev d 10 2 [.ref a0, .int i1, .null, .null] [] h Q := by
  refine ev_p (pc' := 5) (loc' := [.ref a0, .int i1, .null, .null]) (st' := [.int (24 : Int32), .int i1]) 2 am_q10 rfl ?_
  refine ev_jc (t := 21) am_q10 rfl rfl (fun hq => ?_) (fun hq => ?_)
  · replace H := H.1 hq
    refine ev_p (pc' := 25) (loc' := [.ref a0, .int (0 : Int32), .int (1 : Int32), .null]) (st' := []) 4 am_q10 rfl ?_
    exact ev_m (loc' := [.ref a0, .int (0 : Int32), .int (1 : Int32), .null]) am_q10 rfl rfl H
  · replace H := H.2 hq
    refine ev_p (pc' := 9) (loc' := [.ref a0, .int i1, .null, .null]) (st' := [.ref a0]) 1 am_q10 rfl ?_
    obtain ⟨g1, b2, e3, H⟩ := H
    refine ev_s (pc' := 12) (loc' := [.ref a0, .int i1, .null, .null]) (st' := [.ref b2]) (h1 := h) am_q10 rfl rfl rfl (am_gf2 g1 e3) ?_
    refine ev_p (pc' := 14) (loc' := [.ref a0, .int i1, .null, .null]) (st' := [.int (-1 : Int32), .int i1, .ref b2]) 2 am_q10 rfl ?_
    obtain ⟨g4, g5, H⟩ := H
    refine ev_s (pc' := 15) (loc' := [.ref a0, .int i1, .null, .null]) (st' := []) (h1 := am_si h b2 (Int32.toNatClampNeg i1) (-1 : Int32)) am_q10 rfl rfl rfl (am_xx g4 g5) ?_
    replace H := H _ rfl
    generalize am_si h b2 (Int32.toNatClampNeg i1) (-1 : Int32) = h6 at H ⊢
    refine ev_p (pc' := 2) (loc' := [.ref a0, .int (i1 + (1 : Int32)), .null, .null]) (st' := []) 2 am_q10 rfl ?_
    exact ev_m (loc' := [.ref a0, .int (i1 + (1 : Int32)), .null, .null]) am_q10 rfl rfl H
set_option maxRecDepth 20000 in
set_option maxHeartbeats 2000000 in
theorem wp10_25 {d : Nat} (a0 : Nat) (i1 : Int32) (i2 : Int32) {h : AH} {Q : Option Value → AH → Prop} (H : am_kd h a0 = 0 ∧ ((am_gi h a0 11) < i2 → Q (some (.int i1)) h) ∧ (¬ (am_gi h a0 11) < i2 → am_kd h a0 = 0 ∧ ∃ b3, am_gr h a0 10 = some b3 ∧ am_kd h b3 = 100 ∧ am_in i2 (am_ln h b3) ∧ ((am_gi h b3 (Int32.toNatClampNeg i2)) = (0 : Int32) → Ev d 10 25 [.ref a0, .int i1, .int (i2 + (1 : Int32)), .null] [] h Q) ∧ (¬ (am_gi h b3 (Int32.toNatClampNeg i2)) = (0 : Int32) → am_kd h a0 = 0 ∧ ∃ b8, am_gr h a0 2 = some b8 ∧ am_kd h b8 = 100 ∧ am_in (am_gi h b3 (Int32.toNatClampNeg i2)) (am_ln h b8) ∧ ((am_gi h b8 (Int32.toNatClampNeg (am_gi h b3 (Int32.toNatClampNeg i2)))) = (i2 - (1 : Int32)) → Ev d 10 25 [.ref a0, .int i1, .int (i2 + (1 : Int32)), .null] [] h Q) ∧ (¬ (am_gi h b8 (Int32.toNatClampNeg (am_gi h b3 (Int32.toNatClampNeg i2)))) = (i2 - (1 : Int32)) → am_kd h a0 = 0 ∧ ∃ b13, am_gr h a0 0 = some b13 ∧ am_kd h a0 = 0 ∧ ∃ b16, am_gr h a0 1 = some b16 ∧ am_kd h b16 = 100 ∧ am_in (am_gi h b3 (Int32.toNatClampNeg i2)) (am_ln h b16) ∧ (am_kd h b13 = 100 ∧ 6 ≤ b13) ∧ am_in (am_gi h b16 (Int32.toNatClampNeg (am_gi h b3 (Int32.toNatClampNeg i2)))) (am_ln h b13) ∧ ∀ h22, h22 = am_si h b13 (Int32.toNatClampNeg (am_gi h b16 (Int32.toNatClampNeg (am_gi h b3 (Int32.toNatClampNeg i2))))) (i2 - (1 : Int32)) → Ev d 10 25 [.ref a0, .int (i1 + (1 : Int32)), .int (i2 + (1 : Int32)), .null] [] h22 Q)))) : Ev d 10 25 [.ref a0, .int i1, .int i2, .null] [] h Q := by
  refine ev_p (pc' := 27) (loc' := [.ref a0, .int i1, .int i2, .null]) (st' := [.ref a0, .int i2]) 2 am_q10 rfl ?_
  obtain ⟨g1, H⟩ := H
  refine ev_s (pc' := 30) (loc' := [.ref a0, .int i1, .int i2, .null]) (st' := [.int (am_gi h a0 11), .int i2]) (h1 := h) am_q10 rfl rfl rfl (if_pos (e := none) g1) ?_
  refine ev_jc (t := 79) am_q10 rfl rfl (fun hq => ?_) (fun hq => ?_)
  · replace H := H.1 hq
    refine ev_p (pc' := 80) (loc' := [.ref a0, .int i1, .int i2, .null]) (st' := [.int i1]) 1 am_q10 rfl ?_
    exact ev_r (v := some (.int i1)) am_q10 rfl rfl rfl rfl H
  · replace H := H.2 hq
    refine ev_p (pc' := 34) (loc' := [.ref a0, .int i1, .int i2, .null]) (st' := [.ref a0]) 1 am_q10 rfl ?_
    obtain ⟨g2, b3, e4, H⟩ := H
    refine ev_s (pc' := 37) (loc' := [.ref a0, .int i1, .int i2, .null]) (st' := [.ref b3]) (h1 := h) am_q10 rfl rfl rfl (am_gf2 g2 e4) ?_
    refine ev_p (pc' := 38) (loc' := [.ref a0, .int i1, .int i2, .null]) (st' := [.int i2, .ref b3]) 1 am_q10 rfl ?_
    obtain ⟨g5, g6, H⟩ := H
    refine ev_s (pc' := 39) (loc' := [.ref a0, .int i1, .int i2, .null]) (st' := [.int (am_gi h b3 (Int32.toNatClampNeg i2))]) (h1 := h) am_q10 rfl rfl rfl (am_xx g5 g6) ?_
    refine ev_p (pc' := 41) (loc' := [.ref a0, .int i1, .int i2, .int (am_gi h b3 (Int32.toNatClampNeg i2))]) (st' := [.int (am_gi h b3 (Int32.toNatClampNeg i2))]) 2 am_q10 rfl ?_
    refine ev_jz (t := 73) am_q10 rfl rfl (fun hq => ?_) (fun hq => ?_)
    · replace H := H.1 hq
      refine ev_p (pc' := 25) (loc' := [.ref a0, .int i1, .int (i2 + (1 : Int32)), .null]) (st' := []) 2 am_q10 rfl ?_
      exact ev_m (loc' := [.ref a0, .int i1, .int (i2 + (1 : Int32)), .null]) am_q10 rfl rfl H
    · replace H := H.2 hq
      refine ev_p (pc' := 45) (loc' := [.ref a0, .int i1, .int i2, .int (am_gi h b3 (Int32.toNatClampNeg i2))]) (st' := [.ref a0]) 1 am_q10 rfl ?_
      obtain ⟨g7, b8, e9, H⟩ := H
      refine ev_s (pc' := 48) (loc' := [.ref a0, .int i1, .int i2, .int (am_gi h b3 (Int32.toNatClampNeg i2))]) (st' := [.ref b8]) (h1 := h) am_q10 rfl rfl rfl (am_gf2 g7 e9) ?_
      refine ev_p (pc' := 49) (loc' := [.ref a0, .int i1, .int i2, .int (am_gi h b3 (Int32.toNatClampNeg i2))]) (st' := [.int (am_gi h b3 (Int32.toNatClampNeg i2)), .ref b8]) 1 am_q10 rfl ?_
      obtain ⟨g10, g11, H⟩ := H
      refine ev_s (pc' := 50) (loc' := [.ref a0, .int i1, .int i2, .int (am_gi h b3 (Int32.toNatClampNeg i2))]) (st' := [.int (am_gi h b8 (Int32.toNatClampNeg (am_gi h b3 (Int32.toNatClampNeg i2))))]) (h1 := h) am_q10 rfl rfl rfl (am_xx g10 g11) ?_
      refine ev_p (pc' := 53) (loc' := [.ref a0, .int i1, .int i2, .int (am_gi h b3 (Int32.toNatClampNeg i2))]) (st' := [.int (i2 - (1 : Int32)), .int (am_gi h b8 (Int32.toNatClampNeg (am_gi h b3 (Int32.toNatClampNeg i2))))]) 3 am_q10 rfl ?_
      refine ev_jc (t := 73) am_q10 rfl rfl (fun hq => ?_) (fun hq => ?_)
      · replace H := H.1 hq
        refine ev_p (pc' := 25) (loc' := [.ref a0, .int i1, .int (i2 + (1 : Int32)), .null]) (st' := []) 2 am_q10 rfl ?_
        exact ev_m (loc' := [.ref a0, .int i1, .int (i2 + (1 : Int32)), .null]) am_q10 rfl rfl H
      · replace H := H.2 hq
        refine ev_p (pc' := 57) (loc' := [.ref a0, .int i1, .int i2, .int (am_gi h b3 (Int32.toNatClampNeg i2))]) (st' := [.ref a0]) 1 am_q10 rfl ?_
        obtain ⟨g12, b13, e14, H⟩ := H
        refine ev_s (pc' := 60) (loc' := [.ref a0, .int i1, .int i2, .int (am_gi h b3 (Int32.toNatClampNeg i2))]) (st' := [.ref b13]) (h1 := h) am_q10 rfl rfl rfl (am_gf2 g12 e14) ?_
        refine ev_p (pc' := 61) (loc' := [.ref a0, .int i1, .int i2, .int (am_gi h b3 (Int32.toNatClampNeg i2))]) (st' := [.ref a0, .ref b13]) 1 am_q10 rfl ?_
        obtain ⟨g15, b16, e17, H⟩ := H
        refine ev_s (pc' := 64) (loc' := [.ref a0, .int i1, .int i2, .int (am_gi h b3 (Int32.toNatClampNeg i2))]) (st' := [.ref b16, .ref b13]) (h1 := h) am_q10 rfl rfl rfl (am_gf2 g15 e17) ?_
        refine ev_p (pc' := 65) (loc' := [.ref a0, .int i1, .int i2, .int (am_gi h b3 (Int32.toNatClampNeg i2))]) (st' := [.int (am_gi h b3 (Int32.toNatClampNeg i2)), .ref b16, .ref b13]) 1 am_q10 rfl ?_
        obtain ⟨g18, g19, H⟩ := H
        refine ev_s (pc' := 66) (loc' := [.ref a0, .int i1, .int i2, .int (am_gi h b3 (Int32.toNatClampNeg i2))]) (st' := [.int (am_gi h b16 (Int32.toNatClampNeg (am_gi h b3 (Int32.toNatClampNeg i2)))), .ref b13]) (h1 := h) am_q10 rfl rfl rfl (am_xx g18 g19) ?_
        refine ev_p (pc' := 69) (loc' := [.ref a0, .int i1, .int i2, .int (am_gi h b3 (Int32.toNatClampNeg i2))]) (st' := [.int (i2 - (1 : Int32)), .int (am_gi h b16 (Int32.toNatClampNeg (am_gi h b3 (Int32.toNatClampNeg i2)))), .ref b13]) 3 am_q10 rfl ?_
        obtain ⟨g20, g21, H⟩ := H
        refine ev_s (pc' := 70) (loc' := [.ref a0, .int i1, .int i2, .int (am_gi h b3 (Int32.toNatClampNeg i2))]) (st' := []) (h1 := am_si h b13 (Int32.toNatClampNeg (am_gi h b16 (Int32.toNatClampNeg (am_gi h b3 (Int32.toNatClampNeg i2))))) (i2 - (1 : Int32))) am_q10 rfl rfl rfl (am_xx g20 g21) ?_
        replace H := H _ rfl
        generalize am_si h b13 (Int32.toNatClampNeg (am_gi h b16 (Int32.toNatClampNeg (am_gi h b3 (Int32.toNatClampNeg i2))))) (i2 - (1 : Int32)) = h22 at H ⊢
        refine ev_p (pc' := 25) (loc' := [.ref a0, .int (i1 + (1 : Int32)), .int (i2 + (1 : Int32)), .null]) (st' := []) 3 am_q10 rfl ?_
        exact ev_m (loc' := [.ref a0, .int (i1 + (1 : Int32)), .int (i2 + (1 : Int32)), .null]) am_q10 rfl rfl H
