/-! 96: X11_init -/
theorem am_q96 : (am_mt 96).2.2.2.2.2 = am_m96.2.2.2.2.2 := rfl
set_option maxRecDepth 20000 in
set_option maxHeartbeats 2000000 in
theorem wp96 {d : Nat} (a0 : Nat) {h : AH} {Q : Option Value → AH → Prop} (H : (¬ (12 : Int32) < (0 : Int32) ∧ (Int32.toNatClampNeg (12 : Int32)) ≤ 100000) ∧ ∀ b3, b3 = am_sz h → ∀ h2, h2 = am_nw h 104 (Int32.toNatClampNeg (12 : Int32)) (Int32.toNatClampNeg (12 : Int32)) → am_kd h2 a0 = 11 ∧ ∀ h6, h6 = am_sr h2 a0 1 (some b3) → (¬ (24 : Int32) < (0 : Int32) ∧ (Int32.toNatClampNeg (24 : Int32)) ≤ 100000) ∧ ∀ b8, b8 = am_sz h6 → ∀ h7, h7 = am_nw h6 105 (Int32.toNatClampNeg (24 : Int32)) (Int32.toNatClampNeg (24 : Int32)) → am_kd h7 a0 = 11 ∧ ∀ h11, h11 = am_sr h7 a0 3 (some b8) → ∀ b13, b13 = am_sz h11 → ∀ h12, h12 = am_nw h11 6 0 2 → am_kd h12 b13 = 6 ∧ Cl d 52 [.ref b13] h12 (fun r15 h14 => r15 = none ∧ am_kd h14 a0 = 11 ∧ ∀ h18, h18 = am_sr h14 a0 5 (some b13) → ∀ b20, b20 = am_sz h18 → ∀ h19, h19 = am_nw h18 5 0 13 → am_kd h19 b20 = 5 ∧ Cl d 30 [.ref b20] h19 (fun r22 h21 => r22 = none ∧ am_kd h21 a0 = 11 ∧ ∀ h25, h25 = am_sr h21 a0 6 (some b20) → ∀ b27, b27 = am_sz h25 → ∀ h26, h26 = am_nw h25 8 0 3 → am_kd h26 b27 = 8 ∧ Cl d 69 [.ref b27] h26 (fun r29 h28 => r29 = none ∧ am_kd h28 a0 = 11 ∧ ∀ h32, h32 = am_sr h28 a0 7 (some b27) → (¬ (12 : Int32) < (0 : Int32) ∧ (Int32.toNatClampNeg (12 : Int32)) ≤ 100000) ∧ ∀ b34, b34 = am_sz h32 → ∀ h33, h33 = am_nw h32 107 (Int32.toNatClampNeg (12 : Int32)) (Int32.toNatClampNeg (12 : Int32)) → am_kd h33 a0 = 11 ∧ ∀ h37, h37 = am_sr h33 a0 8 (some b34) → am_kd h37 a0 = 11 ∧ ∀ h39, h39 = am_si h37 a0 12 (-1 : Int32) → (¬ (24 : Int32) < (0 : Int32) ∧ (Int32.toNatClampNeg (24 : Int32)) ≤ 100000) ∧ ∀ b41, b41 = am_sz h39 → ∀ h40, h40 = am_nw h39 101 (Int32.toNatClampNeg (24 : Int32)) (Int32.toNatClampNeg (24 : Int32)) → am_kd h40 a0 = 11 ∧ ∀ h44, h44 = am_sr h40 a0 13 (some b41) → ∀ b46, b46 = am_sz h44 → ∀ h45, h45 = am_nw h44 0 0 14 → am_kd h45 b46 = 0 ∧ Cl d 0 [.ref b46] h45 (fun r48 h47 => r48 = none ∧ am_kd h47 a0 = 11 ∧ ∀ h51, h51 = am_sr h47 a0 14 (some b46) → ∀ b53, b53 = am_sz h51 → ∀ h52, h52 = am_nw h51 4 0 5 → am_kd h52 b53 = 4 ∧ Cl d 24 [.ref b53] h52 (fun r55 h54 => r55 = none ∧ am_kd h54 a0 = 11 ∧ ∀ h58, h58 = am_sr h54 a0 15 (some b53) → ∀ b60, b60 = am_sz h58 → ∀ h59, h59 = am_nw h58 1 0 2 → am_kd h59 b60 = 1 ∧ Cl d 11 [.ref b60] h59 (fun r62 h61 => r62 = none ∧ am_kd h61 a0 = 11 ∧ ∀ h65, h65 = am_sr h61 a0 16 (some b60) → (¬ (6 : Int32) < (0 : Int32) ∧ (Int32.toNatClampNeg (6 : Int32)) ≤ 100000) ∧ ∀ b67, b67 = am_sz h65 → ∀ h66, h66 = am_nw h65 108 (Int32.toNatClampNeg (6 : Int32)) (Int32.toNatClampNeg (6 : Int32)) → am_kd h66 a0 = 11 ∧ ∀ h70, h70 = am_sr h66 a0 17 (some b67) → Ev (d + 1) 96 121 [.ref a0, .int (0 : Int32)] [] h70 Q))))))) : Cl (d + 1) 96 [.ref a0] h Q := by
  show Ev (d + 1) 96 0 [.ref a0, .null] [] h Q
  refine ev_p (pc' := 1) (loc' := [.ref a0, .null]) (st' := [.ref a0]) 1 am_q96 rfl ?_
  refine ev_b (st' := []) (h1 := h) am_q96 rfl rfl rfl rfl (rfl) rfl ?_
  refine ev_p (pc' := 7) (loc' := [.ref a0, .null]) (st' := [.int (12 : Int32), .ref a0]) 2 am_q96 rfl ?_
  obtain ⟨g4, H⟩ := H
  refine ev_s (pc' := 10) (loc' := [.ref a0, .null]) (st' := [.ref (am_sz h), .ref a0]) (h1 := am_nw h 104 (Int32.toNatClampNeg (12 : Int32)) (Int32.toNatClampNeg (12 : Int32))) am_q96 rfl rfl rfl (if_pos (e := none) g4) ?_
  replace H := H _ rfl _ rfl
  generalize am_nw h 104 (Int32.toNatClampNeg (12 : Int32)) (Int32.toNatClampNeg (12 : Int32)) = h2 at H ⊢
  generalize am_sz h = b3 at H ⊢
  obtain ⟨g5, H⟩ := H
  refine ev_s (pc' := 13) (loc' := [.ref a0, .null]) (st' := []) (h1 := am_sr h2 a0 1 (some b3)) am_q96 rfl rfl rfl (if_pos (e := none) g5) ?_
  replace H := H _ rfl
  generalize am_sr h2 a0 1 (some b3) = h6 at H ⊢
  refine ev_p (pc' := 16) (loc' := [.ref a0, .null]) (st' := [.int (24 : Int32), .ref a0]) 2 am_q96 rfl ?_
  obtain ⟨g9, H⟩ := H
  refine ev_s (pc' := 19) (loc' := [.ref a0, .null]) (st' := [.ref (am_sz h6), .ref a0]) (h1 := am_nw h6 105 (Int32.toNatClampNeg (24 : Int32)) (Int32.toNatClampNeg (24 : Int32))) am_q96 rfl rfl rfl (if_pos (e := none) g9) ?_
  replace H := H _ rfl _ rfl
  generalize am_nw h6 105 (Int32.toNatClampNeg (24 : Int32)) (Int32.toNatClampNeg (24 : Int32)) = h7 at H ⊢
  generalize am_sz h6 = b8 at H ⊢
  obtain ⟨g10, H⟩ := H
  refine ev_s (pc' := 22) (loc' := [.ref a0, .null]) (st' := []) (h1 := am_sr h7 a0 3 (some b8)) am_q96 rfl rfl rfl (if_pos (e := none) g10) ?_
  replace H := H _ rfl
  generalize am_sr h7 a0 3 (some b8) = h11 at H ⊢
  refine ev_p (pc' := 23) (loc' := [.ref a0, .null]) (st' := [.ref a0]) 1 am_q96 rfl ?_
  refine ev_s (pc' := 26) (loc' := [.ref a0, .null]) (st' := [.ref (am_sz h11), .ref a0]) (h1 := am_nw h11 6 0 2) am_q96 rfl rfl rfl (rfl) ?_
  replace H := H _ rfl _ rfl
  generalize am_nw h11 6 0 2 = h12 at H ⊢
  generalize am_sz h11 = b13 at H ⊢
  refine ev_p (pc' := 27) (loc' := [.ref a0, .null]) (st' := [.ref b13, .ref b13, .ref a0]) 1 am_q96 rfl ?_
  obtain ⟨g16, H⟩ := H
  refine ev_c (vs := [.ref b13]) (rest := [.ref b13, .ref a0]) 52 am_q96 rfl rfl rfl rfl rfl rfl rfl rfl rfl rfl rfl rfl (Or.inr (congrArg some g16)) (Cl.mono H (Nat.le_refl _) (fun r15 h14 H => ?_))
  obtain ⟨rfl, H⟩ := H
  obtain ⟨g17, H⟩ := H
  refine ev_s (pc' := 33) (loc' := [.ref a0, .null]) (st' := []) (h1 := am_sr h14 a0 5 (some b13)) am_q96 rfl rfl rfl (if_pos (e := none) g17) ?_
  replace H := H _ rfl
  generalize am_sr h14 a0 5 (some b13) = h18 at H ⊢
  refine ev_p (pc' := 34) (loc' := [.ref a0, .null]) (st' := [.ref a0]) 1 am_q96 rfl ?_
  refine ev_s (pc' := 37) (loc' := [.ref a0, .null]) (st' := [.ref (am_sz h18), .ref a0]) (h1 := am_nw h18 5 0 13) am_q96 rfl rfl rfl (rfl) ?_
  replace H := H _ rfl _ rfl
  generalize am_nw h18 5 0 13 = h19 at H ⊢
  generalize am_sz h18 = b20 at H ⊢
  refine ev_p (pc' := 38) (loc' := [.ref a0, .null]) (st' := [.ref b20, .ref b20, .ref a0]) 1 am_q96 rfl ?_
  obtain ⟨g23, H⟩ := H
  refine ev_c (vs := [.ref b20]) (rest := [.ref b20, .ref a0]) 30 am_q96 rfl rfl rfl rfl rfl rfl rfl rfl rfl rfl rfl rfl (Or.inr (congrArg some g23)) (Cl.mono H (Nat.le_refl _) (fun r22 h21 H => ?_))
  obtain ⟨rfl, H⟩ := H
  obtain ⟨g24, H⟩ := H
  refine ev_s (pc' := 44) (loc' := [.ref a0, .null]) (st' := []) (h1 := am_sr h21 a0 6 (some b20)) am_q96 rfl rfl rfl (if_pos (e := none) g24) ?_
  replace H := H _ rfl
  generalize am_sr h21 a0 6 (some b20) = h25 at H ⊢
  refine ev_p (pc' := 45) (loc' := [.ref a0, .null]) (st' := [.ref a0]) 1 am_q96 rfl ?_
  refine ev_s (pc' := 48) (loc' := [.ref a0, .null]) (st' := [.ref (am_sz h25), .ref a0]) (h1 := am_nw h25 8 0 3) am_q96 rfl rfl rfl (rfl) ?_
  replace H := H _ rfl _ rfl
  generalize am_nw h25 8 0 3 = h26 at H ⊢
  generalize am_sz h25 = b27 at H ⊢
  refine ev_p (pc' := 49) (loc' := [.ref a0, .null]) (st' := [.ref b27, .ref b27, .ref a0]) 1 am_q96 rfl ?_
  obtain ⟨g30, H⟩ := H
  refine ev_c (vs := [.ref b27]) (rest := [.ref b27, .ref a0]) 69 am_q96 rfl rfl rfl rfl rfl rfl rfl rfl rfl rfl rfl rfl (Or.inr (congrArg some g30)) (Cl.mono H (Nat.le_refl _) (fun r29 h28 H => ?_))
  obtain ⟨rfl, H⟩ := H
  obtain ⟨g31, H⟩ := H
  refine ev_s (pc' := 55) (loc' := [.ref a0, .null]) (st' := []) (h1 := am_sr h28 a0 7 (some b27)) am_q96 rfl rfl rfl (if_pos (e := none) g31) ?_
  replace H := H _ rfl
  generalize am_sr h28 a0 7 (some b27) = h32 at H ⊢
  refine ev_p (pc' := 58) (loc' := [.ref a0, .null]) (st' := [.int (12 : Int32), .ref a0]) 2 am_q96 rfl ?_
  obtain ⟨g35, H⟩ := H
  refine ev_s (pc' := 61) (loc' := [.ref a0, .null]) (st' := [.ref (am_sz h32), .ref a0]) (h1 := am_nw h32 107 (Int32.toNatClampNeg (12 : Int32)) (Int32.toNatClampNeg (12 : Int32))) am_q96 rfl rfl rfl (if_pos (e := none) g35) ?_
  replace H := H _ rfl _ rfl
  generalize am_nw h32 107 (Int32.toNatClampNeg (12 : Int32)) (Int32.toNatClampNeg (12 : Int32)) = h33 at H ⊢
  generalize am_sz h32 = b34 at H ⊢
  obtain ⟨g36, H⟩ := H
  refine ev_s (pc' := 64) (loc' := [.ref a0, .null]) (st' := []) (h1 := am_sr h33 a0 8 (some b34)) am_q96 rfl rfl rfl (if_pos (e := none) g36) ?_
  replace H := H _ rfl
  generalize am_sr h33 a0 8 (some b34) = h37 at H ⊢
  refine ev_p (pc' := 66) (loc' := [.ref a0, .null]) (st' := [.int (-1 : Int32), .ref a0]) 2 am_q96 rfl ?_
  obtain ⟨g38, H⟩ := H
  refine ev_s (pc' := 69) (loc' := [.ref a0, .null]) (st' := []) (h1 := am_si h37 a0 12 (-1 : Int32)) am_q96 rfl rfl rfl (if_pos (e := none) g38) ?_
  replace H := H _ rfl
  generalize am_si h37 a0 12 (-1 : Int32) = h39 at H ⊢
  refine ev_p (pc' := 72) (loc' := [.ref a0, .null]) (st' := [.int (24 : Int32), .ref a0]) 2 am_q96 rfl ?_
  obtain ⟨g42, H⟩ := H
  refine ev_s (pc' := 74) (loc' := [.ref a0, .null]) (st' := [.ref (am_sz h39), .ref a0]) (h1 := am_nw h39 101 (Int32.toNatClampNeg (24 : Int32)) (Int32.toNatClampNeg (24 : Int32))) am_q96 rfl rfl rfl (if_pos (e := none) g42) ?_
  replace H := H _ rfl _ rfl
  generalize am_nw h39 101 (Int32.toNatClampNeg (24 : Int32)) (Int32.toNatClampNeg (24 : Int32)) = h40 at H ⊢
  generalize am_sz h39 = b41 at H ⊢
  obtain ⟨g43, H⟩ := H
  refine ev_s (pc' := 77) (loc' := [.ref a0, .null]) (st' := []) (h1 := am_sr h40 a0 13 (some b41)) am_q96 rfl rfl rfl (if_pos (e := none) g43) ?_
  replace H := H _ rfl
  generalize am_sr h40 a0 13 (some b41) = h44 at H ⊢
  refine ev_p (pc' := 78) (loc' := [.ref a0, .null]) (st' := [.ref a0]) 1 am_q96 rfl ?_
  refine ev_s (pc' := 81) (loc' := [.ref a0, .null]) (st' := [.ref (am_sz h44), .ref a0]) (h1 := am_nw h44 0 0 14) am_q96 rfl rfl rfl (rfl) ?_
  replace H := H _ rfl _ rfl
  generalize am_nw h44 0 0 14 = h45 at H ⊢
  generalize am_sz h44 = b46 at H ⊢
  refine ev_p (pc' := 82) (loc' := [.ref a0, .null]) (st' := [.ref b46, .ref b46, .ref a0]) 1 am_q96 rfl ?_
  obtain ⟨g49, H⟩ := H
  refine ev_c (vs := [.ref b46]) (rest := [.ref b46, .ref a0]) 0 am_q96 rfl rfl rfl rfl rfl rfl rfl rfl rfl rfl rfl rfl (Or.inr (congrArg some g49)) (Cl.mono H (Nat.le_refl _) (fun r48 h47 H => ?_))
  obtain ⟨rfl, H⟩ := H
  obtain ⟨g50, H⟩ := H
  refine ev_s (pc' := 88) (loc' := [.ref a0, .null]) (st' := []) (h1 := am_sr h47 a0 14 (some b46)) am_q96 rfl rfl rfl (if_pos (e := none) g50) ?_
  replace H := H _ rfl
  generalize am_sr h47 a0 14 (some b46) = h51 at H ⊢
  refine ev_p (pc' := 89) (loc' := [.ref a0, .null]) (st' := [.ref a0]) 1 am_q96 rfl ?_
  refine ev_s (pc' := 92) (loc' := [.ref a0, .null]) (st' := [.ref (am_sz h51), .ref a0]) (h1 := am_nw h51 4 0 5) am_q96 rfl rfl rfl (rfl) ?_
  replace H := H _ rfl _ rfl
  generalize am_nw h51 4 0 5 = h52 at H ⊢
  generalize am_sz h51 = b53 at H ⊢
  refine ev_p (pc' := 93) (loc' := [.ref a0, .null]) (st' := [.ref b53, .ref b53, .ref a0]) 1 am_q96 rfl ?_
  obtain ⟨g56, H⟩ := H
  refine ev_c (vs := [.ref b53]) (rest := [.ref b53, .ref a0]) 24 am_q96 rfl rfl rfl rfl rfl rfl rfl rfl rfl rfl rfl rfl (Or.inr (congrArg some g56)) (Cl.mono H (Nat.le_refl _) (fun r55 h54 H => ?_))
  obtain ⟨rfl, H⟩ := H
  obtain ⟨g57, H⟩ := H
  refine ev_s (pc' := 99) (loc' := [.ref a0, .null]) (st' := []) (h1 := am_sr h54 a0 15 (some b53)) am_q96 rfl rfl rfl (if_pos (e := none) g57) ?_
  replace H := H _ rfl
  generalize am_sr h54 a0 15 (some b53) = h58 at H ⊢
  refine ev_p (pc' := 100) (loc' := [.ref a0, .null]) (st' := [.ref a0]) 1 am_q96 rfl ?_
  refine ev_s (pc' := 103) (loc' := [.ref a0, .null]) (st' := [.ref (am_sz h58), .ref a0]) (h1 := am_nw h58 1 0 2) am_q96 rfl rfl rfl (rfl) ?_
  replace H := H _ rfl _ rfl
  generalize am_nw h58 1 0 2 = h59 at H ⊢
  generalize am_sz h58 = b60 at H ⊢
  refine ev_p (pc' := 104) (loc' := [.ref a0, .null]) (st' := [.ref b60, .ref b60, .ref a0]) 1 am_q96 rfl ?_
  obtain ⟨g63, H⟩ := H
  refine ev_c (vs := [.ref b60]) (rest := [.ref b60, .ref a0]) 11 am_q96 rfl rfl rfl rfl rfl rfl rfl rfl rfl rfl rfl rfl (Or.inr (congrArg some g63)) (Cl.mono H (Nat.le_refl _) (fun r62 h61 H => ?_))
  obtain ⟨rfl, H⟩ := H
  obtain ⟨g64, H⟩ := H
  refine ev_s (pc' := 110) (loc' := [.ref a0, .null]) (st' := []) (h1 := am_sr h61 a0 16 (some b60)) am_q96 rfl rfl rfl (if_pos (e := none) g64) ?_
  replace H := H _ rfl
  generalize am_sr h61 a0 16 (some b60) = h65 at H ⊢
  refine ev_p (pc' := 113) (loc' := [.ref a0, .null]) (st' := [.int (6 : Int32), .ref a0]) 2 am_q96 rfl ?_
  obtain ⟨g68, H⟩ := H
  refine ev_s (pc' := 116) (loc' := [.ref a0, .null]) (st' := [.ref (am_sz h65), .ref a0]) (h1 := am_nw h65 108 (Int32.toNatClampNeg (6 : Int32)) (Int32.toNatClampNeg (6 : Int32))) am_q96 rfl rfl rfl (if_pos (e := none) g68) ?_
  replace H := H _ rfl _ rfl
  generalize am_nw h65 108 (Int32.toNatClampNeg (6 : Int32)) (Int32.toNatClampNeg (6 : Int32)) = h66 at H ⊢
  generalize am_sz h65 = b67 at H ⊢
  obtain ⟨g69, H⟩ := H
  refine ev_s (pc' := 119) (loc' := [.ref a0, .null]) (st' := []) (h1 := am_sr h66 a0 17 (some b67)) am_q96 rfl rfl rfl (if_pos (e := none) g69) ?_
  replace H := H _ rfl
  generalize am_sr h66 a0 17 (some b67) = h70 at H ⊢
  refine ev_p (pc' := 121) (loc' := [.ref a0, .int (0 : Int32)]) (st' := []) 2 am_q96 rfl ?_
  exact ev_m (loc' := [.ref a0, .int (0 : Int32)]) am_q96 rfl rfl H
set_option maxRecDepth 20000 in
set_option maxHeartbeats 2000000 in
theorem wp96_121 {d : Nat} (a0 : Nat) (i1 : Int32) {h : AH} {Q : Option Value → AH → Prop} (H : ((12 : Int32) ≤ i1 → Ev (d + 1) 96 148 [.ref a0, .int (0 : Int32)] [] h Q) ∧ (¬ (12 : Int32) ≤ i1 → am_kd h a0 = 11 ∧ ∃ b2, am_gr h a0 1 = some b2 ∧ ∀ b5, b5 = am_sz h → ∀ h4, h4 = am_nw h 2 0 5 → am_kd h4 b5 = 2 ∧ Cl d 17 [.ref b5] h4 (fun r7 h6 => r7 = none ∧ (104 ≤ am_kd h6 b2 ∧ am_kd h6 b2 ≤ 108 ∧ am_kd h6 b5 = am_cmpn (am_kd h6 b2)) ∧ am_in i1 (am_ln h6 b2) ∧ ∀ h11, h11 = am_sr h6 b2 (Int32.toNatClampNeg i1) (some b5) → Ev (d + 1) 96 121 [.ref a0, .int (i1 + (1 : Int32))] [] h11 Q))) : Ev (d + 1) 96 121 [.ref a0, .int i1] [] h Q := by
  refine ev_p (pc' := 124) (loc' := [.ref a0, .int i1]) (st' := [.int (12 : Int32), .int i1]) 2 am_q96 rfl ?_
  refine ev_jc (t := 146) am_q96 rfl rfl (fun hq => ?_) (fun hq => ?_)
  · replace H := H.1 hq
    refine ev_p (pc' := 148) (loc' := [.ref a0, .int (0 : Int32)]) (st' := []) 2 am_q96 rfl ?_
    exact ev_m (loc' := [.ref a0, .int (0 : Int32)]) am_q96 rfl rfl H
  · replace H := H.2 hq
    refine ev_p (pc' := 128) (loc' := [.ref a0, .int i1]) (st' := [.ref a0]) 1 am_q96 rfl ?_
    obtain ⟨g1, b2, e3, H⟩ := H
    refine ev_s (pc' := 131) (loc' := [.ref a0, .int i1]) (st' := [.ref b2]) (h1 := h) am_q96 rfl rfl rfl (am_gf2 g1 e3) ?_
    refine ev_p (pc' := 132) (loc' := [.ref a0, .int i1]) (st' := [.int i1, .ref b2]) 1 am_q96 rfl ?_
    refine ev_s (pc' := 135) (loc' := [.ref a0, .int i1]) (st' := [.ref (am_sz h), .int i1, .ref b2]) (h1 := am_nw h 2 0 5) am_q96 rfl rfl rfl (rfl) ?_
    replace H := H _ rfl _ rfl
    generalize am_nw h 2 0 5 = h4 at H ⊢
    generalize am_sz h = b5 at H ⊢
    refine ev_p (pc' := 136) (loc' := [.ref a0, .int i1]) (st' := [.ref b5, .ref b5, .int i1, .ref b2]) 1 am_q96 rfl ?_
    obtain ⟨g8, H⟩ := H
    refine ev_c (vs := [.ref b5]) (rest := [.ref b5, .int i1, .ref b2]) 17 am_q96 rfl rfl rfl rfl rfl rfl rfl rfl rfl rfl rfl rfl (Or.inr (congrArg some g8)) (Cl.mono H (Nat.le_refl _) (fun r7 h6 H => ?_))
    obtain ⟨rfl, H⟩ := H
    obtain ⟨g9, g10, H⟩ := H
    refine ev_s (pc' := 140) (loc' := [.ref a0, .int i1]) (st' := []) (h1 := am_sr h6 b2 (Int32.toNatClampNeg i1) (some b5)) am_q96 rfl rfl rfl (am_xx g9 g10) ?_
    replace H := H _ rfl
    generalize am_sr h6 b2 (Int32.toNatClampNeg i1) (some b5) = h11 at H ⊢
    refine ev_p (pc' := 121) (loc' := [.ref a0, .int (i1 + (1 : Int32))]) (st' := []) 2 am_q96 rfl ?_
    exact ev_m (loc' := [.ref a0, .int (i1 + (1 : Int32))]) am_q96 rfl rfl H
set_option maxRecDepth 20000 in
set_option maxHeartbeats 2000000 in
theorem wp96_148 {d : Nat} (a0 : Nat) (i1 : Int32) {h : AH} {Q : Option Value → AH → Prop} (H : ((24 : Int32) ≤ i1 → Ev (d + 1) 96 175 [.ref a0, .int (0 : Int32)] [] h Q) ∧ (¬ (24 : Int32) ≤ i1 → am_kd h a0 = 11 ∧ ∃ b2, am_gr h a0 3 = some b2 ∧ ∀ b5, b5 = am_sz h → ∀ h4, h4 = am_nw h 3 0 6 → am_kd h4 b5 = 3 ∧ Cl d 19 [.ref b5] h4 (fun r7 h6 => r7 = none ∧ (104 ≤ am_kd h6 b2 ∧ am_kd h6 b2 ≤ 108 ∧ am_kd h6 b5 = am_cmpn (am_kd h6 b2)) ∧ am_in i1 (am_ln h6 b2) ∧ ∀ h11, h11 = am_sr h6 b2 (Int32.toNatClampNeg i1) (some b5) → Ev (d + 1) 96 148 [.ref a0, .int (i1 + (1 : Int32))] [] h11 Q))) : Ev (d + 1) 96 148 [.ref a0, .int i1] [] h Q := by
  refine ev_p (pc' := 151) (loc' := [.ref a0, .int i1]) (st' := [.int (24 : Int32), .int i1]) 2 am_q96 rfl ?_
  refine ev_jc (t := 173) am_q96 rfl rfl (fun hq => ?_) (fun hq => ?_)
  · replace H := H.1 hq
    refine ev_p (pc' := 175) (loc' := [.ref a0, .int (0 : Int32)]) (st' := []) 2 am_q96 rfl ?_
    exact ev_m (loc' := [.ref a0, .int (0 : Int32)]) am_q96 rfl rfl H
  · replace H := H.2 hq
    refine ev_p (pc' := 155) (loc' := [.ref a0, .int i1]) (st' := [.ref a0]) 1 am_q96 rfl ?_
    obtain ⟨g1, b2, e3, H⟩ := H
    refine ev_s (pc' := 158) (loc' := [.ref a0, .int i1]) (st' := [.ref b2]) (h1 := h) am_q96 rfl rfl rfl (am_gf2 g1 e3) ?_
    refine ev_p (pc' := 159) (loc' := [.ref a0, .int i1]) (st' := [.int i1, .ref b2]) 1 am_q96 rfl ?_
    refine ev_s (pc' := 162) (loc' := [.ref a0, .int i1]) (st' := [.ref (am_sz h), .int i1, .ref b2]) (h1 := am_nw h 3 0 6) am_q96 rfl rfl rfl (rfl) ?_
    replace H := H _ rfl _ rfl
    generalize am_nw h 3 0 6 = h4 at H ⊢
    generalize am_sz h = b5 at H ⊢
    refine ev_p (pc' := 163) (loc' := [.ref a0, .int i1]) (st' := [.ref b5, .ref b5, .int i1, .ref b2]) 1 am_q96 rfl ?_
    obtain ⟨g8, H⟩ := H
    refine ev_c (vs := [.ref b5]) (rest := [.ref b5, .int i1, .ref b2]) 19 am_q96 rfl rfl rfl rfl rfl rfl rfl rfl rfl rfl rfl rfl (Or.inr (congrArg some g8)) (Cl.mono H (Nat.le_refl _) (fun r7 h6 H => ?_))
    obtain ⟨rfl, H⟩ := H
    obtain ⟨g9, g10, H⟩ := H
    refine ev_s (pc' := 167) (loc' := [.ref a0, .int i1]) (st' := []) (h1 := am_sr h6 b2 (Int32.toNatClampNeg i1) (some b5)) am_q96 rfl rfl rfl (am_xx g9 g10) ?_
    replace H := H _ rfl
    generalize am_sr h6 b2 (Int32.toNatClampNeg i1) (some b5) = h11 at H ⊢
    refine ev_p (pc' := 148) (loc' := [.ref a0, .int (i1 + (1 : Int32))]) (st' := []) 2 am_q96 rfl ?_
    exact ev_m (loc' := [.ref a0, .int (i1 + (1 : Int32))]) am_q96 rfl rfl H
set_option maxRecDepth 20000 in
set_option maxHeartbeats 2000000 in
theorem wp96_175 {d : Nat} (a0 : Nat) (i1 : Int32) {h : AH} {Q : Option Value → AH → Prop} (H : ((12 : Int32) ≤ i1 → Ev (d + 1) 96 202 [.ref a0, .int (0 : Int32)] [] h Q) ∧ (¬ (12 : Int32) ≤ i1 → am_kd h a0 = 11 ∧ ∃ b2, am_gr h a0 8 = some b2 ∧ ∀ b5, b5 = am_sz h → ∀ h4, h4 = am_nw h 9 0 9 → am_kd h4 b5 = 9 ∧ Cl d 75 [.ref b5] h4 (fun r7 h6 => r7 = none ∧ (104 ≤ am_kd h6 b2 ∧ am_kd h6 b2 ≤ 108 ∧ am_kd h6 b5 = am_cmpn (am_kd h6 b2)) ∧ am_in i1 (am_ln h6 b2) ∧ ∀ h11, h11 = am_sr h6 b2 (Int32.toNatClampNeg i1) (some b5) → Ev (d + 1) 96 175 [.ref a0, .int (i1 + (1 : Int32))] [] h11 Q))) : Ev (d + 1) 96 175 [.ref a0, .int i1] [] h Q := by
  refine ev_p (pc' := 178) (loc' := [.ref a0, .int i1]) (st' := [.int (12 : Int32), .int i1]) 2 am_q96 rfl ?_
  refine ev_jc (t := 200) am_q96 rfl rfl (fun hq => ?_) (fun hq => ?_)
  · replace H := H.1 hq
    refine ev_p (pc' := 202) (loc' := [.ref a0, .int (0 : Int32)]) (st' := []) 2 am_q96 rfl ?_
    exact ev_m (loc' := [.ref a0, .int (0 : Int32)]) am_q96 rfl rfl H
  · replace H := H.2 hq
    refine ev_p (pc' := 182) (loc' := [.ref a0, .int i1]) (st' := [.ref a0]) 1 am_q96 rfl ?_
    obtain ⟨g1, b2, e3, H⟩ := H
    refine ev_s (pc' := 185) (loc' := [.ref a0, .int i1]) (st' := [.ref b2]) (h1 := h) am_q96 rfl rfl rfl (am_gf2 g1 e3) ?_
    refine ev_p (pc' := 186) (loc' := [.ref a0, .int i1]) (st' := [.int i1, .ref b2]) 1 am_q96 rfl ?_
    refine ev_s (pc' := 189) (loc' := [.ref a0, .int i1]) (st' := [.ref (am_sz h), .int i1, .ref b2]) (h1 := am_nw h 9 0 9) am_q96 rfl rfl rfl (rfl) ?_
    replace H := H _ rfl _ rfl
    generalize am_nw h 9 0 9 = h4 at H ⊢
    generalize am_sz h = b5 at H ⊢
    refine ev_p (pc' := 190) (loc' := [.ref a0, .int i1]) (st' := [.ref b5, .ref b5, .int i1, .ref b2]) 1 am_q96 rfl ?_
    obtain ⟨g8, H⟩ := H
    refine ev_c (vs := [.ref b5]) (rest := [.ref b5, .int i1, .ref b2]) 75 am_q96 rfl rfl rfl rfl rfl rfl rfl rfl rfl rfl rfl rfl (Or.inr (congrArg some g8)) (Cl.mono H (Nat.le_refl _) (fun r7 h6 H => ?_))
    obtain ⟨rfl, H⟩ := H
    obtain ⟨g9, g10, H⟩ := H
    refine ev_s (pc' := 194) (loc' := [.ref a0, .int i1]) (st' := []) (h1 := am_sr h6 b2 (Int32.toNatClampNeg i1) (some b5)) am_q96 rfl rfl rfl (am_xx g9 g10) ?_
    replace H := H _ rfl
    generalize am_sr h6 b2 (Int32.toNatClampNeg i1) (some b5) = h11 at H ⊢
    refine ev_p (pc' := 175) (loc' := [.ref a0, .int (i1 + (1 : Int32))]) (st' := []) 2 am_q96 rfl ?_
    exact ev_m (loc' := [.ref a0, .int (i1 + (1 : Int32))]) am_q96 rfl rfl H
set_option maxRecDepth 20000 in
set_option maxHeartbeats 2000000 in
theorem wp96_202 {d : Nat} (a0 : Nat) (i1 : Int32) {h : AH} {Q : Option Value → AH → Prop} (H : ((6 : Int32) ≤ i1 → Ev (d + 1) 96 229 [.ref a0, .int (0 : Int32)] [] h Q) ∧ (¬ (6 : Int32) ≤ i1 → am_kd h a0 = 11 ∧ ∃ b2, am_gr h a0 17 = some b2 ∧ ∀ b5, b5 = am_sz h → ∀ h4, h4 = am_nw h 10 0 8 → am_kd h4 b5 = 10 ∧ Cl d 82 [.ref b5] h4 (fun r7 h6 => r7 = none ∧ (104 ≤ am_kd h6 b2 ∧ am_kd h6 b2 ≤ 108 ∧ am_kd h6 b5 = am_cmpn (am_kd h6 b2)) ∧ am_in i1 (am_ln h6 b2) ∧ ∀ h11, h11 = am_sr h6 b2 (Int32.toNatClampNeg i1) (some b5) → Ev (d + 1) 96 202 [.ref a0, .int (i1 + (1 : Int32))] [] h11 Q))) : Ev (d + 1) 96 202 [.ref a0, .int i1] [] h Q := by
  refine ev_p (pc' := 205) (loc' := [.ref a0, .int i1]) (st' := [.int (6 : Int32), .int i1]) 2 am_q96 rfl ?_
  refine ev_jc (t := 227) am_q96 rfl rfl (fun hq => ?_) (fun hq => ?_)
  · replace H := H.1 hq
    refine ev_p (pc' := 229) (loc' := [.ref a0, .int (0 : Int32)]) (st' := []) 2 am_q96 rfl ?_
    exact ev_m (loc' := [.ref a0, .int (0 : Int32)]) am_q96 rfl rfl H
  · replace H := H.2 hq
    refine ev_p (pc' := 209) (loc' := [.ref a0, .int i1]) (st' := [.ref a0]) 1 am_q96 rfl ?_
    obtain ⟨g1, b2, e3, H⟩ := H
    refine ev_s (pc' := 212) (loc' := [.ref a0, .int i1]) (st' := [.ref b2]) (h1 := h) am_q96 rfl rfl rfl (am_gf2 g1 e3) ?_
    refine ev_p (pc' := 213) (loc' := [.ref a0, .int i1]) (st' := [.int i1, .ref b2]) 1 am_q96 rfl ?_
    refine ev_s (pc' := 216) (loc' := [.ref a0, .int i1]) (st' := [.ref (am_sz h), .int i1, .ref b2]) (h1 := am_nw h 10 0 8) am_q96 rfl rfl rfl (rfl) ?_
    replace H := H _ rfl _ rfl
    generalize am_nw h 10 0 8 = h4 at H ⊢
    generalize am_sz h = b5 at H ⊢
    refine ev_p (pc' := 217) (loc' := [.ref a0, .int i1]) (st' := [.ref b5, .ref b5, .int i1, .ref b2]) 1 am_q96 rfl ?_
    obtain ⟨g8, H⟩ := H
    refine ev_c (vs := [.ref b5]) (rest := [.ref b5, .int i1, .ref b2]) 82 am_q96 rfl rfl rfl rfl rfl rfl rfl rfl rfl rfl rfl rfl (Or.inr (congrArg some g8)) (Cl.mono H (Nat.le_refl _) (fun r7 h6 H => ?_))
    obtain ⟨rfl, H⟩ := H
    obtain ⟨g9, g10, H⟩ := H
    refine ev_s (pc' := 221) (loc' := [.ref a0, .int i1]) (st' := []) (h1 := am_sr h6 b2 (Int32.toNatClampNeg i1) (some b5)) am_q96 rfl rfl rfl (am_xx g9 g10) ?_
    replace H := H _ rfl
    generalize am_sr h6 b2 (Int32.toNatClampNeg i1) (some b5) = h11 at H ⊢
    refine ev_p (pc' := 202) (loc' := [.ref a0, .int (i1 + (1 : Int32))]) (st' := []) 2 am_q96 rfl ?_
    exact ev_m (loc' := [.ref a0, .int (i1 + (1 : Int32))]) am_q96 rfl rfl H
set_option maxRecDepth 20000 in
set_option maxHeartbeats 2000000 in
theorem wp96_229 {d : Nat} (a0 : Nat) (i1 : Int32) {h : AH} {Q : Option Value → AH → Prop} (H : am_kd h 2 = 200 ∧ ((Int32.ofNat (am_ln h (2 + 1))) ≤ i1 → am_kd h a0 = 11 ∧ ∃ b3, am_gr h a0 6 = some b3 ∧ am_kd h b3 = 5 ∧ Cl d 33 [.ref b3] h (fun r6 h5 => r6 = none ∧ am_kd h5 a0 = 11 ∧ ∃ b9, am_gr h5 a0 8 = some b9 ∧ (104 ≤ am_kd h5 b9 ∧ am_kd h5 b9 ≤ 109) ∧ am_in (0 : Int32) (am_ln h5 b9) ∧ ∃ b13, am_gr h5 b9 (Int32.toNatClampNeg (0 : Int32)) = some b13 ∧ am_kd h5 a0 = 11 ∧ ∃ b16, am_gr h5 a0 6 = some b16 ∧ am_kd h5 b13 = 9 ∧ Cl d 76 [.ref b13, .ref b16] h5 (fun r19 h18 => r19 = none ∧ am_kd h18 a0 = 11 ∧ ∃ b22, am_gr h18 a0 8 = some b22 ∧ (104 ≤ am_kd h18 b22 ∧ am_kd h18 b22 ≤ 109) ∧ am_in (0 : Int32) (am_ln h18 b22) ∧ ∃ b26, am_gr h18 b22 (Int32.toNatClampNeg (0 : Int32)) = some b26 ∧ am_kd h18 b26 = 9 ∧ Cl d 81 [.ref b26, .int (0 : Int32), .int (0 : Int32), .int (-1 : Int32)] h18 (fun r29 h28 => r29 = none ∧ am_kd h28 a0 = 11 ∧ ∃ b32, am_gr h28 a0 6 = some b32 ∧ am_kd h28 b32 = 5 ∧ Cl d 32 [.ref b32] h28 (fun r35 h34 => r35 = none ∧ am_kd h34 a0 = 11 ∧ ∀ h38, h38 = am_si h34 a0 9 (1 : Int32) → Q none h38))))) ∧ (¬ (Int32.ofNat (am_ln h (2 + 1))) ≤ i1 → am_kd h a0 = 11 ∧ ∃ b40, am_gr h a0 6 = some b40 ∧ am_kd h 2 = 200 ∧ am_in i1 (am_ln h (2 + 1)) ∧ am_kd h b40 = 5 ∧ Cl d 31 [.ref b40, .int (am_gi h (2 + 1) (Int32.toNatClampNeg i1) &&& 255)] h (fun r45 h44 => r45 = none ∧ Ev (d + 1) 96 229 [.ref a0, .int (i1 + (1 : Int32))] [] h44 Q))) : Ev (d + 1) 96 229 [.ref a0, .int i1] [] h Q := by
  refine ev_p (pc' := 232) (loc' := [.ref a0, .int i1]) (st' := [.ref 2, .int i1]) 2 am_q96 rfl ?_
  obtain ⟨g1, H⟩ := H
  refine ev_b (st' := [.int (Int32.ofNat (am_ln h (2 + 1))), .int i1]) (h1 := h) am_q96 rfl rfl rfl rfl (if_pos (e := none) g1) rfl ?_
  refine ev_jc (t := 257) am_q96 rfl rfl (fun hq => ?_) (fun hq => ?_)
  · replace H := H.1 hq
    refine ev_p (pc' := 258) (loc' := [.ref a0, .int i1]) (st' := [.ref a0]) 1 am_q96 rfl ?_
    obtain ⟨g2, b3, e4, H⟩ := H
    refine ev_s (pc' := 261) (loc' := [.ref a0, .int i1]) (st' := [.ref b3]) (h1 := h) am_q96 rfl rfl rfl (am_gf2 g2 e4) ?_
    obtain ⟨g7, H⟩ := H
    refine ev_c (vs := [.ref b3]) (rest := []) 33 am_q96 rfl rfl rfl rfl rfl rfl rfl rfl rfl rfl rfl rfl (Or.inr (congrArg some g7)) (Cl.mono H (Nat.le_refl _) (fun r6 h5 H => ?_))
    obtain ⟨rfl, H⟩ := H
    refine ev_p (pc' := 265) (loc' := [.ref a0, .int i1]) (st' := [.ref a0]) 1 am_q96 rfl ?_
    obtain ⟨g8, b9, e10, H⟩ := H
    refine ev_s (pc' := 268) (loc' := [.ref a0, .int i1]) (st' := [.ref b9]) (h1 := h5) am_q96 rfl rfl rfl (am_gf2 g8 e10) ?_
    refine ev_p (pc' := 269) (loc' := [.ref a0, .int i1]) (st' := [.int (0 : Int32), .ref b9]) 1 am_q96 rfl ?_
    obtain ⟨g11, g12, b13, e14, H⟩ := H
    refine ev_s (pc' := 270) (loc' := [.ref a0, .int i1]) (st' := [.ref b13]) (h1 := h5) am_q96 rfl rfl rfl (am_xa g11 g12 e14) ?_
    refine ev_p (pc' := 271) (loc' := [.ref a0, .int i1]) (st' := [.ref a0, .ref b13]) 1 am_q96 rfl ?_
    obtain ⟨g15, b16, e17, H⟩ := H
    refine ev_s (pc' := 274) (loc' := [.ref a0, .int i1]) (st' := [.ref b16, .ref b13]) (h1 := h5) am_q96 rfl rfl rfl (am_gf2 g15 e17) ?_
    obtain ⟨g20, H⟩ := H
    refine ev_c (vs := [.ref b13, .ref b16]) (rest := []) 76 am_q96 rfl rfl rfl rfl rfl rfl rfl rfl rfl rfl rfl rfl (Or.inr (congrArg some g20)) (Cl.mono H (Nat.le_refl _) (fun r19 h18 H => ?_))
    obtain ⟨rfl, H⟩ := H
    refine ev_p (pc' := 278) (loc' := [.ref a0, .int i1]) (st' := [.ref a0]) 1 am_q96 rfl ?_
    obtain ⟨g21, b22, e23, H⟩ := H
    refine ev_s (pc' := 281) (loc' := [.ref a0, .int i1]) (st' := [.ref b22]) (h1 := h18) am_q96 rfl rfl rfl (am_gf2 g21 e23) ?_
    refine ev_p (pc' := 282) (loc' := [.ref a0, .int i1]) (st' := [.int (0 : Int32), .ref b22]) 1 am_q96 rfl ?_
    obtain ⟨g24, g25, b26, e27, H⟩ := H
    refine ev_s (pc' := 283) (loc' := [.ref a0, .int i1]) (st' := [.ref b26]) (h1 := h18) am_q96 rfl rfl rfl (am_xa g24 g25 e27) ?_
    refine ev_p (pc' := 286) (loc' := [.ref a0, .int i1]) (st' := [.int (-1 : Int32), .int (0 : Int32), .int (0 : Int32), .ref b26]) 3 am_q96 rfl ?_
    obtain ⟨g30, H⟩ := H
    refine ev_c (vs := [.ref b26, .int (0 : Int32), .int (0 : Int32), .int (-1 : Int32)]) (rest := []) 81 am_q96 rfl rfl rfl rfl rfl rfl rfl rfl rfl rfl rfl rfl (Or.inr (congrArg some g30)) (Cl.mono H (Nat.le_refl _) (fun r29 h28 H => ?_))
    obtain ⟨rfl, H⟩ := H
    refine ev_p (pc' := 290) (loc' := [.ref a0, .int i1]) (st' := [.ref a0]) 1 am_q96 rfl ?_
    obtain ⟨g31, b32, e33, H⟩ := H
    refine ev_s (pc' := 293) (loc' := [.ref a0, .int i1]) (st' := [.ref b32]) (h1 := h28) am_q96 rfl rfl rfl (am_gf2 g31 e33) ?_
    obtain ⟨g36, H⟩ := H
    refine ev_c (vs := [.ref b32]) (rest := []) 32 am_q96 rfl rfl rfl rfl rfl rfl rfl rfl rfl rfl rfl rfl (Or.inr (congrArg some g36)) (Cl.mono H (Nat.le_refl _) (fun r35 h34 H => ?_))
    obtain ⟨rfl, H⟩ := H
    refine ev_p (pc' := 298) (loc' := [.ref a0, .int i1]) (st' := [.int (1 : Int32), .ref a0]) 2 am_q96 rfl ?_
    obtain ⟨g37, H⟩ := H
    refine ev_s (pc' := 301) (loc' := [.ref a0, .int i1]) (st' := []) (h1 := am_si h34 a0 9 (1 : Int32)) am_q96 rfl rfl rfl (if_pos (e := none) g37) ?_
    replace H := H _ rfl
    generalize am_si h34 a0 9 (1 : Int32) = h38 at H ⊢
    exact ev_r (v := none) am_q96 rfl rfl rfl rfl H
  · replace H := H.2 hq
    refine ev_p (pc' := 239) (loc' := [.ref a0, .int i1]) (st' := [.ref a0]) 1 am_q96 rfl ?_
    obtain ⟨g39, b40, e41, H⟩ := H
    refine ev_s (pc' := 242) (loc' := [.ref a0, .int i1]) (st' := [.ref b40]) (h1 := h) am_q96 rfl rfl rfl (am_gf2 g39 e41) ?_
    refine ev_p (pc' := 245) (loc' := [.ref a0, .int i1]) (st' := [.int i1, .ref 2, .ref b40]) 2 am_q96 rfl ?_
    obtain ⟨g42, g43, H⟩ := H
    refine ev_b (st' := [.int (am_gi h (2 + 1) (Int32.toNatClampNeg i1) &&& 255), .ref b40]) (h1 := h) am_q96 rfl rfl rfl rfl (am_b6 g42 g43) rfl ?_
    obtain ⟨g46, H⟩ := H
    refine ev_c (vs := [.ref b40, .int (am_gi h (2 + 1) (Int32.toNatClampNeg i1) &&& 255)]) (rest := []) 31 am_q96 rfl rfl rfl rfl rfl rfl rfl rfl rfl rfl rfl rfl (Or.inr (congrArg some g46)) (Cl.mono H (Nat.le_refl _) (fun r45 h44 H => ?_))
    obtain ⟨rfl, H⟩ := H
    refine ev_p (pc' := 229) (loc' := [.ref a0, .int (i1 + (1 : Int32))]) (st' := []) 2 am_q96 rfl ?_
    exact ev_m (loc' := [.ref a0, .int (i1 + (1 : Int32))]) am_q96 rfl rfl H
/-! 97: X11_day -/
theorem am_q97 : (am_mt 97).2.2.2.2.2 = am_m97.2.2.2.2.2 := rfl
set_option maxRecDepth 20000 in
set_option maxHeartbeats 2000000 in
theorem wp97 {d : Nat} (a0 : Nat) (i1 : Int32) {h : AH} {Q : Option Value → AH → Prop} (H : (i1 < (0 : Int32) → Q (some (.int (-2 : Int32))) h) ∧ (¬ i1 < (0 : Int32) → (i1 ≤ (10000 : Int32) → am_kd h a0 = 11 ∧ (((am_gi h a0 0) + i1) ≤ (1000000 : Int32) → am_kd h a0 = 11 ∧ am_kd h a0 = 11 ∧ ∀ h4, h4 = am_si h a0 0 ((am_gi h a0 0) + i1) → am_kd h4 a0 = 11 ∧ Q (some (.int (am_gi h4 a0 0))) h4) ∧ (¬ ((am_gi h a0 0) + i1) ≤ (1000000 : Int32) → Q (some (.int (-4 : Int32))) h)) ∧ (¬ i1 ≤ (10000 : Int32) → Q (some (.int (-2 : Int32))) h))) : Cl d 97 [.ref a0, .int i1] h Q := by
  show Ev d 97 0 [.ref a0, .int i1] [] h Q
  refine ev_p (pc' := 1) (loc' := [.ref a0, .int i1]) (st' := [.int i1]) 1 am_q97 rfl ?_
  refine ev_jz (t := 11) am_q97 rfl rfl (fun hq => ?_) (fun hq => ?_)
  · replace H := H.1 hq
    refine ev_p (pc' := 13) (loc' := [.null, .null]) (st' := [.int (-2 : Int32)]) 1 am_q97 rfl ?_
    exact ev_r (v := some (.int (-2 : Int32))) am_q97 rfl rfl rfl rfl H
  · replace H := H.2 hq
    refine ev_p (pc' := 8) (loc' := [.ref a0, .int i1]) (st' := [.int (10000 : Int32), .int i1]) 2 am_q97 rfl ?_
    refine ev_jc (t := 14) am_q97 rfl rfl (fun hq => ?_) (fun hq => ?_)
    · replace H := H.1 hq
      refine ev_p (pc' := 15) (loc' := [.ref a0, .int i1]) (st' := [.ref a0]) 1 am_q97 rfl ?_
      obtain ⟨g1, H⟩ := H
      refine ev_s (pc' := 18) (loc' := [.ref a0, .int i1]) (st' := [.int (am_gi h a0 0)]) (h1 := h) am_q97 rfl rfl rfl (if_pos (e := none) g1) ?_
      refine ev_p (pc' := 22) (loc' := [.ref a0, .int i1]) (st' := [.int (1000000 : Int32), .int ((am_gi h a0 0) + i1)]) 3 am_q97 rfl ?_
      refine ev_jc (t := 28) am_q97 rfl rfl (fun hq => ?_) (fun hq => ?_)
      · replace H := H.1 hq
        refine ev_p (pc' := 30) (loc' := [.ref a0, .int i1]) (st' := [.ref a0, .ref a0]) 2 am_q97 rfl ?_
        obtain ⟨g2, H⟩ := H
        refine ev_s (pc' := 33) (loc' := [.ref a0, .int i1]) (st' := [.int (am_gi h a0 0), .ref a0]) (h1 := h) am_q97 rfl rfl rfl (if_pos (e := none) g2) ?_
        refine ev_p (pc' := 35) (loc' := [.ref a0, .int i1]) (st' := [.int ((am_gi h a0 0) + i1), .ref a0]) 2 am_q97 rfl ?_
        obtain ⟨g3, H⟩ := H
        refine ev_s (pc' := 38) (loc' := [.ref a0, .int i1]) (st' := []) (h1 := am_si h a0 0 ((am_gi h a0 0) + i1)) am_q97 rfl rfl rfl (if_pos (e := none) g3) ?_
        replace H := H _ rfl
        generalize am_si h a0 0 ((am_gi h a0 0) + i1) = h4 at H ⊢
        refine ev_p (pc' := 39) (loc' := [.ref a0, .int i1]) (st' := [.ref a0]) 1 am_q97 rfl ?_
        obtain ⟨g5, H⟩ := H
        refine ev_s (pc' := 42) (loc' := [.ref a0, .int i1]) (st' := [.int (am_gi h4 a0 0)]) (h1 := h4) am_q97 rfl rfl rfl (if_pos (e := none) g5) ?_
        exact ev_r (v := some (.int (am_gi h4 a0 0))) am_q97 rfl rfl rfl rfl H
      · replace H := H.2 hq
        refine ev_p (pc' := 27) (loc' := [.ref a0, .int i1]) (st' := [.int (-4 : Int32)]) 1 am_q97 rfl ?_
        exact ev_r (v := some (.int (-4 : Int32))) am_q97 rfl rfl rfl rfl H
    · replace H := H.2 hq
      refine ev_p (pc' := 13) (loc' := [.null, .null]) (st' := [.int (-2 : Int32)]) 1 am_q97 rfl ?_
      exact ev_r (v := some (.int (-2 : Int32))) am_q97 rfl rfl rfl rfl H
/-! 98: X11_home -/
theorem am_q98 : (am_mt 98).2.2.2.2.2 = am_m98.2.2.2.2.2 := rfl
set_option maxRecDepth 20000 in
set_option maxHeartbeats 2000000 in
theorem wp98 {d : Nat} (a0 : Nat) (i1 : Int32) (i2 : Int32) (i3 : Int32) {h : AH} {Q : Option Value → AH → Prop} (H : (i1 < (0 : Int32) → Q (some (.int (-2 : Int32))) h) ∧ (¬ i1 < (0 : Int32) → ((3 : Int32) < i1 → Q (some (.int (-2 : Int32))) h) ∧ (¬ (3 : Int32) < i1 → (i2 < (1 : Int32) → Q (some (.int (-2 : Int32))) h) ∧ (¬ i2 < (1 : Int32) → ((6 : Int32) < i2 → Q (some (.int (-2 : Int32))) h) ∧ (¬ (6 : Int32) < i2 → (i3 < (1 : Int32) → Q (some (.int (-2 : Int32))) h) ∧ (¬ i3 < (1 : Int32) → (i3 ≤ (100 : Int32) → am_kd h a0 = 11 ∧ ((am_gi h a0 2) < (12 : Int32) → am_kd h a0 = 11 ∧ ∃ b3, am_gr h a0 1 = some b3 ∧ am_kd h a0 = 11 ∧ (104 ≤ am_kd h b3 ∧ am_kd h b3 ≤ 109) ∧ am_in (am_gi h a0 2) (am_ln h b3) ∧ ∃ b8, am_gr h b3 (Int32.toNatClampNeg (am_gi h a0 2)) = some b8 ∧ am_kd h b8 = 2 ∧ Cl d 18 [.ref b8, .int i1, .int i2, .int i3] h (fun r11 h10 => r11 = none ∧ am_kd h10 a0 = 11 ∧ am_kd h10 a0 = 11 ∧ ∀ h15, h15 = am_si h10 a0 2 ((am_gi h10 a0 2) + (1 : Int32)) → am_kd h15 a0 = 11 ∧ Q (some (.int ((am_gi h15 a0 2) - (1 : Int32)))) h15)) ∧ (¬ (am_gi h a0 2) < (12 : Int32) → Q (some (.int (-4 : Int32))) h)) ∧ (¬ i3 ≤ (100 : Int32) → Q (some (.int (-2 : Int32))) h))))))) : Cl (d + 1) 98 [.ref a0, .int i1, .int i2, .int i3] h Q := by
  show Ev (d + 1) 98 0 [.ref a0, .int i1, .int i2, .int i3] [] h Q
  refine ev_p (pc' := 1) (loc' := [.ref a0, .int i1, .int i2, .int i3]) (st' := [.int i1]) 1 am_q98 rfl ?_
  refine ev_jz (t := 31) am_q98 rfl rfl (fun hq => ?_) (fun hq => ?_)
  · replace H := H.1 hq
    refine ev_p (pc' := 33) (loc' := [.null, .null, .null, .null]) (st' := [.int (-2 : Int32)]) 1 am_q98 rfl ?_
    exact ev_r (v := some (.int (-2 : Int32))) am_q98 rfl rfl rfl rfl H
  · replace H := H.2 hq
    refine ev_p (pc' := 6) (loc' := [.ref a0, .int i1, .int i2, .int i3]) (st' := [.int (3 : Int32), .int i1]) 2 am_q98 rfl ?_
    refine ev_jc (t := 31) am_q98 rfl rfl (fun hq => ?_) (fun hq => ?_)
    · replace H := H.1 hq
      refine ev_p (pc' := 33) (loc' := [.null, .null, .null, .null]) (st' := [.int (-2 : Int32)]) 1 am_q98 rfl ?_
      exact ev_r (v := some (.int (-2 : Int32))) am_q98 rfl rfl rfl rfl H
    · replace H := H.2 hq
      refine ev_p (pc' := 11) (loc' := [.ref a0, .int i1, .int i2, .int i3]) (st' := [.int (1 : Int32), .int i2]) 2 am_q98 rfl ?_
      refine ev_jc (t := 31) am_q98 rfl rfl (fun hq => ?_) (fun hq => ?_)
      · replace H := H.1 hq
        refine ev_p (pc' := 33) (loc' := [.null, .null, .null, .null]) (st' := [.int (-2 : Int32)]) 1 am_q98 rfl ?_
        exact ev_r (v := some (.int (-2 : Int32))) am_q98 rfl rfl rfl rfl H
      · replace H := H.2 hq
        refine ev_p (pc' := 17) (loc' := [.ref a0, .int i1, .int i2, .int i3]) (st' := [.int (6 : Int32), .int i2]) 2 am_q98 rfl ?_
        refine ev_jc (t := 31) am_q98 rfl rfl (fun hq => ?_) (fun hq => ?_)
        · replace H := H.1 hq
          refine ev_p (pc' := 33) (loc' := [.null, .null, .null, .null]) (st' := [.int (-2 : Int32)]) 1 am_q98 rfl ?_
          exact ev_r (v := some (.int (-2 : Int32))) am_q98 rfl rfl rfl rfl H
        · replace H := H.2 hq
          refine ev_p (pc' := 22) (loc' := [.ref a0, .int i1, .int i2, .int i3]) (st' := [.int (1 : Int32), .int i3]) 2 am_q98 rfl ?_
          refine ev_jc (t := 31) am_q98 rfl rfl (fun hq => ?_) (fun hq => ?_)
          · replace H := H.1 hq
            refine ev_p (pc' := 33) (loc' := [.null, .null, .null, .null]) (st' := [.int (-2 : Int32)]) 1 am_q98 rfl ?_
            exact ev_r (v := some (.int (-2 : Int32))) am_q98 rfl rfl rfl rfl H
          · replace H := H.2 hq
            refine ev_p (pc' := 28) (loc' := [.ref a0, .int i1, .int i2, .int i3]) (st' := [.int (100 : Int32), .int i3]) 2 am_q98 rfl ?_
            refine ev_jc (t := 34) am_q98 rfl rfl (fun hq => ?_) (fun hq => ?_)
            · replace H := H.1 hq
              refine ev_p (pc' := 35) (loc' := [.ref a0, .int i1, .int i2, .int i3]) (st' := [.ref a0]) 1 am_q98 rfl ?_
              obtain ⟨g1, H⟩ := H
              refine ev_s (pc' := 38) (loc' := [.ref a0, .int i1, .int i2, .int i3]) (st' := [.int (am_gi h a0 2)]) (h1 := h) am_q98 rfl rfl rfl (if_pos (e := none) g1) ?_
              refine ev_p (pc' := 40) (loc' := [.ref a0, .int i1, .int i2, .int i3]) (st' := [.int (12 : Int32), .int (am_gi h a0 2)]) 1 am_q98 rfl ?_
              refine ev_jc (t := 46) am_q98 rfl rfl (fun hq => ?_) (fun hq => ?_)
              · replace H := H.1 hq
                refine ev_p (pc' := 47) (loc' := [.ref a0, .int i1, .int i2, .int i3]) (st' := [.ref a0]) 1 am_q98 rfl ?_
                obtain ⟨g2, b3, e4, H⟩ := H
                refine ev_s (pc' := 50) (loc' := [.ref a0, .int i1, .int i2, .int i3]) (st' := [.ref b3]) (h1 := h) am_q98 rfl rfl rfl (am_gf2 g2 e4) ?_
                refine ev_p (pc' := 51) (loc' := [.ref a0, .int i1, .int i2, .int i3]) (st' := [.ref a0, .ref b3]) 1 am_q98 rfl ?_
                obtain ⟨g5, H⟩ := H
                refine ev_s (pc' := 54) (loc' := [.ref a0, .int i1, .int i2, .int i3]) (st' := [.int (am_gi h a0 2), .ref b3]) (h1 := h) am_q98 rfl rfl rfl (if_pos (e := none) g5) ?_
                obtain ⟨g6, g7, b8, e9, H⟩ := H
                refine ev_s (pc' := 55) (loc' := [.ref a0, .int i1, .int i2, .int i3]) (st' := [.ref b8]) (h1 := h) am_q98 rfl rfl rfl (am_xa g6 g7 e9) ?_
                refine ev_p (pc' := 58) (loc' := [.ref a0, .int i1, .int i2, .int i3]) (st' := [.int i3, .int i2, .int i1, .ref b8]) 3 am_q98 rfl ?_
                obtain ⟨g12, H⟩ := H
                refine ev_c (vs := [.ref b8, .int i1, .int i2, .int i3]) (rest := []) 18 am_q98 rfl rfl rfl rfl rfl rfl rfl rfl rfl rfl rfl rfl (Or.inr (congrArg some g12)) (Cl.mono H (Nat.le_refl _) (fun r11 h10 H => ?_))
                obtain ⟨rfl, H⟩ := H
                refine ev_p (pc' := 63) (loc' := [.ref a0, .int i1, .int i2, .int i3]) (st' := [.ref a0, .ref a0]) 2 am_q98 rfl ?_
                obtain ⟨g13, H⟩ := H
                refine ev_s (pc' := 66) (loc' := [.ref a0, .int i1, .int i2, .int i3]) (st' := [.int (am_gi h10 a0 2), .ref a0]) (h1 := h10) am_q98 rfl rfl rfl (if_pos (e := none) g13) ?_
                refine ev_p (pc' := 68) (loc' := [.ref a0, .int i1, .int i2, .int i3]) (st' := [.int ((am_gi h10 a0 2) + (1 : Int32)), .ref a0]) 2 am_q98 rfl ?_
                obtain ⟨g14, H⟩ := H
                refine ev_s (pc' := 71) (loc' := [.ref a0, .int i1, .int i2, .int i3]) (st' := []) (h1 := am_si h10 a0 2 ((am_gi h10 a0 2) + (1 : Int32))) am_q98 rfl rfl rfl (if_pos (e := none) g14) ?_
                replace H := H _ rfl
                generalize am_si h10 a0 2 ((am_gi h10 a0 2) + (1 : Int32)) = h15 at H ⊢
                refine ev_p (pc' := 72) (loc' := [.ref a0, .int i1, .int i2, .int i3]) (st' := [.ref a0]) 1 am_q98 rfl ?_
                obtain ⟨g16, H⟩ := H
                refine ev_s (pc' := 75) (loc' := [.ref a0, .int i1, .int i2, .int i3]) (st' := [.int (am_gi h15 a0 2)]) (h1 := h15) am_q98 rfl rfl rfl (if_pos (e := none) g16) ?_
                refine ev_p (pc' := 77) (loc' := [.ref a0, .int i1, .int i2, .int i3]) (st' := [.int ((am_gi h15 a0 2) - (1 : Int32))]) 2 am_q98 rfl ?_
                exact ev_r (v := some (.int ((am_gi h15 a0 2) - (1 : Int32)))) am_q98 rfl rfl rfl rfl H
              · replace H := H.2 hq
                refine ev_p (pc' := 45) (loc' := [.ref a0, .int i1, .int i2, .int i3]) (st' := [.int (-4 : Int32)]) 1 am_q98 rfl ?_
                exact ev_r (v := some (.int (-4 : Int32))) am_q98 rfl rfl rfl rfl H
            · replace H := H.2 hq
              refine ev_p (pc' := 33) (loc' := [.null, .null, .null, .null]) (st' := [.int (-2 : Int32)]) 1 am_q98 rfl ?_
              exact ev_r (v := some (.int (-2 : Int32))) am_q98 rfl rfl rfl rfl H
/-! 99: X11_member -/
theorem am_q99 : (am_mt 99).2.2.2.2.2 = am_m99.2.2.2.2.2 := rfl
set_option maxRecDepth 20000 in
set_option maxHeartbeats 2000000 in
theorem wp99 {d : Nat} (a0 : Nat) (i1 : Int32) {h : AH} {Q : Option Value → AH → Prop} (H : Cl d 142 [.int i1] h (fun r2 h1 => ∃ x3, r2 = some (.int x3) ∧ ((¬ x3 = (0 : Int32)) → am_kd h1 a0 = 11 ∧ ((am_gi h1 a0 4) < (24 : Int32) → am_kd h1 a0 = 11 ∧ ∃ b6, am_gr h1 a0 3 = some b6 ∧ am_kd h1 a0 = 11 ∧ (104 ≤ am_kd h1 b6 ∧ am_kd h1 b6 ≤ 109) ∧ am_in (am_gi h1 a0 4) (am_ln h1 b6) ∧ ∃ b11, am_gr h1 b6 (Int32.toNatClampNeg (am_gi h1 a0 4)) = some b11 ∧ am_kd h1 a0 = 11 ∧ am_kd h1 b11 = 3 ∧ Cl d 20 [.ref b11, .int i1, .int (am_gi h1 a0 0)] h1 (fun r15 h14 => r15 = none ∧ am_kd h14 a0 = 11 ∧ am_kd h14 a0 = 11 ∧ ∀ h19, h19 = am_si h14 a0 4 ((am_gi h14 a0 4) + (1 : Int32)) → am_kd h19 a0 = 11 ∧ Q (some (.int ((am_gi h19 a0 4) - (1 : Int32)))) h19)) ∧ (¬ (am_gi h1 a0 4) < (24 : Int32) → Q (some (.int (-4 : Int32))) h1)) ∧ (¬ (¬ x3 = (0 : Int32)) → Q (some (.int (-2 : Int32))) h1))) : Cl (d + 1) 99 [.ref a0, .int i1] h Q := by
  show Ev (d + 1) 99 0 [.ref a0, .int i1] [] h Q
  refine ev_p (pc' := 1) (loc' := [.ref a0, .int i1]) (st' := [.int i1]) 1 am_q99 rfl ?_
  refine ev_c (vs := [.int i1]) (rest := []) 142 am_q99 rfl rfl rfl rfl rfl rfl rfl rfl rfl rfl rfl rfl (Or.inl rfl) (Cl.mono H (Nat.le_refl _) (fun r2 h1 H => ?_))
  obtain ⟨x3, rfl, H⟩ := H
  refine ev_jz (t := 10) am_q99 rfl rfl (fun hq => ?_) (fun hq => ?_)
  · replace H := H.1 hq
    refine ev_p (pc' := 11) (loc' := [.ref a0, .int i1]) (st' := [.ref a0]) 1 am_q99 rfl ?_
    obtain ⟨g4, H⟩ := H
    refine ev_s (pc' := 14) (loc' := [.ref a0, .int i1]) (st' := [.int (am_gi h1 a0 4)]) (h1 := h1) am_q99 rfl rfl rfl (if_pos (e := none) g4) ?_
    refine ev_p (pc' := 16) (loc' := [.ref a0, .int i1]) (st' := [.int (24 : Int32), .int (am_gi h1 a0 4)]) 1 am_q99 rfl ?_
    refine ev_jc (t := 22) am_q99 rfl rfl (fun hq => ?_) (fun hq => ?_)
    · replace H := H.1 hq
      refine ev_p (pc' := 23) (loc' := [.ref a0, .int i1]) (st' := [.ref a0]) 1 am_q99 rfl ?_
      obtain ⟨g5, b6, e7, H⟩ := H
      refine ev_s (pc' := 26) (loc' := [.ref a0, .int i1]) (st' := [.ref b6]) (h1 := h1) am_q99 rfl rfl rfl (am_gf2 g5 e7) ?_
      refine ev_p (pc' := 27) (loc' := [.ref a0, .int i1]) (st' := [.ref a0, .ref b6]) 1 am_q99 rfl ?_
      obtain ⟨g8, H⟩ := H
      refine ev_s (pc' := 30) (loc' := [.ref a0, .int i1]) (st' := [.int (am_gi h1 a0 4), .ref b6]) (h1 := h1) am_q99 rfl rfl rfl (if_pos (e := none) g8) ?_
      obtain ⟨g9, g10, b11, e12, H⟩ := H
      refine ev_s (pc' := 31) (loc' := [.ref a0, .int i1]) (st' := [.ref b11]) (h1 := h1) am_q99 rfl rfl rfl (am_xa g9 g10 e12) ?_
      refine ev_p (pc' := 33) (loc' := [.ref a0, .int i1]) (st' := [.ref a0, .int i1, .ref b11]) 2 am_q99 rfl ?_
      obtain ⟨g13, H⟩ := H
      refine ev_s (pc' := 36) (loc' := [.ref a0, .int i1]) (st' := [.int (am_gi h1 a0 0), .int i1, .ref b11]) (h1 := h1) am_q99 rfl rfl rfl (if_pos (e := none) g13) ?_
      obtain ⟨g16, H⟩ := H
      refine ev_c (vs := [.ref b11, .int i1, .int (am_gi h1 a0 0)]) (rest := []) 20 am_q99 rfl rfl rfl rfl rfl rfl rfl rfl rfl rfl rfl rfl (Or.inr (congrArg some g16)) (Cl.mono H (Nat.le_refl _) (fun r15 h14 H => ?_))
      obtain ⟨rfl, H⟩ := H
      refine ev_p (pc' := 41) (loc' := [.ref a0, .int i1]) (st' := [.ref a0, .ref a0]) 2 am_q99 rfl ?_
      obtain ⟨g17, H⟩ := H
      refine ev_s (pc' := 44) (loc' := [.ref a0, .int i1]) (st' := [.int (am_gi h14 a0 4), .ref a0]) (h1 := h14) am_q99 rfl rfl rfl (if_pos (e := none) g17) ?_
      refine ev_p (pc' := 46) (loc' := [.ref a0, .int i1]) (st' := [.int ((am_gi h14 a0 4) + (1 : Int32)), .ref a0]) 2 am_q99 rfl ?_
      obtain ⟨g18, H⟩ := H
      refine ev_s (pc' := 49) (loc' := [.ref a0, .int i1]) (st' := []) (h1 := am_si h14 a0 4 ((am_gi h14 a0 4) + (1 : Int32))) am_q99 rfl rfl rfl (if_pos (e := none) g18) ?_
      replace H := H _ rfl
      generalize am_si h14 a0 4 ((am_gi h14 a0 4) + (1 : Int32)) = h19 at H ⊢
      refine ev_p (pc' := 50) (loc' := [.ref a0, .int i1]) (st' := [.ref a0]) 1 am_q99 rfl ?_
      obtain ⟨g20, H⟩ := H
      refine ev_s (pc' := 53) (loc' := [.ref a0, .int i1]) (st' := [.int (am_gi h19 a0 4)]) (h1 := h19) am_q99 rfl rfl rfl (if_pos (e := none) g20) ?_
      refine ev_p (pc' := 55) (loc' := [.ref a0, .int i1]) (st' := [.int ((am_gi h19 a0 4) - (1 : Int32))]) 2 am_q99 rfl ?_
      exact ev_r (v := some (.int ((am_gi h19 a0 4) - (1 : Int32)))) am_q99 rfl rfl rfl rfl H
    · replace H := H.2 hq
      refine ev_p (pc' := 21) (loc' := [.ref a0, .int i1]) (st' := [.int (-4 : Int32)]) 1 am_q99 rfl ?_
      exact ev_r (v := some (.int (-4 : Int32))) am_q99 rfl rfl rfl rfl H
  · replace H := H.2 hq
    refine ev_p (pc' := 9) (loc' := [.ref a0, .int i1]) (st' := [.int (-2 : Int32)]) 1 am_q99 rfl ?_
    exact ev_r (v := some (.int (-2 : Int32))) am_q99 rfl rfl rfl rfl H
/-! 100: X11_family -/
theorem am_q100 : (am_mt 100).2.2.2.2.2 = am_m100.2.2.2.2.2 := rfl
set_option maxRecDepth 20000 in
set_option maxHeartbeats 2000000 in
theorem wp100 {d : Nat} (a0 : Nat) (i1 : Int32) (i2 : Int32) {h : AH} {Q : Option Value → AH → Prop} (H : am_kd h a0 = 11 ∧ Cl d 139 [.ref a0, .int i1] h (fun r2 h1 => ∃ x4, r2 = some (.int x4) ∧ (x4 = (0 : Int32) → Q (some (.int (-2 : Int32))) h1) ∧ (¬ x4 = (0 : Int32) → Cl d 142 [.int i2] h1 (fun r6 h5 => ∃ x7, r6 = some (.int x7) ∧ ((¬ x7 = (0 : Int32)) → am_kd h5 a0 = 11 ∧ Cl d 146 [.ref a0, .int i1] h5 (fun r9 h8 => ∃ x11, r9 = some (.int x11) ∧ ((¬ x11 = (0 : Int32)) → am_kd h8 a0 = 11 ∧ ∃ b13, am_gr h8 a0 3 = some b13 ∧ (104 ≤ am_kd h8 b13 ∧ am_kd h8 b13 ≤ 109) ∧ am_in i1 (am_ln h8 b13) ∧ ∃ b17, am_gr h8 b13 (Int32.toNatClampNeg i1) = some b17 ∧ am_kd h8 b17 = 3 ∧ am_kd h8 a0 = 11 ∧ ∃ b21, am_gr h8 a0 3 = some b21 ∧ (104 ≤ am_kd h8 b21 ∧ am_kd h8 b21 ≤ 109) ∧ am_in i1 (am_ln h8 b21) ∧ ∃ b25, am_gr h8 b21 (Int32.toNatClampNeg i1) = some b25 ∧ am_kd h8 b25 = 3 ∧ ∀ h28, h28 = am_si h8 b25 0 i2 → Q (some (.int (am_gi h8 b17 0))) h28) ∧ (¬ (¬ x11 = (0 : Int32)) → Q (some (.int (-3 : Int32))) h8))) ∧ (¬ (¬ x7 = (0 : Int32)) → Q (some (.int (-2 : Int32))) h5))))) : Cl (d + 1) 100 [.ref a0, .int i1, .int i2] h Q := by
  show Ev (d + 1) 100 0 [.ref a0, .int i1, .int i2, .null] [] h Q
  refine ev_p (pc' := 2) (loc' := [.ref a0, .int i1, .int i2, .null]) (st' := [.int i1, .ref a0]) 2 am_q100 rfl ?_
  obtain ⟨g3, H⟩ := H
  refine ev_c (vs := [.ref a0, .int i1]) (rest := []) 139 am_q100 rfl rfl rfl rfl rfl rfl rfl rfl rfl rfl rfl rfl (Or.inr (congrArg some g3)) (Cl.mono H (Nat.le_refl _) (fun r2 h1 H => ?_))
  obtain ⟨x4, rfl, H⟩ := H
  refine ev_jz (t := 15) am_q100 rfl rfl (fun hq => ?_) (fun hq => ?_)
  · replace H := H.1 hq
    refine ev_p (pc' := 17) (loc' := [.null, .null, .null, .null]) (st' := [.int (-2 : Int32)]) 1 am_q100 rfl ?_
    exact ev_r (v := some (.int (-2 : Int32))) am_q100 rfl rfl rfl rfl H
  · replace H := H.2 hq
    refine ev_p (pc' := 9) (loc' := [.ref a0, .int i1, .int i2, .null]) (st' := [.int i2]) 1 am_q100 rfl ?_
    refine ev_c (vs := [.int i2]) (rest := []) 142 am_q100 rfl rfl rfl rfl rfl rfl rfl rfl rfl rfl rfl rfl (Or.inl rfl) (Cl.mono H (Nat.le_refl _) (fun r6 h5 H => ?_))
    obtain ⟨x7, rfl, H⟩ := H
    refine ev_jz (t := 18) am_q100 rfl rfl (fun hq => ?_) (fun hq => ?_)
    · replace H := H.1 hq
      refine ev_p (pc' := 20) (loc' := [.ref a0, .int i1, .int i2, .null]) (st' := [.int i1, .ref a0]) 2 am_q100 rfl ?_
      obtain ⟨g10, H⟩ := H
      refine ev_c (vs := [.ref a0, .int i1]) (rest := []) 146 am_q100 rfl rfl rfl rfl rfl rfl rfl rfl rfl rfl rfl rfl (Or.inr (congrArg some g10)) (Cl.mono H (Nat.le_refl _) (fun r9 h8 H => ?_))
      obtain ⟨x11, rfl, H⟩ := H
      refine ev_jz (t := 29) am_q100 rfl rfl (fun hq => ?_) (fun hq => ?_)
      · replace H := H.1 hq
        refine ev_p (pc' := 30) (loc' := [.ref a0, .int i1, .int i2, .null]) (st' := [.ref a0]) 1 am_q100 rfl ?_
        obtain ⟨g12, b13, e14, H⟩ := H
        refine ev_s (pc' := 33) (loc' := [.ref a0, .int i1, .int i2, .null]) (st' := [.ref b13]) (h1 := h8) am_q100 rfl rfl rfl (am_gf2 g12 e14) ?_
        refine ev_p (pc' := 34) (loc' := [.ref a0, .int i1, .int i2, .null]) (st' := [.int i1, .ref b13]) 1 am_q100 rfl ?_
        obtain ⟨g15, g16, b17, e18, H⟩ := H
        refine ev_s (pc' := 35) (loc' := [.ref a0, .int i1, .int i2, .null]) (st' := [.ref b17]) (h1 := h8) am_q100 rfl rfl rfl (am_xa g15 g16 e18) ?_
        obtain ⟨g19, H⟩ := H
        refine ev_s (pc' := 38) (loc' := [.ref a0, .int i1, .int i2, .null]) (st' := [.int (am_gi h8 b17 0)]) (h1 := h8) am_q100 rfl rfl rfl (if_pos (e := none) g19) ?_
        refine ev_p (pc' := 40) (loc' := [.ref a0, .int i1, .int i2, .int (am_gi h8 b17 0)]) (st' := [.ref a0]) 2 am_q100 rfl ?_
        obtain ⟨g20, b21, e22, H⟩ := H
        refine ev_s (pc' := 43) (loc' := [.ref a0, .int i1, .int i2, .int (am_gi h8 b17 0)]) (st' := [.ref b21]) (h1 := h8) am_q100 rfl rfl rfl (am_gf2 g20 e22) ?_
        refine ev_p (pc' := 44) (loc' := [.ref a0, .int i1, .int i2, .int (am_gi h8 b17 0)]) (st' := [.int i1, .ref b21]) 1 am_q100 rfl ?_
        obtain ⟨g23, g24, b25, e26, H⟩ := H
        refine ev_s (pc' := 45) (loc' := [.ref a0, .int i1, .int i2, .int (am_gi h8 b17 0)]) (st' := [.ref b25]) (h1 := h8) am_q100 rfl rfl rfl (am_xa g23 g24 e26) ?_
        refine ev_p (pc' := 46) (loc' := [.ref a0, .int i1, .int i2, .int (am_gi h8 b17 0)]) (st' := [.int i2, .ref b25]) 1 am_q100 rfl ?_
        obtain ⟨g27, H⟩ := H
        refine ev_s (pc' := 49) (loc' := [.ref a0, .int i1, .int i2, .int (am_gi h8 b17 0)]) (st' := []) (h1 := am_si h8 b25 0 i2) am_q100 rfl rfl rfl (if_pos (e := none) g27) ?_
        replace H := H _ rfl
        generalize am_si h8 b25 0 i2 = h28 at H ⊢
        refine ev_p (pc' := 50) (loc' := [.ref a0, .int i1, .int i2, .int (am_gi h8 b17 0)]) (st' := [.int (am_gi h8 b17 0)]) 1 am_q100 rfl ?_
        exact ev_r (v := some (.int (am_gi h8 b17 0))) am_q100 rfl rfl rfl rfl H
      · replace H := H.2 hq
        refine ev_p (pc' := 28) (loc' := [.ref a0, .int i1, .int i2, .null]) (st' := [.int (-3 : Int32)]) 1 am_q100 rfl ?_
        exact ev_r (v := some (.int (-3 : Int32))) am_q100 rfl rfl rfl rfl H
    · replace H := H.2 hq
      refine ev_p (pc' := 17) (loc' := [.null, .null, .null, .null]) (st' := [.int (-2 : Int32)]) 1 am_q100 rfl ?_
      exact ev_r (v := some (.int (-2 : Int32))) am_q100 rfl rfl rfl rfl H
/-! 101: X11_right -/
theorem am_q101 : (am_mt 101).2.2.2.2.2 = am_m101.2.2.2.2.2 := rfl
set_option maxRecDepth 20000 in
set_option maxHeartbeats 2000000 in
theorem wp101 {d : Nat} (a0 : Nat) (i1 : Int32) (i2 : Int32) (i3 : Int32) (i4 : Int32) {h : AH} {Q : Option Value → AH → Prop} (H : (i1 < (0 : Int32) → Q (some (.int (-2 : Int32))) h) ∧ (¬ i1 < (0 : Int32) → ((2 : Int32) < i1 → Q (some (.int (-2 : Int32))) h) ∧ (¬ (2 : Int32) < i1 → am_kd h a0 = 11 ∧ Cl d 138 [.ref a0, .int i2] h (fun r2 h1 => ∃ x4, r2 = some (.int x4) ∧ (x4 = (0 : Int32) → Q (some (.int (-2 : Int32))) h1) ∧ (¬ x4 = (0 : Int32) → am_kd h1 a0 = 11 ∧ Cl d 139 [.ref a0, .int i3] h1 (fun r6 h5 => ∃ x8, r6 = some (.int x8) ∧ (x8 = (0 : Int32) → Q (some (.int (-2 : Int32))) h5) ∧ (¬ x8 = (0 : Int32) → Cl d 145 [.int i1, .int i4] h5 (fun r10 h9 => ∃ x11, r10 = some (.int x11) ∧ ((¬ x11 = (0 : Int32)) → am_kd h9 a0 = 11 ∧ Cl d 146 [.ref a0, .int i3] h9 (fun r13 h12 => ∃ x15, r13 = some (.int x15) ∧ (x15 = (0 : Int32) → Q (some (.int (-3 : Int32))) h12) ∧ (¬ x15 = (0 : Int32) → am_kd h12 a0 = 11 ∧ Cl d 150 [.ref a0, .int i1, .int i2, .int i3] h12 (fun r17 h16 => ∃ x19, r17 = some (.int x19) ∧ ((¬ x19 = (0 : Int32)) → am_kd h16 a0 = 11 ∧ ∃ b21, am_gr h16 a0 5 = some b21 ∧ am_kd h16 b21 = 6 ∧ Cl d 54 [.ref b21, .int (1 : Int32)] h16 (fun r24 h23 => ∃ x26, r24 = some (.int x26) ∧ ((¬ x26 = (0 : Int32)) → am_kd h23 a0 = 11 ∧ ∃ b28, am_gr h23 a0 5 = some b28 ∧ am_kd h23 a0 = 11 ∧ ((¬ i1 = (0 : Int32)) → am_kd h23 a0 = 11 ∧ am_kd h23 b28 = 6 ∧ Cl d 55 [.ref b28, .int i1, .int i2, .int i3, .int (-1 : Int32), .int (am_gi h23 a0 0), .int ((am_gi h23 a0 0) + i4)] h23 (fun r33 h32 => ∃ x35, r33 = some (.int x35) ∧ Q (some (.int x35)) h32)) ∧ (¬ (¬ i1 = (0 : Int32)) → am_kd h23 b28 = 6 ∧ Cl d 55 [.ref b28, .int i1, .int i2, .int i3, .int (-1 : Int32), .int (am_gi h23 a0 0), .int (-1 : Int32)] h23 (fun r37 h36 => ∃ x39, r37 = some (.int x39) ∧ Q (some (.int x39)) h36))) ∧ (¬ (¬ x26 = (0 : Int32)) → Q (some (.int (-4 : Int32))) h23))) ∧ (¬ (¬ x19 = (0 : Int32)) → Q (some (.int (-3 : Int32))) h16))))) ∧ (¬ (¬ x11 = (0 : Int32)) → Q (some (.int (-2 : Int32))) h9))))))))) : Cl (d + 1) 101 [.ref a0, .int i1, .int i2, .int i3, .int i4] h Q := by
  show Ev (d + 1) 101 0 [.ref a0, .int i1, .int i2, .int i3, .int i4] [] h Q
  refine ev_p (pc' := 1) (loc' := [.ref a0, .int i1, .int i2, .int i3, .int i4]) (st' := [.int i1]) 1 am_q101 rfl ?_
  refine ev_jz (t := 34) am_q101 rfl rfl (fun hq => ?_) (fun hq => ?_)
  · replace H := H.1 hq
    refine ev_p (pc' := 36) (loc' := [.null, .null, .null, .null, .null]) (st' := [.int (-2 : Int32)]) 1 am_q101 rfl ?_
    exact ev_r (v := some (.int (-2 : Int32))) am_q101 rfl rfl rfl rfl H
  · replace H := H.2 hq
    refine ev_p (pc' := 6) (loc' := [.ref a0, .int i1, .int i2, .int i3, .int i4]) (st' := [.int (2 : Int32), .int i1]) 2 am_q101 rfl ?_
    refine ev_jc (t := 34) am_q101 rfl rfl (fun hq => ?_) (fun hq => ?_)
    · replace H := H.1 hq
      refine ev_p (pc' := 36) (loc' := [.null, .null, .null, .null, .null]) (st' := [.int (-2 : Int32)]) 1 am_q101 rfl ?_
      exact ev_r (v := some (.int (-2 : Int32))) am_q101 rfl rfl rfl rfl H
    · replace H := H.2 hq
      refine ev_p (pc' := 11) (loc' := [.ref a0, .int i1, .int i2, .int i3, .int i4]) (st' := [.int i2, .ref a0]) 2 am_q101 rfl ?_
      obtain ⟨g3, H⟩ := H
      refine ev_c (vs := [.ref a0, .int i2]) (rest := []) 138 am_q101 rfl rfl rfl rfl rfl rfl rfl rfl rfl rfl rfl rfl (Or.inr (congrArg some g3)) (Cl.mono H (Nat.le_refl _) (fun r2 h1 H => ?_))
      obtain ⟨x4, rfl, H⟩ := H
      refine ev_jz (t := 34) am_q101 rfl rfl (fun hq => ?_) (fun hq => ?_)
      · replace H := H.1 hq
        refine ev_p (pc' := 36) (loc' := [.null, .null, .null, .null, .null]) (st' := [.int (-2 : Int32)]) 1 am_q101 rfl ?_
        exact ev_r (v := some (.int (-2 : Int32))) am_q101 rfl rfl rfl rfl H
      · replace H := H.2 hq
        refine ev_p (pc' := 19) (loc' := [.ref a0, .int i1, .int i2, .int i3, .int i4]) (st' := [.int i3, .ref a0]) 2 am_q101 rfl ?_
        obtain ⟨g7, H⟩ := H
        refine ev_c (vs := [.ref a0, .int i3]) (rest := []) 139 am_q101 rfl rfl rfl rfl rfl rfl rfl rfl rfl rfl rfl rfl (Or.inr (congrArg some g7)) (Cl.mono H (Nat.le_refl _) (fun r6 h5 H => ?_))
        obtain ⟨x8, rfl, H⟩ := H
        refine ev_jz (t := 34) am_q101 rfl rfl (fun hq => ?_) (fun hq => ?_)
        · replace H := H.1 hq
          refine ev_p (pc' := 36) (loc' := [.null, .null, .null, .null, .null]) (st' := [.int (-2 : Int32)]) 1 am_q101 rfl ?_
          exact ev_r (v := some (.int (-2 : Int32))) am_q101 rfl rfl rfl rfl H
        · replace H := H.2 hq
          refine ev_p (pc' := 28) (loc' := [.ref a0, .int i1, .int i2, .int i3, .int i4]) (st' := [.int i4, .int i1]) 2 am_q101 rfl ?_
          refine ev_c (vs := [.int i1, .int i4]) (rest := []) 145 am_q101 rfl rfl rfl rfl rfl rfl rfl rfl rfl rfl rfl rfl (Or.inl rfl) (Cl.mono H (Nat.le_refl _) (fun r10 h9 H => ?_))
          obtain ⟨x11, rfl, H⟩ := H
          refine ev_jz (t := 37) am_q101 rfl rfl (fun hq => ?_) (fun hq => ?_)
          · replace H := H.1 hq
            refine ev_p (pc' := 39) (loc' := [.ref a0, .int i1, .int i2, .int i3, .int i4]) (st' := [.int i3, .ref a0]) 2 am_q101 rfl ?_
            obtain ⟨g14, H⟩ := H
            refine ev_c (vs := [.ref a0, .int i3]) (rest := []) 146 am_q101 rfl rfl rfl rfl rfl rfl rfl rfl rfl rfl rfl rfl (Or.inr (congrArg some g14)) (Cl.mono H (Nat.le_refl _) (fun r13 h12 H => ?_))
            obtain ⟨x15, rfl, H⟩ := H
            refine ev_jz (t := 55) am_q101 rfl rfl (fun hq => ?_) (fun hq => ?_)
            · replace H := H.1 hq
              refine ev_p (pc' := 57) (loc' := [.null, .null, .null, .null, .null]) (st' := [.int (-3 : Int32)]) 1 am_q101 rfl ?_
              exact ev_r (v := some (.int (-3 : Int32))) am_q101 rfl rfl rfl rfl H
            · replace H := H.2 hq
              refine ev_p (pc' := 49) (loc' := [.ref a0, .int i1, .int i2, .int i3, .int i4]) (st' := [.int i3, .int i2, .int i1, .ref a0]) 4 am_q101 rfl ?_
              obtain ⟨g18, H⟩ := H
              refine ev_c (vs := [.ref a0, .int i1, .int i2, .int i3]) (rest := []) 150 am_q101 rfl rfl rfl rfl rfl rfl rfl rfl rfl rfl rfl rfl (Or.inr (congrArg some g18)) (Cl.mono H (Nat.le_refl _) (fun r17 h16 H => ?_))
              obtain ⟨x19, rfl, H⟩ := H
              refine ev_jz (t := 58) am_q101 rfl rfl (fun hq => ?_) (fun hq => ?_)
              · replace H := H.1 hq
                refine ev_p (pc' := 59) (loc' := [.ref a0, .int i1, .int i2, .int i3, .int i4]) (st' := [.ref a0]) 1 am_q101 rfl ?_
                obtain ⟨g20, b21, e22, H⟩ := H
                refine ev_s (pc' := 62) (loc' := [.ref a0, .int i1, .int i2, .int i3, .int i4]) (st' := [.ref b21]) (h1 := h16) am_q101 rfl rfl rfl (am_gf2 g20 e22) ?_
                refine ev_p (pc' := 63) (loc' := [.ref a0, .int i1, .int i2, .int i3, .int i4]) (st' := [.int (1 : Int32), .ref b21]) 1 am_q101 rfl ?_
                obtain ⟨g25, H⟩ := H
                refine ev_c (vs := [.ref b21, .int (1 : Int32)]) (rest := []) 54 am_q101 rfl rfl rfl rfl rfl rfl rfl rfl rfl rfl rfl rfl (Or.inr (congrArg some g25)) (Cl.mono H (Nat.le_refl _) (fun r24 h23 H => ?_))
                obtain ⟨x26, rfl, H⟩ := H
                refine ev_jz (t := 72) am_q101 rfl rfl (fun hq => ?_) (fun hq => ?_)
                · replace H := H.1 hq
                  refine ev_p (pc' := 73) (loc' := [.ref a0, .int i1, .int i2, .int i3, .int i4]) (st' := [.ref a0]) 1 am_q101 rfl ?_
                  obtain ⟨g27, b28, e29, H⟩ := H
                  refine ev_s (pc' := 76) (loc' := [.ref a0, .int i1, .int i2, .int i3, .int i4]) (st' := [.ref b28]) (h1 := h23) am_q101 rfl rfl rfl (am_gf2 g27 e29) ?_
                  refine ev_p (pc' := 81) (loc' := [.ref a0, .int i1, .int i2, .int i3, .int i4]) (st' := [.ref a0, .int (-1 : Int32), .int i3, .int i2, .int i1, .ref b28]) 5 am_q101 rfl ?_
                  obtain ⟨g30, H⟩ := H
                  refine ev_s (pc' := 84) (loc' := [.ref a0, .int i1, .int i2, .int i3, .int i4]) (st' := [.int (am_gi h23 a0 0), .int (-1 : Int32), .int i3, .int i2, .int i1, .ref b28]) (h1 := h23) am_q101 rfl rfl rfl (if_pos (e := none) g30) ?_
                  refine ev_p (pc' := 85) (loc' := [.ref a0, .int i1, .int i2, .int i3, .int i4]) (st' := [.int i1, .int (am_gi h23 a0 0), .int (-1 : Int32), .int i3, .int i2, .int i1, .ref b28]) 1 am_q101 rfl ?_
                  refine ev_jz (t := 92) am_q101 rfl rfl (fun hq => ?_) (fun hq => ?_)
                  · replace H := H.1 hq
                    refine ev_p (pc' := 93) (loc' := [.ref a0, .int i1, .int i2, .int i3, .int i4]) (st' := [.ref a0, .int (am_gi h23 a0 0), .int (-1 : Int32), .int i3, .int i2, .int i1, .ref b28]) 1 am_q101 rfl ?_
                    obtain ⟨g31, H⟩ := H
                    refine ev_s (pc' := 96) (loc' := [.ref a0, .int i1, .int i2, .int i3, .int i4]) (st' := [.int (am_gi h23 a0 0), .int (am_gi h23 a0 0), .int (-1 : Int32), .int i3, .int i2, .int i1, .ref b28]) (h1 := h23) am_q101 rfl rfl rfl (if_pos (e := none) g31) ?_
                    refine ev_p (pc' := 99) (loc' := [.ref a0, .int i1, .int i2, .int i3, .int i4]) (st' := [.int ((am_gi h23 a0 0) + i4), .int (am_gi h23 a0 0), .int (-1 : Int32), .int i3, .int i2, .int i1, .ref b28]) 2 am_q101 rfl ?_
                    obtain ⟨g34, H⟩ := H
                    refine ev_c (vs := [.ref b28, .int i1, .int i2, .int i3, .int (-1 : Int32), .int (am_gi h23 a0 0), .int ((am_gi h23 a0 0) + i4)]) (rest := []) 55 am_q101 rfl rfl rfl rfl rfl rfl rfl rfl rfl rfl rfl rfl (Or.inr (congrArg some g34)) (Cl.mono H (Nat.le_refl _) (fun r33 h32 H => ?_))
                    obtain ⟨x35, rfl, H⟩ := H
                    exact ev_r (v := some (.int x35)) am_q101 rfl rfl rfl rfl H
                  · replace H := H.2 hq
                    refine ev_p (pc' := 99) (loc' := [.ref a0, .int i1, .int i2, .int i3, .int i4]) (st' := [.int (-1 : Int32), .int (am_gi h23 a0 0), .int (-1 : Int32), .int i3, .int i2, .int i1, .ref b28]) 2 am_q101 rfl ?_
                    obtain ⟨g38, H⟩ := H
                    refine ev_c (vs := [.ref b28, .int i1, .int i2, .int i3, .int (-1 : Int32), .int (am_gi h23 a0 0), .int (-1 : Int32)]) (rest := []) 55 am_q101 rfl rfl rfl rfl rfl rfl rfl rfl rfl rfl rfl rfl (Or.inr (congrArg some g38)) (Cl.mono H (Nat.le_refl _) (fun r37 h36 H => ?_))
                    obtain ⟨x39, rfl, H⟩ := H
                    exact ev_r (v := some (.int x39)) am_q101 rfl rfl rfl rfl H
                · replace H := H.2 hq
                  refine ev_p (pc' := 71) (loc' := [.ref a0, .int i1, .int i2, .int i3, .int i4]) (st' := [.int (-4 : Int32)]) 1 am_q101 rfl ?_
                  exact ev_r (v := some (.int (-4 : Int32))) am_q101 rfl rfl rfl rfl H
              · replace H := H.2 hq
                refine ev_p (pc' := 57) (loc' := [.null, .null, .null, .null, .null]) (st' := [.int (-3 : Int32)]) 1 am_q101 rfl ?_
                exact ev_r (v := some (.int (-3 : Int32))) am_q101 rfl rfl rfl rfl H
          · replace H := H.2 hq
            refine ev_p (pc' := 36) (loc' := [.null, .null, .null, .null, .null]) (st' := [.int (-2 : Int32)]) 1 am_q101 rfl ?_
            exact ev_r (v := some (.int (-2 : Int32))) am_q101 rfl rfl rfl rfl H
/-! 102: X11_join -/
theorem am_q102 : (am_mt 102).2.2.2.2.2 = am_m102.2.2.2.2.2 := rfl
set_option maxRecDepth 20000 in
set_option maxHeartbeats 2000000 in
theorem wp102 {d : Nat} (a0 : Nat) (i1 : Int32) (i2 : Int32) {h : AH} {Q : Option Value → AH → Prop} (H : am_kd h a0 = 11 ∧ ∃ b2, am_gr h a0 5 = some b2 ∧ am_kd h b2 = 6 ∧ Cl d 53 [.ref b2, .int i1] h (fun r5 h4 => ∃ x7, r5 = some (.int x7) ∧ (x7 = (0 : Int32) → Q (some (.int (-2 : Int32))) h4) ∧ (¬ x7 = (0 : Int32) → am_kd h4 a0 = 11 ∧ Cl d 139 [.ref a0, .int i2] h4 (fun r9 h8 => ∃ x11, r9 = some (.int x11) ∧ ((¬ x11 = (0 : Int32)) → am_kd h8 a0 = 11 ∧ ∃ b13, am_gr h8 a0 5 = some b13 ∧ am_kd h8 b13 = 6 ∧ ∃ b16, am_gr h8 b13 0 = some b16 ∧ (104 ≤ am_kd h8 b16 ∧ am_kd h8 b16 ≤ 109) ∧ am_in i1 (am_ln h8 b16) ∧ ∃ b20, am_gr h8 b16 (Int32.toNatClampNeg i1) = some b20 ∧ am_kd h8 b20 = 7 ∧ ((¬ (am_gi h8 b20 0) = (0 : Int32)) → Q (some (.int (-3 : Int32))) h8) ∧ (¬ (¬ (am_gi h8 b20 0) = (0 : Int32)) → am_kd h8 a0 = 11 ∧ am_kd h8 b20 = 7 ∧ Cl d 65 [.ref b20, .int (am_gi h8 a0 0)] h8 (fun r25 h24 => ∃ x27, r25 = some (.int x27) ∧ ((¬ x27 = (0 : Int32)) → am_kd h24 a0 = 11 ∧ Cl d 146 [.ref a0, .int i2] h24 (fun r29 h28 => ∃ x31, r29 = some (.int x31) ∧ (x31 = (0 : Int32) → Q (some (.int (-3 : Int32))) h28) ∧ (¬ x31 = (0 : Int32) → am_kd h28 a0 = 11 ∧ ∃ b33, am_gr h28 a0 5 = some b33 ∧ am_kd h28 a0 = 11 ∧ am_kd h28 b33 = 6 ∧ Cl d 57 [.ref b33, .int i2, .int (am_gi h28 a0 0)] h28 (fun r37 h36 => ∃ x39, r37 = some (.int x39) ∧ (x39 = (-1 : Int32) → am_kd h36 a0 = 11 ∧ ∃ b41, am_gr h36 a0 5 = some b41 ∧ am_kd h36 b41 = 6 ∧ Cl d 54 [.ref b41, .int (1 : Int32)] h36 (fun r44 h43 => ∃ x46, r44 = some (.int x46) ∧ ((¬ x46 = (0 : Int32)) → am_kd h43 a0 = 11 ∧ am_kd h43 b20 = 7 ∧ ∀ h49, h49 = am_si h43 b20 5 (am_gi h43 a0 0) → am_kd h49 a0 = 11 ∧ ∃ b51, am_gr h49 a0 5 = some b51 ∧ am_kd h49 b20 = 7 ∧ am_kd h49 b20 = 7 ∧ am_kd h49 a0 = 11 ∧ am_kd h49 b51 = 6 ∧ Cl d 55 [.ref b51, .int (3 : Int32), .int (am_gi h49 b20 1), .int (am_gi h49 b20 2), .int i2, .int (am_gi h49 a0 0), .int (-1 : Int32)] h49 (fun r57 h56 => ∃ x59, r57 = some (.int x59) ∧ Q (some (.int x59)) h56)) ∧ (¬ (¬ x46 = (0 : Int32)) → Q (some (.int (-4 : Int32))) h43))) ∧ (¬ x39 = (-1 : Int32) → Q (some (.int (-3 : Int32))) h36))))) ∧ (¬ (¬ x27 = (0 : Int32)) → Q (some (.int (-3 : Int32))) h24)))) ∧ (¬ (¬ x11 = (0 : Int32)) → Q (some (.int (-2 : Int32))) h8))))) : Cl (d + 1) 102 [.ref a0, .int i1, .int i2] h Q := by
  show Ev (d + 1) 102 0 [.ref a0, .int i1, .int i2, .null] [] h Q
  refine ev_p (pc' := 1) (loc' := [.ref a0, .int i1, .int i2, .null]) (st' := [.ref a0]) 1 am_q102 rfl ?_
  obtain ⟨g1, b2, e3, H⟩ := H
  refine ev_s (pc' := 4) (loc' := [.ref a0, .int i1, .int i2, .null]) (st' := [.ref b2]) (h1 := h) am_q102 rfl rfl rfl (am_gf2 g1 e3) ?_
  refine ev_p (pc' := 5) (loc' := [.ref a0, .int i1, .int i2, .null]) (st' := [.int i1, .ref b2]) 1 am_q102 rfl ?_
  obtain ⟨g6, H⟩ := H
  refine ev_c (vs := [.ref b2, .int i1]) (rest := []) 53 am_q102 rfl rfl rfl rfl rfl rfl rfl rfl rfl rfl rfl rfl (Or.inr (congrArg some g6)) (Cl.mono H (Nat.le_refl _) (fun r5 h4 H => ?_))
  obtain ⟨x7, rfl, H⟩ := H
  refine ev_jz (t := 19) am_q102 rfl rfl (fun hq => ?_) (fun hq => ?_)
  · replace H := H.1 hq
    refine ev_p (pc' := 21) (loc' := [.null, .null, .null, .null]) (st' := [.int (-2 : Int32)]) 1 am_q102 rfl ?_
    exact ev_r (v := some (.int (-2 : Int32))) am_q102 rfl rfl rfl rfl H
  · replace H := H.2 hq
    refine ev_p (pc' := 13) (loc' := [.ref a0, .int i1, .int i2, .null]) (st' := [.int i2, .ref a0]) 2 am_q102 rfl ?_
    obtain ⟨g10, H⟩ := H
    refine ev_c (vs := [.ref a0, .int i2]) (rest := []) 139 am_q102 rfl rfl rfl rfl rfl rfl rfl rfl rfl rfl rfl rfl (Or.inr (congrArg some g10)) (Cl.mono H (Nat.le_refl _) (fun r9 h8 H => ?_))
    obtain ⟨x11, rfl, H⟩ := H
    refine ev_jz (t := 22) am_q102 rfl rfl (fun hq => ?_) (fun hq => ?_)
    · replace H := H.1 hq
      refine ev_p (pc' := 23) (loc' := [.ref a0, .int i1, .int i2, .null]) (st' := [.ref a0]) 1 am_q102 rfl ?_
      obtain ⟨g12, b13, e14, H⟩ := H
      refine ev_s (pc' := 26) (loc' := [.ref a0, .int i1, .int i2, .null]) (st' := [.ref b13]) (h1 := h8) am_q102 rfl rfl rfl (am_gf2 g12 e14) ?_
      obtain ⟨g15, b16, e17, H⟩ := H
      refine ev_s (pc' := 29) (loc' := [.ref a0, .int i1, .int i2, .null]) (st' := [.ref b16]) (h1 := h8) am_q102 rfl rfl rfl (am_gf2 g15 e17) ?_
      refine ev_p (pc' := 30) (loc' := [.ref a0, .int i1, .int i2, .null]) (st' := [.int i1, .ref b16]) 1 am_q102 rfl ?_
      obtain ⟨g18, g19, b20, e21, H⟩ := H
      refine ev_s (pc' := 31) (loc' := [.ref a0, .int i1, .int i2, .null]) (st' := [.ref b20]) (h1 := h8) am_q102 rfl rfl rfl (am_xa g18 g19 e21) ?_
      refine ev_p (pc' := 33) (loc' := [.ref a0, .int i1, .int i2, .ref b20]) (st' := [.ref b20]) 2 am_q102 rfl ?_
      obtain ⟨g22, H⟩ := H
      refine ev_s (pc' := 36) (loc' := [.ref a0, .int i1, .int i2, .ref b20]) (st' := [.int (am_gi h8 b20 0)]) (h1 := h8) am_q102 rfl rfl rfl (if_pos (e := none) g22) ?_
      refine ev_jz (t := 50) am_q102 rfl rfl (fun hq => ?_) (fun hq => ?_)
      · replace H := H.1 hq
        refine ev_p (pc' := 52) (loc' := [.null, .null, .null, .null]) (st' := [.int (-3 : Int32)]) 1 am_q102 rfl ?_
        exact ev_r (v := some (.int (-3 : Int32))) am_q102 rfl rfl rfl rfl H
      · replace H := H.2 hq
        refine ev_p (pc' := 41) (loc' := [.ref a0, .int i1, .int i2, .ref b20]) (st' := [.ref a0, .ref b20]) 2 am_q102 rfl ?_
        obtain ⟨g23, H⟩ := H
        refine ev_s (pc' := 44) (loc' := [.ref a0, .int i1, .int i2, .ref b20]) (st' := [.int (am_gi h8 a0 0), .ref b20]) (h1 := h8) am_q102 rfl rfl rfl (if_pos (e := none) g23) ?_
        obtain ⟨g26, H⟩ := H
        refine ev_c (vs := [.ref b20, .int (am_gi h8 a0 0)]) (rest := []) 65 am_q102 rfl rfl rfl rfl rfl rfl rfl rfl rfl rfl rfl rfl (Or.inr (congrArg some g26)) (Cl.mono H (Nat.le_refl _) (fun r25 h24 H => ?_))
        obtain ⟨x27, rfl, H⟩ := H
        refine ev_jz (t := 53) am_q102 rfl rfl (fun hq => ?_) (fun hq => ?_)
        · replace H := H.1 hq
          refine ev_p (pc' := 55) (loc' := [.ref a0, .int i1, .int i2, .ref b20]) (st' := [.int i2, .ref a0]) 2 am_q102 rfl ?_
          obtain ⟨g30, H⟩ := H
          refine ev_c (vs := [.ref a0, .int i2]) (rest := []) 146 am_q102 rfl rfl rfl rfl rfl rfl rfl rfl rfl rfl rfl rfl (Or.inr (congrArg some g30)) (Cl.mono H (Nat.le_refl _) (fun r29 h28 H => ?_))
          obtain ⟨x31, rfl, H⟩ := H
          refine ev_jz (t := 77) am_q102 rfl rfl (fun hq => ?_) (fun hq => ?_)
          · replace H := H.1 hq
            refine ev_p (pc' := 79) (loc' := [.null, .null, .null, .null]) (st' := [.int (-3 : Int32)]) 1 am_q102 rfl ?_
            exact ev_r (v := some (.int (-3 : Int32))) am_q102 rfl rfl rfl rfl H
          · replace H := H.2 hq
            refine ev_p (pc' := 62) (loc' := [.ref a0, .int i1, .int i2, .ref b20]) (st' := [.ref a0]) 1 am_q102 rfl ?_
            obtain ⟨g32, b33, e34, H⟩ := H
            refine ev_s (pc' := 65) (loc' := [.ref a0, .int i1, .int i2, .ref b20]) (st' := [.ref b33]) (h1 := h28) am_q102 rfl rfl rfl (am_gf2 g32 e34) ?_
            refine ev_p (pc' := 67) (loc' := [.ref a0, .int i1, .int i2, .ref b20]) (st' := [.ref a0, .int i2, .ref b33]) 2 am_q102 rfl ?_
            obtain ⟨g35, H⟩ := H
            refine ev_s (pc' := 70) (loc' := [.ref a0, .int i1, .int i2, .ref b20]) (st' := [.int (am_gi h28 a0 0), .int i2, .ref b33]) (h1 := h28) am_q102 rfl rfl rfl (if_pos (e := none) g35) ?_
            obtain ⟨g38, H⟩ := H
            refine ev_c (vs := [.ref b33, .int i2, .int (am_gi h28 a0 0)]) (rest := []) 57 am_q102 rfl rfl rfl rfl rfl rfl rfl rfl rfl rfl rfl rfl (Or.inr (congrArg some g38)) (Cl.mono H (Nat.le_refl _) (fun r37 h36 H => ?_))
            obtain ⟨x39, rfl, H⟩ := H
            refine ev_p (pc' := 74) (loc' := [.ref a0, .int i1, .int i2, .ref b20]) (st' := [.int (-1 : Int32), .int x39]) 1 am_q102 rfl ?_
            refine ev_jc (t := 80) am_q102 rfl rfl (fun hq => ?_) (fun hq => ?_)
            · replace H := H.1 hq
              refine ev_p (pc' := 81) (loc' := [.ref a0, .int i1, .int i2, .ref b20]) (st' := [.ref a0]) 1 am_q102 rfl ?_
              obtain ⟨g40, b41, e42, H⟩ := H
              refine ev_s (pc' := 84) (loc' := [.ref a0, .int i1, .int i2, .ref b20]) (st' := [.ref b41]) (h1 := h36) am_q102 rfl rfl rfl (am_gf2 g40 e42) ?_
              refine ev_p (pc' := 85) (loc' := [.ref a0, .int i1, .int i2, .ref b20]) (st' := [.int (1 : Int32), .ref b41]) 1 am_q102 rfl ?_
              obtain ⟨g45, H⟩ := H
              refine ev_c (vs := [.ref b41, .int (1 : Int32)]) (rest := []) 54 am_q102 rfl rfl rfl rfl rfl rfl rfl rfl rfl rfl rfl rfl (Or.inr (congrArg some g45)) (Cl.mono H (Nat.le_refl _) (fun r44 h43 H => ?_))
              obtain ⟨x46, rfl, H⟩ := H
              refine ev_jz (t := 94) am_q102 rfl rfl (fun hq => ?_) (fun hq => ?_)
              · replace H := H.1 hq
                refine ev_p (pc' := 96) (loc' := [.ref a0, .int i1, .int i2, .ref b20]) (st' := [.ref a0, .ref b20]) 2 am_q102 rfl ?_
                obtain ⟨g47, H⟩ := H
                refine ev_s (pc' := 99) (loc' := [.ref a0, .int i1, .int i2, .ref b20]) (st' := [.int (am_gi h43 a0 0), .ref b20]) (h1 := h43) am_q102 rfl rfl rfl (if_pos (e := none) g47) ?_
                obtain ⟨g48, H⟩ := H
                refine ev_s (pc' := 102) (loc' := [.ref a0, .int i1, .int i2, .ref b20]) (st' := []) (h1 := am_si h43 b20 5 (am_gi h43 a0 0)) am_q102 rfl rfl rfl (if_pos (e := none) g48) ?_
                replace H := H _ rfl
                generalize am_si h43 b20 5 (am_gi h43 a0 0) = h49 at H ⊢
                refine ev_p (pc' := 103) (loc' := [.ref a0, .int i1, .int i2, .ref b20]) (st' := [.ref a0]) 1 am_q102 rfl ?_
                obtain ⟨g50, b51, e52, H⟩ := H
                refine ev_s (pc' := 106) (loc' := [.ref a0, .int i1, .int i2, .ref b20]) (st' := [.ref b51]) (h1 := h49) am_q102 rfl rfl rfl (am_gf2 g50 e52) ?_
                refine ev_p (pc' := 108) (loc' := [.ref a0, .int i1, .int i2, .ref b20]) (st' := [.ref b20, .int (3 : Int32), .ref b51]) 2 am_q102 rfl ?_
                obtain ⟨g53, H⟩ := H
                refine ev_s (pc' := 111) (loc' := [.ref a0, .int i1, .int i2, .ref b20]) (st' := [.int (am_gi h49 b20 1), .int (3 : Int32), .ref b51]) (h1 := h49) am_q102 rfl rfl rfl (if_pos (e := none) g53) ?_
                refine ev_p (pc' := 112) (loc' := [.ref a0, .int i1, .int i2, .ref b20]) (st' := [.ref b20, .int (am_gi h49 b20 1), .int (3 : Int32), .ref b51]) 1 am_q102 rfl ?_
                obtain ⟨g54, H⟩ := H
                refine ev_s (pc' := 115) (loc' := [.ref a0, .int i1, .int i2, .ref b20]) (st' := [.int (am_gi h49 b20 2), .int (am_gi h49 b20 1), .int (3 : Int32), .ref b51]) (h1 := h49) am_q102 rfl rfl rfl (if_pos (e := none) g54) ?_
                refine ev_p (pc' := 117) (loc' := [.ref a0, .int i1, .int i2, .ref b20]) (st' := [.ref a0, .int i2, .int (am_gi h49 b20 2), .int (am_gi h49 b20 1), .int (3 : Int32), .ref b51]) 2 am_q102 rfl ?_
                obtain ⟨g55, H⟩ := H
                refine ev_s (pc' := 120) (loc' := [.ref a0, .int i1, .int i2, .ref b20]) (st' := [.int (am_gi h49 a0 0), .int i2, .int (am_gi h49 b20 2), .int (am_gi h49 b20 1), .int (3 : Int32), .ref b51]) (h1 := h49) am_q102 rfl rfl rfl (if_pos (e := none) g55) ?_
                refine ev_p (pc' := 121) (loc' := [.ref a0, .int i1, .int i2, .ref b20]) (st' := [.int (-1 : Int32), .int (am_gi h49 a0 0), .int i2, .int (am_gi h49 b20 2), .int (am_gi h49 b20 1), .int (3 : Int32), .ref b51]) 1 am_q102 rfl ?_
                obtain ⟨g58, H⟩ := H
                refine ev_c (vs := [.ref b51, .int (3 : Int32), .int (am_gi h49 b20 1), .int (am_gi h49 b20 2), .int i2, .int (am_gi h49 a0 0), .int (-1 : Int32)]) (rest := []) 55 am_q102 rfl rfl rfl rfl rfl rfl rfl rfl rfl rfl rfl rfl (Or.inr (congrArg some g58)) (Cl.mono H (Nat.le_refl _) (fun r57 h56 H => ?_))
                obtain ⟨x59, rfl, H⟩ := H
                exact ev_r (v := some (.int x59)) am_q102 rfl rfl rfl rfl H
              · replace H := H.2 hq
                refine ev_p (pc' := 93) (loc' := [.ref a0, .int i1, .int i2, .ref b20]) (st' := [.int (-4 : Int32)]) 1 am_q102 rfl ?_
                exact ev_r (v := some (.int (-4 : Int32))) am_q102 rfl rfl rfl rfl H
            · replace H := H.2 hq
              refine ev_p (pc' := 79) (loc' := [.null, .null, .null, .null]) (st' := [.int (-3 : Int32)]) 1 am_q102 rfl ?_
              exact ev_r (v := some (.int (-3 : Int32))) am_q102 rfl rfl rfl rfl H
        · replace H := H.2 hq
          refine ev_p (pc' := 52) (loc' := [.null, .null, .null, .null]) (st' := [.int (-3 : Int32)]) 1 am_q102 rfl ?_
          exact ev_r (v := some (.int (-3 : Int32))) am_q102 rfl rfl rfl rfl H
    · replace H := H.2 hq
      refine ev_p (pc' := 21) (loc' := [.null, .null, .null, .null]) (st' := [.int (-2 : Int32)]) 1 am_q102 rfl ?_
      exact ev_r (v := some (.int (-2 : Int32))) am_q102 rfl rfl rfl rfl H
/-! 103: X11_end -/
theorem am_q103 : (am_mt 103).2.2.2.2.2 = am_m103.2.2.2.2.2 := rfl
set_option maxRecDepth 20000 in
set_option maxHeartbeats 2000000 in
theorem wp103 {d : Nat} (a0 : Nat) (i1 : Int32) {h : AH} {Q : Option Value → AH → Prop} (H : am_kd h a0 = 11 ∧ ∃ b2, am_gr h a0 5 = some b2 ∧ am_kd h b2 = 6 ∧ Cl d 53 [.ref b2, .int i1] h (fun r5 h4 => ∃ x7, r5 = some (.int x7) ∧ ((¬ x7 = (0 : Int32)) → am_kd h4 a0 = 11 ∧ ∃ b9, am_gr h4 a0 5 = some b9 ∧ am_kd h4 b9 = 6 ∧ ∃ b12, am_gr h4 b9 0 = some b12 ∧ (104 ≤ am_kd h4 b12 ∧ am_kd h4 b12 ≤ 109) ∧ am_in i1 (am_ln h4 b12) ∧ ∃ b16, am_gr h4 b12 (Int32.toNatClampNeg i1) = some b16 ∧ am_kd h4 a0 = 11 ∧ am_kd h4 b16 = 7 ∧ Cl d 65 [.ref b16, .int (am_gi h4 a0 0)] h4 (fun r20 h19 => ∃ x22, r20 = some (.int x22) ∧ ((¬ x22 = (0 : Int32)) → am_kd h19 a0 = 11 ∧ ∃ b24, am_gr h19 a0 5 = some b24 ∧ am_kd h19 b24 = 6 ∧ ∃ b27, am_gr h19 b24 0 = some b27 ∧ (104 ≤ am_kd h19 b27 ∧ am_kd h19 b27 ≤ 109) ∧ am_in i1 (am_ln h19 b27) ∧ ∃ b31, am_gr h19 b27 (Int32.toNatClampNeg i1) = some b31 ∧ am_kd h19 a0 = 11 ∧ am_kd h19 b31 = 7 ∧ ∀ h35, h35 = am_si h19 b31 5 (am_gi h19 a0 0) → Q (some (.int (1 : Int32))) h35) ∧ (¬ (¬ x22 = (0 : Int32)) → Q (some (.int (-3 : Int32))) h19))) ∧ (¬ (¬ x7 = (0 : Int32)) → Q (some (.int (-2 : Int32))) h4))) : Cl (d + 1) 103 [.ref a0, .int i1] h Q := by
  show Ev (d + 1) 103 0 [.ref a0, .int i1] [] h Q
  refine ev_p (pc' := 1) (loc' := [.ref a0, .int i1]) (st' := [.ref a0]) 1 am_q103 rfl ?_
  obtain ⟨g1, b2, e3, H⟩ := H
  refine ev_s (pc' := 4) (loc' := [.ref a0, .int i1]) (st' := [.ref b2]) (h1 := h) am_q103 rfl rfl rfl (am_gf2 g1 e3) ?_
  refine ev_p (pc' := 5) (loc' := [.ref a0, .int i1]) (st' := [.int i1, .ref b2]) 1 am_q103 rfl ?_
  obtain ⟨g6, H⟩ := H
  refine ev_c (vs := [.ref b2, .int i1]) (rest := []) 53 am_q103 rfl rfl rfl rfl rfl rfl rfl rfl rfl rfl rfl rfl (Or.inr (congrArg some g6)) (Cl.mono H (Nat.le_refl _) (fun r5 h4 H => ?_))
  obtain ⟨x7, rfl, H⟩ := H
  refine ev_jz (t := 14) am_q103 rfl rfl (fun hq => ?_) (fun hq => ?_)
  · replace H := H.1 hq
    refine ev_p (pc' := 15) (loc' := [.ref a0, .int i1]) (st' := [.ref a0]) 1 am_q103 rfl ?_
    obtain ⟨g8, b9, e10, H⟩ := H
    refine ev_s (pc' := 18) (loc' := [.ref a0, .int i1]) (st' := [.ref b9]) (h1 := h4) am_q103 rfl rfl rfl (am_gf2 g8 e10) ?_
    obtain ⟨g11, b12, e13, H⟩ := H
    refine ev_s (pc' := 21) (loc' := [.ref a0, .int i1]) (st' := [.ref b12]) (h1 := h4) am_q103 rfl rfl rfl (am_gf2 g11 e13) ?_
    refine ev_p (pc' := 22) (loc' := [.ref a0, .int i1]) (st' := [.int i1, .ref b12]) 1 am_q103 rfl ?_
    obtain ⟨g14, g15, b16, e17, H⟩ := H
    refine ev_s (pc' := 23) (loc' := [.ref a0, .int i1]) (st' := [.ref b16]) (h1 := h4) am_q103 rfl rfl rfl (am_xa g14 g15 e17) ?_
    refine ev_p (pc' := 24) (loc' := [.ref a0, .int i1]) (st' := [.ref a0, .ref b16]) 1 am_q103 rfl ?_
    obtain ⟨g18, H⟩ := H
    refine ev_s (pc' := 27) (loc' := [.ref a0, .int i1]) (st' := [.int (am_gi h4 a0 0), .ref b16]) (h1 := h4) am_q103 rfl rfl rfl (if_pos (e := none) g18) ?_
    obtain ⟨g21, H⟩ := H
    refine ev_c (vs := [.ref b16, .int (am_gi h4 a0 0)]) (rest := []) 65 am_q103 rfl rfl rfl rfl rfl rfl rfl rfl rfl rfl rfl rfl (Or.inr (congrArg some g21)) (Cl.mono H (Nat.le_refl _) (fun r20 h19 H => ?_))
    obtain ⟨x22, rfl, H⟩ := H
    refine ev_jz (t := 36) am_q103 rfl rfl (fun hq => ?_) (fun hq => ?_)
    · replace H := H.1 hq
      refine ev_p (pc' := 37) (loc' := [.ref a0, .int i1]) (st' := [.ref a0]) 1 am_q103 rfl ?_
      obtain ⟨g23, b24, e25, H⟩ := H
      refine ev_s (pc' := 40) (loc' := [.ref a0, .int i1]) (st' := [.ref b24]) (h1 := h19) am_q103 rfl rfl rfl (am_gf2 g23 e25) ?_
      obtain ⟨g26, b27, e28, H⟩ := H
      refine ev_s (pc' := 43) (loc' := [.ref a0, .int i1]) (st' := [.ref b27]) (h1 := h19) am_q103 rfl rfl rfl (am_gf2 g26 e28) ?_
      refine ev_p (pc' := 44) (loc' := [.ref a0, .int i1]) (st' := [.int i1, .ref b27]) 1 am_q103 rfl ?_
      obtain ⟨g29, g30, b31, e32, H⟩ := H
      refine ev_s (pc' := 45) (loc' := [.ref a0, .int i1]) (st' := [.ref b31]) (h1 := h19) am_q103 rfl rfl rfl (am_xa g29 g30 e32) ?_
      refine ev_p (pc' := 46) (loc' := [.ref a0, .int i1]) (st' := [.ref a0, .ref b31]) 1 am_q103 rfl ?_
      obtain ⟨g33, H⟩ := H
      refine ev_s (pc' := 49) (loc' := [.ref a0, .int i1]) (st' := [.int (am_gi h19 a0 0), .ref b31]) (h1 := h19) am_q103 rfl rfl rfl (if_pos (e := none) g33) ?_
      obtain ⟨g34, H⟩ := H
      refine ev_s (pc' := 52) (loc' := [.ref a0, .int i1]) (st' := []) (h1 := am_si h19 b31 5 (am_gi h19 a0 0)) am_q103 rfl rfl rfl (if_pos (e := none) g34) ?_
      replace H := H _ rfl
      generalize am_si h19 b31 5 (am_gi h19 a0 0) = h35 at H ⊢
      refine ev_p (pc' := 53) (loc' := [.ref a0, .int i1]) (st' := [.int (1 : Int32)]) 1 am_q103 rfl ?_
      exact ev_r (v := some (.int (1 : Int32))) am_q103 rfl rfl rfl rfl H
    · replace H := H.2 hq
      refine ev_p (pc' := 35) (loc' := [.ref a0, .int i1]) (st' := [.int (-3 : Int32)]) 1 am_q103 rfl ?_
      exact ev_r (v := some (.int (-3 : Int32))) am_q103 rfl rfl rfl rfl H
  · replace H := H.2 hq
    refine ev_p (pc' := 13) (loc' := [.ref a0, .int i1]) (st' := [.int (-2 : Int32)]) 1 am_q103 rfl ?_
    exact ev_r (v := some (.int (-2 : Int32))) am_q103 rfl rfl rfl rfl H
/-! 104: X11_leave -/
theorem am_q104 : (am_mt 104).2.2.2.2.2 = am_m104.2.2.2.2.2 := rfl
set_option maxRecDepth 20000 in
set_option maxHeartbeats 2000000 in
theorem wp104 {d : Nat} (a0 : Nat) (i1 : Int32) {h : AH} {Q : Option Value → AH → Prop} (H : am_kd h a0 = 11 ∧ Cl d 139 [.ref a0, .int i1] h (fun r2 h1 => ∃ x4, r2 = some (.int x4) ∧ ((¬ x4 = (0 : Int32)) → am_kd h1 a0 = 11 ∧ Cl d 146 [.ref a0, .int i1] h1 (fun r6 h5 => ∃ x8, r6 = some (.int x8) ∧ ((¬ x8 = (0 : Int32)) → am_kd h5 a0 = 11 ∧ ∃ b10, am_gr h5 a0 5 = some b10 ∧ am_kd h5 a0 = 11 ∧ ∃ b13, am_gr h5 a0 5 = some b13 ∧ am_kd h5 a0 = 11 ∧ am_kd h5 b13 = 6 ∧ Cl d 60 [.ref b13, .int i1, .int (am_gi h5 a0 0)] h5 (fun r17 h16 => ∃ x19, r17 = some (.int x19) ∧ am_kd h16 b10 = 6 ∧ Cl d 54 [.ref b10, .int x19] h16 (fun r21 h20 => ∃ x23, r21 = some (.int x23) ∧ ((¬ x23 = (0 : Int32)) → am_kd h20 a0 = 11 ∧ ∃ b25, am_gr h20 a0 5 = some b25 ∧ am_kd h20 a0 = 11 ∧ am_kd h20 b25 = 6 ∧ Cl d 61 [.ref b25, .int i1, .int (am_gi h20 a0 0)] h20 (fun r29 h28 => ∃ x31, r29 = some (.int x31) ∧ am_kd h28 a0 = 11 ∧ ∃ b33, am_gr h28 a0 5 = some b33 ∧ am_kd h28 a0 = 11 ∧ am_kd h28 b33 = 6 ∧ Cl d 62 [.ref b33, .int i1, .int (am_gi h28 a0 0)] h28 (fun r37 h36 => r37 = none ∧ am_kd h36 a0 = 11 ∧ ∃ b40, am_gr h36 a0 3 = some b40 ∧ (104 ≤ am_kd h36 b40 ∧ am_kd h36 b40 ≤ 109) ∧ am_in i1 (am_ln h36 b40) ∧ ∃ b44, am_gr h36 b40 (Int32.toNatClampNeg i1) = some b44 ∧ am_kd h36 a0 = 11 ∧ am_kd h36 b44 = 3 ∧ Cl d 21 [.ref b44, .int (am_gi h36 a0 0)] h36 (fun r48 h47 => r48 = none ∧ Ev (d + 1) 104 87 [.ref a0, .int i1, .int x31, .int (0 : Int32)] [] h47 Q)))) ∧ (¬ (¬ x23 = (0 : Int32)) → Q (some (.int (-4 : Int32))) h20)))) ∧ (¬ (¬ x8 = (0 : Int32)) → Q (some (.int (-3 : Int32))) h5))) ∧ (¬ (¬ x4 = (0 : Int32)) → Q (some (.int (-2 : Int32))) h1))) : Cl (d + 1) 104 [.ref a0, .int i1] h Q := by
  show Ev (d + 1) 104 0 [.ref a0, .int i1, .null, .null] [] h Q
  refine ev_p (pc' := 2) (loc' := [.ref a0, .int i1, .null, .null]) (st' := [.int i1, .ref a0]) 2 am_q104 rfl ?_
  obtain ⟨g3, H⟩ := H
  refine ev_c (vs := [.ref a0, .int i1]) (rest := []) 139 am_q104 rfl rfl rfl rfl rfl rfl rfl rfl rfl rfl rfl rfl (Or.inr (congrArg some g3)) (Cl.mono H (Nat.le_refl _) (fun r2 h1 H => ?_))
  obtain ⟨x4, rfl, H⟩ := H
  refine ev_jz (t := 11) am_q104 rfl rfl (fun hq => ?_) (fun hq => ?_)
  · replace H := H.1 hq
    refine ev_p (pc' := 13) (loc' := [.ref a0, .int i1, .null, .null]) (st' := [.int i1, .ref a0]) 2 am_q104 rfl ?_
    obtain ⟨g7, H⟩ := H
    refine ev_c (vs := [.ref a0, .int i1]) (rest := []) 146 am_q104 rfl rfl rfl rfl rfl rfl rfl rfl rfl rfl rfl rfl (Or.inr (congrArg some g7)) (Cl.mono H (Nat.le_refl _) (fun r6 h5 H => ?_))
    obtain ⟨x8, rfl, H⟩ := H
    refine ev_jz (t := 22) am_q104 rfl rfl (fun hq => ?_) (fun hq => ?_)
    · replace H := H.1 hq
      refine ev_p (pc' := 23) (loc' := [.ref a0, .int i1, .null, .null]) (st' := [.ref a0]) 1 am_q104 rfl ?_
      obtain ⟨g9, b10, e11, H⟩ := H
      refine ev_s (pc' := 26) (loc' := [.ref a0, .int i1, .null, .null]) (st' := [.ref b10]) (h1 := h5) am_q104 rfl rfl rfl (am_gf2 g9 e11) ?_
      refine ev_p (pc' := 27) (loc' := [.ref a0, .int i1, .null, .null]) (st' := [.ref a0, .ref b10]) 1 am_q104 rfl ?_
      obtain ⟨g12, b13, e14, H⟩ := H
      refine ev_s (pc' := 30) (loc' := [.ref a0, .int i1, .null, .null]) (st' := [.ref b13, .ref b10]) (h1 := h5) am_q104 rfl rfl rfl (am_gf2 g12 e14) ?_
      refine ev_p (pc' := 32) (loc' := [.ref a0, .int i1, .null, .null]) (st' := [.ref a0, .int i1, .ref b13, .ref b10]) 2 am_q104 rfl ?_
      obtain ⟨g15, H⟩ := H
      refine ev_s (pc' := 35) (loc' := [.ref a0, .int i1, .null, .null]) (st' := [.int (am_gi h5 a0 0), .int i1, .ref b13, .ref b10]) (h1 := h5) am_q104 rfl rfl rfl (if_pos (e := none) g15) ?_
      obtain ⟨g18, H⟩ := H
      refine ev_c (vs := [.ref b13, .int i1, .int (am_gi h5 a0 0)]) (rest := [.ref b10]) 60 am_q104 rfl rfl rfl rfl rfl rfl rfl rfl rfl rfl rfl rfl (Or.inr (congrArg some g18)) (Cl.mono H (Nat.le_refl _) (fun r17 h16 H => ?_))
      obtain ⟨x19, rfl, H⟩ := H
      obtain ⟨g22, H⟩ := H
      refine ev_c (vs := [.ref b10, .int x19]) (rest := []) 54 am_q104 rfl rfl rfl rfl rfl rfl rfl rfl rfl rfl rfl rfl (Or.inr (congrArg some g22)) (Cl.mono H (Nat.le_refl _) (fun r21 h20 H => ?_))
      obtain ⟨x23, rfl, H⟩ := H
      refine ev_jz (t := 47) am_q104 rfl rfl (fun hq => ?_) (fun hq => ?_)
      · replace H := H.1 hq
        refine ev_p (pc' := 48) (loc' := [.ref a0, .int i1, .null, .null]) (st' := [.ref a0]) 1 am_q104 rfl ?_
        obtain ⟨g24, b25, e26, H⟩ := H
        refine ev_s (pc' := 51) (loc' := [.ref a0, .int i1, .null, .null]) (st' := [.ref b25]) (h1 := h20) am_q104 rfl rfl rfl (am_gf2 g24 e26) ?_
        refine ev_p (pc' := 53) (loc' := [.ref a0, .int i1, .null, .null]) (st' := [.ref a0, .int i1, .ref b25]) 2 am_q104 rfl ?_
        obtain ⟨g27, H⟩ := H
        refine ev_s (pc' := 56) (loc' := [.ref a0, .int i1, .null, .null]) (st' := [.int (am_gi h20 a0 0), .int i1, .ref b25]) (h1 := h20) am_q104 rfl rfl rfl (if_pos (e := none) g27) ?_
        obtain ⟨g30, H⟩ := H
        refine ev_c (vs := [.ref b25, .int i1, .int (am_gi h20 a0 0)]) (rest := []) 61 am_q104 rfl rfl rfl rfl rfl rfl rfl rfl rfl rfl rfl rfl (Or.inr (congrArg some g30)) (Cl.mono H (Nat.le_refl _) (fun r29 h28 H => ?_))
        obtain ⟨x31, rfl, H⟩ := H
        refine ev_p (pc' := 61) (loc' := [.ref a0, .int i1, .int x31, .null]) (st' := [.ref a0]) 2 am_q104 rfl ?_
        obtain ⟨g32, b33, e34, H⟩ := H
        refine ev_s (pc' := 64) (loc' := [.ref a0, .int i1, .int x31, .null]) (st' := [.ref b33]) (h1 := h28) am_q104 rfl rfl rfl (am_gf2 g32 e34) ?_
        refine ev_p (pc' := 66) (loc' := [.ref a0, .int i1, .int x31, .null]) (st' := [.ref a0, .int i1, .ref b33]) 2 am_q104 rfl ?_
        obtain ⟨g35, H⟩ := H
        refine ev_s (pc' := 69) (loc' := [.ref a0, .int i1, .int x31, .null]) (st' := [.int (am_gi h28 a0 0), .int i1, .ref b33]) (h1 := h28) am_q104 rfl rfl rfl (if_pos (e := none) g35) ?_
        obtain ⟨g38, H⟩ := H
        refine ev_c (vs := [.ref b33, .int i1, .int (am_gi h28 a0 0)]) (rest := []) 62 am_q104 rfl rfl rfl rfl rfl rfl rfl rfl rfl rfl rfl rfl (Or.inr (congrArg some g38)) (Cl.mono H (Nat.le_refl _) (fun r37 h36 H => ?_))
        obtain ⟨rfl, H⟩ := H
        refine ev_p (pc' := 73) (loc' := [.ref a0, .int i1, .int x31, .null]) (st' := [.ref a0]) 1 am_q104 rfl ?_
        obtain ⟨g39, b40, e41, H⟩ := H
        refine ev_s (pc' := 76) (loc' := [.ref a0, .int i1, .int x31, .null]) (st' := [.ref b40]) (h1 := h36) am_q104 rfl rfl rfl (am_gf2 g39 e41) ?_
        refine ev_p (pc' := 77) (loc' := [.ref a0, .int i1, .int x31, .null]) (st' := [.int i1, .ref b40]) 1 am_q104 rfl ?_
        obtain ⟨g42, g43, b44, e45, H⟩ := H
        refine ev_s (pc' := 78) (loc' := [.ref a0, .int i1, .int x31, .null]) (st' := [.ref b44]) (h1 := h36) am_q104 rfl rfl rfl (am_xa g42 g43 e45) ?_
        refine ev_p (pc' := 79) (loc' := [.ref a0, .int i1, .int x31, .null]) (st' := [.ref a0, .ref b44]) 1 am_q104 rfl ?_
        obtain ⟨g46, H⟩ := H
        refine ev_s (pc' := 82) (loc' := [.ref a0, .int i1, .int x31, .null]) (st' := [.int (am_gi h36 a0 0), .ref b44]) (h1 := h36) am_q104 rfl rfl rfl (if_pos (e := none) g46) ?_
        obtain ⟨g49, H⟩ := H
        refine ev_c (vs := [.ref b44, .int (am_gi h36 a0 0)]) (rest := []) 21 am_q104 rfl rfl rfl rfl rfl rfl rfl rfl rfl rfl rfl rfl (Or.inr (congrArg some g49)) (Cl.mono H (Nat.le_refl _) (fun r48 h47 H => ?_))
        obtain ⟨rfl, H⟩ := H
        refine ev_p (pc' := 87) (loc' := [.ref a0, .int i1, .int x31, .int (0 : Int32)]) (st' := []) 2 am_q104 rfl ?_
        exact ev_m (loc' := [.ref a0, .int i1, .int x31, .int (0 : Int32)]) am_q104 rfl rfl H
      · replace H := H.2 hq
        refine ev_p (pc' := 46) (loc' := [.ref a0, .int i1, .null, .null]) (st' := [.int (-4 : Int32)]) 1 am_q104 rfl ?_
        exact ev_r (v := some (.int (-4 : Int32))) am_q104 rfl rfl rfl rfl H
    · replace H := H.2 hq
      refine ev_p (pc' := 21) (loc' := [.ref a0, .int i1, .null, .null]) (st' := [.int (-3 : Int32)]) 1 am_q104 rfl ?_
      exact ev_r (v := some (.int (-3 : Int32))) am_q104 rfl rfl rfl rfl H
  · replace H := H.2 hq
    refine ev_p (pc' := 10) (loc' := [.ref a0, .int i1, .null, .null]) (st' := [.int (-2 : Int32)]) 1 am_q104 rfl ?_
    exact ev_r (v := some (.int (-2 : Int32))) am_q104 rfl rfl rfl rfl H
set_option maxRecDepth 20000 in
set_option maxHeartbeats 2000000 in
theorem wp104_87 {d : Nat} (a0 : Nat) (i1 : Int32) (i2 : Int32) (i3 : Int32) {h : AH} {Q : Option Value → AH → Prop} (H : am_kd h a0 = 11 ∧ ((am_gi h a0 2) ≤ i3 → Q (some (.int i2)) h) ∧ (¬ (am_gi h a0 2) ≤ i3 → am_kd h a0 = 11 ∧ ∃ b3, am_gr h a0 1 = some b3 ∧ (104 ≤ am_kd h b3 ∧ am_kd h b3 ≤ 109) ∧ am_in i3 (am_ln h b3) ∧ ∃ b7, am_gr h b3 (Int32.toNatClampNeg i3) = some b7 ∧ am_kd h b7 = 2 ∧ am_kd h b7 = 2 ∧ ∀ h11, h11 = am_si h b7 4 ((am_gi h b7 4) &&& (((1 : Int32) <<< (i1 &&& 31)) ^^^ (-1 : Int32))) → Ev (d + 1) 104 87 [.ref a0, .int i1, .int i2, .int (i3 + (1 : Int32))] [] h11 Q)) : Ev (d + 1) 104 87 [.ref a0, .int i1, .int i2, .int i3] [] h Q := by
  refine ev_p (pc' := 89) (loc' := [.ref a0, .int i1, .int i2, .int i3]) (st' := [.ref a0, .int i3]) 2 am_q104 rfl ?_
  obtain ⟨g1, H⟩ := H
  refine ev_s (pc' := 92) (loc' := [.ref a0, .int i1, .int i2, .int i3]) (st' := [.int (am_gi h a0 2), .int i3]) (h1 := h) am_q104 rfl rfl rfl (if_pos (e := none) g1) ?_
  refine ev_jc (t := 120) am_q104 rfl rfl (fun hq => ?_) (fun hq => ?_)
  · replace H := H.1 hq
    refine ev_p (pc' := 121) (loc' := [.ref a0, .int i1, .int i2, .int i3]) (st' := [.int i2]) 1 am_q104 rfl ?_
    exact ev_r (v := some (.int i2)) am_q104 rfl rfl rfl rfl H
  · replace H := H.2 hq
    refine ev_p (pc' := 96) (loc' := [.ref a0, .int i1, .int i2, .int i3]) (st' := [.ref a0]) 1 am_q104 rfl ?_
    obtain ⟨g2, b3, e4, H⟩ := H
    refine ev_s (pc' := 99) (loc' := [.ref a0, .int i1, .int i2, .int i3]) (st' := [.ref b3]) (h1 := h) am_q104 rfl rfl rfl (am_gf2 g2 e4) ?_
    refine ev_p (pc' := 100) (loc' := [.ref a0, .int i1, .int i2, .int i3]) (st' := [.int i3, .ref b3]) 1 am_q104 rfl ?_
    obtain ⟨g5, g6, b7, e8, H⟩ := H
    refine ev_s (pc' := 101) (loc' := [.ref a0, .int i1, .int i2, .int i3]) (st' := [.ref b7]) (h1 := h) am_q104 rfl rfl rfl (am_xa g5 g6 e8) ?_
    refine ev_p (pc' := 102) (loc' := [.ref a0, .int i1, .int i2, .int i3]) (st' := [.ref b7, .ref b7]) 1 am_q104 rfl ?_
    obtain ⟨g9, H⟩ := H
    refine ev_s (pc' := 105) (loc' := [.ref a0, .int i1, .int i2, .int i3]) (st' := [.int (am_gi h b7 4), .ref b7]) (h1 := h) am_q104 rfl rfl rfl (if_pos (e := none) g9) ?_
    refine ev_p (pc' := 111) (loc' := [.ref a0, .int i1, .int i2, .int i3]) (st' := [.int ((am_gi h b7 4) &&& (((1 : Int32) <<< (i1 &&& 31)) ^^^ (-1 : Int32))), .ref b7]) 6 am_q104 rfl ?_
    obtain ⟨g10, H⟩ := H
    refine ev_s (pc' := 114) (loc' := [.ref a0, .int i1, .int i2, .int i3]) (st' := []) (h1 := am_si h b7 4 ((am_gi h b7 4) &&& (((1 : Int32) <<< (i1 &&& 31)) ^^^ (-1 : Int32)))) am_q104 rfl rfl rfl (if_pos (e := none) g10) ?_
    replace H := H _ rfl
    generalize am_si h b7 4 ((am_gi h b7 4) &&& (((1 : Int32) <<< (i1 &&& 31)) ^^^ (-1 : Int32))) = h11 at H ⊢
    refine ev_p (pc' := 87) (loc' := [.ref a0, .int i1, .int i2, .int (i3 + (1 : Int32))]) (st' := []) 2 am_q104 rfl ?_
    exact ev_m (loc' := [.ref a0, .int i1, .int i2, .int (i3 + (1 : Int32))]) am_q104 rfl rfl H
/-! 105: X11_rightTold -/
theorem am_q105 : (am_mt 105).2.2.2.2.2 = am_m105.2.2.2.2.2 := rfl
set_option maxRecDepth 20000 in
set_option maxHeartbeats 2000000 in
theorem wp105 {d : Nat} (a0 : Nat) (i1 : Int32) (i2 : Int32) {h : AH} {Q : Option Value → AH → Prop} (H : am_kd h a0 = 11 ∧ ∃ b2, am_gr h a0 5 = some b2 ∧ am_kd h b2 = 6 ∧ Cl d 53 [.ref b2, .int i1] h (fun r5 h4 => ∃ x7, r5 = some (.int x7) ∧ ((¬ x7 = (0 : Int32)) → am_kd h4 a0 = 11 ∧ ∃ b9, am_gr h4 a0 5 = some b9 ∧ am_kd h4 b9 = 6 ∧ ∃ b12, am_gr h4 b9 0 = some b12 ∧ (104 ≤ am_kd h4 b12 ∧ am_kd h4 b12 ≤ 109) ∧ am_in i1 (am_ln h4 b12) ∧ ∃ b16, am_gr h4 b12 (Int32.toNatClampNeg i1) = some b16 ∧ (i2 = (0 : Int32) → am_kd h4 b16 = 7 ∧ Q (some (.int (am_gi h4 b16 0))) h4) ∧ (i2 = (1 : Int32) → am_kd h4 b16 = 7 ∧ Q (some (.int (am_gi h4 b16 1))) h4) ∧ (i2 = (2 : Int32) → am_kd h4 b16 = 7 ∧ Q (some (.int (am_gi h4 b16 2))) h4) ∧ (i2 = (3 : Int32) → am_kd h4 b16 = 7 ∧ Q (some (.int (am_gi h4 b16 3))) h4) ∧ (i2 = (4 : Int32) → am_kd h4 b16 = 7 ∧ Q (some (.int (am_gi h4 b16 4))) h4) ∧ (i2 = (5 : Int32) → am_kd h4 b16 = 7 ∧ Q (some (.int (am_gi h4 b16 5))) h4) ∧ (i2 = (6 : Int32) → am_kd h4 a0 = 11 ∧ am_kd h4 b16 = 7 ∧ Cl d 65 [.ref b16, .int (am_gi h4 a0 0)] h4 (fun r32 h31 => ∃ x34, r32 = some (.int x34) ∧ (x34 = (0 : Int32) → Q (some (.int (0 : Int32))) h31) ∧ (¬ x34 = (0 : Int32) → Q (some (.int (1 : Int32))) h31))) ∧ (¬ i2 = (0 : Int32) ∧ ¬ i2 = (1 : Int32) ∧ ¬ i2 = (2 : Int32) ∧ ¬ i2 = (3 : Int32) ∧ ¬ i2 = (4 : Int32) ∧ ¬ i2 = (5 : Int32) ∧ ¬ i2 = (6 : Int32) → Q (some (.int (-2 : Int32))) h4)) ∧ (¬ (¬ x7 = (0 : Int32)) → Q (some (.int (-2 : Int32))) h4))) : Cl (d + 1) 105 [.ref a0, .int i1, .int i2] h Q := by
  show Ev (d + 1) 105 0 [.ref a0, .int i1, .int i2, .null] [] h Q
  refine ev_p (pc' := 1) (loc' := [.ref a0, .int i1, .int i2, .null]) (st' := [.ref a0]) 1 am_q105 rfl ?_
  obtain ⟨g1, b2, e3, H⟩ := H
  refine ev_s (pc' := 4) (loc' := [.ref a0, .int i1, .int i2, .null]) (st' := [.ref b2]) (h1 := h) am_q105 rfl rfl rfl (am_gf2 g1 e3) ?_
  refine ev_p (pc' := 5) (loc' := [.ref a0, .int i1, .int i2, .null]) (st' := [.int i1, .ref b2]) 1 am_q105 rfl ?_
  obtain ⟨g6, H⟩ := H
  refine ev_c (vs := [.ref b2, .int i1]) (rest := []) 53 am_q105 rfl rfl rfl rfl rfl rfl rfl rfl rfl rfl rfl rfl (Or.inr (congrArg some g6)) (Cl.mono H (Nat.le_refl _) (fun r5 h4 H => ?_))
  obtain ⟨x7, rfl, H⟩ := H
  refine ev_jz (t := 14) am_q105 rfl rfl (fun hq => ?_) (fun hq => ?_)
  · replace H := H.1 hq
    refine ev_p (pc' := 15) (loc' := [.ref a0, .int i1, .int i2, .null]) (st' := [.ref a0]) 1 am_q105 rfl ?_
    obtain ⟨g8, b9, e10, H⟩ := H
    refine ev_s (pc' := 18) (loc' := [.ref a0, .int i1, .int i2, .null]) (st' := [.ref b9]) (h1 := h4) am_q105 rfl rfl rfl (am_gf2 g8 e10) ?_
    obtain ⟨g11, b12, e13, H⟩ := H
    refine ev_s (pc' := 21) (loc' := [.ref a0, .int i1, .int i2, .null]) (st' := [.ref b12]) (h1 := h4) am_q105 rfl rfl rfl (am_gf2 g11 e13) ?_
    refine ev_p (pc' := 22) (loc' := [.ref a0, .int i1, .int i2, .null]) (st' := [.int i1, .ref b12]) 1 am_q105 rfl ?_
    obtain ⟨g14, g15, b16, e17, H⟩ := H
    refine ev_s (pc' := 23) (loc' := [.ref a0, .int i1, .int i2, .null]) (st' := [.ref b16]) (h1 := h4) am_q105 rfl rfl rfl (am_xa g14 g15 e17) ?_
    refine ev_p (pc' := 25) (loc' := [.ref a0, .int i1, .int i2, .ref b16]) (st' := [.int i2]) 2 am_q105 rfl ?_
    by_cases k19 : i2 = (0 : Int32)
    · replace H := H.1 k19
      refine ev_s (pc' := 68) (loc' := [.ref a0, .int i1, .int i2, .ref b16]) (st' := []) (h1 := h4) am_q105 rfl rfl rfl (by rw [k19]; rfl) ?_
      refine ev_p (pc' := 69) (loc' := [.ref a0, .int i1, .int i2, .ref b16]) (st' := [.ref b16]) 1 am_q105 rfl ?_
      obtain ⟨g18, H⟩ := H
      refine ev_s (pc' := 72) (loc' := [.ref a0, .int i1, .int i2, .ref b16]) (st' := [.int (am_gi h4 b16 0)]) (h1 := h4) am_q105 rfl rfl rfl (if_pos (e := none) g18) ?_
      exact ev_r (v := some (.int (am_gi h4 b16 0))) am_q105 rfl rfl rfl rfl H
    replace H := H.2
    by_cases k21 : i2 = (1 : Int32)
    · replace H := H.1 k21
      refine ev_s (pc' := 73) (loc' := [.ref a0, .int i1, .int i2, .ref b16]) (st' := []) (h1 := h4) am_q105 rfl rfl rfl (by rw [k21]; rfl) ?_
      refine ev_p (pc' := 74) (loc' := [.ref a0, .int i1, .int i2, .ref b16]) (st' := [.ref b16]) 1 am_q105 rfl ?_
      obtain ⟨g20, H⟩ := H
      refine ev_s (pc' := 77) (loc' := [.ref a0, .int i1, .int i2, .ref b16]) (st' := [.int (am_gi h4 b16 1)]) (h1 := h4) am_q105 rfl rfl rfl (if_pos (e := none) g20) ?_
      exact ev_r (v := some (.int (am_gi h4 b16 1))) am_q105 rfl rfl rfl rfl H
    replace H := H.2
    by_cases k23 : i2 = (2 : Int32)
    · replace H := H.1 k23
      refine ev_s (pc' := 78) (loc' := [.ref a0, .int i1, .int i2, .ref b16]) (st' := []) (h1 := h4) am_q105 rfl rfl rfl (by rw [k23]; rfl) ?_
      refine ev_p (pc' := 79) (loc' := [.ref a0, .int i1, .int i2, .ref b16]) (st' := [.ref b16]) 1 am_q105 rfl ?_
      obtain ⟨g22, H⟩ := H
      refine ev_s (pc' := 82) (loc' := [.ref a0, .int i1, .int i2, .ref b16]) (st' := [.int (am_gi h4 b16 2)]) (h1 := h4) am_q105 rfl rfl rfl (if_pos (e := none) g22) ?_
      exact ev_r (v := some (.int (am_gi h4 b16 2))) am_q105 rfl rfl rfl rfl H
    replace H := H.2
    by_cases k25 : i2 = (3 : Int32)
    · replace H := H.1 k25
      refine ev_s (pc' := 83) (loc' := [.ref a0, .int i1, .int i2, .ref b16]) (st' := []) (h1 := h4) am_q105 rfl rfl rfl (by rw [k25]; rfl) ?_
      refine ev_p (pc' := 84) (loc' := [.ref a0, .int i1, .int i2, .ref b16]) (st' := [.ref b16]) 1 am_q105 rfl ?_
      obtain ⟨g24, H⟩ := H
      refine ev_s (pc' := 87) (loc' := [.ref a0, .int i1, .int i2, .ref b16]) (st' := [.int (am_gi h4 b16 3)]) (h1 := h4) am_q105 rfl rfl rfl (if_pos (e := none) g24) ?_
      exact ev_r (v := some (.int (am_gi h4 b16 3))) am_q105 rfl rfl rfl rfl H
    replace H := H.2
    by_cases k27 : i2 = (4 : Int32)
    · replace H := H.1 k27
      refine ev_s (pc' := 88) (loc' := [.ref a0, .int i1, .int i2, .ref b16]) (st' := []) (h1 := h4) am_q105 rfl rfl rfl (by rw [k27]; rfl) ?_
      refine ev_p (pc' := 89) (loc' := [.ref a0, .int i1, .int i2, .ref b16]) (st' := [.ref b16]) 1 am_q105 rfl ?_
      obtain ⟨g26, H⟩ := H
      refine ev_s (pc' := 92) (loc' := [.ref a0, .int i1, .int i2, .ref b16]) (st' := [.int (am_gi h4 b16 4)]) (h1 := h4) am_q105 rfl rfl rfl (if_pos (e := none) g26) ?_
      exact ev_r (v := some (.int (am_gi h4 b16 4))) am_q105 rfl rfl rfl rfl H
    replace H := H.2
    by_cases k29 : i2 = (5 : Int32)
    · replace H := H.1 k29
      refine ev_s (pc' := 93) (loc' := [.ref a0, .int i1, .int i2, .ref b16]) (st' := []) (h1 := h4) am_q105 rfl rfl rfl (by rw [k29]; rfl) ?_
      refine ev_p (pc' := 94) (loc' := [.ref a0, .int i1, .int i2, .ref b16]) (st' := [.ref b16]) 1 am_q105 rfl ?_
      obtain ⟨g28, H⟩ := H
      refine ev_s (pc' := 97) (loc' := [.ref a0, .int i1, .int i2, .ref b16]) (st' := [.int (am_gi h4 b16 5)]) (h1 := h4) am_q105 rfl rfl rfl (if_pos (e := none) g28) ?_
      exact ev_r (v := some (.int (am_gi h4 b16 5))) am_q105 rfl rfl rfl rfl H
    replace H := H.2
    by_cases k35 : i2 = (6 : Int32)
    · replace H := H.1 k35
      refine ev_s (pc' := 98) (loc' := [.ref a0, .int i1, .int i2, .ref b16]) (st' := []) (h1 := h4) am_q105 rfl rfl rfl (by rw [k35]; rfl) ?_
      refine ev_p (pc' := 100) (loc' := [.ref a0, .int i1, .int i2, .ref b16]) (st' := [.ref a0, .ref b16]) 2 am_q105 rfl ?_
      obtain ⟨g30, H⟩ := H
      refine ev_s (pc' := 103) (loc' := [.ref a0, .int i1, .int i2, .ref b16]) (st' := [.int (am_gi h4 a0 0), .ref b16]) (h1 := h4) am_q105 rfl rfl rfl (if_pos (e := none) g30) ?_
      obtain ⟨g33, H⟩ := H
      refine ev_c (vs := [.ref b16, .int (am_gi h4 a0 0)]) (rest := []) 65 am_q105 rfl rfl rfl rfl rfl rfl rfl rfl rfl rfl rfl rfl (Or.inr (congrArg some g33)) (Cl.mono H (Nat.le_refl _) (fun r32 h31 H => ?_))
      obtain ⟨x34, rfl, H⟩ := H
      refine ev_jz (t := 113) am_q105 rfl rfl (fun hq => ?_) (fun hq => ?_)
      · replace H := H.1 hq
        refine ev_p (pc' := 114) (loc' := [.ref a0, .int i1, .int i2, .ref b16]) (st' := [.int (0 : Int32)]) 1 am_q105 rfl ?_
        exact ev_r (v := some (.int (0 : Int32))) am_q105 rfl rfl rfl rfl H
      · replace H := H.2 hq
        refine ev_p (pc' := 114) (loc' := [.ref a0, .int i1, .int i2, .ref b16]) (st' := [.int (1 : Int32)]) 2 am_q105 rfl ?_
        exact ev_r (v := some (.int (1 : Int32))) am_q105 rfl rfl rfl rfl H
    replace H := H.2
    replace H := H ⟨k19, k21, k23, k25, k27, k29, k35⟩
    refine ev_s (pc' := 115) (loc' := [.ref a0, .int i1, .int i2, .ref b16]) (st' := []) (h1 := h4) am_q105 rfl rfl rfl (am_tso (x := (i2).toInt) (by have z0 : (i2).toInt ≠ 0 := am_tn k19 (by decide); have z1 : (i2).toInt ≠ 1 := am_tn k21 (by decide); have z2 : (i2).toInt ≠ 2 := am_tn k23 (by decide); have z3 : (i2).toInt ≠ 3 := am_tn k25 (by decide); have z4 : (i2).toInt ≠ 4 := am_tn k27 (by decide); have z5 : (i2).toInt ≠ 5 := am_tn k29 (by decide); have z6 : (i2).toInt ≠ 6 := am_tn k35 (by decide); omega)) ?_
    refine ev_p (pc' := 117) (loc' := [.ref a0, .int i1, .int i2, .ref b16]) (st' := [.int (-2 : Int32)]) 1 am_q105 rfl ?_
    exact ev_r (v := some (.int (-2 : Int32))) am_q105 rfl rfl rfl rfl H
  · replace H := H.2 hq
    refine ev_p (pc' := 13) (loc' := [.ref a0, .int i1, .int i2, .null]) (st' := [.int (-2 : Int32)]) 1 am_q105 rfl ?_
    exact ev_r (v := some (.int (-2 : Int32))) am_q105 rfl rfl rfl rfl H
/-! 106: X11_inForce -/
theorem am_q106 : (am_mt 106).2.2.2.2.2 = am_m106.2.2.2.2.2 := rfl
set_option maxRecDepth 20000 in
set_option maxHeartbeats 2000000 in
theorem wp106 {d : Nat} (a0 : Nat) (i1 : Int32) (i2 : Int32) (i3 : Int32) {h : AH} {Q : Option Value → AH → Prop} (H : Cl d 143 [.int i3] h (fun r2 h1 => ∃ x3, r2 = some (.int x3) ∧ ((¬ x3 = (0 : Int32)) → ((¬ i1 = (0 : Int32)) → Ev (d + 1) 106 32 [.ref a0, .int i1, .int i2, .int i3] [] h1 Q) ∧ (¬ (¬ i1 = (0 : Int32)) → am_kd h1 a0 = 11 ∧ Cl d 138 [.ref a0, .int i2] h1 (fun r5 h4 => ∃ x7, r5 = some (.int x7) ∧ (x7 = (0 : Int32) → Ev (d + 1) 106 32 [.ref a0, .int i1, .int i2, .int i3] [] h4 Q) ∧ (¬ x7 = (0 : Int32) → am_kd h4 a0 = 11 ∧ ∃ b9, am_gr h4 a0 5 = some b9 ∧ am_kd h4 b9 = 6 ∧ Cl d 56 [.ref b9, .int i2, .int i3] h4 (fun r12 h11 => ∃ x14, r12 = some (.int x14) ∧ Q (some (.int x14)) h11))))) ∧ (¬ (¬ x3 = (0 : Int32)) → Q (some (.int (-2 : Int32))) h1))) : Cl (d + 1) 106 [.ref a0, .int i1, .int i2, .int i3] h Q := by
  show Ev (d + 1) 106 0 [.ref a0, .int i1, .int i2, .int i3] [] h Q
  refine ev_p (pc' := 1) (loc' := [.ref a0, .int i1, .int i2, .int i3]) (st' := [.int i3]) 1 am_q106 rfl ?_
  refine ev_c (vs := [.int i3]) (rest := []) 143 am_q106 rfl rfl rfl rfl rfl rfl rfl rfl rfl rfl rfl rfl (Or.inl rfl) (Cl.mono H (Nat.le_refl _) (fun r2 h1 H => ?_))
  obtain ⟨x3, rfl, H⟩ := H
  refine ev_jz (t := 10) am_q106 rfl rfl (fun hq => ?_) (fun hq => ?_)
  · replace H := H.1 hq
    refine ev_p (pc' := 11) (loc' := [.ref a0, .int i1, .int i2, .int i3]) (st' := [.int i1]) 1 am_q106 rfl ?_
    refine ev_jz (t := 32) am_q106 rfl rfl (fun hq => ?_) (fun hq => ?_)
    · replace H := H.1 hq
      exact ev_m (loc' := [.ref a0, .int i1, .int i2, .int i3]) am_q106 rfl rfl H
    · replace H := H.2 hq
      refine ev_p (pc' := 16) (loc' := [.ref a0, .int i1, .int i2, .int i3]) (st' := [.int i2, .ref a0]) 2 am_q106 rfl ?_
      obtain ⟨g6, H⟩ := H
      refine ev_c (vs := [.ref a0, .int i2]) (rest := []) 138 am_q106 rfl rfl rfl rfl rfl rfl rfl rfl rfl rfl rfl rfl (Or.inr (congrArg some g6)) (Cl.mono H (Nat.le_refl _) (fun r5 h4 H => ?_))
      obtain ⟨x7, rfl, H⟩ := H
      refine ev_jz (t := 32) am_q106 rfl rfl (fun hq => ?_) (fun hq => ?_)
      · replace H := H.1 hq
        exact ev_m (loc' := [.ref a0, .int i1, .int i2, .int i3]) am_q106 rfl rfl H
      · replace H := H.2 hq
        refine ev_p (pc' := 23) (loc' := [.ref a0, .int i1, .int i2, .int i3]) (st' := [.ref a0]) 1 am_q106 rfl ?_
        obtain ⟨g8, b9, e10, H⟩ := H
        refine ev_s (pc' := 26) (loc' := [.ref a0, .int i1, .int i2, .int i3]) (st' := [.ref b9]) (h1 := h4) am_q106 rfl rfl rfl (am_gf2 g8 e10) ?_
        refine ev_p (pc' := 28) (loc' := [.ref a0, .int i1, .int i2, .int i3]) (st' := [.int i3, .int i2, .ref b9]) 2 am_q106 rfl ?_
        obtain ⟨g13, H⟩ := H
        refine ev_c (vs := [.ref b9, .int i2, .int i3]) (rest := []) 56 am_q106 rfl rfl rfl rfl rfl rfl rfl rfl rfl rfl rfl rfl (Or.inr (congrArg some g13)) (Cl.mono H (Nat.le_refl _) (fun r12 h11 H => ?_))
        obtain ⟨x14, rfl, H⟩ := H
        exact ev_r (v := some (.int x14)) am_q106 rfl rfl rfl rfl H
  · replace H := H.2 hq
    refine ev_p (pc' := 9) (loc' := [.ref a0, .int i1, .int i2, .int i3]) (st' := [.int (-2 : Int32)]) 1 am_q106 rfl ?_
    exact ev_r (v := some (.int (-2 : Int32))) am_q106 rfl rfl rfl rfl H
set_option maxRecDepth 20000 in
set_option maxHeartbeats 2000000 in
theorem wp106_32 {d : Nat} (a0 : Nat) (i1 : Int32) (i2 : Int32) (i3 : Int32) {h : AH} {Q : Option Value → AH → Prop} (H : ((¬ i1 = (1 : Int32)) → Q (some (.int (-2 : Int32))) h) ∧ (¬ (¬ i1 = (1 : Int32)) → am_kd h a0 = 11 ∧ Cl d 139 [.ref a0, .int i2] h (fun r2 h1 => ∃ x4, r2 = some (.int x4) ∧ (x4 = (0 : Int32) → Q (some (.int (-2 : Int32))) h1) ∧ (¬ x4 = (0 : Int32) → am_kd h1 a0 = 11 ∧ ∃ b6, am_gr h1 a0 5 = some b6 ∧ am_kd h1 b6 = 6 ∧ Cl d 57 [.ref b6, .int i2, .int i3] h1 (fun r9 h8 => ∃ x11, r9 = some (.int x11) ∧ Q (some (.int x11)) h8))))) : Ev (d + 1) 106 32 [.ref a0, .int i1, .int i2, .int i3] [] h Q := by
  refine ev_p (pc' := 34) (loc' := [.ref a0, .int i1, .int i2, .int i3]) (st' := [.int (1 : Int32), .int i1]) 2 am_q106 rfl ?_
  refine ev_jc (t := 55) am_q106 rfl rfl (fun hq => ?_) (fun hq => ?_)
  · replace H := H.1 hq
    refine ev_p (pc' := 57) (loc' := [.null, .null, .null, .null]) (st' := [.int (-2 : Int32)]) 1 am_q106 rfl ?_
    exact ev_r (v := some (.int (-2 : Int32))) am_q106 rfl rfl rfl rfl H
  · replace H := H.2 hq
    refine ev_p (pc' := 39) (loc' := [.ref a0, .int i1, .int i2, .int i3]) (st' := [.int i2, .ref a0]) 2 am_q106 rfl ?_
    obtain ⟨g3, H⟩ := H
    refine ev_c (vs := [.ref a0, .int i2]) (rest := []) 139 am_q106 rfl rfl rfl rfl rfl rfl rfl rfl rfl rfl rfl rfl (Or.inr (congrArg some g3)) (Cl.mono H (Nat.le_refl _) (fun r2 h1 H => ?_))
    obtain ⟨x4, rfl, H⟩ := H
    refine ev_jz (t := 55) am_q106 rfl rfl (fun hq => ?_) (fun hq => ?_)
    · replace H := H.1 hq
      refine ev_p (pc' := 57) (loc' := [.null, .null, .null, .null]) (st' := [.int (-2 : Int32)]) 1 am_q106 rfl ?_
      exact ev_r (v := some (.int (-2 : Int32))) am_q106 rfl rfl rfl rfl H
    · replace H := H.2 hq
      refine ev_p (pc' := 46) (loc' := [.ref a0, .int i1, .int i2, .int i3]) (st' := [.ref a0]) 1 am_q106 rfl ?_
      obtain ⟨g5, b6, e7, H⟩ := H
      refine ev_s (pc' := 49) (loc' := [.ref a0, .int i1, .int i2, .int i3]) (st' := [.ref b6]) (h1 := h1) am_q106 rfl rfl rfl (am_gf2 g5 e7) ?_
      refine ev_p (pc' := 51) (loc' := [.ref a0, .int i1, .int i2, .int i3]) (st' := [.int i3, .int i2, .ref b6]) 2 am_q106 rfl ?_
      obtain ⟨g10, H⟩ := H
      refine ev_c (vs := [.ref b6, .int i2, .int i3]) (rest := []) 57 am_q106 rfl rfl rfl rfl rfl rfl rfl rfl rfl rfl rfl rfl (Or.inr (congrArg some g10)) (Cl.mono H (Nat.le_refl _) (fun r9 h8 H => ?_))
      obtain ⟨x11, rfl, H⟩ := H
      exact ev_r (v := some (.int x11)) am_q106 rfl rfl rfl rfl H
/-! 107: X11_homeTold -/
theorem am_q107 : (am_mt 107).2.2.2.2.2 = am_m107.2.2.2.2.2 := rfl
set_option maxRecDepth 20000 in
set_option maxHeartbeats 2000000 in
theorem wp107 {d : Nat} (a0 : Nat) (i1 : Int32) (i2 : Int32) {h : AH} {Q : Option Value → AH → Prop} (H : am_kd h a0 = 11 ∧ Cl d 138 [.ref a0, .int i1] h (fun r2 h1 => ∃ x4, r2 = some (.int x4) ∧ ((¬ x4 = (0 : Int32)) → am_kd h1 a0 = 11 ∧ ∃ b6, am_gr h1 a0 1 = some b6 ∧ (104 ≤ am_kd h1 b6 ∧ am_kd h1 b6 ≤ 109) ∧ am_in i1 (am_ln h1 b6) ∧ ∃ b10, am_gr h1 b6 (Int32.toNatClampNeg i1) = some b10 ∧ (i2 = (0 : Int32) → am_kd h1 b10 = 2 ∧ Q (some (.int (am_gi h1 b10 0))) h1) ∧ (i2 = (1 : Int32) → am_kd h1 b10 = 2 ∧ Q (some (.int (am_gi h1 b10 1))) h1) ∧ (i2 = (2 : Int32) → am_kd h1 b10 = 2 ∧ Q (some (.int (am_gi h1 b10 2))) h1) ∧ (i2 = (3 : Int32) → am_kd h1 a0 = 11 ∧ Cl d 147 [.ref a0, .int i1] h1 (fun r19 h18 => ∃ x21, r19 = some (.int x21) ∧ (x21 = (0 : Int32) → Q (some (.int (0 : Int32))) h18) ∧ (¬ x21 = (0 : Int32) → Q (some (.int (1 : Int32))) h18))) ∧ (i2 = (4 : Int32) → am_kd h1 a0 = 11 ∧ Cl d 159 [.ref a0, .int i1] h1 (fun r24 h23 => ∃ x26, r24 = some (.int x26) ∧ Q (some (.int x26)) h23)) ∧ (i2 = (5 : Int32) → am_kd h1 b10 = 2 ∧ ((am_gi h1 b10 3) = (0 : Int32) → Q (some (.int (0 : Int32))) h1) ∧ (¬ (am_gi h1 b10 3) = (0 : Int32) → Q (some (.int (1 : Int32))) h1)) ∧ (i2 = (6 : Int32) → am_kd h1 a0 = 11 ∧ ∃ b31, am_gr h1 a0 5 = some b31 ∧ am_kd h1 a0 = 11 ∧ am_kd h1 b31 = 6 ∧ Cl d 58 [.ref b31, .int i1, .int (am_gi h1 a0 0)] h1 (fun r35 h34 => ∃ x37, r35 = some (.int x37) ∧ Q (some (.int x37)) h34)) ∧ (¬ i2 = (0 : Int32) ∧ ¬ i2 = (1 : Int32) ∧ ¬ i2 = (2 : Int32) ∧ ¬ i2 = (3 : Int32) ∧ ¬ i2 = (4 : Int32) ∧ ¬ i2 = (5 : Int32) ∧ ¬ i2 = (6 : Int32) → Q (some (.int (-2 : Int32))) h1)) ∧ (¬ (¬ x4 = (0 : Int32)) → Q (some (.int (-2 : Int32))) h1))) : Cl (d + 1) 107 [.ref a0, .int i1, .int i2] h Q := by
  show Ev (d + 1) 107 0 [.ref a0, .int i1, .int i2, .null] [] h Q
  refine ev_p (pc' := 2) (loc' := [.ref a0, .int i1, .int i2, .null]) (st' := [.int i1, .ref a0]) 2 am_q107 rfl ?_
  obtain ⟨g3, H⟩ := H
  refine ev_c (vs := [.ref a0, .int i1]) (rest := []) 138 am_q107 rfl rfl rfl rfl rfl rfl rfl rfl rfl rfl rfl rfl (Or.inr (congrArg some g3)) (Cl.mono H (Nat.le_refl _) (fun r2 h1 H => ?_))
  obtain ⟨x4, rfl, H⟩ := H
  refine ev_jz (t := 11) am_q107 rfl rfl (fun hq => ?_) (fun hq => ?_)
  · replace H := H.1 hq
    refine ev_p (pc' := 12) (loc' := [.ref a0, .int i1, .int i2, .null]) (st' := [.ref a0]) 1 am_q107 rfl ?_
    obtain ⟨g5, b6, e7, H⟩ := H
    refine ev_s (pc' := 15) (loc' := [.ref a0, .int i1, .int i2, .null]) (st' := [.ref b6]) (h1 := h1) am_q107 rfl rfl rfl (am_gf2 g5 e7) ?_
    refine ev_p (pc' := 16) (loc' := [.ref a0, .int i1, .int i2, .null]) (st' := [.int i1, .ref b6]) 1 am_q107 rfl ?_
    obtain ⟨g8, g9, b10, e11, H⟩ := H
    refine ev_s (pc' := 17) (loc' := [.ref a0, .int i1, .int i2, .null]) (st' := [.ref b10]) (h1 := h1) am_q107 rfl rfl rfl (am_xa g8 g9 e11) ?_
    refine ev_p (pc' := 19) (loc' := [.ref a0, .int i1, .int i2, .ref b10]) (st' := [.int i2]) 2 am_q107 rfl ?_
    by_cases k13 : i2 = (0 : Int32)
    · replace H := H.1 k13
      refine ev_s (pc' := 60) (loc' := [.ref a0, .int i1, .int i2, .ref b10]) (st' := []) (h1 := h1) am_q107 rfl rfl rfl (by rw [k13]; rfl) ?_
      refine ev_p (pc' := 61) (loc' := [.ref a0, .int i1, .int i2, .ref b10]) (st' := [.ref b10]) 1 am_q107 rfl ?_
      obtain ⟨g12, H⟩ := H
      refine ev_s (pc' := 64) (loc' := [.ref a0, .int i1, .int i2, .ref b10]) (st' := [.int (am_gi h1 b10 0)]) (h1 := h1) am_q107 rfl rfl rfl (if_pos (e := none) g12) ?_
      exact ev_r (v := some (.int (am_gi h1 b10 0))) am_q107 rfl rfl rfl rfl H
    replace H := H.2
    by_cases k15 : i2 = (1 : Int32)
    · replace H := H.1 k15
      refine ev_s (pc' := 65) (loc' := [.ref a0, .int i1, .int i2, .ref b10]) (st' := []) (h1 := h1) am_q107 rfl rfl rfl (by rw [k15]; rfl) ?_
      refine ev_p (pc' := 66) (loc' := [.ref a0, .int i1, .int i2, .ref b10]) (st' := [.ref b10]) 1 am_q107 rfl ?_
      obtain ⟨g14, H⟩ := H
      refine ev_s (pc' := 69) (loc' := [.ref a0, .int i1, .int i2, .ref b10]) (st' := [.int (am_gi h1 b10 1)]) (h1 := h1) am_q107 rfl rfl rfl (if_pos (e := none) g14) ?_
      exact ev_r (v := some (.int (am_gi h1 b10 1))) am_q107 rfl rfl rfl rfl H
    replace H := H.2
    by_cases k17 : i2 = (2 : Int32)
    · replace H := H.1 k17
      refine ev_s (pc' := 70) (loc' := [.ref a0, .int i1, .int i2, .ref b10]) (st' := []) (h1 := h1) am_q107 rfl rfl rfl (by rw [k17]; rfl) ?_
      refine ev_p (pc' := 71) (loc' := [.ref a0, .int i1, .int i2, .ref b10]) (st' := [.ref b10]) 1 am_q107 rfl ?_
      obtain ⟨g16, H⟩ := H
      refine ev_s (pc' := 74) (loc' := [.ref a0, .int i1, .int i2, .ref b10]) (st' := [.int (am_gi h1 b10 2)]) (h1 := h1) am_q107 rfl rfl rfl (if_pos (e := none) g16) ?_
      exact ev_r (v := some (.int (am_gi h1 b10 2))) am_q107 rfl rfl rfl rfl H
    replace H := H.2
    by_cases k22 : i2 = (3 : Int32)
    · replace H := H.1 k22
      refine ev_s (pc' := 75) (loc' := [.ref a0, .int i1, .int i2, .ref b10]) (st' := []) (h1 := h1) am_q107 rfl rfl rfl (by rw [k22]; rfl) ?_
      refine ev_p (pc' := 77) (loc' := [.ref a0, .int i1, .int i2, .ref b10]) (st' := [.int i1, .ref a0]) 2 am_q107 rfl ?_
      obtain ⟨g20, H⟩ := H
      refine ev_c (vs := [.ref a0, .int i1]) (rest := []) 147 am_q107 rfl rfl rfl rfl rfl rfl rfl rfl rfl rfl rfl rfl (Or.inr (congrArg some g20)) (Cl.mono H (Nat.le_refl _) (fun r19 h18 H => ?_))
      obtain ⟨x21, rfl, H⟩ := H
      refine ev_jz (t := 87) am_q107 rfl rfl (fun hq => ?_) (fun hq => ?_)
      · replace H := H.1 hq
        refine ev_p (pc' := 88) (loc' := [.ref a0, .int i1, .int i2, .ref b10]) (st' := [.int (0 : Int32)]) 1 am_q107 rfl ?_
        exact ev_r (v := some (.int (0 : Int32))) am_q107 rfl rfl rfl rfl H
      · replace H := H.2 hq
        refine ev_p (pc' := 88) (loc' := [.ref a0, .int i1, .int i2, .ref b10]) (st' := [.int (1 : Int32)]) 2 am_q107 rfl ?_
        exact ev_r (v := some (.int (1 : Int32))) am_q107 rfl rfl rfl rfl H
    replace H := H.2
    by_cases k27 : i2 = (4 : Int32)
    · replace H := H.1 k27
      refine ev_s (pc' := 89) (loc' := [.ref a0, .int i1, .int i2, .ref b10]) (st' := []) (h1 := h1) am_q107 rfl rfl rfl (by rw [k27]; rfl) ?_
      refine ev_p (pc' := 91) (loc' := [.ref a0, .int i1, .int i2, .ref b10]) (st' := [.int i1, .ref a0]) 2 am_q107 rfl ?_
      obtain ⟨g25, H⟩ := H
      refine ev_c (vs := [.ref a0, .int i1]) (rest := []) 159 am_q107 rfl rfl rfl rfl rfl rfl rfl rfl rfl rfl rfl rfl (Or.inr (congrArg some g25)) (Cl.mono H (Nat.le_refl _) (fun r24 h23 H => ?_))
      obtain ⟨x26, rfl, H⟩ := H
      exact ev_r (v := some (.int x26)) am_q107 rfl rfl rfl rfl H
    replace H := H.2
    by_cases k29 : i2 = (5 : Int32)
    · replace H := H.1 k29
      refine ev_s (pc' := 95) (loc' := [.ref a0, .int i1, .int i2, .ref b10]) (st' := []) (h1 := h1) am_q107 rfl rfl rfl (by rw [k29]; rfl) ?_
      refine ev_p (pc' := 96) (loc' := [.ref a0, .int i1, .int i2, .ref b10]) (st' := [.ref b10]) 1 am_q107 rfl ?_
      obtain ⟨g28, H⟩ := H
      refine ev_s (pc' := 99) (loc' := [.ref a0, .int i1, .int i2, .ref b10]) (st' := [.int (am_gi h1 b10 3)]) (h1 := h1) am_q107 rfl rfl rfl (if_pos (e := none) g28) ?_
      refine ev_jz (t := 106) am_q107 rfl rfl (fun hq => ?_) (fun hq => ?_)
      · replace H := H.1 hq
        refine ev_p (pc' := 107) (loc' := [.ref a0, .int i1, .int i2, .ref b10]) (st' := [.int (0 : Int32)]) 1 am_q107 rfl ?_
        exact ev_r (v := some (.int (0 : Int32))) am_q107 rfl rfl rfl rfl H
      · replace H := H.2 hq
        refine ev_p (pc' := 107) (loc' := [.ref a0, .int i1, .int i2, .ref b10]) (st' := [.int (1 : Int32)]) 2 am_q107 rfl ?_
        exact ev_r (v := some (.int (1 : Int32))) am_q107 rfl rfl rfl rfl H
    replace H := H.2
    by_cases k38 : i2 = (6 : Int32)
    · replace H := H.1 k38
      refine ev_s (pc' := 108) (loc' := [.ref a0, .int i1, .int i2, .ref b10]) (st' := []) (h1 := h1) am_q107 rfl rfl rfl (by rw [k38]; rfl) ?_
      refine ev_p (pc' := 109) (loc' := [.ref a0, .int i1, .int i2, .ref b10]) (st' := [.ref a0]) 1 am_q107 rfl ?_
      obtain ⟨g30, b31, e32, H⟩ := H
      refine ev_s (pc' := 112) (loc' := [.ref a0, .int i1, .int i2, .ref b10]) (st' := [.ref b31]) (h1 := h1) am_q107 rfl rfl rfl (am_gf2 g30 e32) ?_
      refine ev_p (pc' := 114) (loc' := [.ref a0, .int i1, .int i2, .ref b10]) (st' := [.ref a0, .int i1, .ref b31]) 2 am_q107 rfl ?_
      obtain ⟨g33, H⟩ := H
      refine ev_s (pc' := 117) (loc' := [.ref a0, .int i1, .int i2, .ref b10]) (st' := [.int (am_gi h1 a0 0), .int i1, .ref b31]) (h1 := h1) am_q107 rfl rfl rfl (if_pos (e := none) g33) ?_
      obtain ⟨g36, H⟩ := H
      refine ev_c (vs := [.ref b31, .int i1, .int (am_gi h1 a0 0)]) (rest := []) 58 am_q107 rfl rfl rfl rfl rfl rfl rfl rfl rfl rfl rfl rfl (Or.inr (congrArg some g36)) (Cl.mono H (Nat.le_refl _) (fun r35 h34 H => ?_))
      obtain ⟨x37, rfl, H⟩ := H
      exact ev_r (v := some (.int x37)) am_q107 rfl rfl rfl rfl H
    replace H := H.2
    replace H := H ⟨k13, k15, k17, k22, k27, k29, k38⟩
    refine ev_s (pc' := 121) (loc' := [.ref a0, .int i1, .int i2, .ref b10]) (st' := []) (h1 := h1) am_q107 rfl rfl rfl (am_tso (x := (i2).toInt) (by have z0 : (i2).toInt ≠ 0 := am_tn k13 (by decide); have z1 : (i2).toInt ≠ 1 := am_tn k15 (by decide); have z2 : (i2).toInt ≠ 2 := am_tn k17 (by decide); have z3 : (i2).toInt ≠ 3 := am_tn k22 (by decide); have z4 : (i2).toInt ≠ 4 := am_tn k27 (by decide); have z5 : (i2).toInt ≠ 5 := am_tn k29 (by decide); have z6 : (i2).toInt ≠ 6 := am_tn k38 (by decide); omega)) ?_
    refine ev_p (pc' := 123) (loc' := [.ref a0, .int i1, .int i2, .ref b10]) (st' := [.int (-2 : Int32)]) 1 am_q107 rfl ?_
    exact ev_r (v := some (.int (-2 : Int32))) am_q107 rfl rfl rfl rfl H
  · replace H := H.2 hq
    refine ev_p (pc' := 10) (loc' := [.ref a0, .int i1, .int i2, .null]) (st' := [.int (-2 : Int32)]) 1 am_q107 rfl ?_
    exact ev_r (v := some (.int (-2 : Int32))) am_q107 rfl rfl rfl rfl H
/-! 108: X11_memberTold -/
theorem am_q108 : (am_mt 108).2.2.2.2.2 = am_m108.2.2.2.2.2 := rfl
set_option maxRecDepth 20000 in
set_option maxHeartbeats 2000000 in
theorem wp108 {d : Nat} (a0 : Nat) (i1 : Int32) (i2 : Int32) {h : AH} {Q : Option Value → AH → Prop} (H : am_kd h a0 = 11 ∧ Cl d 139 [.ref a0, .int i1] h (fun r2 h1 => ∃ x4, r2 = some (.int x4) ∧ ((¬ x4 = (0 : Int32)) → am_kd h1 a0 = 11 ∧ ∃ b6, am_gr h1 a0 3 = some b6 ∧ (104 ≤ am_kd h1 b6 ∧ am_kd h1 b6 ≤ 109) ∧ am_in i1 (am_ln h1 b6) ∧ ∃ b10, am_gr h1 b6 (Int32.toNatClampNeg i1) = some b10 ∧ (i2 = (0 : Int32) → am_kd h1 b10 = 3 ∧ Q (some (.int (am_gi h1 b10 0))) h1) ∧ (i2 = (1 : Int32) → am_kd h1 b10 = 3 ∧ Q (some (.int (am_gi h1 b10 1))) h1) ∧ (i2 = (2 : Int32) → am_kd h1 b10 = 3 ∧ Q (some (.int (am_gi h1 b10 2))) h1) ∧ (i2 = (3 : Int32) → am_kd h1 b10 = 3 ∧ Q (some (.int (am_gi h1 b10 3))) h1) ∧ (i2 = (4 : Int32) → am_kd h1 a0 = 11 ∧ Cl d 149 [.ref a0, .int i1] h1 (fun r21 h20 => ∃ x23, r21 = some (.int x23) ∧ Q (some (.int x23)) h20)) ∧ (i2 = (5 : Int32) → am_kd h1 b10 = 3 ∧ Cl d 262 [.int (am_gi h1 b10 4)] h1 (fun r27 h26 => ∃ x28, r27 = some (.int x28) ∧ Q (some (.int x28)) h26)) ∧ (i2 = (6 : Int32) → am_kd h1 a0 = 11 ∧ Cl d 146 [.ref a0, .int i1] h1 (fun r31 h30 => ∃ x33, r31 = some (.int x33) ∧ (x33 = (0 : Int32) → Q (some (.int (0 : Int32))) h30) ∧ (¬ x33 = (0 : Int32) → Q (some (.int (1 : Int32))) h30))) ∧ (¬ i2 = (0 : Int32) ∧ ¬ i2 = (1 : Int32) ∧ ¬ i2 = (2 : Int32) ∧ ¬ i2 = (3 : Int32) ∧ ¬ i2 = (4 : Int32) ∧ ¬ i2 = (5 : Int32) ∧ ¬ i2 = (6 : Int32) → Q (some (.int (-2 : Int32))) h1)) ∧ (¬ (¬ x4 = (0 : Int32)) → Q (some (.int (-2 : Int32))) h1))) : Cl (d + 1) 108 [.ref a0, .int i1, .int i2] h Q := by
  show Ev (d + 1) 108 0 [.ref a0, .int i1, .int i2, .null] [] h Q
  refine ev_p (pc' := 2) (loc' := [.ref a0, .int i1, .int i2, .null]) (st' := [.int i1, .ref a0]) 2 am_q108 rfl ?_
  obtain ⟨g3, H⟩ := H
  refine ev_c (vs := [.ref a0, .int i1]) (rest := []) 139 am_q108 rfl rfl rfl rfl rfl rfl rfl rfl rfl rfl rfl rfl (Or.inr (congrArg some g3)) (Cl.mono H (Nat.le_refl _) (fun r2 h1 H => ?_))
  obtain ⟨x4, rfl, H⟩ := H
  refine ev_jz (t := 11) am_q108 rfl rfl (fun hq => ?_) (fun hq => ?_)
  · replace H := H.1 hq
    refine ev_p (pc' := 12) (loc' := [.ref a0, .int i1, .int i2, .null]) (st' := [.ref a0]) 1 am_q108 rfl ?_
    obtain ⟨g5, b6, e7, H⟩ := H
    refine ev_s (pc' := 15) (loc' := [.ref a0, .int i1, .int i2, .null]) (st' := [.ref b6]) (h1 := h1) am_q108 rfl rfl rfl (am_gf2 g5 e7) ?_
    refine ev_p (pc' := 16) (loc' := [.ref a0, .int i1, .int i2, .null]) (st' := [.int i1, .ref b6]) 1 am_q108 rfl ?_
    obtain ⟨g8, g9, b10, e11, H⟩ := H
    refine ev_s (pc' := 17) (loc' := [.ref a0, .int i1, .int i2, .null]) (st' := [.ref b10]) (h1 := h1) am_q108 rfl rfl rfl (am_xa g8 g9 e11) ?_
    refine ev_p (pc' := 19) (loc' := [.ref a0, .int i1, .int i2, .ref b10]) (st' := [.int i2]) 2 am_q108 rfl ?_
    by_cases k13 : i2 = (0 : Int32)
    · replace H := H.1 k13
      refine ev_s (pc' := 60) (loc' := [.ref a0, .int i1, .int i2, .ref b10]) (st' := []) (h1 := h1) am_q108 rfl rfl rfl (by rw [k13]; rfl) ?_
      refine ev_p (pc' := 61) (loc' := [.ref a0, .int i1, .int i2, .ref b10]) (st' := [.ref b10]) 1 am_q108 rfl ?_
      obtain ⟨g12, H⟩ := H
      refine ev_s (pc' := 64) (loc' := [.ref a0, .int i1, .int i2, .ref b10]) (st' := [.int (am_gi h1 b10 0)]) (h1 := h1) am_q108 rfl rfl rfl (if_pos (e := none) g12) ?_
      exact ev_r (v := some (.int (am_gi h1 b10 0))) am_q108 rfl rfl rfl rfl H
    replace H := H.2
    by_cases k15 : i2 = (1 : Int32)
    · replace H := H.1 k15
      refine ev_s (pc' := 65) (loc' := [.ref a0, .int i1, .int i2, .ref b10]) (st' := []) (h1 := h1) am_q108 rfl rfl rfl (by rw [k15]; rfl) ?_
      refine ev_p (pc' := 66) (loc' := [.ref a0, .int i1, .int i2, .ref b10]) (st' := [.ref b10]) 1 am_q108 rfl ?_
      obtain ⟨g14, H⟩ := H
      refine ev_s (pc' := 69) (loc' := [.ref a0, .int i1, .int i2, .ref b10]) (st' := [.int (am_gi h1 b10 1)]) (h1 := h1) am_q108 rfl rfl rfl (if_pos (e := none) g14) ?_
      exact ev_r (v := some (.int (am_gi h1 b10 1))) am_q108 rfl rfl rfl rfl H
    replace H := H.2
    by_cases k17 : i2 = (2 : Int32)
    · replace H := H.1 k17
      refine ev_s (pc' := 70) (loc' := [.ref a0, .int i1, .int i2, .ref b10]) (st' := []) (h1 := h1) am_q108 rfl rfl rfl (by rw [k17]; rfl) ?_
      refine ev_p (pc' := 71) (loc' := [.ref a0, .int i1, .int i2, .ref b10]) (st' := [.ref b10]) 1 am_q108 rfl ?_
      obtain ⟨g16, H⟩ := H
      refine ev_s (pc' := 74) (loc' := [.ref a0, .int i1, .int i2, .ref b10]) (st' := [.int (am_gi h1 b10 2)]) (h1 := h1) am_q108 rfl rfl rfl (if_pos (e := none) g16) ?_
      exact ev_r (v := some (.int (am_gi h1 b10 2))) am_q108 rfl rfl rfl rfl H
    replace H := H.2
    by_cases k19 : i2 = (3 : Int32)
    · replace H := H.1 k19
      refine ev_s (pc' := 75) (loc' := [.ref a0, .int i1, .int i2, .ref b10]) (st' := []) (h1 := h1) am_q108 rfl rfl rfl (by rw [k19]; rfl) ?_
      refine ev_p (pc' := 76) (loc' := [.ref a0, .int i1, .int i2, .ref b10]) (st' := [.ref b10]) 1 am_q108 rfl ?_
      obtain ⟨g18, H⟩ := H
      refine ev_s (pc' := 79) (loc' := [.ref a0, .int i1, .int i2, .ref b10]) (st' := [.int (am_gi h1 b10 3)]) (h1 := h1) am_q108 rfl rfl rfl (if_pos (e := none) g18) ?_
      exact ev_r (v := some (.int (am_gi h1 b10 3))) am_q108 rfl rfl rfl rfl H
    replace H := H.2
    by_cases k24 : i2 = (4 : Int32)
    · replace H := H.1 k24
      refine ev_s (pc' := 80) (loc' := [.ref a0, .int i1, .int i2, .ref b10]) (st' := []) (h1 := h1) am_q108 rfl rfl rfl (by rw [k24]; rfl) ?_
      refine ev_p (pc' := 82) (loc' := [.ref a0, .int i1, .int i2, .ref b10]) (st' := [.int i1, .ref a0]) 2 am_q108 rfl ?_
      obtain ⟨g22, H⟩ := H
      refine ev_c (vs := [.ref a0, .int i1]) (rest := []) 149 am_q108 rfl rfl rfl rfl rfl rfl rfl rfl rfl rfl rfl rfl (Or.inr (congrArg some g22)) (Cl.mono H (Nat.le_refl _) (fun r21 h20 H => ?_))
      obtain ⟨x23, rfl, H⟩ := H
      exact ev_r (v := some (.int x23)) am_q108 rfl rfl rfl rfl H
    replace H := H.2
    by_cases k29 : i2 = (5 : Int32)
    · replace H := H.1 k29
      refine ev_s (pc' := 86) (loc' := [.ref a0, .int i1, .int i2, .ref b10]) (st' := []) (h1 := h1) am_q108 rfl rfl rfl (by rw [k29]; rfl) ?_
      refine ev_p (pc' := 87) (loc' := [.ref a0, .int i1, .int i2, .ref b10]) (st' := [.ref b10]) 1 am_q108 rfl ?_
      obtain ⟨g25, H⟩ := H
      refine ev_s (pc' := 90) (loc' := [.ref a0, .int i1, .int i2, .ref b10]) (st' := [.int (am_gi h1 b10 4)]) (h1 := h1) am_q108 rfl rfl rfl (if_pos (e := none) g25) ?_
      refine ev_c (vs := [.int (am_gi h1 b10 4)]) (rest := []) 262 am_q108 rfl rfl rfl rfl rfl rfl rfl rfl rfl rfl rfl rfl (Or.inl rfl) (Cl.mono H (Nat.le_refl _) (fun r27 h26 H => ?_))
      obtain ⟨x28, rfl, H⟩ := H
      exact ev_r (v := some (.int x28)) am_q108 rfl rfl rfl rfl H
    replace H := H.2
    by_cases k34 : i2 = (6 : Int32)
    · replace H := H.1 k34
      refine ev_s (pc' := 94) (loc' := [.ref a0, .int i1, .int i2, .ref b10]) (st' := []) (h1 := h1) am_q108 rfl rfl rfl (by rw [k34]; rfl) ?_
      refine ev_p (pc' := 96) (loc' := [.ref a0, .int i1, .int i2, .ref b10]) (st' := [.int i1, .ref a0]) 2 am_q108 rfl ?_
      obtain ⟨g32, H⟩ := H
      refine ev_c (vs := [.ref a0, .int i1]) (rest := []) 146 am_q108 rfl rfl rfl rfl rfl rfl rfl rfl rfl rfl rfl rfl (Or.inr (congrArg some g32)) (Cl.mono H (Nat.le_refl _) (fun r31 h30 H => ?_))
      obtain ⟨x33, rfl, H⟩ := H
      refine ev_jz (t := 106) am_q108 rfl rfl (fun hq => ?_) (fun hq => ?_)
      · replace H := H.1 hq
        refine ev_p (pc' := 107) (loc' := [.ref a0, .int i1, .int i2, .ref b10]) (st' := [.int (0 : Int32)]) 1 am_q108 rfl ?_
        exact ev_r (v := some (.int (0 : Int32))) am_q108 rfl rfl rfl rfl H
      · replace H := H.2 hq
        refine ev_p (pc' := 107) (loc' := [.ref a0, .int i1, .int i2, .ref b10]) (st' := [.int (1 : Int32)]) 2 am_q108 rfl ?_
        exact ev_r (v := some (.int (1 : Int32))) am_q108 rfl rfl rfl rfl H
    replace H := H.2
    replace H := H ⟨k13, k15, k17, k19, k24, k29, k34⟩
    refine ev_s (pc' := 108) (loc' := [.ref a0, .int i1, .int i2, .ref b10]) (st' := []) (h1 := h1) am_q108 rfl rfl rfl (am_tso (x := (i2).toInt) (by have z0 : (i2).toInt ≠ 0 := am_tn k13 (by decide); have z1 : (i2).toInt ≠ 1 := am_tn k15 (by decide); have z2 : (i2).toInt ≠ 2 := am_tn k17 (by decide); have z3 : (i2).toInt ≠ 3 := am_tn k19 (by decide); have z4 : (i2).toInt ≠ 4 := am_tn k24 (by decide); have z5 : (i2).toInt ≠ 5 := am_tn k29 (by decide); have z6 : (i2).toInt ≠ 6 := am_tn k34 (by decide); omega)) ?_
    refine ev_p (pc' := 110) (loc' := [.ref a0, .int i1, .int i2, .ref b10]) (st' := [.int (-2 : Int32)]) 1 am_q108 rfl ?_
    exact ev_r (v := some (.int (-2 : Int32))) am_q108 rfl rfl rfl rfl H
  · replace H := H.2 hq
    refine ev_p (pc' := 10) (loc' := [.ref a0, .int i1, .int i2, .null]) (st' := [.int (-2 : Int32)]) 1 am_q108 rfl ?_
    exact ev_r (v := some (.int (-2 : Int32))) am_q108 rfl rfl rfl rfl H
/-! 109: X11_feed -/
theorem am_q109 : (am_mt 109).2.2.2.2.2 = am_m109.2.2.2.2.2 := rfl
set_option maxRecDepth 20000 in
set_option maxHeartbeats 2000000 in
theorem wp109 {d : Nat} (a0 : Nat) (i1 : Int32) (l2 : Int64) {h : AH} {Q : Option Value → AH → Prop} (H : (i1 < (1 : Int32) → Q (some (.int (-2 : Int32))) h) ∧ (¬ i1 < (1 : Int32) → (i1 ≤ (8 : Int32) → am_kd h a0 = 11 ∧ ∃ b2, am_gr h a0 6 = some b2 ∧ am_kd h b2 = 5 ∧ (((am_gi h b2 1) + i1) ≤ (400 : Int32) → Ev (d + 1) 109 35 [.ref a0, .int i1, .long l2, .null, .int (0 : Int32)] [] h Q) ∧ (¬ ((am_gi h b2 1) + i1) ≤ (400 : Int32) → Q (some (.int (-4 : Int32))) h)) ∧ (¬ i1 ≤ (8 : Int32) → Q (some (.int (-2 : Int32))) h))) : Cl (d + 1) 109 [.ref a0, .int i1, .long l2] h Q := by
  show Ev (d + 1) 109 0 [.ref a0, .int i1, .long l2, .null, .null] [] h Q
  refine ev_p (pc' := 2) (loc' := [.ref a0, .int i1, .long l2, .null, .null]) (st' := [.int (1 : Int32), .int i1]) 2 am_q109 rfl ?_
  refine ev_jc (t := 11) am_q109 rfl rfl (fun hq => ?_) (fun hq => ?_)
  · replace H := H.1 hq
    refine ev_p (pc' := 13) (loc' := [.null, .null, .null, .null, .null]) (st' := [.int (-2 : Int32)]) 1 am_q109 rfl ?_
    exact ev_r (v := some (.int (-2 : Int32))) am_q109 rfl rfl rfl rfl H
  · replace H := H.2 hq
    refine ev_p (pc' := 8) (loc' := [.ref a0, .int i1, .long l2, .null, .null]) (st' := [.int (8 : Int32), .int i1]) 2 am_q109 rfl ?_
    refine ev_jc (t := 14) am_q109 rfl rfl (fun hq => ?_) (fun hq => ?_)
    · replace H := H.1 hq
      refine ev_p (pc' := 15) (loc' := [.ref a0, .int i1, .long l2, .null, .null]) (st' := [.ref a0]) 1 am_q109 rfl ?_
      obtain ⟨g1, b2, e3, H⟩ := H
      refine ev_s (pc' := 18) (loc' := [.ref a0, .int i1, .long l2, .null, .null]) (st' := [.ref b2]) (h1 := h) am_q109 rfl rfl rfl (am_gf2 g1 e3) ?_
      obtain ⟨g4, H⟩ := H
      refine ev_s (pc' := 21) (loc' := [.ref a0, .int i1, .long l2, .null, .null]) (st' := [.int (am_gi h b2 1)]) (h1 := h) am_q109 rfl rfl rfl (if_pos (e := none) g4) ?_
      refine ev_p (pc' := 26) (loc' := [.ref a0, .int i1, .long l2, .null, .null]) (st' := [.int (400 : Int32), .int ((am_gi h b2 1) + i1)]) 3 am_q109 rfl ?_
      refine ev_jc (t := 32) am_q109 rfl rfl (fun hq => ?_) (fun hq => ?_)
      · replace H := H.1 hq
        refine ev_p (pc' := 35) (loc' := [.ref a0, .int i1, .long l2, .null, .int (0 : Int32)]) (st' := []) 2 am_q109 rfl ?_
        exact ev_m (loc' := [.ref a0, .int i1, .long l2, .null, .int (0 : Int32)]) am_q109 rfl rfl H
      · replace H := H.2 hq
        refine ev_p (pc' := 31) (loc' := [.ref a0, .int i1, .long l2, .null, .null]) (st' := [.int (-4 : Int32)]) 1 am_q109 rfl ?_
        exact ev_r (v := some (.int (-4 : Int32))) am_q109 rfl rfl rfl rfl H
    · replace H := H.2 hq
      refine ev_p (pc' := 13) (loc' := [.null, .null, .null, .null, .null]) (st' := [.int (-2 : Int32)]) 1 am_q109 rfl ?_
      exact ev_r (v := some (.int (-2 : Int32))) am_q109 rfl rfl rfl rfl H
set_option maxRecDepth 20000 in
set_option maxHeartbeats 2000000 in
theorem wp109_35 {d : Nat} (a0 : Nat) (i1 : Int32) (l2 : Int64) (i4 : Int32) {h : AH} {Q : Option Value → AH → Prop} (H : (i1 ≤ i4 → am_kd h a0 = 11 ∧ ∃ b2, am_gr h a0 6 = some b2 ∧ am_kd h b2 = 5 ∧ Q (some (.int (am_gi h b2 1))) h) ∧ (¬ i1 ≤ i4 → am_kd h a0 = 11 ∧ ∃ b6, am_gr h a0 6 = some b6 ∧ am_kd h b6 = 5 ∧ Cl d 31 [.ref b6, .int (Int64.toInt32 ((Int64.toUInt64 l2 >>> ((Int32.toInt64 ((8 : Int32) * i4)).toUInt64 &&& Int64.toUInt64 63)).toInt64))] h (fun r9 h8 => r9 = none ∧ Ev (d + 1) 109 35 [.ref a0, .int i1, .long l2, .null, .int (i4 + (1 : Int32))] [] h8 Q))) : Ev (d + 1) 109 35 [.ref a0, .int i1, .long l2, .null, .int i4] [] h Q := by
  refine ev_p (pc' := 38) (loc' := [.ref a0, .int i1, .long l2, .null, .int i4]) (st' := [.int i1, .int i4]) 2 am_q109 rfl ?_
  refine ev_jc (t := 62) am_q109 rfl rfl (fun hq => ?_) (fun hq => ?_)
  · replace H := H.1 hq
    refine ev_p (pc' := 63) (loc' := [.ref a0, .int i1, .long l2, .null, .int i4]) (st' := [.ref a0]) 1 am_q109 rfl ?_
    obtain ⟨g1, b2, e3, H⟩ := H
    refine ev_s (pc' := 66) (loc' := [.ref a0, .int i1, .long l2, .null, .int i4]) (st' := [.ref b2]) (h1 := h) am_q109 rfl rfl rfl (am_gf2 g1 e3) ?_
    obtain ⟨g4, H⟩ := H
    refine ev_s (pc' := 69) (loc' := [.ref a0, .int i1, .long l2, .null, .int i4]) (st' := [.int (am_gi h b2 1)]) (h1 := h) am_q109 rfl rfl rfl (if_pos (e := none) g4) ?_
    exact ev_r (v := some (.int (am_gi h b2 1))) am_q109 rfl rfl rfl rfl H
  · replace H := H.2 hq
    refine ev_p (pc' := 42) (loc' := [.ref a0, .int i1, .long l2, .null, .int i4]) (st' := [.ref a0]) 1 am_q109 rfl ?_
    obtain ⟨g5, b6, e7, H⟩ := H
    refine ev_s (pc' := 45) (loc' := [.ref a0, .int i1, .long l2, .null, .int i4]) (st' := [.ref b6]) (h1 := h) am_q109 rfl rfl rfl (am_gf2 g5 e7) ?_
    refine ev_p (pc' := 53) (loc' := [.ref a0, .int i1, .long l2, .null, .int i4]) (st' := [.int (Int64.toInt32 ((Int64.toUInt64 l2 >>> ((Int32.toInt64 ((8 : Int32) * i4)).toUInt64 &&& Int64.toUInt64 63)).toInt64)), .ref b6]) 6 am_q109 rfl ?_
    obtain ⟨g10, H⟩ := H
    refine ev_c (vs := [.ref b6, .int (Int64.toInt32 ((Int64.toUInt64 l2 >>> ((Int32.toInt64 ((8 : Int32) * i4)).toUInt64 &&& Int64.toUInt64 63)).toInt64))]) (rest := []) 31 am_q109 rfl rfl rfl rfl rfl rfl rfl rfl rfl rfl rfl rfl (Or.inr (congrArg some g10)) (Cl.mono H (Nat.le_refl _) (fun r9 h8 H => ?_))
    obtain ⟨rfl, H⟩ := H
    refine ev_p (pc' := 35) (loc' := [.ref a0, .int i1, .long l2, .null, .int (i4 + (1 : Int32))]) (st' := []) 2 am_q109 rfl ?_
    exact ev_m (loc' := [.ref a0, .int i1, .long l2, .null, .int (i4 + (1 : Int32))]) am_q109 rfl rfl H
/-! 110: X11_propose -/
theorem am_q110 : (am_mt 110).2.2.2.2.2 = am_m110.2.2.2.2.2 := rfl
set_option maxRecDepth 20000 in
set_option maxHeartbeats 2000000 in
theorem wp110 {d : Nat} (a0 : Nat) {h : AH} {Q : Option Value → AH → Prop} (H : am_kd h a0 = 11 ∧ ((am_gi h a0 9) < (12 : Int32) → am_kd h a0 = 11 ∧ ∃ b3, am_gr h a0 6 = some b3 ∧ am_kd h b3 = 5 ∧ Cl d 33 [.ref b3] h (fun r6 h5 => r6 = none ∧ am_kd h5 a0 = 11 ∧ ∃ b9, am_gr h5 a0 6 = some b9 ∧ am_kd h5 b9 = 5 ∧ am_kd h5 a0 = 11 ∧ ∀ h13, h13 = am_si h5 a0 11 (am_gi h5 b9 5) → am_kd h13 a0 = 11 ∧ ∃ b15, am_gr h13 a0 6 = some b15 ∧ am_kd h13 b15 = 5 ∧ am_kd h13 a0 = 11 ∧ ∀ h19, h19 = am_si h13 a0 12 (am_gi h13 b15 6) → am_kd h19 a0 = 11 ∧ ((¬ (am_gi h19 a0 11) = (0 : Int32)) → Ev (d + 1) 110 74 [.ref a0] [] h19 Q) ∧ (¬ (¬ (am_gi h19 a0 11) = (0 : Int32)) → am_kd h19 a0 = 11 ∧ ∃ b22, am_gr h19 a0 8 = some b22 ∧ am_kd h19 a0 = 11 ∧ (104 ≤ am_kd h19 b22 ∧ am_kd h19 b22 ≤ 109) ∧ am_in (am_gi h19 a0 9) (am_ln h19 b22) ∧ ∃ b27, am_gr h19 b22 (Int32.toNatClampNeg (am_gi h19 a0 9)) = some b27 ∧ am_kd h19 a0 = 11 ∧ ∃ b30, am_gr h19 a0 6 = some b30 ∧ am_kd h19 b27 = 9 ∧ Cl d 76 [.ref b27, .ref b30] h19 (fun r33 h32 => r33 = none ∧ am_kd h32 a0 = 11 ∧ am_kd h32 a0 = 11 ∧ ∀ h37, h37 = am_si h32 a0 9 ((am_gi h32 a0 9) + (1 : Int32)) → Ev (d + 1) 110 74 [.ref a0] [] h37 Q)))) ∧ (¬ (am_gi h a0 9) < (12 : Int32) → Q (some (.int (-4 : Int32))) h)) : Cl (d + 1) 110 [.ref a0] h Q := by
  show Ev (d + 1) 110 0 [.ref a0] [] h Q
  refine ev_p (pc' := 1) (loc' := [.ref a0]) (st' := [.ref a0]) 1 am_q110 rfl ?_
  obtain ⟨g1, H⟩ := H
  refine ev_s (pc' := 4) (loc' := [.ref a0]) (st' := [.int (am_gi h a0 9)]) (h1 := h) am_q110 rfl rfl rfl (if_pos (e := none) g1) ?_
  refine ev_p (pc' := 6) (loc' := [.ref a0]) (st' := [.int (12 : Int32), .int (am_gi h a0 9)]) 1 am_q110 rfl ?_
  refine ev_jc (t := 12) am_q110 rfl rfl (fun hq => ?_) (fun hq => ?_)
  · replace H := H.1 hq
    refine ev_p (pc' := 13) (loc' := [.ref a0]) (st' := [.ref a0]) 1 am_q110 rfl ?_
    obtain ⟨g2, b3, e4, H⟩ := H
    refine ev_s (pc' := 16) (loc' := [.ref a0]) (st' := [.ref b3]) (h1 := h) am_q110 rfl rfl rfl (am_gf2 g2 e4) ?_
    obtain ⟨g7, H⟩ := H
    refine ev_c (vs := [.ref b3]) (rest := []) 33 am_q110 rfl rfl rfl rfl rfl rfl rfl rfl rfl rfl rfl rfl (Or.inr (congrArg some g7)) (Cl.mono H (Nat.le_refl _) (fun r6 h5 H => ?_))
    obtain ⟨rfl, H⟩ := H
    refine ev_p (pc' := 21) (loc' := [.ref a0]) (st' := [.ref a0, .ref a0]) 2 am_q110 rfl ?_
    obtain ⟨g8, b9, e10, H⟩ := H
    refine ev_s (pc' := 24) (loc' := [.ref a0]) (st' := [.ref b9, .ref a0]) (h1 := h5) am_q110 rfl rfl rfl (am_gf2 g8 e10) ?_
    obtain ⟨g11, H⟩ := H
    refine ev_s (pc' := 27) (loc' := [.ref a0]) (st' := [.int (am_gi h5 b9 5), .ref a0]) (h1 := h5) am_q110 rfl rfl rfl (if_pos (e := none) g11) ?_
    obtain ⟨g12, H⟩ := H
    refine ev_s (pc' := 30) (loc' := [.ref a0]) (st' := []) (h1 := am_si h5 a0 11 (am_gi h5 b9 5)) am_q110 rfl rfl rfl (if_pos (e := none) g12) ?_
    replace H := H _ rfl
    generalize am_si h5 a0 11 (am_gi h5 b9 5) = h13 at H ⊢
    refine ev_p (pc' := 32) (loc' := [.ref a0]) (st' := [.ref a0, .ref a0]) 2 am_q110 rfl ?_
    obtain ⟨g14, b15, e16, H⟩ := H
    refine ev_s (pc' := 35) (loc' := [.ref a0]) (st' := [.ref b15, .ref a0]) (h1 := h13) am_q110 rfl rfl rfl (am_gf2 g14 e16) ?_
    obtain ⟨g17, H⟩ := H
    refine ev_s (pc' := 38) (loc' := [.ref a0]) (st' := [.int (am_gi h13 b15 6), .ref a0]) (h1 := h13) am_q110 rfl rfl rfl (if_pos (e := none) g17) ?_
    obtain ⟨g18, H⟩ := H
    refine ev_s (pc' := 41) (loc' := [.ref a0]) (st' := []) (h1 := am_si h13 a0 12 (am_gi h13 b15 6)) am_q110 rfl rfl rfl (if_pos (e := none) g18) ?_
    replace H := H _ rfl
    generalize am_si h13 a0 12 (am_gi h13 b15 6) = h19 at H ⊢
    refine ev_p (pc' := 42) (loc' := [.ref a0]) (st' := [.ref a0]) 1 am_q110 rfl ?_
    obtain ⟨g20, H⟩ := H
    refine ev_s (pc' := 45) (loc' := [.ref a0]) (st' := [.int (am_gi h19 a0 11)]) (h1 := h19) am_q110 rfl rfl rfl (if_pos (e := none) g20) ?_
    refine ev_jz (t := 74) am_q110 rfl rfl (fun hq => ?_) (fun hq => ?_)
    · replace H := H.1 hq
      exact ev_m (loc' := [.ref a0]) am_q110 rfl rfl H
    · replace H := H.2 hq
      refine ev_p (pc' := 49) (loc' := [.ref a0]) (st' := [.ref a0]) 1 am_q110 rfl ?_
      obtain ⟨g21, b22, e23, H⟩ := H
      refine ev_s (pc' := 52) (loc' := [.ref a0]) (st' := [.ref b22]) (h1 := h19) am_q110 rfl rfl rfl (am_gf2 g21 e23) ?_
      refine ev_p (pc' := 53) (loc' := [.ref a0]) (st' := [.ref a0, .ref b22]) 1 am_q110 rfl ?_
      obtain ⟨g24, H⟩ := H
      refine ev_s (pc' := 56) (loc' := [.ref a0]) (st' := [.int (am_gi h19 a0 9), .ref b22]) (h1 := h19) am_q110 rfl rfl rfl (if_pos (e := none) g24) ?_
      obtain ⟨g25, g26, b27, e28, H⟩ := H
      refine ev_s (pc' := 57) (loc' := [.ref a0]) (st' := [.ref b27]) (h1 := h19) am_q110 rfl rfl rfl (am_xa g25 g26 e28) ?_
      refine ev_p (pc' := 58) (loc' := [.ref a0]) (st' := [.ref a0, .ref b27]) 1 am_q110 rfl ?_
      obtain ⟨g29, b30, e31, H⟩ := H
      refine ev_s (pc' := 61) (loc' := [.ref a0]) (st' := [.ref b30, .ref b27]) (h1 := h19) am_q110 rfl rfl rfl (am_gf2 g29 e31) ?_
      obtain ⟨g34, H⟩ := H
      refine ev_c (vs := [.ref b27, .ref b30]) (rest := []) 76 am_q110 rfl rfl rfl rfl rfl rfl rfl rfl rfl rfl rfl rfl (Or.inr (congrArg some g34)) (Cl.mono H (Nat.le_refl _) (fun r33 h32 H => ?_))
      obtain ⟨rfl, H⟩ := H
      refine ev_p (pc' := 66) (loc' := [.ref a0]) (st' := [.ref a0, .ref a0]) 2 am_q110 rfl ?_
      obtain ⟨g35, H⟩ := H
      refine ev_s (pc' := 69) (loc' := [.ref a0]) (st' := [.int (am_gi h32 a0 9), .ref a0]) (h1 := h32) am_q110 rfl rfl rfl (if_pos (e := none) g35) ?_
      refine ev_p (pc' := 71) (loc' := [.ref a0]) (st' := [.int ((am_gi h32 a0 9) + (1 : Int32)), .ref a0]) 2 am_q110 rfl ?_
      obtain ⟨g36, H⟩ := H
      refine ev_s (pc' := 74) (loc' := [.ref a0]) (st' := []) (h1 := am_si h32 a0 9 ((am_gi h32 a0 9) + (1 : Int32))) am_q110 rfl rfl rfl (if_pos (e := none) g36) ?_
      replace H := H _ rfl
      generalize am_si h32 a0 9 ((am_gi h32 a0 9) + (1 : Int32)) = h37 at H ⊢
      exact ev_m (loc' := [.ref a0]) am_q110 rfl rfl H
  · replace H := H.2 hq
    refine ev_p (pc' := 11) (loc' := [.ref a0]) (st' := [.int (-4 : Int32)]) 1 am_q110 rfl ?_
    exact ev_r (v := some (.int (-4 : Int32))) am_q110 rfl rfl rfl rfl H
set_option maxRecDepth 20000 in
set_option maxHeartbeats 2000000 in
theorem wp110_74 {d : Nat} (a0 : Nat) {h : AH} {Q : Option Value → AH → Prop} (H : am_kd h a0 = 11 ∧ ∃ b2, am_gr h a0 6 = some b2 ∧ am_kd h b2 = 5 ∧ Cl d 32 [.ref b2] h (fun r5 h4 => r5 = none ∧ am_kd h4 a0 = 11 ∧ ((¬ (am_gi h4 a0 11) = (0 : Int32)) → am_kd h4 a0 = 11 ∧ Q (some (.int ((-10 : Int32) - (am_gi h4 a0 11)))) h4) ∧ (¬ (¬ (am_gi h4 a0 11) = (0 : Int32)) → am_kd h4 a0 = 11 ∧ Q (some (.int ((am_gi h4 a0 9) - (1 : Int32)))) h4))) : Ev (d + 1) 110 74 [.ref a0] [] h Q := by
  refine ev_p (pc' := 75) (loc' := [.ref a0]) (st' := [.ref a0]) 1 am_q110 rfl ?_
  obtain ⟨g1, b2, e3, H⟩ := H
  refine ev_s (pc' := 78) (loc' := [.ref a0]) (st' := [.ref b2]) (h1 := h) am_q110 rfl rfl rfl (am_gf2 g1 e3) ?_
  obtain ⟨g6, H⟩ := H
  refine ev_c (vs := [.ref b2]) (rest := []) 32 am_q110 rfl rfl rfl rfl rfl rfl rfl rfl rfl rfl rfl rfl (Or.inr (congrArg some g6)) (Cl.mono H (Nat.le_refl _) (fun r5 h4 H => ?_))
  obtain ⟨rfl, H⟩ := H
  refine ev_p (pc' := 82) (loc' := [.ref a0]) (st' := [.ref a0]) 1 am_q110 rfl ?_
  obtain ⟨g7, H⟩ := H
  refine ev_s (pc' := 85) (loc' := [.ref a0]) (st' := [.int (am_gi h4 a0 11)]) (h1 := h4) am_q110 rfl rfl rfl (if_pos (e := none) g7) ?_
  refine ev_jz (t := 97) am_q110 rfl rfl (fun hq => ?_) (fun hq => ?_)
  · replace H := H.1 hq
    refine ev_p (pc' := 100) (loc' := [.ref a0]) (st' := [.ref a0, .int (-10 : Int32)]) 2 am_q110 rfl ?_
    obtain ⟨g8, H⟩ := H
    refine ev_s (pc' := 103) (loc' := [.ref a0]) (st' := [.int (am_gi h4 a0 11), .int (-10 : Int32)]) (h1 := h4) am_q110 rfl rfl rfl (if_pos (e := none) g8) ?_
    refine ev_p (pc' := 104) (loc' := [.ref a0]) (st' := [.int ((-10 : Int32) - (am_gi h4 a0 11))]) 1 am_q110 rfl ?_
    exact ev_r (v := some (.int ((-10 : Int32) - (am_gi h4 a0 11)))) am_q110 rfl rfl rfl rfl H
  · replace H := H.2 hq
    refine ev_p (pc' := 89) (loc' := [.ref a0]) (st' := [.ref a0]) 1 am_q110 rfl ?_
    obtain ⟨g9, H⟩ := H
    refine ev_s (pc' := 92) (loc' := [.ref a0]) (st' := [.int (am_gi h4 a0 9)]) (h1 := h4) am_q110 rfl rfl rfl (if_pos (e := none) g9) ?_
    refine ev_p (pc' := 104) (loc' := [.ref a0]) (st' := [.int ((am_gi h4 a0 9) - (1 : Int32))]) 3 am_q110 rfl ?_
    exact ev_r (v := some (.int ((am_gi h4 a0 9) - (1 : Int32)))) am_q110 rfl rfl rfl rfl H
/-! 111: X11_fault -/
theorem am_q111 : (am_mt 111).2.2.2.2.2 = am_m111.2.2.2.2.2 := rfl
set_option maxRecDepth 20000 in
set_option maxHeartbeats 2000000 in
theorem wp111 {d : Nat} (a0 : Nat) (i1 : Int32) {h : AH} {Q : Option Value → AH → Prop} (H : (i1 = (0 : Int32) → am_kd h a0 = 11 ∧ Q (some (.int (am_gi h a0 11))) h) ∧ (i1 = (1 : Int32) → am_kd h a0 = 11 ∧ Q (some (.int (am_gi h a0 12))) h) ∧ (¬ i1 = (0 : Int32) ∧ ¬ i1 = (1 : Int32) → Q (some (.int (-2 : Int32))) h)) : Cl d 111 [.ref a0, .int i1] h Q := by
  show Ev d 111 0 [.ref a0, .int i1] [] h Q
  refine ev_p (pc' := 1) (loc' := [.ref a0, .int i1]) (st' := [.int i1]) 1 am_q111 rfl ?_
  by_cases k2 : i1 = (0 : Int32)
  · replace H := H.1 k2
    refine ev_s (pc' := 28) (loc' := [.ref a0, .int i1]) (st' := []) (h1 := h) am_q111 rfl rfl rfl (by rw [k2]; rfl) ?_
    refine ev_p (pc' := 29) (loc' := [.ref a0, .int i1]) (st' := [.ref a0]) 1 am_q111 rfl ?_
    obtain ⟨g1, H⟩ := H
    refine ev_s (pc' := 32) (loc' := [.ref a0, .int i1]) (st' := [.int (am_gi h a0 11)]) (h1 := h) am_q111 rfl rfl rfl (if_pos (e := none) g1) ?_
    exact ev_r (v := some (.int (am_gi h a0 11))) am_q111 rfl rfl rfl rfl H
  replace H := H.2
  by_cases k4 : i1 = (1 : Int32)
  · replace H := H.1 k4
    refine ev_s (pc' := 33) (loc' := [.ref a0, .int i1]) (st' := []) (h1 := h) am_q111 rfl rfl rfl (by rw [k4]; rfl) ?_
    refine ev_p (pc' := 34) (loc' := [.ref a0, .int i1]) (st' := [.ref a0]) 1 am_q111 rfl ?_
    obtain ⟨g3, H⟩ := H
    refine ev_s (pc' := 37) (loc' := [.ref a0, .int i1]) (st' := [.int (am_gi h a0 12)]) (h1 := h) am_q111 rfl rfl rfl (if_pos (e := none) g3) ?_
    exact ev_r (v := some (.int (am_gi h a0 12))) am_q111 rfl rfl rfl rfl H
  replace H := H.2
  replace H := H ⟨k2, k4⟩
  refine ev_s (pc' := 38) (loc' := [.ref a0, .int i1]) (st' := []) (h1 := h) am_q111 rfl rfl rfl (by have z0 : (i1).toInt ≠ 0 := am_tn k2 (by decide); have z1 : (i1).toInt ≠ 1 := am_tn k4 (by decide); show some (am_tgt 1 (Op.lookupswitch.offset [(0, 27), (1, 32)] 37 (i1).toInt), _, _, _) = _; rw [show Op.lookupswitch.offset [(0, 27), (1, 32)] 37 (i1).toInt = 37 by simp [Op.lookupswitch.offset, Ne.symm z0, z0, Ne.symm z1, z1]]; rfl) ?_
  refine ev_p (pc' := 40) (loc' := [.ref a0, .int i1]) (st' := [.int (-2 : Int32)]) 1 am_q111 rfl ?_
  exact ev_r (v := some (.int (-2 : Int32))) am_q111 rfl rfl rfl rfl H
/-! 112: X11_vote -/
theorem am_q112 : (am_mt 112).2.2.2.2.2 = am_m112.2.2.2.2.2 := rfl
set_option maxRecDepth 20000 in
set_option maxHeartbeats 2000000 in
theorem wp112 {d : Nat} (a0 : Nat) (i1 : Int32) (i2 : Int32) (i3 : Int32) {h : AH} {Q : Option Value → AH → Prop} (H : am_kd h a0 = 11 ∧ Cl d 139 [.ref a0, .int i1] h (fun r2 h1 => ∃ x4, r2 = some (.int x4) ∧ (x4 = (0 : Int32) → Q (some (.int (-2 : Int32))) h1) ∧ (¬ x4 = (0 : Int32) → am_kd h1 a0 = 11 ∧ Cl d 140 [.ref a0, .int i2] h1 (fun r6 h5 => ∃ x8, r6 = some (.int x8) ∧ ((¬ x8 = (0 : Int32)) → am_kd h5 a0 = 11 ∧ ∃ b10, am_gr h5 a0 8 = some b10 ∧ (104 ≤ am_kd h5 b10 ∧ am_kd h5 b10 ≤ 109) ∧ am_in i2 (am_ln h5 b10) ∧ ∃ b14, am_gr h5 b10 (Int32.toNatClampNeg i2) = some b14 ∧ am_kd h5 b14 = 9 ∧ Cl d 77 [.ref b14] h5 (fun r17 h16 => ∃ x19, r17 = some (.int x19) ∧ ((¬ x19 = (0 : Int32)) → Q (some (.int (-3 : Int32))) h16) ∧ (¬ (¬ x19 = (0 : Int32)) → am_kd h16 b14 = 9 ∧ ((¬ (am_gi h16 b14 5) = (0 : Int32)) → Q (some (.int (-3 : Int32))) h16) ∧ (¬ (¬ (am_gi h16 b14 5) = (0 : Int32)) → am_kd h16 a0 = 11 ∧ Cl d 146 [.ref a0, .int i1] h16 (fun r22 h21 => ∃ x24, r22 = some (.int x24) ∧ (x24 = (0 : Int32) → Q (some (.int (-3 : Int32))) h21) ∧ (¬ x24 = (0 : Int32) → am_kd h21 b14 = 9 ∧ Cl d 79 [.ref b14, .int i1] h21 (fun r26 h25 => ∃ x28, r26 = some (.int x28) ∧ (x28 = (0 : Int32) → am_kd h25 b14 = 9 ∧ Cl d 80 [.ref b14, .int i1, .int i3] h25 (fun r30 h29 => r30 = none ∧ am_kd h29 b14 = 9 ∧ Cl d 262 [.int (am_gi h29 b14 3)] h29 (fun r34 h33 => ∃ x35, r34 = some (.int x35) ∧ Q (some (.int x35)) h33))) ∧ (¬ x28 = (0 : Int32) → Q (some (.int (-3 : Int32))) h25)))))))) ∧ (¬ (¬ x8 = (0 : Int32)) → Q (some (.int (-2 : Int32))) h5))))) : Cl (d + 1) 112 [.ref a0, .int i1, .int i2, .int i3] h Q := by
  show Ev (d + 1) 112 0 [.ref a0, .int i1, .int i2, .int i3, .null] [] h Q
  refine ev_p (pc' := 2) (loc' := [.ref a0, .int i1, .int i2, .int i3, .null]) (st' := [.int i1, .ref a0]) 2 am_q112 rfl ?_
  obtain ⟨g3, H⟩ := H
  refine ev_c (vs := [.ref a0, .int i1]) (rest := []) 139 am_q112 rfl rfl rfl rfl rfl rfl rfl rfl rfl rfl rfl rfl (Or.inr (congrArg some g3)) (Cl.mono H (Nat.le_refl _) (fun r2 h1 H => ?_))
  obtain ⟨x4, rfl, H⟩ := H
  refine ev_jz (t := 16) am_q112 rfl rfl (fun hq => ?_) (fun hq => ?_)
  · replace H := H.1 hq
    refine ev_p (pc' := 18) (loc' := [.null, .null, .null, .null, .null]) (st' := [.int (-2 : Int32)]) 1 am_q112 rfl ?_
    exact ev_r (v := some (.int (-2 : Int32))) am_q112 rfl rfl rfl rfl H
  · replace H := H.2 hq
    refine ev_p (pc' := 10) (loc' := [.ref a0, .int i1, .int i2, .int i3, .null]) (st' := [.int i2, .ref a0]) 2 am_q112 rfl ?_
    obtain ⟨g7, H⟩ := H
    refine ev_c (vs := [.ref a0, .int i2]) (rest := []) 140 am_q112 rfl rfl rfl rfl rfl rfl rfl rfl rfl rfl rfl rfl (Or.inr (congrArg some g7)) (Cl.mono H (Nat.le_refl _) (fun r6 h5 H => ?_))
    obtain ⟨x8, rfl, H⟩ := H
    refine ev_jz (t := 19) am_q112 rfl rfl (fun hq => ?_) (fun hq => ?_)
    · replace H := H.1 hq
      refine ev_p (pc' := 20) (loc' := [.ref a0, .int i1, .int i2, .int i3, .null]) (st' := [.ref a0]) 1 am_q112 rfl ?_
      obtain ⟨g9, b10, e11, H⟩ := H
      refine ev_s (pc' := 23) (loc' := [.ref a0, .int i1, .int i2, .int i3, .null]) (st' := [.ref b10]) (h1 := h5) am_q112 rfl rfl rfl (am_gf2 g9 e11) ?_
      refine ev_p (pc' := 24) (loc' := [.ref a0, .int i1, .int i2, .int i3, .null]) (st' := [.int i2, .ref b10]) 1 am_q112 rfl ?_
      obtain ⟨g12, g13, b14, e15, H⟩ := H
      refine ev_s (pc' := 25) (loc' := [.ref a0, .int i1, .int i2, .int i3, .null]) (st' := [.ref b14]) (h1 := h5) am_q112 rfl rfl rfl (am_xa g12 g13 e15) ?_
      refine ev_p (pc' := 29) (loc' := [.ref a0, .int i1, .int i2, .int i3, .ref b14]) (st' := [.ref b14]) 2 am_q112 rfl ?_
      obtain ⟨g18, H⟩ := H
      refine ev_c (vs := [.ref b14]) (rest := []) 77 am_q112 rfl rfl rfl rfl rfl rfl rfl rfl rfl rfl rfl rfl (Or.inr (congrArg some g18)) (Cl.mono H (Nat.le_refl _) (fun r17 h16 H => ?_))
      obtain ⟨x19, rfl, H⟩ := H
      refine ev_jz (t := 60) am_q112 rfl rfl (fun hq => ?_) (fun hq => ?_)
      · replace H := H.1 hq
        refine ev_p (pc' := 62) (loc' := [.null, .null, .null, .null, .null]) (st' := [.int (-3 : Int32)]) 1 am_q112 rfl ?_
        exact ev_r (v := some (.int (-3 : Int32))) am_q112 rfl rfl rfl rfl H
      · replace H := H.2 hq
        refine ev_p (pc' := 37) (loc' := [.ref a0, .int i1, .int i2, .int i3, .ref b14]) (st' := [.ref b14]) 1 am_q112 rfl ?_
        obtain ⟨g20, H⟩ := H
        refine ev_s (pc' := 40) (loc' := [.ref a0, .int i1, .int i2, .int i3, .ref b14]) (st' := [.int (am_gi h16 b14 5)]) (h1 := h16) am_q112 rfl rfl rfl (if_pos (e := none) g20) ?_
        refine ev_jz (t := 60) am_q112 rfl rfl (fun hq => ?_) (fun hq => ?_)
        · replace H := H.1 hq
          refine ev_p (pc' := 62) (loc' := [.null, .null, .null, .null, .null]) (st' := [.int (-3 : Int32)]) 1 am_q112 rfl ?_
          exact ev_r (v := some (.int (-3 : Int32))) am_q112 rfl rfl rfl rfl H
        · replace H := H.2 hq
          refine ev_p (pc' := 45) (loc' := [.ref a0, .int i1, .int i2, .int i3, .ref b14]) (st' := [.int i1, .ref a0]) 2 am_q112 rfl ?_
          obtain ⟨g23, H⟩ := H
          refine ev_c (vs := [.ref a0, .int i1]) (rest := []) 146 am_q112 rfl rfl rfl rfl rfl rfl rfl rfl rfl rfl rfl rfl (Or.inr (congrArg some g23)) (Cl.mono H (Nat.le_refl _) (fun r22 h21 H => ?_))
          obtain ⟨x24, rfl, H⟩ := H
          refine ev_jz (t := 60) am_q112 rfl rfl (fun hq => ?_) (fun hq => ?_)
          · replace H := H.1 hq
            refine ev_p (pc' := 62) (loc' := [.null, .null, .null, .null, .null]) (st' := [.int (-3 : Int32)]) 1 am_q112 rfl ?_
            exact ev_r (v := some (.int (-3 : Int32))) am_q112 rfl rfl rfl rfl H
          · replace H := H.2 hq
            refine ev_p (pc' := 54) (loc' := [.ref a0, .int i1, .int i2, .int i3, .ref b14]) (st' := [.int i1, .ref b14]) 2 am_q112 rfl ?_
            obtain ⟨g27, H⟩ := H
            refine ev_c (vs := [.ref b14, .int i1]) (rest := []) 79 am_q112 rfl rfl rfl rfl rfl rfl rfl rfl rfl rfl rfl rfl (Or.inr (congrArg some g27)) (Cl.mono H (Nat.le_refl _) (fun r26 h25 H => ?_))
            obtain ⟨x28, rfl, H⟩ := H
            refine ev_jz (t := 63) am_q112 rfl rfl (fun hq => ?_) (fun hq => ?_)
            · replace H := H.1 hq
              refine ev_p (pc' := 67) (loc' := [.ref a0, .int i1, .int i2, .int i3, .ref b14]) (st' := [.int i3, .int i1, .ref b14]) 3 am_q112 rfl ?_
              obtain ⟨g31, H⟩ := H
              refine ev_c (vs := [.ref b14, .int i1, .int i3]) (rest := []) 80 am_q112 rfl rfl rfl rfl rfl rfl rfl rfl rfl rfl rfl rfl (Or.inr (congrArg some g31)) (Cl.mono H (Nat.le_refl _) (fun r30 h29 H => ?_))
              obtain ⟨rfl, H⟩ := H
              refine ev_p (pc' := 72) (loc' := [.ref a0, .int i1, .int i2, .int i3, .ref b14]) (st' := [.ref b14]) 1 am_q112 rfl ?_
              obtain ⟨g32, H⟩ := H
              refine ev_s (pc' := 75) (loc' := [.ref a0, .int i1, .int i2, .int i3, .ref b14]) (st' := [.int (am_gi h29 b14 3)]) (h1 := h29) am_q112 rfl rfl rfl (if_pos (e := none) g32) ?_
              refine ev_c (vs := [.int (am_gi h29 b14 3)]) (rest := []) 262 am_q112 rfl rfl rfl rfl rfl rfl rfl rfl rfl rfl rfl rfl (Or.inl rfl) (Cl.mono H (Nat.le_refl _) (fun r34 h33 H => ?_))
              obtain ⟨x35, rfl, H⟩ := H
              exact ev_r (v := some (.int x35)) am_q112 rfl rfl rfl rfl H
            · replace H := H.2 hq
              refine ev_p (pc' := 62) (loc' := [.null, .null, .null, .null, .null]) (st' := [.int (-3 : Int32)]) 1 am_q112 rfl ?_
              exact ev_r (v := some (.int (-3 : Int32))) am_q112 rfl rfl rfl rfl H
    · replace H := H.2 hq
      refine ev_p (pc' := 18) (loc' := [.null, .null, .null, .null, .null]) (st' := [.int (-2 : Int32)]) 1 am_q112 rfl ?_
      exact ev_r (v := some (.int (-2 : Int32))) am_q112 rfl rfl rfl rfl H
/-! 113: X11_carry -/
theorem am_q113 : (am_mt 113).2.2.2.2.2 = am_m113.2.2.2.2.2 := rfl
set_option maxRecDepth 20000 in
set_option maxHeartbeats 2000000 in
theorem wp113 {d : Nat} (a0 : Nat) (i1 : Int32) (i2 : Int32) {h : AH} {Q : Option Value → AH → Prop} (H : am_kd h a0 = 11 ∧ Cl d 140 [.ref a0, .int i1] h (fun r2 h1 => ∃ x4, r2 = some (.int x4) ∧ (x4 = (0 : Int32) → Q (some (.int (-2 : Int32))) h1) ∧ (¬ x4 = (0 : Int32) → am_kd h1 a0 = 11 ∧ (i2 < (am_gi h1 a0 0) → Q (some (.int (-2 : Int32))) h1) ∧ (¬ i2 < (am_gi h1 a0 0) → (i2 ≤ (2000000 : Int32) → am_kd h1 a0 = 11 ∧ ∃ b7, am_gr h1 a0 8 = some b7 ∧ (104 ≤ am_kd h1 b7 ∧ am_kd h1 b7 ≤ 109) ∧ am_in i1 (am_ln h1 b7) ∧ ∃ b11, am_gr h1 b7 (Int32.toNatClampNeg i1) = some b11 ∧ am_kd h1 b11 = 9 ∧ Cl d 77 [.ref b11] h1 (fun r14 h13 => ∃ x16, r14 = some (.int x16) ∧ ((¬ x16 = (0 : Int32)) → Q (some (.int (-3 : Int32))) h13) ∧ (¬ (¬ x16 = (0 : Int32)) → am_kd h13 b11 = 9 ∧ ((am_gi h13 b11 5) = (0 : Int32) → am_kd h13 b11 = 9 ∧ Cl d 262 [.int (am_gi h13 b11 3)] h13 (fun r20 h19 => ∃ x21, r20 = some (.int x21) ∧ am_kd h19 a0 = 11 ∧ Cl d 156 [.ref a0] h19 (fun r23 h22 => ∃ y25, r23 = some (.long y25) ∧ ((0 : Int32) ≤ (lg_cmp (Int32.toInt64 x21) y25) → am_kd h22 a0 = 11 ∧ am_kd h22 a0 = 11 ∧ Cl d 154 [.ref a0, .int (am_gi h22 a0 0)] h22 (fun r28 h27 => ∃ x30, r28 = some (.int x30) ∧ am_kd h27 a0 = 11 ∧ am_kd h27 a0 = 11 ∧ ∀ h33, h33 = am_si h27 a0 10 ((am_gi h27 a0 10) + (1 : Int32)) → am_kd h33 a0 = 11 ∧ am_kd h33 b11 = 9 ∧ Cl d 81 [.ref b11, .int (am_gi h33 a0 10), .int i2, .int x30] h33 (fun r36 h35 => r36 = none ∧ Q (some (.int (1 : Int32))) h35))) ∧ (¬ (0 : Int32) ≤ (lg_cmp (Int32.toInt64 x21) y25) → Q (some (.int (0 : Int32))) h22)))) ∧ (¬ (am_gi h13 b11 5) = (0 : Int32) → Q (some (.int (-3 : Int32))) h13)))) ∧ (¬ i2 ≤ (2000000 : Int32) → Q (some (.int (-2 : Int32))) h1))))) : Cl (d + 1) 113 [.ref a0, .int i1, .int i2] h Q := by
  show Ev (d + 1) 113 0 [.ref a0, .int i1, .int i2, .null, .null] [] h Q
  refine ev_p (pc' := 2) (loc' := [.ref a0, .int i1, .int i2, .null, .null]) (st' := [.int i1, .ref a0]) 2 am_q113 rfl ?_
  obtain ⟨g3, H⟩ := H
  refine ev_c (vs := [.ref a0, .int i1]) (rest := []) 140 am_q113 rfl rfl rfl rfl rfl rfl rfl rfl rfl rfl rfl rfl (Or.inr (congrArg some g3)) (Cl.mono H (Nat.le_refl _) (fun r2 h1 H => ?_))
  obtain ⟨x4, rfl, H⟩ := H
  refine ev_jz (t := 23) am_q113 rfl rfl (fun hq => ?_) (fun hq => ?_)
  · replace H := H.1 hq
    refine ev_p (pc' := 25) (loc' := [.null, .null, .null, .null, .null]) (st' := [.int (-2 : Int32)]) 1 am_q113 rfl ?_
    exact ev_r (v := some (.int (-2 : Int32))) am_q113 rfl rfl rfl rfl H
  · replace H := H.2 hq
    refine ev_p (pc' := 10) (loc' := [.ref a0, .int i1, .int i2, .null, .null]) (st' := [.ref a0, .int i2]) 2 am_q113 rfl ?_
    obtain ⟨g5, H⟩ := H
    refine ev_s (pc' := 13) (loc' := [.ref a0, .int i1, .int i2, .null, .null]) (st' := [.int (am_gi h1 a0 0), .int i2]) (h1 := h1) am_q113 rfl rfl rfl (if_pos (e := none) g5) ?_
    refine ev_jc (t := 23) am_q113 rfl rfl (fun hq => ?_) (fun hq => ?_)
    · replace H := H.1 hq
      refine ev_p (pc' := 25) (loc' := [.null, .null, .null, .null, .null]) (st' := [.int (-2 : Int32)]) 1 am_q113 rfl ?_
      exact ev_r (v := some (.int (-2 : Int32))) am_q113 rfl rfl rfl rfl H
    · replace H := H.2 hq
      refine ev_p (pc' := 20) (loc' := [.ref a0, .int i1, .int i2, .null, .null]) (st' := [.int (2000000 : Int32), .int i2]) 2 am_q113 rfl ?_
      refine ev_jc (t := 26) am_q113 rfl rfl (fun hq => ?_) (fun hq => ?_)
      · replace H := H.1 hq
        refine ev_p (pc' := 27) (loc' := [.ref a0, .int i1, .int i2, .null, .null]) (st' := [.ref a0]) 1 am_q113 rfl ?_
        obtain ⟨g6, b7, e8, H⟩ := H
        refine ev_s (pc' := 30) (loc' := [.ref a0, .int i1, .int i2, .null, .null]) (st' := [.ref b7]) (h1 := h1) am_q113 rfl rfl rfl (am_gf2 g6 e8) ?_
        refine ev_p (pc' := 31) (loc' := [.ref a0, .int i1, .int i2, .null, .null]) (st' := [.int i1, .ref b7]) 1 am_q113 rfl ?_
        obtain ⟨g9, g10, b11, e12, H⟩ := H
        refine ev_s (pc' := 32) (loc' := [.ref a0, .int i1, .int i2, .null, .null]) (st' := [.ref b11]) (h1 := h1) am_q113 rfl rfl rfl (am_xa g9 g10 e12) ?_
        refine ev_p (pc' := 34) (loc' := [.ref a0, .int i1, .int i2, .ref b11, .null]) (st' := [.ref b11]) 2 am_q113 rfl ?_
        obtain ⟨g15, H⟩ := H
        refine ev_c (vs := [.ref b11]) (rest := []) 77 am_q113 rfl rfl rfl rfl rfl rfl rfl rfl rfl rfl rfl rfl (Or.inr (congrArg some g15)) (Cl.mono H (Nat.le_refl _) (fun r14 h13 H => ?_))
        obtain ⟨x16, rfl, H⟩ := H
        refine ev_jz (t := 47) am_q113 rfl rfl (fun hq => ?_) (fun hq => ?_)
        · replace H := H.1 hq
          refine ev_p (pc' := 49) (loc' := [.null, .null, .null, .null, .null]) (st' := [.int (-3 : Int32)]) 1 am_q113 rfl ?_
          exact ev_r (v := some (.int (-3 : Int32))) am_q113 rfl rfl rfl rfl H
        · replace H := H.2 hq
          refine ev_p (pc' := 41) (loc' := [.ref a0, .int i1, .int i2, .ref b11, .null]) (st' := [.ref b11]) 1 am_q113 rfl ?_
          obtain ⟨g17, H⟩ := H
          refine ev_s (pc' := 44) (loc' := [.ref a0, .int i1, .int i2, .ref b11, .null]) (st' := [.int (am_gi h13 b11 5)]) (h1 := h13) am_q113 rfl rfl rfl (if_pos (e := none) g17) ?_
          refine ev_jz (t := 50) am_q113 rfl rfl (fun hq => ?_) (fun hq => ?_)
          · replace H := H.1 hq
            refine ev_p (pc' := 51) (loc' := [.ref a0, .int i1, .int i2, .ref b11, .null]) (st' := [.ref b11]) 1 am_q113 rfl ?_
            obtain ⟨g18, H⟩ := H
            refine ev_s (pc' := 54) (loc' := [.ref a0, .int i1, .int i2, .ref b11, .null]) (st' := [.int (am_gi h13 b11 3)]) (h1 := h13) am_q113 rfl rfl rfl (if_pos (e := none) g18) ?_
            refine ev_c (vs := [.int (am_gi h13 b11 3)]) (rest := []) 262 am_q113 rfl rfl rfl rfl rfl rfl rfl rfl rfl rfl rfl rfl (Or.inl rfl) (Cl.mono H (Nat.le_refl _) (fun r20 h19 H => ?_))
            obtain ⟨x21, rfl, H⟩ := H
            refine ev_p (pc' := 59) (loc' := [.ref a0, .int i1, .int i2, .ref b11, .null]) (st' := [.ref a0, .long (Int32.toInt64 x21)]) 2 am_q113 rfl ?_
            obtain ⟨g24, H⟩ := H
            refine ev_c (vs := [.ref a0]) (rest := [.long (Int32.toInt64 x21)]) 156 am_q113 rfl rfl rfl rfl rfl rfl rfl rfl rfl rfl rfl rfl (Or.inr (congrArg some g24)) (Cl.mono H (Nat.le_refl _) (fun r23 h22 H => ?_))
            obtain ⟨y25, rfl, H⟩ := H
            refine ev_p (pc' := 63) (loc' := [.ref a0, .int i1, .int i2, .ref b11, .null]) (st' := [.int (lg_cmp (Int32.toInt64 x21) y25)]) 1 am_q113 rfl ?_
            refine ev_jz (t := 68) am_q113 rfl rfl (fun hq => ?_) (fun hq => ?_)
            · replace H := H.1 hq
              refine ev_p (pc' := 70) (loc' := [.ref a0, .int i1, .int i2, .ref b11, .null]) (st' := [.ref a0, .ref a0]) 2 am_q113 rfl ?_
              obtain ⟨g26, H⟩ := H
              refine ev_s (pc' := 73) (loc' := [.ref a0, .int i1, .int i2, .ref b11, .null]) (st' := [.int (am_gi h22 a0 0), .ref a0]) (h1 := h22) am_q113 rfl rfl rfl (if_pos (e := none) g26) ?_
              obtain ⟨g29, H⟩ := H
              refine ev_c (vs := [.ref a0, .int (am_gi h22 a0 0)]) (rest := []) 154 am_q113 rfl rfl rfl rfl rfl rfl rfl rfl rfl rfl rfl rfl (Or.inr (congrArg some g29)) (Cl.mono H (Nat.le_refl _) (fun r28 h27 H => ?_))
              obtain ⟨x30, rfl, H⟩ := H
              refine ev_p (pc' := 80) (loc' := [.ref a0, .int i1, .int i2, .ref b11, .int x30]) (st' := [.ref a0, .ref a0]) 3 am_q113 rfl ?_
              obtain ⟨g31, H⟩ := H
              refine ev_s (pc' := 83) (loc' := [.ref a0, .int i1, .int i2, .ref b11, .int x30]) (st' := [.int (am_gi h27 a0 10), .ref a0]) (h1 := h27) am_q113 rfl rfl rfl (if_pos (e := none) g31) ?_
              refine ev_p (pc' := 85) (loc' := [.ref a0, .int i1, .int i2, .ref b11, .int x30]) (st' := [.int ((am_gi h27 a0 10) + (1 : Int32)), .ref a0]) 2 am_q113 rfl ?_
              obtain ⟨g32, H⟩ := H
              refine ev_s (pc' := 88) (loc' := [.ref a0, .int i1, .int i2, .ref b11, .int x30]) (st' := []) (h1 := am_si h27 a0 10 ((am_gi h27 a0 10) + (1 : Int32))) am_q113 rfl rfl rfl (if_pos (e := none) g32) ?_
              replace H := H _ rfl
              generalize am_si h27 a0 10 ((am_gi h27 a0 10) + (1 : Int32)) = h33 at H ⊢
              refine ev_p (pc' := 90) (loc' := [.ref a0, .int i1, .int i2, .ref b11, .int x30]) (st' := [.ref a0, .ref b11]) 2 am_q113 rfl ?_
              obtain ⟨g34, H⟩ := H
              refine ev_s (pc' := 93) (loc' := [.ref a0, .int i1, .int i2, .ref b11, .int x30]) (st' := [.int (am_gi h33 a0 10), .ref b11]) (h1 := h33) am_q113 rfl rfl rfl (if_pos (e := none) g34) ?_
              refine ev_p (pc' := 96) (loc' := [.ref a0, .int i1, .int i2, .ref b11, .int x30]) (st' := [.int x30, .int i2, .int (am_gi h33 a0 10), .ref b11]) 2 am_q113 rfl ?_
              obtain ⟨g37, H⟩ := H
              refine ev_c (vs := [.ref b11, .int (am_gi h33 a0 10), .int i2, .int x30]) (rest := []) 81 am_q113 rfl rfl rfl rfl rfl rfl rfl rfl rfl rfl rfl rfl (Or.inr (congrArg some g37)) (Cl.mono H (Nat.le_refl _) (fun r36 h35 H => ?_))
              obtain ⟨rfl, H⟩ := H
              refine ev_p (pc' := 100) (loc' := [.ref a0, .int i1, .int i2, .ref b11, .int x30]) (st' := [.int (1 : Int32)]) 1 am_q113 rfl ?_
              exact ev_r (v := some (.int (1 : Int32))) am_q113 rfl rfl rfl rfl H
            · replace H := H.2 hq
              refine ev_p (pc' := 67) (loc' := [.ref a0, .int i1, .int i2, .ref b11, .null]) (st' := [.int (0 : Int32)]) 1 am_q113 rfl ?_
              exact ev_r (v := some (.int (0 : Int32))) am_q113 rfl rfl rfl rfl H
          · replace H := H.2 hq
            refine ev_p (pc' := 49) (loc' := [.null, .null, .null, .null, .null]) (st' := [.int (-3 : Int32)]) 1 am_q113 rfl ?_
            exact ev_r (v := some (.int (-3 : Int32))) am_q113 rfl rfl rfl rfl H
      · replace H := H.2 hq
        refine ev_p (pc' := 25) (loc' := [.null, .null, .null, .null, .null]) (st' := [.int (-2 : Int32)]) 1 am_q113 rfl ?_
        exact ev_r (v := some (.int (-2 : Int32))) am_q113 rfl rfl rfl rfl H
/-! 114: X11_tear -/
theorem am_q114 : (am_mt 114).2.2.2.2.2 = am_m114.2.2.2.2.2 := rfl
set_option maxRecDepth 20000 in
set_option maxHeartbeats 2000000 in
theorem wp114 {d : Nat} (a0 : Nat) (i1 : Int32) {h : AH} {Q : Option Value → AH → Prop} (H : am_kd h a0 = 11 ∧ Cl d 140 [.ref a0, .int i1] h (fun r2 h1 => ∃ x4, r2 = some (.int x4) ∧ (x4 = (0 : Int32) → Q (some (.int (-2 : Int32))) h1) ∧ (¬ x4 = (0 : Int32) → ((¬ i1 = (0 : Int32)) → am_kd h1 a0 = 11 ∧ ∃ b6, am_gr h1 a0 8 = some b6 ∧ (104 ≤ am_kd h1 b6 ∧ am_kd h1 b6 ≤ 109) ∧ am_in i1 (am_ln h1 b6) ∧ ∃ b10, am_gr h1 b6 (Int32.toNatClampNeg i1) = some b10 ∧ am_kd h1 b10 = 9 ∧ ((am_gi h1 b10 5) = (0 : Int32) → am_kd h1 a0 = 11 ∧ ∃ b14, am_gr h1 a0 8 = some b14 ∧ (104 ≤ am_kd h1 b14 ∧ am_kd h1 b14 ≤ 109) ∧ am_in i1 (am_ln h1 b14) ∧ ∃ b18, am_gr h1 b14 (Int32.toNatClampNeg i1) = some b18 ∧ am_kd h1 b18 = 9 ∧ ((1 : Int32) = (0 : Int32) ∨ (1 : Int32) = (1 : Int32)) ∧ ∀ h21, h21 = am_si h1 b18 5 (1 : Int32) → Ev (d + 1) 114 44 [.ref a0, .null, .int (1 : Int32), .int (0 : Int32)] [] h21 Q) ∧ (¬ (am_gi h1 b10 5) = (0 : Int32) → Q (some (.int (-3 : Int32))) h1)) ∧ (¬ (¬ i1 = (0 : Int32)) → Q (some (.int (-2 : Int32))) h1)))) : Cl (d + 1) 114 [.ref a0, .int i1] h Q := by
  show Ev (d + 1) 114 0 [.ref a0, .int i1, .null, .null] [] h Q
  refine ev_p (pc' := 2) (loc' := [.ref a0, .int i1, .null, .null]) (st' := [.int i1, .ref a0]) 2 am_q114 rfl ?_
  obtain ⟨g3, H⟩ := H
  refine ev_c (vs := [.ref a0, .int i1]) (rest := []) 140 am_q114 rfl rfl rfl rfl rfl rfl rfl rfl rfl rfl rfl rfl (Or.inr (congrArg some g3)) (Cl.mono H (Nat.le_refl _) (fun r2 h1 H => ?_))
  obtain ⟨x4, rfl, H⟩ := H
  refine ev_jz (t := 12) am_q114 rfl rfl (fun hq => ?_) (fun hq => ?_)
  · replace H := H.1 hq
    refine ev_p (pc' := 14) (loc' := [.null, .null, .null, .null]) (st' := [.int (-2 : Int32)]) 1 am_q114 rfl ?_
    exact ev_r (v := some (.int (-2 : Int32))) am_q114 rfl rfl rfl rfl H
  · replace H := H.2 hq
    refine ev_p (pc' := 9) (loc' := [.ref a0, .int i1, .null, .null]) (st' := [.int i1]) 1 am_q114 rfl ?_
    refine ev_jz (t := 15) am_q114 rfl rfl (fun hq => ?_) (fun hq => ?_)
    · replace H := H.1 hq
      refine ev_p (pc' := 16) (loc' := [.ref a0, .int i1, .null, .null]) (st' := [.ref a0]) 1 am_q114 rfl ?_
      obtain ⟨g5, b6, e7, H⟩ := H
      refine ev_s (pc' := 19) (loc' := [.ref a0, .int i1, .null, .null]) (st' := [.ref b6]) (h1 := h1) am_q114 rfl rfl rfl (am_gf2 g5 e7) ?_
      refine ev_p (pc' := 20) (loc' := [.ref a0, .int i1, .null, .null]) (st' := [.int i1, .ref b6]) 1 am_q114 rfl ?_
      obtain ⟨g8, g9, b10, e11, H⟩ := H
      refine ev_s (pc' := 21) (loc' := [.ref a0, .int i1, .null, .null]) (st' := [.ref b10]) (h1 := h1) am_q114 rfl rfl rfl (am_xa g8 g9 e11) ?_
      obtain ⟨g12, H⟩ := H
      refine ev_s (pc' := 24) (loc' := [.ref a0, .int i1, .null, .null]) (st' := [.int (am_gi h1 b10 5)]) (h1 := h1) am_q114 rfl rfl rfl (if_pos (e := none) g12) ?_
      refine ev_jz (t := 30) am_q114 rfl rfl (fun hq => ?_) (fun hq => ?_)
      · replace H := H.1 hq
        refine ev_p (pc' := 31) (loc' := [.ref a0, .int i1, .null, .null]) (st' := [.ref a0]) 1 am_q114 rfl ?_
        obtain ⟨g13, b14, e15, H⟩ := H
        refine ev_s (pc' := 34) (loc' := [.ref a0, .int i1, .null, .null]) (st' := [.ref b14]) (h1 := h1) am_q114 rfl rfl rfl (am_gf2 g13 e15) ?_
        refine ev_p (pc' := 35) (loc' := [.ref a0, .int i1, .null, .null]) (st' := [.int i1, .ref b14]) 1 am_q114 rfl ?_
        obtain ⟨g16, g17, b18, e19, H⟩ := H
        refine ev_s (pc' := 36) (loc' := [.ref a0, .int i1, .null, .null]) (st' := [.ref b18]) (h1 := h1) am_q114 rfl rfl rfl (am_xa g16 g17 e19) ?_
        refine ev_p (pc' := 37) (loc' := [.ref a0, .int i1, .null, .null]) (st' := [.int (1 : Int32), .ref b18]) 1 am_q114 rfl ?_
        obtain ⟨g20, g22, H⟩ := H
        refine ev_s (pc' := 40) (loc' := [.ref a0, .int i1, .null, .null]) (st' := []) (h1 := am_si h1 b18 5 (1 : Int32)) am_q114 rfl rfl rfl (if_pos (e := none) ⟨g20, g22⟩) ?_
        replace H := H _ rfl
        generalize am_si h1 b18 5 (1 : Int32) = h21 at H ⊢
        refine ev_p (pc' := 44) (loc' := [.ref a0, .int i1, .int (1 : Int32), .int (0 : Int32)]) (st' := []) 4 am_q114 rfl ?_
        exact ev_m (loc' := [.ref a0, .null, .int (1 : Int32), .int (0 : Int32)]) am_q114 rfl rfl H
      · replace H := H.2 hq
        refine ev_p (pc' := 29) (loc' := [.ref a0, .int i1, .null, .null]) (st' := [.int (-3 : Int32)]) 1 am_q114 rfl ?_
        exact ev_r (v := some (.int (-3 : Int32))) am_q114 rfl rfl rfl rfl H
    · replace H := H.2 hq
      refine ev_p (pc' := 14) (loc' := [.null, .null, .null, .null]) (st' := [.int (-2 : Int32)]) 1 am_q114 rfl ?_
      exact ev_r (v := some (.int (-2 : Int32))) am_q114 rfl rfl rfl rfl H
set_option maxRecDepth 20000 in
set_option maxHeartbeats 2000000 in
theorem wp114_44 {d : Nat} (a0 : Nat) (i2 : Int32) (i3 : Int32) {h : AH} {Q : Option Value → AH → Prop} (H : ((12 : Int32) ≤ i3 → Q (some (.int i2)) h) ∧ (¬ (12 : Int32) ≤ i3 → am_kd h a0 = 11 ∧ Cl d 155 [.ref a0] h (fun r2 h1 => ∃ x4, r2 = some (.int x4) ∧ Ev (d + 1) 114 44 [.ref a0, .null, .int (i2 + x4), .int (i3 + (1 : Int32))] [] h1 Q))) : Ev (d + 1) 114 44 [.ref a0, .null, .int i2, .int i3] [] h Q := by
  refine ev_p (pc' := 47) (loc' := [.ref a0, .null, .int i2, .int i3]) (st' := [.int (12 : Int32), .int i3]) 2 am_q114 rfl ?_
  refine ev_jc (t := 63) am_q114 rfl rfl (fun hq => ?_) (fun hq => ?_)
  · replace H := H.1 hq
    refine ev_p (pc' := 64) (loc' := [.ref a0, .null, .int i2, .int i3]) (st' := [.int i2]) 1 am_q114 rfl ?_
    exact ev_r (v := some (.int i2)) am_q114 rfl rfl rfl rfl H
  · replace H := H.2 hq
    refine ev_p (pc' := 52) (loc' := [.ref a0, .null, .int i2, .int i3]) (st' := [.ref a0, .int i2]) 2 am_q114 rfl ?_
    obtain ⟨g3, H⟩ := H
    refine ev_c (vs := [.ref a0]) (rest := [.int i2]) 155 am_q114 rfl rfl rfl rfl rfl rfl rfl rfl rfl rfl rfl rfl (Or.inr (congrArg some g3)) (Cl.mono H (Nat.le_refl _) (fun r2 h1 H => ?_))
    obtain ⟨x4, rfl, H⟩ := H
    refine ev_p (pc' := 44) (loc' := [.ref a0, .null, .int (i2 + x4), .int (i3 + (1 : Int32))]) (st' := []) 4 am_q114 rfl ?_
    exact ev_m (loc' := [.ref a0, .null, .int (i2 + x4), .int (i3 + (1 : Int32))]) am_q114 rfl rfl H
/-! 115: X11_textTold -/
theorem am_q115 : (am_mt 115).2.2.2.2.2 = am_m115.2.2.2.2.2 := rfl
set_option maxRecDepth 20000 in
set_option maxHeartbeats 2000000 in
theorem wp115 {d : Nat} (a0 : Nat) (i1 : Int32) (i2 : Int32) {h : AH} {Q : Option Value → AH → Prop} (H : am_kd h a0 = 11 ∧ Cl d 140 [.ref a0, .int i1] h (fun r2 h1 => ∃ x4, r2 = some (.int x4) ∧ ((¬ x4 = (0 : Int32)) → am_kd h1 a0 = 11 ∧ ∃ b6, am_gr h1 a0 8 = some b6 ∧ (104 ≤ am_kd h1 b6 ∧ am_kd h1 b6 ≤ 109) ∧ am_in i1 (am_ln h1 b6) ∧ ∃ b10, am_gr h1 b6 (Int32.toNatClampNeg i1) = some b10 ∧ (i2 = (0 : Int32) → am_kd h1 b10 = 9 ∧ Cl d 77 [.ref b10] h1 (fun r13 h12 => ∃ x15, r13 = some (.int x15) ∧ (x15 = (0 : Int32) → Q (some (.int (0 : Int32))) h12) ∧ (¬ x15 = (0 : Int32) → Q (some (.int (1 : Int32))) h12))) ∧ (i2 = (1 : Int32) → am_kd h1 b10 = 9 ∧ ((am_gi h1 b10 5) = (0 : Int32) → Q (some (.int (0 : Int32))) h1) ∧ (¬ (am_gi h1 b10 5) = (0 : Int32) → Q (some (.int (1 : Int32))) h1)) ∧ (i2 = (2 : Int32) → am_kd h1 b10 = 9 ∧ Q (some (.int (am_gi h1 b10 7))) h1) ∧ (i2 = (3 : Int32) → am_kd h1 b10 = 9 ∧ Cl d 262 [.int (am_gi h1 b10 3)] h1 (fun r23 h22 => ∃ x24, r23 = some (.int x24) ∧ Q (some (.int x24)) h22)) ∧ (i2 = (4 : Int32) → am_kd h1 b10 = 9 ∧ Cl d 262 [.int (am_gi h1 b10 4)] h1 (fun r28 h27 => ∃ x29, r28 = some (.int x29) ∧ Q (some (.int x29)) h27)) ∧ (i2 = (5 : Int32) → am_kd h1 b10 = 9 ∧ Q (some (.int (am_gi h1 b10 8))) h1) ∧ (i2 = (6 : Int32) → am_kd h1 b10 = 9 ∧ ∃ b34, am_gr h1 b10 0 = some b34 ∧ (100 ≤ am_kd h1 b34 ∧ am_kd h1 b34 ≤ 109) ∧ Q (some (.int (Int32.ofNat (am_ln h1 b34)))) h1) ∧ (¬ i2 = (0 : Int32) ∧ ¬ i2 = (1 : Int32) ∧ ¬ i2 = (2 : Int32) ∧ ¬ i2 = (3 : Int32) ∧ ¬ i2 = (4 : Int32) ∧ ¬ i2 = (5 : Int32) ∧ ¬ i2 = (6 : Int32) → Q (some (.int (-2 : Int32))) h1)) ∧ (¬ (¬ x4 = (0 : Int32)) → Q (some (.int (-2 : Int32))) h1))) : Cl (d + 1) 115 [.ref a0, .int i1, .int i2] h Q := by
  show Ev (d + 1) 115 0 [.ref a0, .int i1, .int i2, .null] [] h Q
  refine ev_p (pc' := 2) (loc' := [.ref a0, .int i1, .int i2, .null]) (st' := [.int i1, .ref a0]) 2 am_q115 rfl ?_
  obtain ⟨g3, H⟩ := H
  refine ev_c (vs := [.ref a0, .int i1]) (rest := []) 140 am_q115 rfl rfl rfl rfl rfl rfl rfl rfl rfl rfl rfl rfl (Or.inr (congrArg some g3)) (Cl.mono H (Nat.le_refl _) (fun r2 h1 H => ?_))
  obtain ⟨x4, rfl, H⟩ := H
  refine ev_jz (t := 11) am_q115 rfl rfl (fun hq => ?_) (fun hq => ?_)
  · replace H := H.1 hq
    refine ev_p (pc' := 12) (loc' := [.ref a0, .int i1, .int i2, .null]) (st' := [.ref a0]) 1 am_q115 rfl ?_
    obtain ⟨g5, b6, e7, H⟩ := H
    refine ev_s (pc' := 15) (loc' := [.ref a0, .int i1, .int i2, .null]) (st' := [.ref b6]) (h1 := h1) am_q115 rfl rfl rfl (am_gf2 g5 e7) ?_
    refine ev_p (pc' := 16) (loc' := [.ref a0, .int i1, .int i2, .null]) (st' := [.int i1, .ref b6]) 1 am_q115 rfl ?_
    obtain ⟨g8, g9, b10, e11, H⟩ := H
    refine ev_s (pc' := 17) (loc' := [.ref a0, .int i1, .int i2, .null]) (st' := [.ref b10]) (h1 := h1) am_q115 rfl rfl rfl (am_xa g8 g9 e11) ?_
    refine ev_p (pc' := 19) (loc' := [.ref a0, .int i1, .int i2, .ref b10]) (st' := [.int i2]) 2 am_q115 rfl ?_
    by_cases k16 : i2 = (0 : Int32)
    · replace H := H.1 k16
      refine ev_s (pc' := 60) (loc' := [.ref a0, .int i1, .int i2, .ref b10]) (st' := []) (h1 := h1) am_q115 rfl rfl rfl (by rw [k16]; rfl) ?_
      refine ev_p (pc' := 61) (loc' := [.ref a0, .int i1, .int i2, .ref b10]) (st' := [.ref b10]) 1 am_q115 rfl ?_
      obtain ⟨g14, H⟩ := H
      refine ev_c (vs := [.ref b10]) (rest := []) 77 am_q115 rfl rfl rfl rfl rfl rfl rfl rfl rfl rfl rfl rfl (Or.inr (congrArg some g14)) (Cl.mono H (Nat.le_refl _) (fun r13 h12 H => ?_))
      obtain ⟨x15, rfl, H⟩ := H
      refine ev_jz (t := 71) am_q115 rfl rfl (fun hq => ?_) (fun hq => ?_)
      · replace H := H.1 hq
        refine ev_p (pc' := 72) (loc' := [.ref a0, .int i1, .int i2, .ref b10]) (st' := [.int (0 : Int32)]) 1 am_q115 rfl ?_
        exact ev_r (v := some (.int (0 : Int32))) am_q115 rfl rfl rfl rfl H
      · replace H := H.2 hq
        refine ev_p (pc' := 72) (loc' := [.ref a0, .int i1, .int i2, .ref b10]) (st' := [.int (1 : Int32)]) 2 am_q115 rfl ?_
        exact ev_r (v := some (.int (1 : Int32))) am_q115 rfl rfl rfl rfl H
    replace H := H.2
    by_cases k18 : i2 = (1 : Int32)
    · replace H := H.1 k18
      refine ev_s (pc' := 73) (loc' := [.ref a0, .int i1, .int i2, .ref b10]) (st' := []) (h1 := h1) am_q115 rfl rfl rfl (by rw [k18]; rfl) ?_
      refine ev_p (pc' := 74) (loc' := [.ref a0, .int i1, .int i2, .ref b10]) (st' := [.ref b10]) 1 am_q115 rfl ?_
      obtain ⟨g17, H⟩ := H
      refine ev_s (pc' := 77) (loc' := [.ref a0, .int i1, .int i2, .ref b10]) (st' := [.int (am_gi h1 b10 5)]) (h1 := h1) am_q115 rfl rfl rfl (if_pos (e := none) g17) ?_
      refine ev_jz (t := 84) am_q115 rfl rfl (fun hq => ?_) (fun hq => ?_)
      · replace H := H.1 hq
        refine ev_p (pc' := 85) (loc' := [.ref a0, .int i1, .int i2, .ref b10]) (st' := [.int (0 : Int32)]) 1 am_q115 rfl ?_
        exact ev_r (v := some (.int (0 : Int32))) am_q115 rfl rfl rfl rfl H
      · replace H := H.2 hq
        refine ev_p (pc' := 85) (loc' := [.ref a0, .int i1, .int i2, .ref b10]) (st' := [.int (1 : Int32)]) 2 am_q115 rfl ?_
        exact ev_r (v := some (.int (1 : Int32))) am_q115 rfl rfl rfl rfl H
    replace H := H.2
    by_cases k20 : i2 = (2 : Int32)
    · replace H := H.1 k20
      refine ev_s (pc' := 86) (loc' := [.ref a0, .int i1, .int i2, .ref b10]) (st' := []) (h1 := h1) am_q115 rfl rfl rfl (by rw [k20]; rfl) ?_
      refine ev_p (pc' := 87) (loc' := [.ref a0, .int i1, .int i2, .ref b10]) (st' := [.ref b10]) 1 am_q115 rfl ?_
      obtain ⟨g19, H⟩ := H
      refine ev_s (pc' := 90) (loc' := [.ref a0, .int i1, .int i2, .ref b10]) (st' := [.int (am_gi h1 b10 7)]) (h1 := h1) am_q115 rfl rfl rfl (if_pos (e := none) g19) ?_
      exact ev_r (v := some (.int (am_gi h1 b10 7))) am_q115 rfl rfl rfl rfl H
    replace H := H.2
    by_cases k25 : i2 = (3 : Int32)
    · replace H := H.1 k25
      refine ev_s (pc' := 91) (loc' := [.ref a0, .int i1, .int i2, .ref b10]) (st' := []) (h1 := h1) am_q115 rfl rfl rfl (by rw [k25]; rfl) ?_
      refine ev_p (pc' := 92) (loc' := [.ref a0, .int i1, .int i2, .ref b10]) (st' := [.ref b10]) 1 am_q115 rfl ?_
      obtain ⟨g21, H⟩ := H
      refine ev_s (pc' := 95) (loc' := [.ref a0, .int i1, .int i2, .ref b10]) (st' := [.int (am_gi h1 b10 3)]) (h1 := h1) am_q115 rfl rfl rfl (if_pos (e := none) g21) ?_
      refine ev_c (vs := [.int (am_gi h1 b10 3)]) (rest := []) 262 am_q115 rfl rfl rfl rfl rfl rfl rfl rfl rfl rfl rfl rfl (Or.inl rfl) (Cl.mono H (Nat.le_refl _) (fun r23 h22 H => ?_))
      obtain ⟨x24, rfl, H⟩ := H
      exact ev_r (v := some (.int x24)) am_q115 rfl rfl rfl rfl H
    replace H := H.2
    by_cases k30 : i2 = (4 : Int32)
    · replace H := H.1 k30
      refine ev_s (pc' := 99) (loc' := [.ref a0, .int i1, .int i2, .ref b10]) (st' := []) (h1 := h1) am_q115 rfl rfl rfl (by rw [k30]; rfl) ?_
      refine ev_p (pc' := 100) (loc' := [.ref a0, .int i1, .int i2, .ref b10]) (st' := [.ref b10]) 1 am_q115 rfl ?_
      obtain ⟨g26, H⟩ := H
      refine ev_s (pc' := 103) (loc' := [.ref a0, .int i1, .int i2, .ref b10]) (st' := [.int (am_gi h1 b10 4)]) (h1 := h1) am_q115 rfl rfl rfl (if_pos (e := none) g26) ?_
      refine ev_c (vs := [.int (am_gi h1 b10 4)]) (rest := []) 262 am_q115 rfl rfl rfl rfl rfl rfl rfl rfl rfl rfl rfl rfl (Or.inl rfl) (Cl.mono H (Nat.le_refl _) (fun r28 h27 H => ?_))
      obtain ⟨x29, rfl, H⟩ := H
      exact ev_r (v := some (.int x29)) am_q115 rfl rfl rfl rfl H
    replace H := H.2
    by_cases k32 : i2 = (5 : Int32)
    · replace H := H.1 k32
      refine ev_s (pc' := 107) (loc' := [.ref a0, .int i1, .int i2, .ref b10]) (st' := []) (h1 := h1) am_q115 rfl rfl rfl (by rw [k32]; rfl) ?_
      refine ev_p (pc' := 108) (loc' := [.ref a0, .int i1, .int i2, .ref b10]) (st' := [.ref b10]) 1 am_q115 rfl ?_
      obtain ⟨g31, H⟩ := H
      refine ev_s (pc' := 111) (loc' := [.ref a0, .int i1, .int i2, .ref b10]) (st' := [.int (am_gi h1 b10 8)]) (h1 := h1) am_q115 rfl rfl rfl (if_pos (e := none) g31) ?_
      exact ev_r (v := some (.int (am_gi h1 b10 8))) am_q115 rfl rfl rfl rfl H
    replace H := H.2
    by_cases k37 : i2 = (6 : Int32)
    · replace H := H.1 k37
      refine ev_s (pc' := 112) (loc' := [.ref a0, .int i1, .int i2, .ref b10]) (st' := []) (h1 := h1) am_q115 rfl rfl rfl (by rw [k37]; rfl) ?_
      refine ev_p (pc' := 113) (loc' := [.ref a0, .int i1, .int i2, .ref b10]) (st' := [.ref b10]) 1 am_q115 rfl ?_
      obtain ⟨g33, b34, e35, H⟩ := H
      refine ev_s (pc' := 116) (loc' := [.ref a0, .int i1, .int i2, .ref b10]) (st' := [.ref b34]) (h1 := h1) am_q115 rfl rfl rfl (am_gf2 g33 e35) ?_
      obtain ⟨g36, H⟩ := H
      refine ev_s (pc' := 117) (loc' := [.ref a0, .int i1, .int i2, .ref b10]) (st' := [.int (Int32.ofNat (am_ln h1 b34))]) (h1 := h1) am_q115 rfl rfl rfl (if_pos (e := none) g36) ?_
      exact ev_r (v := some (.int (Int32.ofNat (am_ln h1 b34)))) am_q115 rfl rfl rfl rfl H
    replace H := H.2
    replace H := H ⟨k16, k18, k20, k25, k30, k32, k37⟩
    refine ev_s (pc' := 118) (loc' := [.ref a0, .int i1, .int i2, .ref b10]) (st' := []) (h1 := h1) am_q115 rfl rfl rfl (am_tso (x := (i2).toInt) (by have z0 : (i2).toInt ≠ 0 := am_tn k16 (by decide); have z1 : (i2).toInt ≠ 1 := am_tn k18 (by decide); have z2 : (i2).toInt ≠ 2 := am_tn k20 (by decide); have z3 : (i2).toInt ≠ 3 := am_tn k25 (by decide); have z4 : (i2).toInt ≠ 4 := am_tn k30 (by decide); have z5 : (i2).toInt ≠ 5 := am_tn k32 (by decide); have z6 : (i2).toInt ≠ 6 := am_tn k37 (by decide); omega)) ?_
    refine ev_p (pc' := 120) (loc' := [.ref a0, .int i1, .int i2, .ref b10]) (st' := [.int (-2 : Int32)]) 1 am_q115 rfl ?_
    exact ev_r (v := some (.int (-2 : Int32))) am_q115 rfl rfl rfl rfl H
  · replace H := H.2 hq
    refine ev_p (pc' := 10) (loc' := [.ref a0, .int i1, .int i2, .null]) (st' := [.int (-2 : Int32)]) 1 am_q115 rfl ?_
    exact ev_r (v := some (.int (-2 : Int32))) am_q115 rfl rfl rfl rfl H
/-! 116: X11_text -/
theorem am_q116 : (am_mt 116).2.2.2.2.2 = am_m116.2.2.2.2.2 := rfl
set_option maxRecDepth 20000 in
set_option maxHeartbeats 2000000 in
theorem wp116 {d : Nat} (a0 : Nat) (i1 : Int32) {h : AH} {Q : Option Value → AH → Prop} (H : Cl d 143 [.int i1] h (fun r2 h1 => ∃ x3, r2 = some (.int x3) ∧ (x3 = (0 : Int32) → Q (some (.int (-2 : Int32))) h1) ∧ (¬ x3 = (0 : Int32) → am_kd h1 a0 = 11 ∧ Cl d 154 [.ref a0, .int i1] h1 (fun r5 h4 => ∃ x7, r5 = some (.int x7) ∧ Q (some (.int x7)) h4)))) : Cl (d + 1) 116 [.ref a0, .int i1] h Q := by
  show Ev (d + 1) 116 0 [.ref a0, .int i1] [] h Q
  refine ev_p (pc' := 1) (loc' := [.ref a0, .int i1]) (st' := [.int i1]) 1 am_q116 rfl ?_
  refine ev_c (vs := [.int i1]) (rest := []) 143 am_q116 rfl rfl rfl rfl rfl rfl rfl rfl rfl rfl rfl rfl (Or.inl rfl) (Cl.mono H (Nat.le_refl _) (fun r2 h1 H => ?_))
  obtain ⟨x3, rfl, H⟩ := H
  refine ev_jz (t := 15) am_q116 rfl rfl (fun hq => ?_) (fun hq => ?_)
  · replace H := H.1 hq
    refine ev_p (pc' := 17) (loc' := [.ref a0, .int i1]) (st' := [.int (-2 : Int32)]) 1 am_q116 rfl ?_
    exact ev_r (v := some (.int (-2 : Int32))) am_q116 rfl rfl rfl rfl H
  · replace H := H.2 hq
    refine ev_p (pc' := 9) (loc' := [.ref a0, .int i1]) (st' := [.int i1, .ref a0]) 2 am_q116 rfl ?_
    obtain ⟨g6, H⟩ := H
    refine ev_c (vs := [.ref a0, .int i1]) (rest := []) 154 am_q116 rfl rfl rfl rfl rfl rfl rfl rfl rfl rfl rfl rfl (Or.inr (congrArg some g6)) (Cl.mono H (Nat.le_refl _) (fun r5 h4 H => ?_))
    obtain ⟨x7, rfl, H⟩ := H
    refine ev_p (pc' := 17) (loc' := [.ref a0, .int i1]) (st' := [.int x7]) 1 am_q116 rfl ?_
    exact ev_r (v := some (.int x7)) am_q116 rfl rfl rfl rfl H
/-! 117: X11_wait -/
theorem am_q117 : (am_mt 117).2.2.2.2.2 = am_m117.2.2.2.2.2 := rfl
set_option maxRecDepth 20000 in
set_option maxHeartbeats 2000000 in
theorem wp117 {d : Nat} (a0 : Nat) (i1 : Int32) {h : AH} {Q : Option Value → AH → Prop} (H : am_kd h a0 = 11 ∧ Cl d 139 [.ref a0, .int i1] h (fun r2 h1 => ∃ x4, r2 = some (.int x4) ∧ ((¬ x4 = (0 : Int32)) → am_kd h1 a0 = 11 ∧ Cl d 146 [.ref a0, .int i1] h1 (fun r6 h5 => ∃ x8, r6 = some (.int x8) ∧ ((¬ x8 = (0 : Int32)) → am_kd h5 a0 = 11 ∧ ∃ b10, am_gr h5 a0 3 = some b10 ∧ (104 ≤ am_kd h5 b10 ∧ am_kd h5 b10 ≤ 109) ∧ am_in i1 (am_ln h5 b10) ∧ ∃ b14, am_gr h5 b10 (Int32.toNatClampNeg i1) = some b14 ∧ am_kd h5 b14 = 3 ∧ Cl d 23 [.ref b14] h5 (fun r17 h16 => ∃ x19, r17 = some (.int x19) ∧ (x19 = (0 : Int32) → am_kd h16 a0 = 11 ∧ ∃ b21, am_gr h16 a0 3 = some b21 ∧ (104 ≤ am_kd h16 b21 ∧ am_kd h16 b21 ≤ 109) ∧ am_in i1 (am_ln h16 b21) ∧ ∃ b25, am_gr h16 b21 (Int32.toNatClampNeg i1) = some b25 ∧ am_kd h16 a0 = 11 ∧ am_kd h16 b25 = 3 ∧ ∀ h29, h29 = am_si h16 b25 3 (am_gi h16 a0 0) → Q (some (.int (1 : Int32))) h29) ∧ (¬ x19 = (0 : Int32) → Q (some (.int (0 : Int32))) h16))) ∧ (¬ (¬ x8 = (0 : Int32)) → Q (some (.int (-3 : Int32))) h5))) ∧ (¬ (¬ x4 = (0 : Int32)) → Q (some (.int (-2 : Int32))) h1))) : Cl (d + 1) 117 [.ref a0, .int i1] h Q := by
  show Ev (d + 1) 117 0 [.ref a0, .int i1] [] h Q
  refine ev_p (pc' := 2) (loc' := [.ref a0, .int i1]) (st' := [.int i1, .ref a0]) 2 am_q117 rfl ?_
  obtain ⟨g3, H⟩ := H
  refine ev_c (vs := [.ref a0, .int i1]) (rest := []) 139 am_q117 rfl rfl rfl rfl rfl rfl rfl rfl rfl rfl rfl rfl (Or.inr (congrArg some g3)) (Cl.mono H (Nat.le_refl _) (fun r2 h1 H => ?_))
  obtain ⟨x4, rfl, H⟩ := H
  refine ev_jz (t := 11) am_q117 rfl rfl (fun hq => ?_) (fun hq => ?_)
  · replace H := H.1 hq
    refine ev_p (pc' := 13) (loc' := [.ref a0, .int i1]) (st' := [.int i1, .ref a0]) 2 am_q117 rfl ?_
    obtain ⟨g7, H⟩ := H
    refine ev_c (vs := [.ref a0, .int i1]) (rest := []) 146 am_q117 rfl rfl rfl rfl rfl rfl rfl rfl rfl rfl rfl rfl (Or.inr (congrArg some g7)) (Cl.mono H (Nat.le_refl _) (fun r6 h5 H => ?_))
    obtain ⟨x8, rfl, H⟩ := H
    refine ev_jz (t := 22) am_q117 rfl rfl (fun hq => ?_) (fun hq => ?_)
    · replace H := H.1 hq
      refine ev_p (pc' := 23) (loc' := [.ref a0, .int i1]) (st' := [.ref a0]) 1 am_q117 rfl ?_
      obtain ⟨g9, b10, e11, H⟩ := H
      refine ev_s (pc' := 26) (loc' := [.ref a0, .int i1]) (st' := [.ref b10]) (h1 := h5) am_q117 rfl rfl rfl (am_gf2 g9 e11) ?_
      refine ev_p (pc' := 27) (loc' := [.ref a0, .int i1]) (st' := [.int i1, .ref b10]) 1 am_q117 rfl ?_
      obtain ⟨g12, g13, b14, e15, H⟩ := H
      refine ev_s (pc' := 28) (loc' := [.ref a0, .int i1]) (st' := [.ref b14]) (h1 := h5) am_q117 rfl rfl rfl (am_xa g12 g13 e15) ?_
      obtain ⟨g18, H⟩ := H
      refine ev_c (vs := [.ref b14]) (rest := []) 23 am_q117 rfl rfl rfl rfl rfl rfl rfl rfl rfl rfl rfl rfl (Or.inr (congrArg some g18)) (Cl.mono H (Nat.le_refl _) (fun r17 h16 H => ?_))
      obtain ⟨x19, rfl, H⟩ := H
      refine ev_jz (t := 36) am_q117 rfl rfl (fun hq => ?_) (fun hq => ?_)
      · replace H := H.1 hq
        refine ev_p (pc' := 37) (loc' := [.ref a0, .int i1]) (st' := [.ref a0]) 1 am_q117 rfl ?_
        obtain ⟨g20, b21, e22, H⟩ := H
        refine ev_s (pc' := 40) (loc' := [.ref a0, .int i1]) (st' := [.ref b21]) (h1 := h16) am_q117 rfl rfl rfl (am_gf2 g20 e22) ?_
        refine ev_p (pc' := 41) (loc' := [.ref a0, .int i1]) (st' := [.int i1, .ref b21]) 1 am_q117 rfl ?_
        obtain ⟨g23, g24, b25, e26, H⟩ := H
        refine ev_s (pc' := 42) (loc' := [.ref a0, .int i1]) (st' := [.ref b25]) (h1 := h16) am_q117 rfl rfl rfl (am_xa g23 g24 e26) ?_
        refine ev_p (pc' := 43) (loc' := [.ref a0, .int i1]) (st' := [.ref a0, .ref b25]) 1 am_q117 rfl ?_
        obtain ⟨g27, H⟩ := H
        refine ev_s (pc' := 46) (loc' := [.ref a0, .int i1]) (st' := [.int (am_gi h16 a0 0), .ref b25]) (h1 := h16) am_q117 rfl rfl rfl (if_pos (e := none) g27) ?_
        obtain ⟨g28, H⟩ := H
        refine ev_s (pc' := 49) (loc' := [.ref a0, .int i1]) (st' := []) (h1 := am_si h16 b25 3 (am_gi h16 a0 0)) am_q117 rfl rfl rfl (if_pos (e := none) g28) ?_
        replace H := H _ rfl
        generalize am_si h16 b25 3 (am_gi h16 a0 0) = h29 at H ⊢
        refine ev_p (pc' := 50) (loc' := [.ref a0, .int i1]) (st' := [.int (1 : Int32)]) 1 am_q117 rfl ?_
        exact ev_r (v := some (.int (1 : Int32))) am_q117 rfl rfl rfl rfl H
      · replace H := H.2 hq
        refine ev_p (pc' := 35) (loc' := [.ref a0, .int i1]) (st' := [.int (0 : Int32)]) 1 am_q117 rfl ?_
        exact ev_r (v := some (.int (0 : Int32))) am_q117 rfl rfl rfl rfl H
    · replace H := H.2 hq
      refine ev_p (pc' := 21) (loc' := [.ref a0, .int i1]) (st' := [.int (-3 : Int32)]) 1 am_q117 rfl ?_
      exact ev_r (v := some (.int (-3 : Int32))) am_q117 rfl rfl rfl rfl H
  · replace H := H.2 hq
    refine ev_p (pc' := 10) (loc' := [.ref a0, .int i1]) (st' := [.int (-2 : Int32)]) 1 am_q117 rfl ?_
    exact ev_r (v := some (.int (-2 : Int32))) am_q117 rfl rfl rfl rfl H
/-! 118: X11_points -/
theorem am_q118 : (am_mt 118).2.2.2.2.2 = am_m118.2.2.2.2.2 := rfl
set_option maxRecDepth 20000 in
set_option maxHeartbeats 2000000 in
theorem wp118 {d : Nat} (a0 : Nat) (i1 : Int32) (i2 : Int32) (i3 : Int32) {h : AH} {Q : Option Value → AH → Prop} (H : am_kd h a0 = 11 ∧ Cl d 139 [.ref a0, .int i1] h (fun r2 h1 => ∃ x4, r2 = some (.int x4) ∧ (x4 = (0 : Int32) → Q (some (.long (-4611686018427387904 : Int64))) h1) ∧ (¬ x4 = (0 : Int32) → am_kd h1 a0 = 11 ∧ Cl d 138 [.ref a0, .int i2] h1 (fun r6 h5 => ∃ x8, r6 = some (.int x8) ∧ (x8 = (0 : Int32) → Q (some (.long (-4611686018427387904 : Int64))) h5) ∧ (¬ x8 = (0 : Int32) → (i3 < (0 : Int32) → Q (some (.long (-4611686018427387904 : Int64))) h5) ∧ (¬ i3 < (0 : Int32) → (i3 ≤ (1 : Int32) → am_kd h5 a0 = 11 ∧ Cl d 157 [.ref a0, .int i1] h5 (fun r10 h9 => r10 = none ∧ am_kd h9 a0 = 11 ∧ Cl d 158 [.ref a0, .int i2] h9 (fun r13 h12 => r13 = none ∧ am_kd h12 a0 = 11 ∧ ∃ b16, am_gr h12 a0 7 = some b16 ∧ am_kd h12 a0 = 11 ∧ ∃ b19, am_gr h12 a0 8 = some b19 ∧ am_kd h12 a0 = 11 ∧ am_kd h12 a0 = 11 ∧ Cl d 154 [.ref a0, .int (am_gi h12 a0 0)] h12 (fun r23 h22 => ∃ x25, r23 = some (.int x25) ∧ (104 ≤ am_kd h22 b19 ∧ am_kd h22 b19 ≤ 109) ∧ am_in x25 (am_ln h22 b19) ∧ ∃ b28, am_gr h22 b19 (Int32.toNatClampNeg x25) = some b28 ∧ ((¬ i3 = (0 : Int32)) → am_kd h22 b16 = 8 ∧ Cl d 70 [.ref b16, .ref b28, .int (1 : Int32)] h22 (fun r31 h30 => ∃ y33, r31 = some (.long y33) ∧ Q (some (.long y33)) h30)) ∧ (¬ (¬ i3 = (0 : Int32)) → am_kd h22 b16 = 8 ∧ Cl d 70 [.ref b16, .ref b28, .int (0 : Int32)] h22 (fun r35 h34 => ∃ y37, r35 = some (.long y37) ∧ Q (some (.long y37)) h34)))))) ∧ (¬ i3 ≤ (1 : Int32) → Q (some (.long (-4611686018427387904 : Int64))) h5))))))) : Cl (d + 1) 118 [.ref a0, .int i1, .int i2, .int i3] h Q := by
  show Ev (d + 1) 118 0 [.ref a0, .int i1, .int i2, .int i3] [] h Q
  refine ev_p (pc' := 2) (loc' := [.ref a0, .int i1, .int i2, .int i3]) (st' := [.int i1, .ref a0]) 2 am_q118 rfl ?_
  obtain ⟨g3, H⟩ := H
  refine ev_c (vs := [.ref a0, .int i1]) (rest := []) 139 am_q118 rfl rfl rfl rfl rfl rfl rfl rfl rfl rfl rfl rfl (Or.inr (congrArg some g3)) (Cl.mono H (Nat.le_refl _) (fun r2 h1 H => ?_))
  obtain ⟨x4, rfl, H⟩ := H
  refine ev_jz (t := 25) am_q118 rfl rfl (fun hq => ?_) (fun hq => ?_)
  · replace H := H.1 hq
    refine ev_p (pc' := 28) (loc' := [.null, .null, .null, .null]) (st' := [.long (-4611686018427387904 : Int64)]) 1 am_q118 rfl ?_
    exact ev_r (v := some (.long (-4611686018427387904 : Int64))) am_q118 rfl rfl rfl rfl H
  · replace H := H.2 hq
    refine ev_p (pc' := 10) (loc' := [.ref a0, .int i1, .int i2, .int i3]) (st' := [.int i2, .ref a0]) 2 am_q118 rfl ?_
    obtain ⟨g7, H⟩ := H
    refine ev_c (vs := [.ref a0, .int i2]) (rest := []) 138 am_q118 rfl rfl rfl rfl rfl rfl rfl rfl rfl rfl rfl rfl (Or.inr (congrArg some g7)) (Cl.mono H (Nat.le_refl _) (fun r6 h5 H => ?_))
    obtain ⟨x8, rfl, H⟩ := H
    refine ev_jz (t := 25) am_q118 rfl rfl (fun hq => ?_) (fun hq => ?_)
    · replace H := H.1 hq
      refine ev_p (pc' := 28) (loc' := [.null, .null, .null, .null]) (st' := [.long (-4611686018427387904 : Int64)]) 1 am_q118 rfl ?_
      exact ev_r (v := some (.long (-4611686018427387904 : Int64))) am_q118 rfl rfl rfl rfl H
    · replace H := H.2 hq
      refine ev_p (pc' := 17) (loc' := [.ref a0, .int i1, .int i2, .int i3]) (st' := [.int i3]) 1 am_q118 rfl ?_
      refine ev_jz (t := 25) am_q118 rfl rfl (fun hq => ?_) (fun hq => ?_)
      · replace H := H.1 hq
        refine ev_p (pc' := 28) (loc' := [.null, .null, .null, .null]) (st' := [.long (-4611686018427387904 : Int64)]) 1 am_q118 rfl ?_
        exact ev_r (v := some (.long (-4611686018427387904 : Int64))) am_q118 rfl rfl rfl rfl H
      · replace H := H.2 hq
        refine ev_p (pc' := 22) (loc' := [.ref a0, .int i1, .int i2, .int i3]) (st' := [.int (1 : Int32), .int i3]) 2 am_q118 rfl ?_
        refine ev_jc (t := 29) am_q118 rfl rfl (fun hq => ?_) (fun hq => ?_)
        · replace H := H.1 hq
          refine ev_p (pc' := 31) (loc' := [.ref a0, .int i1, .int i2, .int i3]) (st' := [.int i1, .ref a0]) 2 am_q118 rfl ?_
          obtain ⟨g11, H⟩ := H
          refine ev_c (vs := [.ref a0, .int i1]) (rest := []) 157 am_q118 rfl rfl rfl rfl rfl rfl rfl rfl rfl rfl rfl rfl (Or.inr (congrArg some g11)) (Cl.mono H (Nat.le_refl _) (fun r10 h9 H => ?_))
          obtain ⟨rfl, H⟩ := H
          refine ev_p (pc' := 36) (loc' := [.ref a0, .int i1, .int i2, .int i3]) (st' := [.int i2, .ref a0]) 2 am_q118 rfl ?_
          obtain ⟨g14, H⟩ := H
          refine ev_c (vs := [.ref a0, .int i2]) (rest := []) 158 am_q118 rfl rfl rfl rfl rfl rfl rfl rfl rfl rfl rfl rfl (Or.inr (congrArg some g14)) (Cl.mono H (Nat.le_refl _) (fun r13 h12 H => ?_))
          obtain ⟨rfl, H⟩ := H
          refine ev_p (pc' := 40) (loc' := [.ref a0, .int i1, .int i2, .int i3]) (st' := [.ref a0]) 1 am_q118 rfl ?_
          obtain ⟨g15, b16, e17, H⟩ := H
          refine ev_s (pc' := 43) (loc' := [.ref a0, .int i1, .int i2, .int i3]) (st' := [.ref b16]) (h1 := h12) am_q118 rfl rfl rfl (am_gf2 g15 e17) ?_
          refine ev_p (pc' := 44) (loc' := [.ref a0, .int i1, .int i2, .int i3]) (st' := [.ref a0, .ref b16]) 1 am_q118 rfl ?_
          obtain ⟨g18, b19, e20, H⟩ := H
          refine ev_s (pc' := 47) (loc' := [.ref a0, .int i1, .int i2, .int i3]) (st' := [.ref b19, .ref b16]) (h1 := h12) am_q118 rfl rfl rfl (am_gf2 g18 e20) ?_
          refine ev_p (pc' := 49) (loc' := [.ref a0, .int i1, .int i2, .int i3]) (st' := [.ref a0, .ref a0, .ref b19, .ref b16]) 2 am_q118 rfl ?_
          obtain ⟨g21, H⟩ := H
          refine ev_s (pc' := 52) (loc' := [.ref a0, .int i1, .int i2, .int i3]) (st' := [.int (am_gi h12 a0 0), .ref a0, .ref b19, .ref b16]) (h1 := h12) am_q118 rfl rfl rfl (if_pos (e := none) g21) ?_
          obtain ⟨g24, H⟩ := H
          refine ev_c (vs := [.ref a0, .int (am_gi h12 a0 0)]) (rest := [.ref b19, .ref b16]) 154 am_q118 rfl rfl rfl rfl rfl rfl rfl rfl rfl rfl rfl rfl (Or.inr (congrArg some g24)) (Cl.mono H (Nat.le_refl _) (fun r23 h22 H => ?_))
          obtain ⟨x25, rfl, H⟩ := H
          obtain ⟨g26, g27, b28, e29, H⟩ := H
          refine ev_s (pc' := 56) (loc' := [.ref a0, .int i1, .int i2, .int i3]) (st' := [.ref b28, .ref b16]) (h1 := h22) am_q118 rfl rfl rfl (am_xa g26 g27 e29) ?_
          refine ev_p (pc' := 57) (loc' := [.ref a0, .int i1, .int i2, .int i3]) (st' := [.int i3, .ref b28, .ref b16]) 1 am_q118 rfl ?_
          refine ev_jz (t := 64) am_q118 rfl rfl (fun hq => ?_) (fun hq => ?_)
          · replace H := H.1 hq
            refine ev_p (pc' := 65) (loc' := [.ref a0, .int i1, .int i2, .int i3]) (st' := [.int (1 : Int32), .ref b28, .ref b16]) 1 am_q118 rfl ?_
            obtain ⟨g32, H⟩ := H
            refine ev_c (vs := [.ref b16, .ref b28, .int (1 : Int32)]) (rest := []) 70 am_q118 rfl rfl rfl rfl rfl rfl rfl rfl rfl rfl rfl rfl (Or.inr (congrArg some g32)) (Cl.mono H (Nat.le_refl _) (fun r31 h30 H => ?_))
            obtain ⟨y33, rfl, H⟩ := H
            exact ev_r (v := some (.long y33)) am_q118 rfl rfl rfl rfl H
          · replace H := H.2 hq
            refine ev_p (pc' := 65) (loc' := [.ref a0, .int i1, .int i2, .int i3]) (st' := [.int (0 : Int32), .ref b28, .ref b16]) 2 am_q118 rfl ?_
            obtain ⟨g36, H⟩ := H
            refine ev_c (vs := [.ref b16, .ref b28, .int (0 : Int32)]) (rest := []) 70 am_q118 rfl rfl rfl rfl rfl rfl rfl rfl rfl rfl rfl rfl (Or.inr (congrArg some g36)) (Cl.mono H (Nat.le_refl _) (fun r35 h34 H => ?_))
            obtain ⟨y37, rfl, H⟩ := H
            exact ev_r (v := some (.long y37)) am_q118 rfl rfl rfl rfl H
        · replace H := H.2 hq
          refine ev_p (pc' := 28) (loc' := [.null, .null, .null, .null]) (st' := [.long (-4611686018427387904 : Int64)]) 1 am_q118 rfl ?_
          exact ev_r (v := some (.long (-4611686018427387904 : Int64))) am_q118 rfl rfl rfl rfl H
/-! 119: X11_order -/
theorem am_q119 : (am_mt 119).2.2.2.2.2 = am_m119.2.2.2.2.2 := rfl
set_option maxRecDepth 20000 in
set_option maxHeartbeats 2000000 in
theorem wp119 {d : Nat} (a0 : Nat) (i1 : Int32) (i2 : Int32) {h : AH} {Q : Option Value → AH → Prop} (H : am_kd h a0 = 11 ∧ Cl d 138 [.ref a0, .int i1] h (fun r2 h1 => ∃ x4, r2 = some (.int x4) ∧ ((¬ x4 = (0 : Int32)) → am_kd h1 a0 = 11 ∧ Cl d 160 [.ref a0, .int i1, .int i2, .int (0 : Int32)] h1 (fun r6 h5 => ∃ x8, r6 = some (.int x8) ∧ Q (some (.int x8)) h5)) ∧ (¬ (¬ x4 = (0 : Int32)) → Q (some (.int (-2 : Int32))) h1))) : Cl (d + 1) 119 [.ref a0, .int i1, .int i2] h Q := by
  show Ev (d + 1) 119 0 [.ref a0, .int i1, .int i2] [] h Q
  refine ev_p (pc' := 2) (loc' := [.ref a0, .int i1, .int i2]) (st' := [.int i1, .ref a0]) 2 am_q119 rfl ?_
  obtain ⟨g3, H⟩ := H
  refine ev_c (vs := [.ref a0, .int i1]) (rest := []) 138 am_q119 rfl rfl rfl rfl rfl rfl rfl rfl rfl rfl rfl rfl (Or.inr (congrArg some g3)) (Cl.mono H (Nat.le_refl _) (fun r2 h1 H => ?_))
  obtain ⟨x4, rfl, H⟩ := H
  refine ev_jz (t := 11) am_q119 rfl rfl (fun hq => ?_) (fun hq => ?_)
  · replace H := H.1 hq
    refine ev_p (pc' := 15) (loc' := [.ref a0, .int i1, .int i2]) (st' := [.int (0 : Int32), .int i2, .int i1, .ref a0]) 4 am_q119 rfl ?_
    obtain ⟨g7, H⟩ := H
    refine ev_c (vs := [.ref a0, .int i1, .int i2, .int (0 : Int32)]) (rest := []) 160 am_q119 rfl rfl rfl rfl rfl rfl rfl rfl rfl rfl rfl rfl (Or.inr (congrArg some g7)) (Cl.mono H (Nat.le_refl _) (fun r6 h5 H => ?_))
    obtain ⟨x8, rfl, H⟩ := H
    exact ev_r (v := some (.int x8)) am_q119 rfl rfl rfl rfl H
  · replace H := H.2 hq
    refine ev_p (pc' := 10) (loc' := [.ref a0, .int i1, .int i2]) (st' := [.int (-2 : Int32)]) 1 am_q119 rfl ?_
    exact ev_r (v := some (.int (-2 : Int32))) am_q119 rfl rfl rfl rfl H
/-! 120: X11_offer -/
theorem am_q120 : (am_mt 120).2.2.2.2.2 = am_m120.2.2.2.2.2 := rfl
set_option maxRecDepth 20000 in
set_option maxHeartbeats 2000000 in
theorem wp120 {d : Nat} (a0 : Nat) (i1 : Int32) {h : AH} {Q : Option Value → AH → Prop} (H : am_kd h a0 = 11 ∧ Cl d 138 [.ref a0, .int i1] h (fun r2 h1 => ∃ x4, r2 = some (.int x4) ∧ ((¬ x4 = (0 : Int32)) → am_kd h1 a0 = 11 ∧ Cl d 147 [.ref a0, .int i1] h1 (fun r6 h5 => ∃ x8, r6 = some (.int x8) ∧ (x8 = (0 : Int32) → Q (some (.int (-3 : Int32))) h5) ∧ (¬ x8 = (0 : Int32) → am_kd h5 a0 = 11 ∧ ∃ b10, am_gr h5 a0 1 = some b10 ∧ (104 ≤ am_kd h5 b10 ∧ am_kd h5 b10 ≤ 109) ∧ am_in i1 (am_ln h5 b10) ∧ ∃ b14, am_gr h5 b10 (Int32.toNatClampNeg i1) = some b14 ∧ am_kd h5 b14 = 2 ∧ ((am_gi h5 b14 3) = (0 : Int32) → am_kd h5 a0 = 11 ∧ ∃ b18, am_gr h5 a0 1 = some b18 ∧ (104 ≤ am_kd h5 b18 ∧ am_kd h5 b18 ≤ 109) ∧ am_in i1 (am_ln h5 b18) ∧ ∃ b22, am_gr h5 b18 (Int32.toNatClampNeg i1) = some b22 ∧ am_kd h5 b22 = 2 ∧ ((1 : Int32) = (0 : Int32) ∨ (1 : Int32) = (1 : Int32)) ∧ ∀ h25, h25 = am_si h5 b22 3 (1 : Int32) → am_kd h25 a0 = 11 ∧ ∃ b28, am_gr h25 a0 1 = some b28 ∧ (104 ≤ am_kd h25 b28 ∧ am_kd h25 b28 ≤ 109) ∧ am_in i1 (am_ln h25 b28) ∧ ∃ b32, am_gr h25 b28 (Int32.toNatClampNeg i1) = some b32 ∧ am_kd h25 b32 = 2 ∧ ∀ h35, h35 = am_si h25 b32 4 (0 : Int32) → am_kd h35 a0 = 11 ∧ Cl d 159 [.ref a0, .int i1] h35 (fun r37 h36 => ∃ x39, r37 = some (.int x39) ∧ Q (some (.int x39)) h36)) ∧ (¬ (am_gi h5 b14 3) = (0 : Int32) → Q (some (.int (-3 : Int32))) h5)))) ∧ (¬ (¬ x4 = (0 : Int32)) → Q (some (.int (-2 : Int32))) h1))) : Cl (d + 1) 120 [.ref a0, .int i1] h Q := by
  show Ev (d + 1) 120 0 [.ref a0, .int i1] [] h Q
  refine ev_p (pc' := 2) (loc' := [.ref a0, .int i1]) (st' := [.int i1, .ref a0]) 2 am_q120 rfl ?_
  obtain ⟨g3, H⟩ := H
  refine ev_c (vs := [.ref a0, .int i1]) (rest := []) 138 am_q120 rfl rfl rfl rfl rfl rfl rfl rfl rfl rfl rfl rfl (Or.inr (congrArg some g3)) (Cl.mono H (Nat.le_refl _) (fun r2 h1 H => ?_))
  obtain ⟨x4, rfl, H⟩ := H
  refine ev_jz (t := 11) am_q120 rfl rfl (fun hq => ?_) (fun hq => ?_)
  · replace H := H.1 hq
    refine ev_p (pc' := 13) (loc' := [.ref a0, .int i1]) (st' := [.int i1, .ref a0]) 2 am_q120 rfl ?_
    obtain ⟨g7, H⟩ := H
    refine ev_c (vs := [.ref a0, .int i1]) (rest := []) 147 am_q120 rfl rfl rfl rfl rfl rfl rfl rfl rfl rfl rfl rfl (Or.inr (congrArg some g7)) (Cl.mono H (Nat.le_refl _) (fun r6 h5 H => ?_))
    obtain ⟨x8, rfl, H⟩ := H
    refine ev_jz (t := 31) am_q120 rfl rfl (fun hq => ?_) (fun hq => ?_)
    · replace H := H.1 hq
      refine ev_p (pc' := 33) (loc' := [.null, .null]) (st' := [.int (-3 : Int32)]) 1 am_q120 rfl ?_
      exact ev_r (v := some (.int (-3 : Int32))) am_q120 rfl rfl rfl rfl H
    · replace H := H.2 hq
      refine ev_p (pc' := 20) (loc' := [.ref a0, .int i1]) (st' := [.ref a0]) 1 am_q120 rfl ?_
      obtain ⟨g9, b10, e11, H⟩ := H
      refine ev_s (pc' := 23) (loc' := [.ref a0, .int i1]) (st' := [.ref b10]) (h1 := h5) am_q120 rfl rfl rfl (am_gf2 g9 e11) ?_
      refine ev_p (pc' := 24) (loc' := [.ref a0, .int i1]) (st' := [.int i1, .ref b10]) 1 am_q120 rfl ?_
      obtain ⟨g12, g13, b14, e15, H⟩ := H
      refine ev_s (pc' := 25) (loc' := [.ref a0, .int i1]) (st' := [.ref b14]) (h1 := h5) am_q120 rfl rfl rfl (am_xa g12 g13 e15) ?_
      obtain ⟨g16, H⟩ := H
      refine ev_s (pc' := 28) (loc' := [.ref a0, .int i1]) (st' := [.int (am_gi h5 b14 3)]) (h1 := h5) am_q120 rfl rfl rfl (if_pos (e := none) g16) ?_
      refine ev_jz (t := 34) am_q120 rfl rfl (fun hq => ?_) (fun hq => ?_)
      · replace H := H.1 hq
        refine ev_p (pc' := 35) (loc' := [.ref a0, .int i1]) (st' := [.ref a0]) 1 am_q120 rfl ?_
        obtain ⟨g17, b18, e19, H⟩ := H
        refine ev_s (pc' := 38) (loc' := [.ref a0, .int i1]) (st' := [.ref b18]) (h1 := h5) am_q120 rfl rfl rfl (am_gf2 g17 e19) ?_
        refine ev_p (pc' := 39) (loc' := [.ref a0, .int i1]) (st' := [.int i1, .ref b18]) 1 am_q120 rfl ?_
        obtain ⟨g20, g21, b22, e23, H⟩ := H
        refine ev_s (pc' := 40) (loc' := [.ref a0, .int i1]) (st' := [.ref b22]) (h1 := h5) am_q120 rfl rfl rfl (am_xa g20 g21 e23) ?_
        refine ev_p (pc' := 41) (loc' := [.ref a0, .int i1]) (st' := [.int (1 : Int32), .ref b22]) 1 am_q120 rfl ?_
        obtain ⟨g24, g26, H⟩ := H
        refine ev_s (pc' := 44) (loc' := [.ref a0, .int i1]) (st' := []) (h1 := am_si h5 b22 3 (1 : Int32)) am_q120 rfl rfl rfl (if_pos (e := none) ⟨g24, g26⟩) ?_
        replace H := H _ rfl
        generalize am_si h5 b22 3 (1 : Int32) = h25 at H ⊢
        refine ev_p (pc' := 45) (loc' := [.ref a0, .int i1]) (st' := [.ref a0]) 1 am_q120 rfl ?_
        obtain ⟨g27, b28, e29, H⟩ := H
        refine ev_s (pc' := 48) (loc' := [.ref a0, .int i1]) (st' := [.ref b28]) (h1 := h25) am_q120 rfl rfl rfl (am_gf2 g27 e29) ?_
        refine ev_p (pc' := 49) (loc' := [.ref a0, .int i1]) (st' := [.int i1, .ref b28]) 1 am_q120 rfl ?_
        obtain ⟨g30, g31, b32, e33, H⟩ := H
        refine ev_s (pc' := 50) (loc' := [.ref a0, .int i1]) (st' := [.ref b32]) (h1 := h25) am_q120 rfl rfl rfl (am_xa g30 g31 e33) ?_
        refine ev_p (pc' := 51) (loc' := [.ref a0, .int i1]) (st' := [.int (0 : Int32), .ref b32]) 1 am_q120 rfl ?_
        obtain ⟨g34, H⟩ := H
        refine ev_s (pc' := 54) (loc' := [.ref a0, .int i1]) (st' := []) (h1 := am_si h25 b32 4 (0 : Int32)) am_q120 rfl rfl rfl (if_pos (e := none) g34) ?_
        replace H := H _ rfl
        generalize am_si h25 b32 4 (0 : Int32) = h35 at H ⊢
        refine ev_p (pc' := 56) (loc' := [.ref a0, .int i1]) (st' := [.int i1, .ref a0]) 2 am_q120 rfl ?_
        obtain ⟨g38, H⟩ := H
        refine ev_c (vs := [.ref a0, .int i1]) (rest := []) 159 am_q120 rfl rfl rfl rfl rfl rfl rfl rfl rfl rfl rfl rfl (Or.inr (congrArg some g38)) (Cl.mono H (Nat.le_refl _) (fun r37 h36 H => ?_))
        obtain ⟨x39, rfl, H⟩ := H
        exact ev_r (v := some (.int x39)) am_q120 rfl rfl rfl rfl H
      · replace H := H.2 hq
        refine ev_p (pc' := 33) (loc' := [.null, .null]) (st' := [.int (-3 : Int32)]) 1 am_q120 rfl ?_
        exact ev_r (v := some (.int (-3 : Int32))) am_q120 rfl rfl rfl rfl H
  · replace H := H.2 hq
    refine ev_p (pc' := 10) (loc' := [.ref a0, .int i1]) (st' := [.int (-2 : Int32)]) 1 am_q120 rfl ?_
    exact ev_r (v := some (.int (-2 : Int32))) am_q120 rfl rfl rfl rfl H
/-! 121: X11_take -/
theorem am_q121 : (am_mt 121).2.2.2.2.2 = am_m121.2.2.2.2.2 := rfl
set_option maxRecDepth 20000 in
set_option maxHeartbeats 2000000 in
theorem wp121 {d : Nat} (a0 : Nat) (i1 : Int32) (i2 : Int32) {h : AH} {Q : Option Value → AH → Prop} (H : am_kd h a0 = 11 ∧ Cl d 138 [.ref a0, .int i1] h (fun r2 h1 => ∃ x4, r2 = some (.int x4) ∧ ((¬ x4 = (0 : Int32)) → am_kd h1 a0 = 11 ∧ Cl d 159 [.ref a0, .int i1] h1 (fun r6 h5 => ∃ x8, r6 = some (.int x8) ∧ ((¬ x8 = (-1 : Int32)) → ((¬ i2 = (0 : Int32)) → am_kd h5 a0 = 11 ∧ ∃ b10, am_gr h5 a0 5 = some b10 ∧ am_kd h5 a0 = 11 ∧ ∃ b13, am_gr h5 a0 5 = some b13 ∧ am_kd h5 a0 = 11 ∧ am_kd h5 b13 = 6 ∧ Cl d 60 [.ref b13, .int x8, .int (am_gi h5 a0 0)] h5 (fun r17 h16 => ∃ x19, r17 = some (.int x19) ∧ am_kd h16 b10 = 6 ∧ Cl d 54 [.ref b10, .int ((1 : Int32) + x19)] h16 (fun r21 h20 => ∃ x23, r21 = some (.int x23) ∧ ((¬ x23 = (0 : Int32)) → am_kd h20 a0 = 11 ∧ ∃ b25, am_gr h20 a0 5 = some b25 ∧ am_kd h20 a0 = 11 ∧ am_kd h20 b25 = 6 ∧ Cl d 61 [.ref b25, .int x8, .int (am_gi h20 a0 0)] h20 (fun r29 h28 => ∃ x31, r29 = some (.int x31) ∧ am_kd h28 a0 = 11 ∧ ∃ b33, am_gr h28 a0 3 = some b33 ∧ (104 ≤ am_kd h28 b33 ∧ am_kd h28 b33 ≤ 109) ∧ am_in x8 (am_ln h28 b33) ∧ ∃ b37, am_gr h28 b33 (Int32.toNatClampNeg x8) = some b37 ∧ am_kd h28 b37 = 3 ∧ ∀ h40, h40 = am_si h28 b37 3 (-1 : Int32) → am_kd h40 a0 = 11 ∧ ∃ b42, am_gr h40 a0 1 = some b42 ∧ (104 ≤ am_kd h40 b42 ∧ am_kd h40 b42 ≤ 109) ∧ am_in i1 (am_ln h40 b42) ∧ ∃ b46, am_gr h40 b42 (Int32.toNatClampNeg i1) = some b46 ∧ am_kd h40 b46 = 2 ∧ ((0 : Int32) = (0 : Int32) ∨ (0 : Int32) = (1 : Int32)) ∧ ∀ h49, h49 = am_si h40 b46 3 (0 : Int32) → am_kd h49 a0 = 11 ∧ ∃ b52, am_gr h49 a0 5 = some b52 ∧ am_kd h49 a0 = 11 ∧ am_kd h49 b52 = 6 ∧ Cl d 55 [.ref b52, .int (0 : Int32), .int i1, .int x8, .int (-1 : Int32), .int (am_gi h49 a0 0), .int (-1 : Int32)] h49 (fun r56 h55 => ∃ x58, r56 = some (.int x58) ∧ Q (some (.int x58)) h55))) ∧ (¬ (¬ x23 = (0 : Int32)) → Q (some (.int (-4 : Int32))) h20)))) ∧ (¬ (¬ i2 = (0 : Int32)) → am_kd h5 a0 = 11 ∧ ∃ b60, am_gr h5 a0 1 = some b60 ∧ (104 ≤ am_kd h5 b60 ∧ am_kd h5 b60 ≤ 109) ∧ am_in i1 (am_ln h5 b60) ∧ ∃ b64, am_gr h5 b60 (Int32.toNatClampNeg i1) = some b64 ∧ am_kd h5 b64 = 2 ∧ am_kd h5 b64 = 2 ∧ ∀ h68, h68 = am_si h5 b64 4 ((am_gi h5 b64 4) ||| ((1 : Int32) <<< (x8 &&& 31))) → am_kd h68 a0 = 11 ∧ Cl d 159 [.ref a0, .int i1] h68 (fun r70 h69 => ∃ x72, r70 = some (.int x72) ∧ Q (some (.int x72)) h69))) ∧ (¬ (¬ x8 = (-1 : Int32)) → Q (some (.int (-3 : Int32))) h5))) ∧ (¬ (¬ x4 = (0 : Int32)) → Q (some (.int (-2 : Int32))) h1))) : Cl (d + 1) 121 [.ref a0, .int i1, .int i2] h Q := by
  show Ev (d + 1) 121 0 [.ref a0, .int i1, .int i2, .null] [] h Q
  refine ev_p (pc' := 2) (loc' := [.ref a0, .int i1, .int i2, .null]) (st' := [.int i1, .ref a0]) 2 am_q121 rfl ?_
  obtain ⟨g3, H⟩ := H
  refine ev_c (vs := [.ref a0, .int i1]) (rest := []) 138 am_q121 rfl rfl rfl rfl rfl rfl rfl rfl rfl rfl rfl rfl (Or.inr (congrArg some g3)) (Cl.mono H (Nat.le_refl _) (fun r2 h1 H => ?_))
  obtain ⟨x4, rfl, H⟩ := H
  refine ev_jz (t := 11) am_q121 rfl rfl (fun hq => ?_) (fun hq => ?_)
  · replace H := H.1 hq
    refine ev_p (pc' := 13) (loc' := [.ref a0, .int i1, .int i2, .null]) (st' := [.int i1, .ref a0]) 2 am_q121 rfl ?_
    obtain ⟨g7, H⟩ := H
    refine ev_c (vs := [.ref a0, .int i1]) (rest := []) 159 am_q121 rfl rfl rfl rfl rfl rfl rfl rfl rfl rfl rfl rfl (Or.inr (congrArg some g7)) (Cl.mono H (Nat.le_refl _) (fun r6 h5 H => ?_))
    obtain ⟨x8, rfl, H⟩ := H
    refine ev_p (pc' := 19) (loc' := [.ref a0, .int i1, .int i2, .int x8]) (st' := [.int (-1 : Int32), .int x8]) 3 am_q121 rfl ?_
    refine ev_jc (t := 25) am_q121 rfl rfl (fun hq => ?_) (fun hq => ?_)
    · replace H := H.1 hq
      refine ev_p (pc' := 26) (loc' := [.ref a0, .int i1, .int i2, .int x8]) (st' := [.int i2]) 1 am_q121 rfl ?_
      refine ev_jz (t := 52) am_q121 rfl rfl (fun hq => ?_) (fun hq => ?_)
      · replace H := H.1 hq
        refine ev_p (pc' := 53) (loc' := [.ref a0, .int i1, .int i2, .int x8]) (st' := [.ref a0]) 1 am_q121 rfl ?_
        obtain ⟨g9, b10, e11, H⟩ := H
        refine ev_s (pc' := 56) (loc' := [.ref a0, .int i1, .int i2, .int x8]) (st' := [.ref b10]) (h1 := h5) am_q121 rfl rfl rfl (am_gf2 g9 e11) ?_
        refine ev_p (pc' := 58) (loc' := [.ref a0, .int i1, .int i2, .int x8]) (st' := [.ref a0, .int (1 : Int32), .ref b10]) 2 am_q121 rfl ?_
        obtain ⟨g12, b13, e14, H⟩ := H
        refine ev_s (pc' := 61) (loc' := [.ref a0, .int i1, .int i2, .int x8]) (st' := [.ref b13, .int (1 : Int32), .ref b10]) (h1 := h5) am_q121 rfl rfl rfl (am_gf2 g12 e14) ?_
        refine ev_p (pc' := 63) (loc' := [.ref a0, .int i1, .int i2, .int x8]) (st' := [.ref a0, .int x8, .ref b13, .int (1 : Int32), .ref b10]) 2 am_q121 rfl ?_
        obtain ⟨g15, H⟩ := H
        refine ev_s (pc' := 66) (loc' := [.ref a0, .int i1, .int i2, .int x8]) (st' := [.int (am_gi h5 a0 0), .int x8, .ref b13, .int (1 : Int32), .ref b10]) (h1 := h5) am_q121 rfl rfl rfl (if_pos (e := none) g15) ?_
        obtain ⟨g18, H⟩ := H
        refine ev_c (vs := [.ref b13, .int x8, .int (am_gi h5 a0 0)]) (rest := [.int (1 : Int32), .ref b10]) 60 am_q121 rfl rfl rfl rfl rfl rfl rfl rfl rfl rfl rfl rfl (Or.inr (congrArg some g18)) (Cl.mono H (Nat.le_refl _) (fun r17 h16 H => ?_))
        obtain ⟨x19, rfl, H⟩ := H
        refine ev_p (pc' := 70) (loc' := [.ref a0, .int i1, .int i2, .int x8]) (st' := [.int ((1 : Int32) + x19), .ref b10]) 1 am_q121 rfl ?_
        obtain ⟨g22, H⟩ := H
        refine ev_c (vs := [.ref b10, .int ((1 : Int32) + x19)]) (rest := []) 54 am_q121 rfl rfl rfl rfl rfl rfl rfl rfl rfl rfl rfl rfl (Or.inr (congrArg some g22)) (Cl.mono H (Nat.le_refl _) (fun r21 h20 H => ?_))
        obtain ⟨x23, rfl, H⟩ := H
        refine ev_jz (t := 79) am_q121 rfl rfl (fun hq => ?_) (fun hq => ?_)
        · replace H := H.1 hq
          refine ev_p (pc' := 80) (loc' := [.ref a0, .int i1, .int i2, .int x8]) (st' := [.ref a0]) 1 am_q121 rfl ?_
          obtain ⟨g24, b25, e26, H⟩ := H
          refine ev_s (pc' := 83) (loc' := [.ref a0, .int i1, .int i2, .int x8]) (st' := [.ref b25]) (h1 := h20) am_q121 rfl rfl rfl (am_gf2 g24 e26) ?_
          refine ev_p (pc' := 85) (loc' := [.ref a0, .int i1, .int i2, .int x8]) (st' := [.ref a0, .int x8, .ref b25]) 2 am_q121 rfl ?_
          obtain ⟨g27, H⟩ := H
          refine ev_s (pc' := 88) (loc' := [.ref a0, .int i1, .int i2, .int x8]) (st' := [.int (am_gi h20 a0 0), .int x8, .ref b25]) (h1 := h20) am_q121 rfl rfl rfl (if_pos (e := none) g27) ?_
          obtain ⟨g30, H⟩ := H
          refine ev_c (vs := [.ref b25, .int x8, .int (am_gi h20 a0 0)]) (rest := []) 61 am_q121 rfl rfl rfl rfl rfl rfl rfl rfl rfl rfl rfl rfl (Or.inr (congrArg some g30)) (Cl.mono H (Nat.le_refl _) (fun r29 h28 H => ?_))
          obtain ⟨x31, rfl, H⟩ := H
          refine ev_p (pc' := 93) (loc' := [.ref a0, .int i1, .int i2, .int x8]) (st' := [.ref a0]) 2 am_q121 rfl ?_
          obtain ⟨g32, b33, e34, H⟩ := H
          refine ev_s (pc' := 96) (loc' := [.ref a0, .int i1, .int i2, .int x8]) (st' := [.ref b33]) (h1 := h28) am_q121 rfl rfl rfl (am_gf2 g32 e34) ?_
          refine ev_p (pc' := 97) (loc' := [.ref a0, .int i1, .int i2, .int x8]) (st' := [.int x8, .ref b33]) 1 am_q121 rfl ?_
          obtain ⟨g35, g36, b37, e38, H⟩ := H
          refine ev_s (pc' := 98) (loc' := [.ref a0, .int i1, .int i2, .int x8]) (st' := [.ref b37]) (h1 := h28) am_q121 rfl rfl rfl (am_xa g35 g36 e38) ?_
          refine ev_p (pc' := 99) (loc' := [.ref a0, .int i1, .int i2, .int x8]) (st' := [.int (-1 : Int32), .ref b37]) 1 am_q121 rfl ?_
          obtain ⟨g39, H⟩ := H
          refine ev_s (pc' := 102) (loc' := [.ref a0, .int i1, .int i2, .int x8]) (st' := []) (h1 := am_si h28 b37 3 (-1 : Int32)) am_q121 rfl rfl rfl (if_pos (e := none) g39) ?_
          replace H := H _ rfl
          generalize am_si h28 b37 3 (-1 : Int32) = h40 at H ⊢
          refine ev_p (pc' := 103) (loc' := [.ref a0, .int i1, .int i2, .int x8]) (st' := [.ref a0]) 1 am_q121 rfl ?_
          obtain ⟨g41, b42, e43, H⟩ := H
          refine ev_s (pc' := 106) (loc' := [.ref a0, .int i1, .int i2, .int x8]) (st' := [.ref b42]) (h1 := h40) am_q121 rfl rfl rfl (am_gf2 g41 e43) ?_
          refine ev_p (pc' := 107) (loc' := [.ref a0, .int i1, .int i2, .int x8]) (st' := [.int i1, .ref b42]) 1 am_q121 rfl ?_
          obtain ⟨g44, g45, b46, e47, H⟩ := H
          refine ev_s (pc' := 108) (loc' := [.ref a0, .int i1, .int i2, .int x8]) (st' := [.ref b46]) (h1 := h40) am_q121 rfl rfl rfl (am_xa g44 g45 e47) ?_
          refine ev_p (pc' := 109) (loc' := [.ref a0, .int i1, .int i2, .int x8]) (st' := [.int (0 : Int32), .ref b46]) 1 am_q121 rfl ?_
          obtain ⟨g48, g50, H⟩ := H
          refine ev_s (pc' := 112) (loc' := [.ref a0, .int i1, .int i2, .int x8]) (st' := []) (h1 := am_si h40 b46 3 (0 : Int32)) am_q121 rfl rfl rfl (if_pos (e := none) ⟨g48, g50⟩) ?_
          replace H := H _ rfl
          generalize am_si h40 b46 3 (0 : Int32) = h49 at H ⊢
          refine ev_p (pc' := 113) (loc' := [.ref a0, .int i1, .int i2, .int x8]) (st' := [.ref a0]) 1 am_q121 rfl ?_
          obtain ⟨g51, b52, e53, H⟩ := H
          refine ev_s (pc' := 116) (loc' := [.ref a0, .int i1, .int i2, .int x8]) (st' := [.ref b52]) (h1 := h49) am_q121 rfl rfl rfl (am_gf2 g51 e53) ?_
          refine ev_p (pc' := 121) (loc' := [.ref a0, .int i1, .int i2, .int x8]) (st' := [.ref a0, .int (-1 : Int32), .int x8, .int i1, .int (0 : Int32), .ref b52]) 5 am_q121 rfl ?_
          obtain ⟨g54, H⟩ := H
          refine ev_s (pc' := 124) (loc' := [.ref a0, .int i1, .int i2, .int x8]) (st' := [.int (am_gi h49 a0 0), .int (-1 : Int32), .int x8, .int i1, .int (0 : Int32), .ref b52]) (h1 := h49) am_q121 rfl rfl rfl (if_pos (e := none) g54) ?_
          refine ev_p (pc' := 125) (loc' := [.ref a0, .int i1, .int i2, .int x8]) (st' := [.int (-1 : Int32), .int (am_gi h49 a0 0), .int (-1 : Int32), .int x8, .int i1, .int (0 : Int32), .ref b52]) 1 am_q121 rfl ?_
          obtain ⟨g57, H⟩ := H
          refine ev_c (vs := [.ref b52, .int (0 : Int32), .int i1, .int x8, .int (-1 : Int32), .int (am_gi h49 a0 0), .int (-1 : Int32)]) (rest := []) 55 am_q121 rfl rfl rfl rfl rfl rfl rfl rfl rfl rfl rfl rfl (Or.inr (congrArg some g57)) (Cl.mono H (Nat.le_refl _) (fun r56 h55 H => ?_))
          obtain ⟨x58, rfl, H⟩ := H
          exact ev_r (v := some (.int x58)) am_q121 rfl rfl rfl rfl H
        · replace H := H.2 hq
          refine ev_p (pc' := 78) (loc' := [.ref a0, .int i1, .int i2, .int x8]) (st' := [.int (-4 : Int32)]) 1 am_q121 rfl ?_
          exact ev_r (v := some (.int (-4 : Int32))) am_q121 rfl rfl rfl rfl H
      · replace H := H.2 hq
        refine ev_p (pc' := 30) (loc' := [.ref a0, .int i1, .int i2, .int x8]) (st' := [.ref a0]) 1 am_q121 rfl ?_
        obtain ⟨g59, b60, e61, H⟩ := H
        refine ev_s (pc' := 33) (loc' := [.ref a0, .int i1, .int i2, .int x8]) (st' := [.ref b60]) (h1 := h5) am_q121 rfl rfl rfl (am_gf2 g59 e61) ?_
        refine ev_p (pc' := 34) (loc' := [.ref a0, .int i1, .int i2, .int x8]) (st' := [.int i1, .ref b60]) 1 am_q121 rfl ?_
        obtain ⟨g62, g63, b64, e65, H⟩ := H
        refine ev_s (pc' := 35) (loc' := [.ref a0, .int i1, .int i2, .int x8]) (st' := [.ref b64]) (h1 := h5) am_q121 rfl rfl rfl (am_xa g62 g63 e65) ?_
        refine ev_p (pc' := 36) (loc' := [.ref a0, .int i1, .int i2, .int x8]) (st' := [.ref b64, .ref b64]) 1 am_q121 rfl ?_
        obtain ⟨g66, H⟩ := H
        refine ev_s (pc' := 39) (loc' := [.ref a0, .int i1, .int i2, .int x8]) (st' := [.int (am_gi h5 b64 4), .ref b64]) (h1 := h5) am_q121 rfl rfl rfl (if_pos (e := none) g66) ?_
        refine ev_p (pc' := 43) (loc' := [.ref a0, .int i1, .int i2, .int x8]) (st' := [.int ((am_gi h5 b64 4) ||| ((1 : Int32) <<< (x8 &&& 31))), .ref b64]) 4 am_q121 rfl ?_
        obtain ⟨g67, H⟩ := H
        refine ev_s (pc' := 46) (loc' := [.ref a0, .int i1, .int i2, .int x8]) (st' := []) (h1 := am_si h5 b64 4 ((am_gi h5 b64 4) ||| ((1 : Int32) <<< (x8 &&& 31)))) am_q121 rfl rfl rfl (if_pos (e := none) g67) ?_
        replace H := H _ rfl
        generalize am_si h5 b64 4 ((am_gi h5 b64 4) ||| ((1 : Int32) <<< (x8 &&& 31))) = h68 at H ⊢
        refine ev_p (pc' := 48) (loc' := [.ref a0, .int i1, .int i2, .int x8]) (st' := [.int i1, .ref a0]) 2 am_q121 rfl ?_
        obtain ⟨g71, H⟩ := H
        refine ev_c (vs := [.ref a0, .int i1]) (rest := []) 159 am_q121 rfl rfl rfl rfl rfl rfl rfl rfl rfl rfl rfl rfl (Or.inr (congrArg some g71)) (Cl.mono H (Nat.le_refl _) (fun r70 h69 H => ?_))
        obtain ⟨x72, rfl, H⟩ := H
        exact ev_r (v := some (.int x72)) am_q121 rfl rfl rfl rfl H
    · replace H := H.2 hq
      refine ev_p (pc' := 24) (loc' := [.ref a0, .int i1, .int i2, .int x8]) (st' := [.int (-3 : Int32)]) 1 am_q121 rfl ?_
      exact ev_r (v := some (.int (-3 : Int32))) am_q121 rfl rfl rfl rfl H
  · replace H := H.2 hq
    refine ev_p (pc' := 10) (loc' := [.ref a0, .int i1, .int i2, .null]) (st' := [.int (-2 : Int32)]) 1 am_q121 rfl ?_
    exact ev_r (v := some (.int (-2 : Int32))) am_q121 rfl rfl rfl rfl H
/-! 122: X11_withdraw -/
theorem am_q122 : (am_mt 122).2.2.2.2.2 = am_m122.2.2.2.2.2 := rfl
set_option maxRecDepth 20000 in
set_option maxHeartbeats 2000000 in
theorem wp122 {d : Nat} (a0 : Nat) (i1 : Int32) {h : AH} {Q : Option Value → AH → Prop} (H : am_kd h a0 = 11 ∧ Cl d 138 [.ref a0, .int i1] h (fun r2 h1 => ∃ x4, r2 = some (.int x4) ∧ ((¬ x4 = (0 : Int32)) → am_kd h1 a0 = 11 ∧ ∃ b6, am_gr h1 a0 1 = some b6 ∧ (104 ≤ am_kd h1 b6 ∧ am_kd h1 b6 ≤ 109) ∧ am_in i1 (am_ln h1 b6) ∧ ∃ b10, am_gr h1 b6 (Int32.toNatClampNeg i1) = some b10 ∧ am_kd h1 b10 = 2 ∧ ((¬ (am_gi h1 b10 3) = (0 : Int32)) → am_kd h1 a0 = 11 ∧ ∃ b14, am_gr h1 a0 1 = some b14 ∧ (104 ≤ am_kd h1 b14 ∧ am_kd h1 b14 ≤ 109) ∧ am_in i1 (am_ln h1 b14) ∧ ∃ b18, am_gr h1 b14 (Int32.toNatClampNeg i1) = some b18 ∧ am_kd h1 b18 = 2 ∧ ((0 : Int32) = (0 : Int32) ∨ (0 : Int32) = (1 : Int32)) ∧ ∀ h21, h21 = am_si h1 b18 3 (0 : Int32) → Q (some (.int (1 : Int32))) h21) ∧ (¬ (¬ (am_gi h1 b10 3) = (0 : Int32)) → Q (some (.int (-3 : Int32))) h1)) ∧ (¬ (¬ x4 = (0 : Int32)) → Q (some (.int (-2 : Int32))) h1))) : Cl (d + 1) 122 [.ref a0, .int i1] h Q := by
  show Ev (d + 1) 122 0 [.ref a0, .int i1] [] h Q
  refine ev_p (pc' := 2) (loc' := [.ref a0, .int i1]) (st' := [.int i1, .ref a0]) 2 am_q122 rfl ?_
  obtain ⟨g3, H⟩ := H
  refine ev_c (vs := [.ref a0, .int i1]) (rest := []) 138 am_q122 rfl rfl rfl rfl rfl rfl rfl rfl rfl rfl rfl rfl (Or.inr (congrArg some g3)) (Cl.mono H (Nat.le_refl _) (fun r2 h1 H => ?_))
  obtain ⟨x4, rfl, H⟩ := H
  refine ev_jz (t := 11) am_q122 rfl rfl (fun hq => ?_) (fun hq => ?_)
  · replace H := H.1 hq
    refine ev_p (pc' := 12) (loc' := [.ref a0, .int i1]) (st' := [.ref a0]) 1 am_q122 rfl ?_
    obtain ⟨g5, b6, e7, H⟩ := H
    refine ev_s (pc' := 15) (loc' := [.ref a0, .int i1]) (st' := [.ref b6]) (h1 := h1) am_q122 rfl rfl rfl (am_gf2 g5 e7) ?_
    refine ev_p (pc' := 16) (loc' := [.ref a0, .int i1]) (st' := [.int i1, .ref b6]) 1 am_q122 rfl ?_
    obtain ⟨g8, g9, b10, e11, H⟩ := H
    refine ev_s (pc' := 17) (loc' := [.ref a0, .int i1]) (st' := [.ref b10]) (h1 := h1) am_q122 rfl rfl rfl (am_xa g8 g9 e11) ?_
    obtain ⟨g12, H⟩ := H
    refine ev_s (pc' := 20) (loc' := [.ref a0, .int i1]) (st' := [.int (am_gi h1 b10 3)]) (h1 := h1) am_q122 rfl rfl rfl (if_pos (e := none) g12) ?_
    refine ev_jz (t := 26) am_q122 rfl rfl (fun hq => ?_) (fun hq => ?_)
    · replace H := H.1 hq
      refine ev_p (pc' := 27) (loc' := [.ref a0, .int i1]) (st' := [.ref a0]) 1 am_q122 rfl ?_
      obtain ⟨g13, b14, e15, H⟩ := H
      refine ev_s (pc' := 30) (loc' := [.ref a0, .int i1]) (st' := [.ref b14]) (h1 := h1) am_q122 rfl rfl rfl (am_gf2 g13 e15) ?_
      refine ev_p (pc' := 31) (loc' := [.ref a0, .int i1]) (st' := [.int i1, .ref b14]) 1 am_q122 rfl ?_
      obtain ⟨g16, g17, b18, e19, H⟩ := H
      refine ev_s (pc' := 32) (loc' := [.ref a0, .int i1]) (st' := [.ref b18]) (h1 := h1) am_q122 rfl rfl rfl (am_xa g16 g17 e19) ?_
      refine ev_p (pc' := 33) (loc' := [.ref a0, .int i1]) (st' := [.int (0 : Int32), .ref b18]) 1 am_q122 rfl ?_
      obtain ⟨g20, g22, H⟩ := H
      refine ev_s (pc' := 36) (loc' := [.ref a0, .int i1]) (st' := []) (h1 := am_si h1 b18 3 (0 : Int32)) am_q122 rfl rfl rfl (if_pos (e := none) ⟨g20, g22⟩) ?_
      replace H := H _ rfl
      generalize am_si h1 b18 3 (0 : Int32) = h21 at H ⊢
      refine ev_p (pc' := 37) (loc' := [.ref a0, .int i1]) (st' := [.int (1 : Int32)]) 1 am_q122 rfl ?_
      exact ev_r (v := some (.int (1 : Int32))) am_q122 rfl rfl rfl rfl H
    · replace H := H.2 hq
      refine ev_p (pc' := 25) (loc' := [.ref a0, .int i1]) (st' := [.int (-3 : Int32)]) 1 am_q122 rfl ?_
      exact ev_r (v := some (.int (-3 : Int32))) am_q122 rfl rfl rfl rfl H
  · replace H := H.2 hq
    refine ev_p (pc' := 10) (loc' := [.ref a0, .int i1]) (st' := [.int (-2 : Int32)]) 1 am_q122 rfl ?_
    exact ev_r (v := some (.int (-2 : Int32))) am_q122 rfl rfl rfl rfl H
/-! 123: X11_wish -/
theorem am_q123 : (am_mt 123).2.2.2.2.2 = am_m123.2.2.2.2.2 := rfl
set_option maxRecDepth 20000 in
set_option maxHeartbeats 2000000 in
theorem wp123 {d : Nat} (a0 : Nat) (i1 : Int32) (i2 : Int32) (i3 : Int32) {h : AH} {Q : Option Value → AH → Prop} (H : am_kd h a0 = 11 ∧ Cl d 139 [.ref a0, .int i1] h (fun r2 h1 => ∃ x4, r2 = some (.int x4) ∧ (x4 = (0 : Int32) → Q (some (.int (-2 : Int32))) h1) ∧ (¬ x4 = (0 : Int32) → am_kd h1 a0 = 11 ∧ Cl d 138 [.ref a0, .int i2] h1 (fun r6 h5 => ∃ x8, r6 = some (.int x8) ∧ ((¬ x8 = (0 : Int32)) → am_kd h5 a0 = 11 ∧ Cl d 146 [.ref a0, .int i1] h5 (fun r10 h9 => ∃ x12, r10 = some (.int x12) ∧ ((¬ x12 = (0 : Int32)) → am_kd h9 a0 = 11 ∧ ∃ b14, am_gr h9 a0 3 = some b14 ∧ (104 ≤ am_kd h9 b14 ∧ am_kd h9 b14 ≤ 109) ∧ am_in i1 (am_ln h9 b14) ∧ ∃ b18, am_gr h9 b14 (Int32.toNatClampNeg i1) = some b18 ∧ am_kd h9 b18 = 3 ∧ (i3 = (0 : Int32) → Ev (d + 1) 123 62 [.ref a0, .int i1, .null, .null, .int (am_gi h9 b18 4), .null] [.int ((am_gi h9 b18 4) &&& (((1 : Int32) <<< (i2 &&& 31)) ^^^ (-1 : Int32)))] h9 Q) ∧ (¬ i3 = (0 : Int32) → Ev (d + 1) 123 62 [.ref a0, .int i1, .null, .null, .int (am_gi h9 b18 4), .null] [.int ((am_gi h9 b18 4) ||| ((1 : Int32) <<< (i2 &&& 31)))] h9 Q)) ∧ (¬ (¬ x12 = (0 : Int32)) → Q (some (.int (-3 : Int32))) h9))) ∧ (¬ (¬ x8 = (0 : Int32)) → Q (some (.int (-2 : Int32))) h5))))) : Cl (d + 1) 123 [.ref a0, .int i1, .int i2, .int i3] h Q := by
  show Ev (d + 1) 123 0 [.ref a0, .int i1, .int i2, .int i3, .null, .null] [] h Q
  refine ev_p (pc' := 2) (loc' := [.ref a0, .int i1, .int i2, .int i3, .null, .null]) (st' := [.int i1, .ref a0]) 2 am_q123 rfl ?_
  obtain ⟨g3, H⟩ := H
  refine ev_c (vs := [.ref a0, .int i1]) (rest := []) 139 am_q123 rfl rfl rfl rfl rfl rfl rfl rfl rfl rfl rfl rfl (Or.inr (congrArg some g3)) (Cl.mono H (Nat.le_refl _) (fun r2 h1 H => ?_))
  obtain ⟨x4, rfl, H⟩ := H
  refine ev_jz (t := 16) am_q123 rfl rfl (fun hq => ?_) (fun hq => ?_)
  · replace H := H.1 hq
    refine ev_p (pc' := 18) (loc' := [.null, .null, .null, .null, .null, .null]) (st' := [.int (-2 : Int32)]) 1 am_q123 rfl ?_
    exact ev_r (v := some (.int (-2 : Int32))) am_q123 rfl rfl rfl rfl H
  · replace H := H.2 hq
    refine ev_p (pc' := 10) (loc' := [.ref a0, .int i1, .int i2, .int i3, .null, .null]) (st' := [.int i2, .ref a0]) 2 am_q123 rfl ?_
    obtain ⟨g7, H⟩ := H
    refine ev_c (vs := [.ref a0, .int i2]) (rest := []) 138 am_q123 rfl rfl rfl rfl rfl rfl rfl rfl rfl rfl rfl rfl (Or.inr (congrArg some g7)) (Cl.mono H (Nat.le_refl _) (fun r6 h5 H => ?_))
    obtain ⟨x8, rfl, H⟩ := H
    refine ev_jz (t := 19) am_q123 rfl rfl (fun hq => ?_) (fun hq => ?_)
    · replace H := H.1 hq
      refine ev_p (pc' := 21) (loc' := [.ref a0, .int i1, .int i2, .int i3, .null, .null]) (st' := [.int i1, .ref a0]) 2 am_q123 rfl ?_
      obtain ⟨g11, H⟩ := H
      refine ev_c (vs := [.ref a0, .int i1]) (rest := []) 146 am_q123 rfl rfl rfl rfl rfl rfl rfl rfl rfl rfl rfl rfl (Or.inr (congrArg some g11)) (Cl.mono H (Nat.le_refl _) (fun r10 h9 H => ?_))
      obtain ⟨x12, rfl, H⟩ := H
      refine ev_jz (t := 30) am_q123 rfl rfl (fun hq => ?_) (fun hq => ?_)
      · replace H := H.1 hq
        refine ev_p (pc' := 31) (loc' := [.ref a0, .int i1, .int i2, .int i3, .null, .null]) (st' := [.ref a0]) 1 am_q123 rfl ?_
        obtain ⟨g13, b14, e15, H⟩ := H
        refine ev_s (pc' := 34) (loc' := [.ref a0, .int i1, .int i2, .int i3, .null, .null]) (st' := [.ref b14]) (h1 := h9) am_q123 rfl rfl rfl (am_gf2 g13 e15) ?_
        refine ev_p (pc' := 35) (loc' := [.ref a0, .int i1, .int i2, .int i3, .null, .null]) (st' := [.int i1, .ref b14]) 1 am_q123 rfl ?_
        obtain ⟨g16, g17, b18, e19, H⟩ := H
        refine ev_s (pc' := 36) (loc' := [.ref a0, .int i1, .int i2, .int i3, .null, .null]) (st' := [.ref b18]) (h1 := h9) am_q123 rfl rfl rfl (am_xa g16 g17 e19) ?_
        obtain ⟨g20, H⟩ := H
        refine ev_s (pc' := 39) (loc' := [.ref a0, .int i1, .int i2, .int i3, .null, .null]) (st' := [.int (am_gi h9 b18 4)]) (h1 := h9) am_q123 rfl rfl rfl (if_pos (e := none) g20) ?_
        refine ev_p (pc' := 42) (loc' := [.ref a0, .int i1, .int i2, .int i3, .int (am_gi h9 b18 4), .null]) (st' := [.int i3]) 2 am_q123 rfl ?_
        refine ev_jz (t := 54) am_q123 rfl rfl (fun hq => ?_) (fun hq => ?_)
        · replace H := H.1 hq
          refine ev_p (pc' := 62) (loc' := [.ref a0, .int i1, .int i2, .int i3, .int (am_gi h9 b18 4), .null]) (st' := [.int ((am_gi h9 b18 4) &&& (((1 : Int32) <<< (i2 &&& 31)) ^^^ (-1 : Int32)))]) 7 am_q123 rfl ?_
          exact ev_m (loc' := [.ref a0, .int i1, .null, .null, .int (am_gi h9 b18 4), .null]) am_q123 rfl rfl H
        · replace H := H.2 hq
          refine ev_p (pc' := 62) (loc' := [.ref a0, .int i1, .int i2, .int i3, .int (am_gi h9 b18 4), .null]) (st' := [.int ((am_gi h9 b18 4) ||| ((1 : Int32) <<< (i2 &&& 31)))]) 6 am_q123 rfl ?_
          exact ev_m (loc' := [.ref a0, .int i1, .null, .null, .int (am_gi h9 b18 4), .null]) am_q123 rfl rfl H
      · replace H := H.2 hq
        refine ev_p (pc' := 29) (loc' := [.ref a0, .int i1, .int i2, .int i3, .null, .null]) (st' := [.int (-3 : Int32)]) 1 am_q123 rfl ?_
        exact ev_r (v := some (.int (-3 : Int32))) am_q123 rfl rfl rfl rfl H
    · replace H := H.2 hq
      refine ev_p (pc' := 18) (loc' := [.null, .null, .null, .null, .null, .null]) (st' := [.int (-2 : Int32)]) 1 am_q123 rfl ?_
      exact ev_r (v := some (.int (-2 : Int32))) am_q123 rfl rfl rfl rfl H
set_option maxRecDepth 20000 in
set_option maxHeartbeats 2000000 in
theorem wp123_62 {d : Nat} (a0 : Nat) (i1 : Int32) (i4 : Int32) (s0 : Int32) {h : AH} {Q : Option Value → AH → Prop} (H : am_kd h a0 = 11 ∧ ∃ b2, am_gr h a0 3 = some b2 ∧ (104 ≤ am_kd h b2 ∧ am_kd h b2 ≤ 109) ∧ am_in i1 (am_ln h b2) ∧ ∃ b6, am_gr h b2 (Int32.toNatClampNeg i1) = some b6 ∧ am_kd h b6 = 3 ∧ ∀ h9, h9 = am_si h b6 4 s0 → ((¬ i4 = s0) → Q (some (.int (1 : Int32))) h9) ∧ (¬ (¬ i4 = s0) → Q (some (.int (0 : Int32))) h9)) : Ev (d + 1) 123 62 [.ref a0, .int i1, .null, .null, .int i4, .null] [.int s0] h Q := by
  refine ev_p (pc' := 65) (loc' := [.ref a0, .int i1, .null, .null, .int i4, .int s0]) (st' := [.ref a0]) 2 am_q123 rfl ?_
  obtain ⟨g1, b2, e3, H⟩ := H
  refine ev_s (pc' := 68) (loc' := [.ref a0, .int i1, .null, .null, .int i4, .int s0]) (st' := [.ref b2]) (h1 := h) am_q123 rfl rfl rfl (am_gf2 g1 e3) ?_
  refine ev_p (pc' := 69) (loc' := [.ref a0, .int i1, .null, .null, .int i4, .int s0]) (st' := [.int i1, .ref b2]) 1 am_q123 rfl ?_
  obtain ⟨g4, g5, b6, e7, H⟩ := H
  refine ev_s (pc' := 70) (loc' := [.ref a0, .int i1, .null, .null, .int i4, .int s0]) (st' := [.ref b6]) (h1 := h) am_q123 rfl rfl rfl (am_xa g4 g5 e7) ?_
  refine ev_p (pc' := 72) (loc' := [.ref a0, .int i1, .null, .null, .int i4, .int s0]) (st' := [.int s0, .ref b6]) 1 am_q123 rfl ?_
  obtain ⟨g8, H⟩ := H
  refine ev_s (pc' := 75) (loc' := [.ref a0, .int i1, .null, .null, .int i4, .int s0]) (st' := []) (h1 := am_si h b6 4 s0) am_q123 rfl rfl rfl (if_pos (e := none) g8) ?_
  replace H := H _ rfl
  generalize am_si h b6 4 s0 = h9 at H ⊢
  refine ev_p (pc' := 79) (loc' := [.ref a0, .int i1, .null, .null, .int i4, .int s0]) (st' := [.int s0, .int i4]) 2 am_q123 rfl ?_
  refine ev_jc (t := 86) am_q123 rfl rfl (fun hq => ?_) (fun hq => ?_)
  · replace H := H.1 hq
    refine ev_p (pc' := 87) (loc' := [.ref a0, .int i1, .null, .null, .int i4, .int s0]) (st' := [.int (1 : Int32)]) 1 am_q123 rfl ?_
    exact ev_r (v := some (.int (1 : Int32))) am_q123 rfl rfl rfl rfl H
  · replace H := H.2 hq
    refine ev_p (pc' := 87) (loc' := [.ref a0, .int i1, .null, .null, .int i4, .int s0]) (st' := [.int (0 : Int32)]) 2 am_q123 rfl ?_
    exact ev_r (v := some (.int (0 : Int32))) am_q123 rfl rfl rfl rfl H
/-! 124: X11_best -/
theorem am_q124 : (am_mt 124).2.2.2.2.2 = am_m124.2.2.2.2.2 := rfl
set_option maxRecDepth 20000 in
set_option maxHeartbeats 2000000 in
theorem wp124 {d : Nat} (a0 : Nat) {h : AH} {Q : Option Value → AH → Prop} (H : am_kd h a0 = 11 ∧ Cl d 164 [.ref a0] h (fun r2 h1 => ∃ x4, r2 = some (.int x4) ∧ Q (some (.int x4)) h1)) : Cl (d + 1) 124 [.ref a0] h Q := by
  show Ev (d + 1) 124 0 [.ref a0] [] h Q
  refine ev_p (pc' := 1) (loc' := [.ref a0]) (st' := [.ref a0]) 1 am_q124 rfl ?_
  obtain ⟨g3, H⟩ := H
  refine ev_c (vs := [.ref a0]) (rest := []) 164 am_q124 rfl rfl rfl rfl rfl rfl rfl rfl rfl rfl rfl rfl (Or.inr (congrArg some g3)) (Cl.mono H (Nat.le_refl _) (fun r2 h1 H => ?_))
  obtain ⟨x4, rfl, H⟩ := H
  exact ev_r (v := some (.int x4)) am_q124 rfl rfl rfl rfl H
/-! 125: X11_moves -/
theorem am_q125 : (am_mt 125).2.2.2.2.2 = am_m125.2.2.2.2.2 := rfl
set_option maxRecDepth 20000 in
set_option maxHeartbeats 2000000 in
theorem wp125 {d : Nat} (a0 : Nat) (i1 : Int32) {h : AH} {Q : Option Value → AH → Prop} (H : am_kd h a0 = 11 ∧ Cl d 139 [.ref a0, .int i1] h (fun r2 h1 => ∃ x4, r2 = some (.int x4) ∧ ((¬ x4 = (0 : Int32)) → am_kd h1 a0 = 11 ∧ Cl d 164 [.ref a0] h1 (fun r6 h5 => ∃ x8, r6 = some (.int x8) ∧ am_kd h5 a0 = 11 ∧ ∃ b10, am_gr h5 a0 14 = some b10 ∧ am_kd h5 b10 = 0 ∧ ∃ b13, am_gr h5 b10 0 = some b13 ∧ am_kd h5 b13 = 100 ∧ am_in i1 (am_ln h5 b13) ∧ Q (some (.int (am_gi h5 b13 (Int32.toNatClampNeg i1)))) h5)) ∧ (¬ (¬ x4 = (0 : Int32)) → Q (some (.int (-2 : Int32))) h1))) : Cl (d + 1) 125 [.ref a0, .int i1] h Q := by
  show Ev (d + 1) 125 0 [.ref a0, .int i1] [] h Q
  refine ev_p (pc' := 2) (loc' := [.ref a0, .int i1]) (st' := [.int i1, .ref a0]) 2 am_q125 rfl ?_
  obtain ⟨g3, H⟩ := H
  refine ev_c (vs := [.ref a0, .int i1]) (rest := []) 139 am_q125 rfl rfl rfl rfl rfl rfl rfl rfl rfl rfl rfl rfl (Or.inr (congrArg some g3)) (Cl.mono H (Nat.le_refl _) (fun r2 h1 H => ?_))
  obtain ⟨x4, rfl, H⟩ := H
  refine ev_jz (t := 11) am_q125 rfl rfl (fun hq => ?_) (fun hq => ?_)
  · replace H := H.1 hq
    refine ev_p (pc' := 12) (loc' := [.ref a0, .int i1]) (st' := [.ref a0]) 1 am_q125 rfl ?_
    obtain ⟨g7, H⟩ := H
    refine ev_c (vs := [.ref a0]) (rest := []) 164 am_q125 rfl rfl rfl rfl rfl rfl rfl rfl rfl rfl rfl rfl (Or.inr (congrArg some g7)) (Cl.mono H (Nat.le_refl _) (fun r6 h5 H => ?_))
    obtain ⟨x8, rfl, H⟩ := H
    refine ev_p (pc' := 17) (loc' := [.ref a0, .int i1]) (st' := [.ref a0]) 2 am_q125 rfl ?_
    obtain ⟨g9, b10, e11, H⟩ := H
    refine ev_s (pc' := 20) (loc' := [.ref a0, .int i1]) (st' := [.ref b10]) (h1 := h5) am_q125 rfl rfl rfl (am_gf2 g9 e11) ?_
    obtain ⟨g12, b13, e14, H⟩ := H
    refine ev_s (pc' := 23) (loc' := [.ref a0, .int i1]) (st' := [.ref b13]) (h1 := h5) am_q125 rfl rfl rfl (am_gf2 g12 e14) ?_
    refine ev_p (pc' := 24) (loc' := [.ref a0, .int i1]) (st' := [.int i1, .ref b13]) 1 am_q125 rfl ?_
    obtain ⟨g15, g16, H⟩ := H
    refine ev_s (pc' := 25) (loc' := [.ref a0, .int i1]) (st' := [.int (am_gi h5 b13 (Int32.toNatClampNeg i1))]) (h1 := h5) am_q125 rfl rfl rfl (am_xx g15 g16) ?_
    exact ev_r (v := some (.int (am_gi h5 b13 (Int32.toNatClampNeg i1)))) am_q125 rfl rfl rfl rfl H
  · replace H := H.2 hq
    refine ev_p (pc' := 10) (loc' := [.ref a0, .int i1]) (st' := [.int (-2 : Int32)]) 1 am_q125 rfl ?_
    exact ev_r (v := some (.int (-2 : Int32))) am_q125 rfl rfl rfl rfl H
/-! 126: X11_change -/
theorem am_q126 : (am_mt 126).2.2.2.2.2 = am_m126.2.2.2.2.2 := rfl
set_option maxRecDepth 20000 in
set_option maxHeartbeats 2000000 in
theorem wp126 {d : Nat} (a0 : Nat) {h : AH} {Q : Option Value → AH → Prop} (H : am_kd h a0 = 11 ∧ Cl d 164 [.ref a0] h (fun r2 h1 => ∃ x4, r2 = some (.int x4) ∧ am_kd h1 a0 = 11 ∧ ∃ b6, am_gr h1 a0 5 = some b6 ∧ am_kd h1 b6 = 6 ∧ Cl d 54 [.ref b6, .int x4] h1 (fun r9 h8 => ∃ x11, r9 = some (.int x11) ∧ ((¬ x11 = (0 : Int32)) → Ev (d + 1) 126 21 [.ref a0, .int x4, .int (0 : Int32)] [] h8 Q) ∧ (¬ (¬ x11 = (0 : Int32)) → Q (some (.int (-4 : Int32))) h8)))) : Cl (d + 1) 126 [.ref a0] h Q := by
  show Ev (d + 1) 126 0 [.ref a0, .null, .null] [] h Q
  refine ev_p (pc' := 1) (loc' := [.ref a0, .null, .null]) (st' := [.ref a0]) 1 am_q126 rfl ?_
  obtain ⟨g3, H⟩ := H
  refine ev_c (vs := [.ref a0]) (rest := []) 164 am_q126 rfl rfl rfl rfl rfl rfl rfl rfl rfl rfl rfl rfl (Or.inr (congrArg some g3)) (Cl.mono H (Nat.le_refl _) (fun r2 h1 H => ?_))
  obtain ⟨x4, rfl, H⟩ := H
  refine ev_p (pc' := 6) (loc' := [.ref a0, .int x4, .null]) (st' := [.ref a0]) 2 am_q126 rfl ?_
  obtain ⟨g5, b6, e7, H⟩ := H
  refine ev_s (pc' := 9) (loc' := [.ref a0, .int x4, .null]) (st' := [.ref b6]) (h1 := h1) am_q126 rfl rfl rfl (am_gf2 g5 e7) ?_
  refine ev_p (pc' := 10) (loc' := [.ref a0, .int x4, .null]) (st' := [.int x4, .ref b6]) 1 am_q126 rfl ?_
  obtain ⟨g10, H⟩ := H
  refine ev_c (vs := [.ref b6, .int x4]) (rest := []) 54 am_q126 rfl rfl rfl rfl rfl rfl rfl rfl rfl rfl rfl rfl (Or.inr (congrArg some g10)) (Cl.mono H (Nat.le_refl _) (fun r9 h8 H => ?_))
  obtain ⟨x11, rfl, H⟩ := H
  refine ev_jz (t := 19) am_q126 rfl rfl (fun hq => ?_) (fun hq => ?_)
  · replace H := H.1 hq
    refine ev_p (pc' := 21) (loc' := [.ref a0, .int x4, .int (0 : Int32)]) (st' := []) 2 am_q126 rfl ?_
    exact ev_m (loc' := [.ref a0, .int x4, .int (0 : Int32)]) am_q126 rfl rfl H
  · replace H := H.2 hq
    refine ev_p (pc' := 18) (loc' := [.ref a0, .int x4, .null]) (st' := [.int (-4 : Int32)]) 1 am_q126 rfl ?_
    exact ev_r (v := some (.int (-4 : Int32))) am_q126 rfl rfl rfl rfl H
set_option maxRecDepth 20000 in
set_option maxHeartbeats 2000000 in
theorem wp126_21 {d : Nat} (a0 : Nat) (i1 : Int32) (i2 : Int32) {h : AH} {Q : Option Value → AH → Prop} (H : am_kd h a0 = 11 ∧ ((am_gi h a0 4) ≤ i2 → Q (some (.int i1)) h) ∧ (¬ (am_gi h a0 4) ≤ i2 → am_kd h a0 = 11 ∧ ∃ b3, am_gr h a0 14 = some b3 ∧ am_kd h b3 = 0 ∧ ∃ b6, am_gr h b3 0 = some b6 ∧ am_kd h b6 = 100 ∧ am_in i2 (am_ln h b6) ∧ ((am_gi h b6 (Int32.toNatClampNeg i2)) = (-1 : Int32) → Ev (d + 1) 126 21 [.ref a0, .int i1, .int (i2 + (1 : Int32))] [] h Q) ∧ (¬ (am_gi h b6 (Int32.toNatClampNeg i2)) = (-1 : Int32) → am_kd h a0 = 11 ∧ ∃ b11, am_gr h a0 5 = some b11 ∧ am_kd h a0 = 11 ∧ ∃ b14, am_gr h a0 14 = some b14 ∧ am_kd h b14 = 0 ∧ ∃ b17, am_gr h b14 0 = some b17 ∧ am_kd h b17 = 100 ∧ am_in i2 (am_ln h b17) ∧ am_kd h a0 = 11 ∧ am_kd h b11 = 6 ∧ Cl d 63 [.ref b11, .int i2, .int (am_gi h b17 (Int32.toNatClampNeg i2)), .int (am_gi h a0 0)] h (fun r23 h22 => r23 = none ∧ am_kd h22 a0 = 11 ∧ ∃ b26, am_gr h22 a0 3 = some b26 ∧ (104 ≤ am_kd h22 b26 ∧ am_kd h22 b26 ≤ 109) ∧ am_in i2 (am_ln h22 b26) ∧ ∃ b30, am_gr h22 b26 (Int32.toNatClampNeg i2) = some b30 ∧ am_kd h22 b30 = 3 ∧ ∀ h33, h33 = am_si h22 b30 4 (0 : Int32) → Ev (d + 1) 126 21 [.ref a0, .int i1, .int (i2 + (1 : Int32))] [] h33 Q)))) : Ev (d + 1) 126 21 [.ref a0, .int i1, .int i2] [] h Q := by
  refine ev_p (pc' := 23) (loc' := [.ref a0, .int i1, .int i2]) (st' := [.ref a0, .int i2]) 2 am_q126 rfl ?_
  obtain ⟨g1, H⟩ := H
  refine ev_s (pc' := 26) (loc' := [.ref a0, .int i1, .int i2]) (st' := [.int (am_gi h a0 4), .int i2]) (h1 := h) am_q126 rfl rfl rfl (if_pos (e := none) g1) ?_
  refine ev_jc (t := 79) am_q126 rfl rfl (fun hq => ?_) (fun hq => ?_)
  · replace H := H.1 hq
    refine ev_p (pc' := 80) (loc' := [.ref a0, .int i1, .int i2]) (st' := [.int i1]) 1 am_q126 rfl ?_
    exact ev_r (v := some (.int i1)) am_q126 rfl rfl rfl rfl H
  · replace H := H.2 hq
    refine ev_p (pc' := 30) (loc' := [.ref a0, .int i1, .int i2]) (st' := [.ref a0]) 1 am_q126 rfl ?_
    obtain ⟨g2, b3, e4, H⟩ := H
    refine ev_s (pc' := 33) (loc' := [.ref a0, .int i1, .int i2]) (st' := [.ref b3]) (h1 := h) am_q126 rfl rfl rfl (am_gf2 g2 e4) ?_
    obtain ⟨g5, b6, e7, H⟩ := H
    refine ev_s (pc' := 36) (loc' := [.ref a0, .int i1, .int i2]) (st' := [.ref b6]) (h1 := h) am_q126 rfl rfl rfl (am_gf2 g5 e7) ?_
    refine ev_p (pc' := 37) (loc' := [.ref a0, .int i1, .int i2]) (st' := [.int i2, .ref b6]) 1 am_q126 rfl ?_
    obtain ⟨g8, g9, H⟩ := H
    refine ev_s (pc' := 38) (loc' := [.ref a0, .int i1, .int i2]) (st' := [.int (am_gi h b6 (Int32.toNatClampNeg i2))]) (h1 := h) am_q126 rfl rfl rfl (am_xx g8 g9) ?_
    refine ev_p (pc' := 39) (loc' := [.ref a0, .int i1, .int i2]) (st' := [.int (-1 : Int32), .int (am_gi h b6 (Int32.toNatClampNeg i2))]) 1 am_q126 rfl ?_
    refine ev_jc (t := 73) am_q126 rfl rfl (fun hq => ?_) (fun hq => ?_)
    · replace H := H.1 hq
      refine ev_p (pc' := 21) (loc' := [.ref a0, .int i1, .int (i2 + (1 : Int32))]) (st' := []) 2 am_q126 rfl ?_
      exact ev_m (loc' := [.ref a0, .int i1, .int (i2 + (1 : Int32))]) am_q126 rfl rfl H
    · replace H := H.2 hq
      refine ev_p (pc' := 43) (loc' := [.ref a0, .int i1, .int i2]) (st' := [.ref a0]) 1 am_q126 rfl ?_
      obtain ⟨g10, b11, e12, H⟩ := H
      refine ev_s (pc' := 46) (loc' := [.ref a0, .int i1, .int i2]) (st' := [.ref b11]) (h1 := h) am_q126 rfl rfl rfl (am_gf2 g10 e12) ?_
      refine ev_p (pc' := 48) (loc' := [.ref a0, .int i1, .int i2]) (st' := [.ref a0, .int i2, .ref b11]) 2 am_q126 rfl ?_
      obtain ⟨g13, b14, e15, H⟩ := H
      refine ev_s (pc' := 51) (loc' := [.ref a0, .int i1, .int i2]) (st' := [.ref b14, .int i2, .ref b11]) (h1 := h) am_q126 rfl rfl rfl (am_gf2 g13 e15) ?_
      obtain ⟨g16, b17, e18, H⟩ := H
      refine ev_s (pc' := 54) (loc' := [.ref a0, .int i1, .int i2]) (st' := [.ref b17, .int i2, .ref b11]) (h1 := h) am_q126 rfl rfl rfl (am_gf2 g16 e18) ?_
      refine ev_p (pc' := 55) (loc' := [.ref a0, .int i1, .int i2]) (st' := [.int i2, .ref b17, .int i2, .ref b11]) 1 am_q126 rfl ?_
      obtain ⟨g19, g20, H⟩ := H
      refine ev_s (pc' := 56) (loc' := [.ref a0, .int i1, .int i2]) (st' := [.int (am_gi h b17 (Int32.toNatClampNeg i2)), .int i2, .ref b11]) (h1 := h) am_q126 rfl rfl rfl (am_xx g19 g20) ?_
      refine ev_p (pc' := 57) (loc' := [.ref a0, .int i1, .int i2]) (st' := [.ref a0, .int (am_gi h b17 (Int32.toNatClampNeg i2)), .int i2, .ref b11]) 1 am_q126 rfl ?_
      obtain ⟨g21, H⟩ := H
      refine ev_s (pc' := 60) (loc' := [.ref a0, .int i1, .int i2]) (st' := [.int (am_gi h a0 0), .int (am_gi h b17 (Int32.toNatClampNeg i2)), .int i2, .ref b11]) (h1 := h) am_q126 rfl rfl rfl (if_pos (e := none) g21) ?_
      obtain ⟨g24, H⟩ := H
      refine ev_c (vs := [.ref b11, .int i2, .int (am_gi h b17 (Int32.toNatClampNeg i2)), .int (am_gi h a0 0)]) (rest := []) 63 am_q126 rfl rfl rfl rfl rfl rfl rfl rfl rfl rfl rfl rfl (Or.inr (congrArg some g24)) (Cl.mono H (Nat.le_refl _) (fun r23 h22 H => ?_))
      obtain ⟨rfl, H⟩ := H
      refine ev_p (pc' := 64) (loc' := [.ref a0, .int i1, .int i2]) (st' := [.ref a0]) 1 am_q126 rfl ?_
      obtain ⟨g25, b26, e27, H⟩ := H
      refine ev_s (pc' := 67) (loc' := [.ref a0, .int i1, .int i2]) (st' := [.ref b26]) (h1 := h22) am_q126 rfl rfl rfl (am_gf2 g25 e27) ?_
      refine ev_p (pc' := 68) (loc' := [.ref a0, .int i1, .int i2]) (st' := [.int i2, .ref b26]) 1 am_q126 rfl ?_
      obtain ⟨g28, g29, b30, e31, H⟩ := H
      refine ev_s (pc' := 69) (loc' := [.ref a0, .int i1, .int i2]) (st' := [.ref b30]) (h1 := h22) am_q126 rfl rfl rfl (am_xa g28 g29 e31) ?_
      refine ev_p (pc' := 70) (loc' := [.ref a0, .int i1, .int i2]) (st' := [.int (0 : Int32), .ref b30]) 1 am_q126 rfl ?_
      obtain ⟨g32, H⟩ := H
      refine ev_s (pc' := 73) (loc' := [.ref a0, .int i1, .int i2]) (st' := []) (h1 := am_si h22 b30 4 (0 : Int32)) am_q126 rfl rfl rfl (if_pos (e := none) g32) ?_
      replace H := H _ rfl
      generalize am_si h22 b30 4 (0 : Int32) = h33 at H ⊢
      refine ev_p (pc' := 21) (loc' := [.ref a0, .int i1, .int (i2 + (1 : Int32))]) (st' := []) 2 am_q126 rfl ?_
      exact ev_m (loc' := [.ref a0, .int i1, .int (i2 + (1 : Int32))]) am_q126 rfl rfl H
/-! 127: X11_cost -/
theorem am_q127 : (am_mt 127).2.2.2.2.2 = am_m127.2.2.2.2.2 := rfl
set_option maxRecDepth 20000 in
set_option maxHeartbeats 2000000 in
theorem wp127 {d : Nat} (a0 : Nat) (i1 : Int32) {h : AH} {Q : Option Value → AH → Prop} (H : (i1 < (1 : Int32) → Q (some (.int (-2 : Int32))) h) ∧ (¬ i1 < (1 : Int32) → (i1 ≤ (1000000 : Int32) → am_kd h a0 = 11 ∧ Cl d 165 [.ref a0] h (fun r2 h1 => r2 = none ∧ am_kd h1 a0 = 11 ∧ ∃ b5, am_gr h1 a0 15 = some b5 ∧ am_kd h1 b5 = 4 ∧ ((¬ (lg_cmp (am_gl h1 b5 4) (0 : Int64)) = (0 : Int32)) → am_kd h1 a0 = 11 ∧ ∃ b9, am_gr h1 a0 15 = some b9 ∧ am_kd h1 b9 = 4 ∧ ((am_gi h1 b9 1) < (30 : Int32) → am_kd h1 a0 = 11 ∧ ∃ b13, am_gr h1 a0 15 = some b13 ∧ am_kd h1 b13 = 4 ∧ Cl d 27 [.ref b13, .int i1] h1 (fun r16 h15 => ∃ x18, r16 = some (.int x18) ∧ Ev (d + 1) 127 59 [.ref a0, .null, .int x18, .int (0 : Int32), .null] [] h15 Q)) ∧ (¬ (am_gi h1 b9 1) < (30 : Int32) → Q (some (.int (-4 : Int32))) h1)) ∧ (¬ (¬ (lg_cmp (am_gl h1 b5 4) (0 : Int64)) = (0 : Int32)) → Q (some (.int (-3 : Int32))) h1))) ∧ (¬ i1 ≤ (1000000 : Int32) → Q (some (.int (-2 : Int32))) h))) : Cl (d + 1) 127 [.ref a0, .int i1] h Q := by
  show Ev (d + 1) 127 0 [.ref a0, .int i1, .null, .null, .null] [] h Q
  refine ev_p (pc' := 2) (loc' := [.ref a0, .int i1, .null, .null, .null]) (st' := [.int (1 : Int32), .int i1]) 2 am_q127 rfl ?_
  refine ev_jc (t := 11) am_q127 rfl rfl (fun hq => ?_) (fun hq => ?_)
  · replace H := H.1 hq
    refine ev_p (pc' := 13) (loc' := [.null, .null, .null, .null, .null]) (st' := [.int (-2 : Int32)]) 1 am_q127 rfl ?_
    exact ev_r (v := some (.int (-2 : Int32))) am_q127 rfl rfl rfl rfl H
  · replace H := H.2 hq
    refine ev_p (pc' := 8) (loc' := [.ref a0, .int i1, .null, .null, .null]) (st' := [.int (1000000 : Int32), .int i1]) 2 am_q127 rfl ?_
    refine ev_jc (t := 14) am_q127 rfl rfl (fun hq => ?_) (fun hq => ?_)
    · replace H := H.1 hq
      refine ev_p (pc' := 15) (loc' := [.ref a0, .int i1, .null, .null, .null]) (st' := [.ref a0]) 1 am_q127 rfl ?_
      obtain ⟨g3, H⟩ := H
      refine ev_c (vs := [.ref a0]) (rest := []) 165 am_q127 rfl rfl rfl rfl rfl rfl rfl rfl rfl rfl rfl rfl (Or.inr (congrArg some g3)) (Cl.mono H (Nat.le_refl _) (fun r2 h1 H => ?_))
      obtain ⟨rfl, H⟩ := H
      refine ev_p (pc' := 19) (loc' := [.ref a0, .int i1, .null, .null, .null]) (st' := [.ref a0]) 1 am_q127 rfl ?_
      obtain ⟨g4, b5, e6, H⟩ := H
      refine ev_s (pc' := 22) (loc' := [.ref a0, .int i1, .null, .null, .null]) (st' := [.ref b5]) (h1 := h1) am_q127 rfl rfl rfl (am_gf2 g4 e6) ?_
      obtain ⟨g7, H⟩ := H
      refine ev_s (pc' := 25) (loc' := [.ref a0, .int i1, .null, .null, .null]) (st' := [.long (am_gl h1 b5 4)]) (h1 := h1) am_q127 rfl rfl rfl (if_pos (e := none) g7) ?_
      refine ev_p (pc' := 27) (loc' := [.ref a0, .int i1, .null, .null, .null]) (st' := [.int (lg_cmp (am_gl h1 b5 4) (0 : Int64))]) 2 am_q127 rfl ?_
      refine ev_jz (t := 33) am_q127 rfl rfl (fun hq => ?_) (fun hq => ?_)
      · replace H := H.1 hq
        refine ev_p (pc' := 34) (loc' := [.ref a0, .int i1, .null, .null, .null]) (st' := [.ref a0]) 1 am_q127 rfl ?_
        obtain ⟨g8, b9, e10, H⟩ := H
        refine ev_s (pc' := 37) (loc' := [.ref a0, .int i1, .null, .null, .null]) (st' := [.ref b9]) (h1 := h1) am_q127 rfl rfl rfl (am_gf2 g8 e10) ?_
        obtain ⟨g11, H⟩ := H
        refine ev_s (pc' := 40) (loc' := [.ref a0, .int i1, .null, .null, .null]) (st' := [.int (am_gi h1 b9 1)]) (h1 := h1) am_q127 rfl rfl rfl (if_pos (e := none) g11) ?_
        refine ev_p (pc' := 42) (loc' := [.ref a0, .int i1, .null, .null, .null]) (st' := [.int (30 : Int32), .int (am_gi h1 b9 1)]) 1 am_q127 rfl ?_
        refine ev_jc (t := 48) am_q127 rfl rfl (fun hq => ?_) (fun hq => ?_)
        · replace H := H.1 hq
          refine ev_p (pc' := 49) (loc' := [.ref a0, .int i1, .null, .null, .null]) (st' := [.ref a0]) 1 am_q127 rfl ?_
          obtain ⟨g12, b13, e14, H⟩ := H
          refine ev_s (pc' := 52) (loc' := [.ref a0, .int i1, .null, .null, .null]) (st' := [.ref b13]) (h1 := h1) am_q127 rfl rfl rfl (am_gf2 g12 e14) ?_
          refine ev_p (pc' := 53) (loc' := [.ref a0, .int i1, .null, .null, .null]) (st' := [.int i1, .ref b13]) 1 am_q127 rfl ?_
          obtain ⟨g17, H⟩ := H
          refine ev_c (vs := [.ref b13, .int i1]) (rest := []) 27 am_q127 rfl rfl rfl rfl rfl rfl rfl rfl rfl rfl rfl rfl (Or.inr (congrArg some g17)) (Cl.mono H (Nat.le_refl _) (fun r16 h15 H => ?_))
          obtain ⟨x18, rfl, H⟩ := H
          refine ev_p (pc' := 59) (loc' := [.ref a0, .int i1, .int x18, .int (0 : Int32), .null]) (st' := []) 3 am_q127 rfl ?_
          exact ev_m (loc' := [.ref a0, .null, .int x18, .int (0 : Int32), .null]) am_q127 rfl rfl H
        · replace H := H.2 hq
          refine ev_p (pc' := 47) (loc' := [.ref a0, .int i1, .null, .null, .null]) (st' := [.int (-4 : Int32)]) 1 am_q127 rfl ?_
          exact ev_r (v := some (.int (-4 : Int32))) am_q127 rfl rfl rfl rfl H
      · replace H := H.2 hq
        refine ev_p (pc' := 32) (loc' := [.ref a0, .int i1, .null, .null, .null]) (st' := [.int (-3 : Int32)]) 1 am_q127 rfl ?_
        exact ev_r (v := some (.int (-3 : Int32))) am_q127 rfl rfl rfl rfl H
    · replace H := H.2 hq
      refine ev_p (pc' := 13) (loc' := [.null, .null, .null, .null, .null]) (st' := [.int (-2 : Int32)]) 1 am_q127 rfl ?_
      exact ev_r (v := some (.int (-2 : Int32))) am_q127 rfl rfl rfl rfl H
set_option maxRecDepth 20000 in
set_option maxHeartbeats 2000000 in
theorem wp127_59 {d : Nat} (a0 : Nat) (i2 : Int32) (i3 : Int32) {h : AH} {Q : Option Value → AH → Prop} (H : am_kd h a0 = 11 ∧ ((am_gi h a0 2) ≤ i3 → Q (some (.int i2)) h) ∧ (¬ (am_gi h a0 2) ≤ i3 → am_kd h a0 = 11 ∧ ∃ b3, am_gr h a0 5 = some b3 ∧ am_kd h a0 = 11 ∧ am_kd h b3 = 6 ∧ Cl d 56 [.ref b3, .int i3, .int (am_gi h a0 0)] h (fun r7 h6 => ∃ x9, r7 = some (.int x9) ∧ (x9 = (-1 : Int32) → Ev (d + 1) 127 59 [.ref a0, .null, .int i2, .int (i3 + (1 : Int32)), .null] [] h6 Q) ∧ (¬ x9 = (-1 : Int32) → am_kd h6 a0 = 11 ∧ ∃ b11, am_gr h6 a0 3 = some b11 ∧ am_kd h6 a0 = 11 ∧ ∃ b14, am_gr h6 a0 5 = some b14 ∧ am_kd h6 b14 = 6 ∧ ∃ b17, am_gr h6 b14 0 = some b17 ∧ (104 ≤ am_kd h6 b17 ∧ am_kd h6 b17 ≤ 109) ∧ am_in x9 (am_ln h6 b17) ∧ ∃ b21, am_gr h6 b17 (Int32.toNatClampNeg x9) = some b21 ∧ am_kd h6 b21 = 7 ∧ (104 ≤ am_kd h6 b11 ∧ am_kd h6 b11 ≤ 109) ∧ am_in (am_gi h6 b21 2) (am_ln h6 b11) ∧ ∃ b26, am_gr h6 b11 (Int32.toNatClampNeg (am_gi h6 b21 2)) = some b26 ∧ am_kd h6 b26 = 3 ∧ am_kd h6 a0 = 11 ∧ ∃ b30, am_gr h6 a0 15 = some b30 ∧ am_kd h6 b30 = 4 ∧ Cl d 29 [.ref b30, .int i2, .int i3] h6 (fun r33 h32 => ∃ x35, r33 = some (.int x35) ∧ am_kd h32 b26 = 3 ∧ ∀ h37, h37 = am_sl h32 b26 5 ((am_gl h6 b26 5) + (Int32.toInt64 x35)) → Ev (d + 1) 127 59 [.ref a0, .null, .int i2, .int (i3 + (1 : Int32)), .null] [] h37 Q))))) : Ev (d + 1) 127 59 [.ref a0, .null, .int i2, .int i3, .null] [] h Q := by
  refine ev_p (pc' := 61) (loc' := [.ref a0, .null, .int i2, .int i3, .null]) (st' := [.ref a0, .int i3]) 2 am_q127 rfl ?_
  obtain ⟨g1, H⟩ := H
  refine ev_s (pc' := 64) (loc' := [.ref a0, .null, .int i2, .int i3, .null]) (st' := [.int (am_gi h a0 2), .int i3]) (h1 := h) am_q127 rfl rfl rfl (if_pos (e := none) g1) ?_
  refine ev_jc (t := 129) am_q127 rfl rfl (fun hq => ?_) (fun hq => ?_)
  · replace H := H.1 hq
    refine ev_p (pc' := 130) (loc' := [.ref a0, .null, .int i2, .int i3, .null]) (st' := [.int i2]) 1 am_q127 rfl ?_
    exact ev_r (v := some (.int i2)) am_q127 rfl rfl rfl rfl H
  · replace H := H.2 hq
    refine ev_p (pc' := 68) (loc' := [.ref a0, .null, .int i2, .int i3, .null]) (st' := [.ref a0]) 1 am_q127 rfl ?_
    obtain ⟨g2, b3, e4, H⟩ := H
    refine ev_s (pc' := 71) (loc' := [.ref a0, .null, .int i2, .int i3, .null]) (st' := [.ref b3]) (h1 := h) am_q127 rfl rfl rfl (am_gf2 g2 e4) ?_
    refine ev_p (pc' := 73) (loc' := [.ref a0, .null, .int i2, .int i3, .null]) (st' := [.ref a0, .int i3, .ref b3]) 2 am_q127 rfl ?_
    obtain ⟨g5, H⟩ := H
    refine ev_s (pc' := 76) (loc' := [.ref a0, .null, .int i2, .int i3, .null]) (st' := [.int (am_gi h a0 0), .int i3, .ref b3]) (h1 := h) am_q127 rfl rfl rfl (if_pos (e := none) g5) ?_
    obtain ⟨g8, H⟩ := H
    refine ev_c (vs := [.ref b3, .int i3, .int (am_gi h a0 0)]) (rest := []) 56 am_q127 rfl rfl rfl rfl rfl rfl rfl rfl rfl rfl rfl rfl (Or.inr (congrArg some g8)) (Cl.mono H (Nat.le_refl _) (fun r7 h6 H => ?_))
    obtain ⟨x9, rfl, H⟩ := H
    refine ev_p (pc' := 84) (loc' := [.ref a0, .null, .int i2, .int i3, .int x9]) (st' := [.int (-1 : Int32), .int x9]) 3 am_q127 rfl ?_
    refine ev_jc (t := 123) am_q127 rfl rfl (fun hq => ?_) (fun hq => ?_)
    · replace H := H.1 hq
      refine ev_p (pc' := 59) (loc' := [.ref a0, .null, .int i2, .int (i3 + (1 : Int32)), .null]) (st' := []) 2 am_q127 rfl ?_
      exact ev_m (loc' := [.ref a0, .null, .int i2, .int (i3 + (1 : Int32)), .null]) am_q127 rfl rfl H
    · replace H := H.2 hq
      refine ev_p (pc' := 88) (loc' := [.ref a0, .null, .int i2, .int i3, .int x9]) (st' := [.ref a0]) 1 am_q127 rfl ?_
      obtain ⟨g10, b11, e12, H⟩ := H
      refine ev_s (pc' := 91) (loc' := [.ref a0, .null, .int i2, .int i3, .int x9]) (st' := [.ref b11]) (h1 := h6) am_q127 rfl rfl rfl (am_gf2 g10 e12) ?_
      refine ev_p (pc' := 92) (loc' := [.ref a0, .null, .int i2, .int i3, .int x9]) (st' := [.ref a0, .ref b11]) 1 am_q127 rfl ?_
      obtain ⟨g13, b14, e15, H⟩ := H
      refine ev_s (pc' := 95) (loc' := [.ref a0, .null, .int i2, .int i3, .int x9]) (st' := [.ref b14, .ref b11]) (h1 := h6) am_q127 rfl rfl rfl (am_gf2 g13 e15) ?_
      obtain ⟨g16, b17, e18, H⟩ := H
      refine ev_s (pc' := 98) (loc' := [.ref a0, .null, .int i2, .int i3, .int x9]) (st' := [.ref b17, .ref b11]) (h1 := h6) am_q127 rfl rfl rfl (am_gf2 g16 e18) ?_
      refine ev_p (pc' := 100) (loc' := [.ref a0, .null, .int i2, .int i3, .int x9]) (st' := [.int x9, .ref b17, .ref b11]) 1 am_q127 rfl ?_
      obtain ⟨g19, g20, b21, e22, H⟩ := H
      refine ev_s (pc' := 101) (loc' := [.ref a0, .null, .int i2, .int i3, .int x9]) (st' := [.ref b21, .ref b11]) (h1 := h6) am_q127 rfl rfl rfl (am_xa g19 g20 e22) ?_
      obtain ⟨g23, H⟩ := H
      refine ev_s (pc' := 104) (loc' := [.ref a0, .null, .int i2, .int i3, .int x9]) (st' := [.int (am_gi h6 b21 2), .ref b11]) (h1 := h6) am_q127 rfl rfl rfl (if_pos (e := none) g23) ?_
      obtain ⟨g24, g25, b26, e27, H⟩ := H
      refine ev_s (pc' := 105) (loc' := [.ref a0, .null, .int i2, .int i3, .int x9]) (st' := [.ref b26]) (h1 := h6) am_q127 rfl rfl rfl (am_xa g24 g25 e27) ?_
      refine ev_p (pc' := 106) (loc' := [.ref a0, .null, .int i2, .int i3, .int x9]) (st' := [.ref b26, .ref b26]) 1 am_q127 rfl ?_
      obtain ⟨g28, H⟩ := H
      refine ev_s (pc' := 109) (loc' := [.ref a0, .null, .int i2, .int i3, .int x9]) (st' := [.long (am_gl h6 b26 5), .ref b26]) (h1 := h6) am_q127 rfl rfl rfl (if_pos (e := none) g28) ?_
      refine ev_p (pc' := 110) (loc' := [.ref a0, .null, .int i2, .int i3, .int x9]) (st' := [.ref a0, .long (am_gl h6 b26 5), .ref b26]) 1 am_q127 rfl ?_
      obtain ⟨g29, b30, e31, H⟩ := H
      refine ev_s (pc' := 113) (loc' := [.ref a0, .null, .int i2, .int i3, .int x9]) (st' := [.ref b30, .long (am_gl h6 b26 5), .ref b26]) (h1 := h6) am_q127 rfl rfl rfl (am_gf2 g29 e31) ?_
      refine ev_p (pc' := 115) (loc' := [.ref a0, .null, .int i2, .int i3, .int x9]) (st' := [.int i3, .int i2, .ref b30, .long (am_gl h6 b26 5), .ref b26]) 2 am_q127 rfl ?_
      obtain ⟨g34, H⟩ := H
      refine ev_c (vs := [.ref b30, .int i2, .int i3]) (rest := [.long (am_gl h6 b26 5), .ref b26]) 29 am_q127 rfl rfl rfl rfl rfl rfl rfl rfl rfl rfl rfl rfl (Or.inr (congrArg some g34)) (Cl.mono H (Nat.le_refl _) (fun r33 h32 H => ?_))
      obtain ⟨x35, rfl, H⟩ := H
      refine ev_p (pc' := 120) (loc' := [.ref a0, .null, .int i2, .int i3, .int x9]) (st' := [.long ((am_gl h6 b26 5) + (Int32.toInt64 x35)), .ref b26]) 2 am_q127 rfl ?_
      obtain ⟨g36, H⟩ := H
      refine ev_s (pc' := 123) (loc' := [.ref a0, .null, .int i2, .int i3, .int x9]) (st' := []) (h1 := am_sl h32 b26 5 ((am_gl h6 b26 5) + (Int32.toInt64 x35))) am_q127 rfl rfl rfl (if_pos (e := none) g36) ?_
      replace H := H _ rfl
      generalize am_sl h32 b26 5 ((am_gl h6 b26 5) + (Int32.toInt64 x35)) = h37 at H ⊢
      refine ev_p (pc' := 59) (loc' := [.ref a0, .null, .int i2, .int (i3 + (1 : Int32)), .null]) (st' := []) 2 am_q127 rfl ?_
      exact ev_m (loc' := [.ref a0, .null, .int i2, .int (i3 + (1 : Int32)), .null]) am_q127 rfl rfl H
/-! 128: X11_parted -/
theorem am_q128 : (am_mt 128).2.2.2.2.2 = am_m128.2.2.2.2.2 := rfl
set_option maxRecDepth 20000 in
set_option maxHeartbeats 2000000 in
theorem wp128 {d : Nat} (a0 : Nat) (i1 : Int32) (i2 : Int32) {h : AH} {Q : Option Value → AH → Prop} (H : (i1 < (0 : Int32) → Q (some (.int (-2 : Int32))) h) ∧ (¬ i1 < (0 : Int32) → am_kd h a0 = 11 ∧ ∃ b2, am_gr h a0 15 = some b2 ∧ am_kd h b2 = 4 ∧ ((am_gi h b2 1) ≤ i1 → Q (some (.int (-2 : Int32))) h) ∧ (¬ (am_gi h b2 1) ≤ i1 → am_kd h a0 = 11 ∧ Cl d 138 [.ref a0, .int i2] h (fun r6 h5 => ∃ x8, r6 = some (.int x8) ∧ ((¬ x8 = (0 : Int32)) → am_kd h5 a0 = 11 ∧ ∃ b10, am_gr h5 a0 15 = some b10 ∧ am_kd h5 b10 = 4 ∧ Cl d 29 [.ref b10, .int i1, .int i2] h5 (fun r13 h12 => ∃ x15, r13 = some (.int x15) ∧ Q (some (.int x15)) h12)) ∧ (¬ (¬ x8 = (0 : Int32)) → Q (some (.int (-2 : Int32))) h5))))) : Cl (d + 1) 128 [.ref a0, .int i1, .int i2] h Q := by
  show Ev (d + 1) 128 0 [.ref a0, .int i1, .int i2] [] h Q
  refine ev_p (pc' := 1) (loc' := [.ref a0, .int i1, .int i2]) (st' := [.int i1]) 1 am_q128 rfl ?_
  refine ev_jz (t := 23) am_q128 rfl rfl (fun hq => ?_) (fun hq => ?_)
  · replace H := H.1 hq
    refine ev_p (pc' := 25) (loc' := [.null, .null, .null]) (st' := [.int (-2 : Int32)]) 1 am_q128 rfl ?_
    exact ev_r (v := some (.int (-2 : Int32))) am_q128 rfl rfl rfl rfl H
  · replace H := H.2 hq
    refine ev_p (pc' := 6) (loc' := [.ref a0, .int i1, .int i2]) (st' := [.ref a0, .int i1]) 2 am_q128 rfl ?_
    obtain ⟨g1, b2, e3, H⟩ := H
    refine ev_s (pc' := 9) (loc' := [.ref a0, .int i1, .int i2]) (st' := [.ref b2, .int i1]) (h1 := h) am_q128 rfl rfl rfl (am_gf2 g1 e3) ?_
    obtain ⟨g4, H⟩ := H
    refine ev_s (pc' := 12) (loc' := [.ref a0, .int i1, .int i2]) (st' := [.int (am_gi h b2 1), .int i1]) (h1 := h) am_q128 rfl rfl rfl (if_pos (e := none) g4) ?_
    refine ev_jc (t := 23) am_q128 rfl rfl (fun hq => ?_) (fun hq => ?_)
    · replace H := H.1 hq
      refine ev_p (pc' := 25) (loc' := [.null, .null, .null]) (st' := [.int (-2 : Int32)]) 1 am_q128 rfl ?_
      exact ev_r (v := some (.int (-2 : Int32))) am_q128 rfl rfl rfl rfl H
    · replace H := H.2 hq
      refine ev_p (pc' := 17) (loc' := [.ref a0, .int i1, .int i2]) (st' := [.int i2, .ref a0]) 2 am_q128 rfl ?_
      obtain ⟨g7, H⟩ := H
      refine ev_c (vs := [.ref a0, .int i2]) (rest := []) 138 am_q128 rfl rfl rfl rfl rfl rfl rfl rfl rfl rfl rfl rfl (Or.inr (congrArg some g7)) (Cl.mono H (Nat.le_refl _) (fun r6 h5 H => ?_))
      obtain ⟨x8, rfl, H⟩ := H
      refine ev_jz (t := 26) am_q128 rfl rfl (fun hq => ?_) (fun hq => ?_)
      · replace H := H.1 hq
        refine ev_p (pc' := 27) (loc' := [.ref a0, .int i1, .int i2]) (st' := [.ref a0]) 1 am_q128 rfl ?_
        obtain ⟨g9, b10, e11, H⟩ := H
        refine ev_s (pc' := 30) (loc' := [.ref a0, .int i1, .int i2]) (st' := [.ref b10]) (h1 := h5) am_q128 rfl rfl rfl (am_gf2 g9 e11) ?_
        refine ev_p (pc' := 32) (loc' := [.ref a0, .int i1, .int i2]) (st' := [.int i2, .int i1, .ref b10]) 2 am_q128 rfl ?_
        obtain ⟨g14, H⟩ := H
        refine ev_c (vs := [.ref b10, .int i1, .int i2]) (rest := []) 29 am_q128 rfl rfl rfl rfl rfl rfl rfl rfl rfl rfl rfl rfl (Or.inr (congrArg some g14)) (Cl.mono H (Nat.le_refl _) (fun r13 h12 H => ?_))
        obtain ⟨x15, rfl, H⟩ := H
        exact ev_r (v := some (.int x15)) am_q128 rfl rfl rfl rfl H
      · replace H := H.2 hq
        refine ev_p (pc' := 25) (loc' := [.null, .null, .null]) (st' := [.int (-2 : Int32)]) 1 am_q128 rfl ?_
        exact ev_r (v := some (.int (-2 : Int32))) am_q128 rfl rfl rfl rfl H
/-! 129: X11_pay -/
theorem am_q129 : (am_mt 129).2.2.2.2.2 = am_m129.2.2.2.2.2 := rfl
set_option maxRecDepth 20000 in
set_option maxHeartbeats 2000000 in
theorem wp129 {d : Nat} (a0 : Nat) (i1 : Int32) (i2 : Int32) {h : AH} {Q : Option Value → AH → Prop} (H : am_kd h a0 = 11 ∧ Cl d 139 [.ref a0, .int i1] h (fun r2 h1 => ∃ x4, r2 = some (.int x4) ∧ (x4 = (0 : Int32) → Q (some (.long (-4611686018427387904 : Int64))) h1) ∧ (¬ x4 = (0 : Int32) → Cl d 144 [.int i2] h1 (fun r6 h5 => ∃ x7, r6 = some (.int x7) ∧ ((¬ x7 = (0 : Int32)) → am_kd h5 a0 = 11 ∧ ∃ b9, am_gr h5 a0 3 = some b9 ∧ (104 ≤ am_kd h5 b9 ∧ am_kd h5 b9 ≤ 109) ∧ am_in i1 (am_ln h5 b9) ∧ ∃ b13, am_gr h5 b9 (Int32.toNatClampNeg i1) = some b13 ∧ am_kd h5 b13 = 3 ∧ am_kd h5 b13 = 3 ∧ ∀ h17, h17 = am_sl h5 b13 5 ((am_gl h5 b13 5) - (Int32.toInt64 i2)) → am_kd h17 a0 = 11 ∧ ∃ b19, am_gr h17 a0 3 = some b19 ∧ (104 ≤ am_kd h17 b19 ∧ am_kd h17 b19 ≤ 109) ∧ am_in i1 (am_ln h17 b19) ∧ ∃ b23, am_gr h17 b19 (Int32.toNatClampNeg i1) = some b23 ∧ am_kd h17 b23 = 3 ∧ Q (some (.long (am_gl h17 b23 5))) h17) ∧ (¬ (¬ x7 = (0 : Int32)) → Q (some (.long (-4611686018427387904 : Int64))) h5))))) : Cl (d + 1) 129 [.ref a0, .int i1, .int i2] h Q := by
  show Ev (d + 1) 129 0 [.ref a0, .int i1, .int i2] [] h Q
  refine ev_p (pc' := 2) (loc' := [.ref a0, .int i1, .int i2]) (st' := [.int i1, .ref a0]) 2 am_q129 rfl ?_
  obtain ⟨g3, H⟩ := H
  refine ev_c (vs := [.ref a0, .int i1]) (rest := []) 139 am_q129 rfl rfl rfl rfl rfl rfl rfl rfl rfl rfl rfl rfl (Or.inr (congrArg some g3)) (Cl.mono H (Nat.le_refl _) (fun r2 h1 H => ?_))
  obtain ⟨x4, rfl, H⟩ := H
  refine ev_jz (t := 15) am_q129 rfl rfl (fun hq => ?_) (fun hq => ?_)
  · replace H := H.1 hq
    refine ev_p (pc' := 18) (loc' := [.null, .null, .null]) (st' := [.long (-4611686018427387904 : Int64)]) 1 am_q129 rfl ?_
    exact ev_r (v := some (.long (-4611686018427387904 : Int64))) am_q129 rfl rfl rfl rfl H
  · replace H := H.2 hq
    refine ev_p (pc' := 9) (loc' := [.ref a0, .int i1, .int i2]) (st' := [.int i2]) 1 am_q129 rfl ?_
    refine ev_c (vs := [.int i2]) (rest := []) 144 am_q129 rfl rfl rfl rfl rfl rfl rfl rfl rfl rfl rfl rfl (Or.inl rfl) (Cl.mono H (Nat.le_refl _) (fun r6 h5 H => ?_))
    obtain ⟨x7, rfl, H⟩ := H
    refine ev_jz (t := 19) am_q129 rfl rfl (fun hq => ?_) (fun hq => ?_)
    · replace H := H.1 hq
      refine ev_p (pc' := 20) (loc' := [.ref a0, .int i1, .int i2]) (st' := [.ref a0]) 1 am_q129 rfl ?_
      obtain ⟨g8, b9, e10, H⟩ := H
      refine ev_s (pc' := 23) (loc' := [.ref a0, .int i1, .int i2]) (st' := [.ref b9]) (h1 := h5) am_q129 rfl rfl rfl (am_gf2 g8 e10) ?_
      refine ev_p (pc' := 24) (loc' := [.ref a0, .int i1, .int i2]) (st' := [.int i1, .ref b9]) 1 am_q129 rfl ?_
      obtain ⟨g11, g12, b13, e14, H⟩ := H
      refine ev_s (pc' := 25) (loc' := [.ref a0, .int i1, .int i2]) (st' := [.ref b13]) (h1 := h5) am_q129 rfl rfl rfl (am_xa g11 g12 e14) ?_
      refine ev_p (pc' := 26) (loc' := [.ref a0, .int i1, .int i2]) (st' := [.ref b13, .ref b13]) 1 am_q129 rfl ?_
      obtain ⟨g15, H⟩ := H
      refine ev_s (pc' := 29) (loc' := [.ref a0, .int i1, .int i2]) (st' := [.long (am_gl h5 b13 5), .ref b13]) (h1 := h5) am_q129 rfl rfl rfl (if_pos (e := none) g15) ?_
      refine ev_p (pc' := 32) (loc' := [.ref a0, .int i1, .int i2]) (st' := [.long ((am_gl h5 b13 5) - (Int32.toInt64 i2)), .ref b13]) 3 am_q129 rfl ?_
      obtain ⟨g16, H⟩ := H
      refine ev_s (pc' := 35) (loc' := [.ref a0, .int i1, .int i2]) (st' := []) (h1 := am_sl h5 b13 5 ((am_gl h5 b13 5) - (Int32.toInt64 i2))) am_q129 rfl rfl rfl (if_pos (e := none) g16) ?_
      replace H := H _ rfl
      generalize am_sl h5 b13 5 ((am_gl h5 b13 5) - (Int32.toInt64 i2)) = h17 at H ⊢
      refine ev_p (pc' := 36) (loc' := [.ref a0, .int i1, .int i2]) (st' := [.ref a0]) 1 am_q129 rfl ?_
      obtain ⟨g18, b19, e20, H⟩ := H
      refine ev_s (pc' := 39) (loc' := [.ref a0, .int i1, .int i2]) (st' := [.ref b19]) (h1 := h17) am_q129 rfl rfl rfl (am_gf2 g18 e20) ?_
      refine ev_p (pc' := 40) (loc' := [.ref a0, .int i1, .int i2]) (st' := [.int i1, .ref b19]) 1 am_q129 rfl ?_
      obtain ⟨g21, g22, b23, e24, H⟩ := H
      refine ev_s (pc' := 41) (loc' := [.ref a0, .int i1, .int i2]) (st' := [.ref b23]) (h1 := h17) am_q129 rfl rfl rfl (am_xa g21 g22 e24) ?_
      obtain ⟨g25, H⟩ := H
      refine ev_s (pc' := 44) (loc' := [.ref a0, .int i1, .int i2]) (st' := [.long (am_gl h17 b23 5)]) (h1 := h17) am_q129 rfl rfl rfl (if_pos (e := none) g25) ?_
      exact ev_r (v := some (.long (am_gl h17 b23 5))) am_q129 rfl rfl rfl rfl H
    · replace H := H.2 hq
      refine ev_p (pc' := 18) (loc' := [.null, .null, .null]) (st' := [.long (-4611686018427387904 : Int64)]) 1 am_q129 rfl ?_
      exact ev_r (v := some (.long (-4611686018427387904 : Int64))) am_q129 rfl rfl rfl rfl H
/-! 130: X11_year -/
theorem am_q130 : (am_mt 130).2.2.2.2.2 = am_m130.2.2.2.2.2 := rfl
set_option maxRecDepth 20000 in
set_option maxHeartbeats 2000000 in
theorem wp130 {d : Nat} (a0 : Nat) (i1 : Int32) (i2 : Int32) {h : AH} {Q : Option Value → AH → Prop} (H : am_kd h a0 = 11 ∧ ∃ b2, am_gr h a0 16 = some b2 ∧ am_kd h b2 = 1 ∧ Cl d 12 [.ref b2, .int i1] h (fun r5 h4 => ∃ x7, r5 = some (.int x7) ∧ (x7 = (0 : Int32) → Q (some (.int (-2 : Int32))) h4) ∧ (¬ x7 = (0 : Int32) → Cl d 144 [.int i2] h4 (fun r9 h8 => ∃ x10, r9 = some (.int x10) ∧ ((¬ x10 = (0 : Int32)) → am_kd h8 a0 = 11 ∧ ∃ b12, am_gr h8 a0 16 = some b12 ∧ am_kd h8 b12 = 1 ∧ ∃ b15, am_gr h8 b12 0 = some b15 ∧ am_kd h8 b15 = 100 ∧ am_in i1 (am_ln h8 b15) ∧ am_kd h8 a0 = 11 ∧ ∃ b20, am_gr h8 a0 16 = some b20 ∧ am_kd h8 b20 = 1 ∧ ∃ b23, am_gr h8 b20 0 = some b23 ∧ (am_kd h8 b23 = 100 ∧ 6 ≤ b23) ∧ am_in i1 (am_ln h8 b23) ∧ ∀ h27, h27 = am_si h8 b23 (Int32.toNatClampNeg i1) i2 → Q (some (.int (am_gi h8 b15 (Int32.toNatClampNeg i1)))) h27) ∧ (¬ (¬ x10 = (0 : Int32)) → Q (some (.int (-2 : Int32))) h8))))) : Cl (d + 1) 130 [.ref a0, .int i1, .int i2] h Q := by
  show Ev (d + 1) 130 0 [.ref a0, .int i1, .int i2, .null] [] h Q
  refine ev_p (pc' := 1) (loc' := [.ref a0, .int i1, .int i2, .null]) (st' := [.ref a0]) 1 am_q130 rfl ?_
  obtain ⟨g1, b2, e3, H⟩ := H
  refine ev_s (pc' := 4) (loc' := [.ref a0, .int i1, .int i2, .null]) (st' := [.ref b2]) (h1 := h) am_q130 rfl rfl rfl (am_gf2 g1 e3) ?_
  refine ev_p (pc' := 5) (loc' := [.ref a0, .int i1, .int i2, .null]) (st' := [.int i1, .ref b2]) 1 am_q130 rfl ?_
  obtain ⟨g6, H⟩ := H
  refine ev_c (vs := [.ref b2, .int i1]) (rest := []) 12 am_q130 rfl rfl rfl rfl rfl rfl rfl rfl rfl rfl rfl rfl (Or.inr (congrArg some g6)) (Cl.mono H (Nat.le_refl _) (fun r5 h4 H => ?_))
  obtain ⟨x7, rfl, H⟩ := H
  refine ev_jz (t := 18) am_q130 rfl rfl (fun hq => ?_) (fun hq => ?_)
  · replace H := H.1 hq
    refine ev_p (pc' := 20) (loc' := [.null, .null, .null, .null]) (st' := [.int (-2 : Int32)]) 1 am_q130 rfl ?_
    exact ev_r (v := some (.int (-2 : Int32))) am_q130 rfl rfl rfl rfl H
  · replace H := H.2 hq
    refine ev_p (pc' := 12) (loc' := [.ref a0, .int i1, .int i2, .null]) (st' := [.int i2]) 1 am_q130 rfl ?_
    refine ev_c (vs := [.int i2]) (rest := []) 144 am_q130 rfl rfl rfl rfl rfl rfl rfl rfl rfl rfl rfl rfl (Or.inl rfl) (Cl.mono H (Nat.le_refl _) (fun r9 h8 H => ?_))
    obtain ⟨x10, rfl, H⟩ := H
    refine ev_jz (t := 21) am_q130 rfl rfl (fun hq => ?_) (fun hq => ?_)
    · replace H := H.1 hq
      refine ev_p (pc' := 22) (loc' := [.ref a0, .int i1, .int i2, .null]) (st' := [.ref a0]) 1 am_q130 rfl ?_
      obtain ⟨g11, b12, e13, H⟩ := H
      refine ev_s (pc' := 25) (loc' := [.ref a0, .int i1, .int i2, .null]) (st' := [.ref b12]) (h1 := h8) am_q130 rfl rfl rfl (am_gf2 g11 e13) ?_
      obtain ⟨g14, b15, e16, H⟩ := H
      refine ev_s (pc' := 28) (loc' := [.ref a0, .int i1, .int i2, .null]) (st' := [.ref b15]) (h1 := h8) am_q130 rfl rfl rfl (am_gf2 g14 e16) ?_
      refine ev_p (pc' := 29) (loc' := [.ref a0, .int i1, .int i2, .null]) (st' := [.int i1, .ref b15]) 1 am_q130 rfl ?_
      obtain ⟨g17, g18, H⟩ := H
      refine ev_s (pc' := 30) (loc' := [.ref a0, .int i1, .int i2, .null]) (st' := [.int (am_gi h8 b15 (Int32.toNatClampNeg i1))]) (h1 := h8) am_q130 rfl rfl rfl (am_xx g17 g18) ?_
      refine ev_p (pc' := 32) (loc' := [.ref a0, .int i1, .int i2, .int (am_gi h8 b15 (Int32.toNatClampNeg i1))]) (st' := [.ref a0]) 2 am_q130 rfl ?_
      obtain ⟨g19, b20, e21, H⟩ := H
      refine ev_s (pc' := 35) (loc' := [.ref a0, .int i1, .int i2, .int (am_gi h8 b15 (Int32.toNatClampNeg i1))]) (st' := [.ref b20]) (h1 := h8) am_q130 rfl rfl rfl (am_gf2 g19 e21) ?_
      obtain ⟨g22, b23, e24, H⟩ := H
      refine ev_s (pc' := 38) (loc' := [.ref a0, .int i1, .int i2, .int (am_gi h8 b15 (Int32.toNatClampNeg i1))]) (st' := [.ref b23]) (h1 := h8) am_q130 rfl rfl rfl (am_gf2 g22 e24) ?_
      refine ev_p (pc' := 40) (loc' := [.ref a0, .int i1, .int i2, .int (am_gi h8 b15 (Int32.toNatClampNeg i1))]) (st' := [.int i2, .int i1, .ref b23]) 2 am_q130 rfl ?_
      obtain ⟨g25, g26, H⟩ := H
      refine ev_s (pc' := 41) (loc' := [.ref a0, .int i1, .int i2, .int (am_gi h8 b15 (Int32.toNatClampNeg i1))]) (st' := []) (h1 := am_si h8 b23 (Int32.toNatClampNeg i1) i2) am_q130 rfl rfl rfl (am_xx g25 g26) ?_
      replace H := H _ rfl
      generalize am_si h8 b23 (Int32.toNatClampNeg i1) i2 = h27 at H ⊢
      refine ev_p (pc' := 42) (loc' := [.ref a0, .int i1, .int i2, .int (am_gi h8 b15 (Int32.toNatClampNeg i1))]) (st' := [.int (am_gi h8 b15 (Int32.toNatClampNeg i1))]) 1 am_q130 rfl ?_
      exact ev_r (v := some (.int (am_gi h8 b15 (Int32.toNatClampNeg i1)))) am_q130 rfl rfl rfl rfl H
    · replace H := H.2 hq
      refine ev_p (pc' := 20) (loc' := [.null, .null, .null, .null]) (st' := [.int (-2 : Int32)]) 1 am_q130 rfl ?_
      exact ev_r (v := some (.int (-2 : Int32))) am_q130 rfl rfl rfl rfl H
