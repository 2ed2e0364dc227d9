/-! 30: X5_init -/
theorem am_q30 : (am_mt 30).2.2.2.2.2 = am_m30.2.2.2.2.2 := rfl
set_option maxRecDepth 20000 in
set_option maxHeartbeats 2000000 in
theorem wp30 {d : Nat} (a0 : Nat) {h : AH} {Q : Option Value → AH → Prop} (H : (¬ (400 : Int32) < (0 : Int32) ∧ (Int32.toNatClampNeg (400 : Int32)) ≤ 100000) ∧ ∀ b3, b3 = am_sz h → ∀ h2, h2 = am_nw h 102 (Int32.toNatClampNeg (400 : Int32)) (Int32.toNatClampNeg (400 : Int32)) → am_kd h2 a0 = 5 ∧ ∀ h6, h6 = am_sr h2 a0 0 (some b3) → (¬ (400 : Int32) < (0 : Int32) ∧ (Int32.toNatClampNeg (400 : Int32)) ≤ 100000) ∧ ∀ b8, b8 = am_sz h6 → ∀ h7, h7 = am_nw h6 100 (Int32.toNatClampNeg (400 : Int32)) (Int32.toNatClampNeg (400 : Int32)) → am_kd h7 a0 = 5 ∧ ∀ h11, h11 = am_sr h7 a0 2 (some b8) → (¬ (5 : Int32) < (0 : Int32) ∧ (Int32.toNatClampNeg (5 : Int32)) ≤ 100000) ∧ ∀ b13, b13 = am_sz h11 → ∀ h12, h12 = am_nw h11 100 (Int32.toNatClampNeg (5 : Int32)) (Int32.toNatClampNeg (5 : Int32)) → am_kd h12 a0 = 5 ∧ ∀ h16, h16 = am_sr h12 a0 4 (some b13) → Q none h16) : Cl d 30 [.ref a0] h Q := by
  show Ev d 30 0 [.ref a0] [] h Q
  refine ev_p (pc' := 1) (loc' := [.ref a0]) (st' := [.ref a0]) 1 am_q30 rfl ?_
  refine ev_b (st' := []) (h1 := h) am_q30 rfl rfl rfl rfl (rfl) rfl ?_
  refine ev_p (pc' := 8) (loc' := [.ref a0]) (st' := [.int (400 : Int32), .ref a0]) 2 am_q30 rfl ?_
  obtain ⟨g4, H⟩ := H
  refine ev_s (pc' := 10) (loc' := [.ref a0]) (st' := [.ref (am_sz h), .ref a0]) (h1 := am_nw h 102 (Int32.toNatClampNeg (400 : Int32)) (Int32.toNatClampNeg (400 : Int32))) am_q30 rfl rfl rfl (if_pos (e := none) g4) ?_
  replace H := H _ rfl _ rfl
  generalize am_nw h 102 (Int32.toNatClampNeg (400 : Int32)) (Int32.toNatClampNeg (400 : Int32)) = h2 at H ⊢
  generalize am_sz h = b3 at H ⊢
  obtain ⟨g5, H⟩ := H
  refine ev_s (pc' := 13) (loc' := [.ref a0]) (st' := []) (h1 := am_sr h2 a0 0 (some b3)) am_q30 rfl rfl rfl (if_pos (e := none) g5) ?_
  replace H := H _ rfl
  generalize am_sr h2 a0 0 (some b3) = h6 at H ⊢
  refine ev_p (pc' := 17) (loc' := [.ref a0]) (st' := [.int (400 : Int32), .ref a0]) 2 am_q30 rfl ?_
  obtain ⟨g9, H⟩ := H
  refine ev_s (pc' := 19) (loc' := [.ref a0]) (st' := [.ref (am_sz h6), .ref a0]) (h1 := am_nw h6 100 (Int32.toNatClampNeg (400 : Int32)) (Int32.toNatClampNeg (400 : Int32))) am_q30 rfl rfl rfl (if_pos (e := none) g9) ?_
  replace H := H _ rfl _ rfl
  generalize am_nw h6 100 (Int32.toNatClampNeg (400 : Int32)) (Int32.toNatClampNeg (400 : Int32)) = h7 at H ⊢
  generalize am_sz h6 = b8 at H ⊢
  obtain ⟨g10, H⟩ := H
  refine ev_s (pc' := 22) (loc' := [.ref a0]) (st' := []) (h1 := am_sr h7 a0 2 (some b8)) am_q30 rfl rfl rfl (if_pos (e := none) g10) ?_
  replace H := H _ rfl
  generalize am_sr h7 a0 2 (some b8) = h11 at H ⊢
  refine ev_p (pc' := 24) (loc' := [.ref a0]) (st' := [.int (5 : Int32), .ref a0]) 2 am_q30 rfl ?_
  obtain ⟨g14, H⟩ := H
  refine ev_s (pc' := 26) (loc' := [.ref a0]) (st' := [.ref (am_sz h11), .ref a0]) (h1 := am_nw h11 100 (Int32.toNatClampNeg (5 : Int32)) (Int32.toNatClampNeg (5 : Int32))) am_q30 rfl rfl rfl (if_pos (e := none) g14) ?_
  replace H := H _ rfl _ rfl
  generalize am_nw h11 100 (Int32.toNatClampNeg (5 : Int32)) (Int32.toNatClampNeg (5 : Int32)) = h12 at H ⊢
  generalize am_sz h11 = b13 at H ⊢
  obtain ⟨g15, H⟩ := H
  refine ev_s (pc' := 29) (loc' := [.ref a0]) (st' := []) (h1 := am_sr h12 a0 4 (some b13)) am_q30 rfl rfl rfl (if_pos (e := none) g15) ?_
  replace H := H _ rfl
  generalize am_sr h12 a0 4 (some b13) = h16 at H ⊢
  exact ev_r (v := none) am_q30 rfl rfl rfl rfl H
/-! 31: X5_append -/
theorem am_q31 : (am_mt 31).2.2.2.2.2 = am_m31.2.2.2.2.2 := rfl
set_option maxRecDepth 20000 in
set_option maxHeartbeats 2000000 in
theorem wp31 {d : Nat} (a0 : Nat) (i1 : Int32) {h : AH} {Q : Option Value → AH → Prop} (H : am_kd h a0 = 5 ∧ ((400 : Int32) ≤ (am_gi h a0 1) → Q none h) ∧ (¬ (400 : Int32) ≤ (am_gi h a0 1) → am_kd h a0 = 5 ∧ ∃ b3, am_gr h a0 0 = some b3 ∧ am_kd h a0 = 5 ∧ (am_kd h b3 = 102 ∧ 6 ≤ b3) ∧ am_in (am_gi h a0 1) (am_ln h b3) ∧ ∀ h8, h8 = am_si h b3 (Int32.toNatClampNeg (am_gi h a0 1)) (Int32.toInt8 ((Int32.toInt8 i1).toInt32)).toInt32 → am_kd h8 a0 = 5 ∧ am_kd h8 a0 = 5 ∧ ∀ h11, h11 = am_si h8 a0 1 ((am_gi h8 a0 1) + (1 : Int32)) → Q none h11)) : Cl d 31 [.ref a0, .int i1] h Q := by
  show Ev d 31 0 [.ref a0, .int i1] [] h Q
  refine ev_p (pc' := 1) (loc' := [.ref a0, .int i1]) (st' := [.ref a0]) 1 am_q31 rfl ?_
  obtain ⟨g1, H⟩ := H
  refine ev_s (pc' := 4) (loc' := [.ref a0, .int i1]) (st' := [.int (am_gi h a0 1)]) (h1 := h) am_q31 rfl rfl rfl (if_pos (e := none) g1) ?_
  refine ev_p (pc' := 7) (loc' := [.ref a0, .int i1]) (st' := [.int (400 : Int32), .int (am_gi h a0 1)]) 1 am_q31 rfl ?_
  refine ev_jc (t := 31) am_q31 rfl rfl (fun hq => ?_) (fun hq => ?_)
  · replace H := H.1 hq
    exact ev_r (v := none) am_q31 rfl rfl rfl rfl H
  · replace H := H.2 hq
    refine ev_p (pc' := 11) (loc' := [.ref a0, .int i1]) (st' := [.ref a0]) 1 am_q31 rfl ?_
    obtain ⟨g2, b3, e4, H⟩ := H
    refine ev_s (pc' := 14) (loc' := [.ref a0, .int i1]) (st' := [.ref b3]) (h1 := h) am_q31 rfl rfl rfl (am_gf2 g2 e4) ?_
    refine ev_p (pc' := 15) (loc' := [.ref a0, .int i1]) (st' := [.ref a0, .ref b3]) 1 am_q31 rfl ?_
    obtain ⟨g5, H⟩ := H
    refine ev_s (pc' := 18) (loc' := [.ref a0, .int i1]) (st' := [.int (am_gi h a0 1), .ref b3]) (h1 := h) am_q31 rfl rfl rfl (if_pos (e := none) g5) ?_
    refine ev_p (pc' := 20) (loc' := [.ref a0, .int i1]) (st' := [.int ((Int32.toInt8 i1).toInt32), .int (am_gi h a0 1), .ref b3]) 2 am_q31 rfl ?_
    obtain ⟨g6, g7, H⟩ := H
    refine ev_s (pc' := 21) (loc' := [.ref a0, .int i1]) (st' := []) (h1 := am_si h b3 (Int32.toNatClampNeg (am_gi h a0 1)) (Int32.toInt8 ((Int32.toInt8 i1).toInt32)).toInt32) am_q31 rfl rfl rfl (am_xx g6 g7) ?_
    replace H := H _ rfl
    generalize am_si h b3 (Int32.toNatClampNeg (am_gi h a0 1)) (Int32.toInt8 ((Int32.toInt8 i1).toInt32)).toInt32 = h8 at H ⊢
    refine ev_p (pc' := 23) (loc' := [.ref a0, .int i1]) (st' := [.ref a0, .ref a0]) 2 am_q31 rfl ?_
    obtain ⟨g9, H⟩ := H
    refine ev_s (pc' := 26) (loc' := [.ref a0, .int i1]) (st' := [.int (am_gi h8 a0 1), .ref a0]) (h1 := h8) am_q31 rfl rfl rfl (if_pos (e := none) g9) ?_
    refine ev_p (pc' := 28) (loc' := [.ref a0, .int i1]) (st' := [.int ((am_gi h8 a0 1) + (1 : Int32)), .ref a0]) 2 am_q31 rfl ?_
    obtain ⟨g10, H⟩ := H
    refine ev_s (pc' := 31) (loc' := [.ref a0, .int i1]) (st' := []) (h1 := am_si h8 a0 1 ((am_gi h8 a0 1) + (1 : Int32))) am_q31 rfl rfl rfl (if_pos (e := none) g10) ?_
    replace H := H _ rfl
    generalize am_si h8 a0 1 ((am_gi h8 a0 1) + (1 : Int32)) = h11 at H ⊢
    exact ev_r (v := none) am_q31 rfl rfl rfl rfl H
/-! 32: X5_forget -/
theorem am_q32 : (am_mt 32).2.2.2.2.2 = am_m32.2.2.2.2.2 := rfl
set_option maxRecDepth 20000 in
set_option maxHeartbeats 2000000 in
theorem wp32 {d : Nat} (a0 : Nat) {h : AH} {Q : Option Value → AH → Prop} (H : am_kd h a0 = 5 ∧ ∀ h2, h2 = am_si h a0 1 (0 : Int32) → Q none h2) : Cl d 32 [.ref a0] h Q := by
  show Ev d 32 0 [.ref a0] [] h Q
  refine ev_p (pc' := 2) (loc' := [.ref a0]) (st' := [.int (0 : Int32), .ref a0]) 2 am_q32 rfl ?_
  obtain ⟨g1, H⟩ := H
  refine ev_s (pc' := 5) (loc' := [.ref a0]) (st' := []) (h1 := am_si h a0 1 (0 : Int32)) am_q32 rfl rfl rfl (if_pos (e := none) g1) ?_
  replace H := H _ rfl
  generalize am_si h a0 1 (0 : Int32) = h2 at H ⊢
  exact ev_r (v := none) am_q32 rfl rfl rfl rfl H
/-! 33: X5_read -/
theorem am_q33 : (am_mt 33).2.2.2.2.2 = am_m33.2.2.2.2.2 := rfl
set_option maxRecDepth 20000 in
set_option maxHeartbeats 2000000 in
theorem wp33 {d : Nat} (a0 : Nat) {h : AH} {Q : Option Value → AH → Prop} (H : am_kd h a0 = 5 ∧ ∀ h2, h2 = am_si h a0 8 (0 : Int32) → am_kd h2 a0 = 5 ∧ ∀ h4, h4 = am_si h2 a0 3 (0 : Int32) → am_kd h4 a0 = 5 ∧ ∀ h6, h6 = am_si h4 a0 12 (-1 : Int32) → am_kd h6 a0 = 5 ∧ ∀ h8, h8 = am_si h6 a0 5 (0 : Int32) → am_kd h8 a0 = 5 ∧ ∀ h10, h10 = am_si h8 a0 6 (-1 : Int32) → am_kd h10 a0 = 5 ∧ Cl d 44 [.ref a0] h10 (fun r12 h11 => r12 = none ∧ am_kd h11 a0 = 5 ∧ ∀ h15, h15 = am_si h11 a0 7 (0 : Int32) → Ev (d + 1) 33 36 [.ref a0, .int (1 : Int32)] [] h15 Q)) : Cl (d + 1) 33 [.ref a0] h Q := by
  show Ev (d + 1) 33 0 [.ref a0, .null] [] h Q
  refine ev_p (pc' := 2) (loc' := [.ref a0, .null]) (st' := [.int (0 : Int32), .ref a0]) 2 am_q33 rfl ?_
  obtain ⟨g1, H⟩ := H
  refine ev_s (pc' := 5) (loc' := [.ref a0, .null]) (st' := []) (h1 := am_si h a0 8 (0 : Int32)) am_q33 rfl rfl rfl (if_pos (e := none) g1) ?_
  replace H := H _ rfl
  generalize am_si h a0 8 (0 : Int32) = h2 at H ⊢
  refine ev_p (pc' := 7) (loc' := [.ref a0, .null]) (st' := [.int (0 : Int32), .ref a0]) 2 am_q33 rfl ?_
  obtain ⟨g3, H⟩ := H
  refine ev_s (pc' := 10) (loc' := [.ref a0, .null]) (st' := []) (h1 := am_si h2 a0 3 (0 : Int32)) am_q33 rfl rfl rfl (if_pos (e := none) g3) ?_
  replace H := H _ rfl
  generalize am_si h2 a0 3 (0 : Int32) = h4 at H ⊢
  refine ev_p (pc' := 12) (loc' := [.ref a0, .null]) (st' := [.int (-1 : Int32), .ref a0]) 2 am_q33 rfl ?_
  obtain ⟨g5, H⟩ := H
  refine ev_s (pc' := 15) (loc' := [.ref a0, .null]) (st' := []) (h1 := am_si h4 a0 12 (-1 : Int32)) am_q33 rfl rfl rfl (if_pos (e := none) g5) ?_
  replace H := H _ rfl
  generalize am_si h4 a0 12 (-1 : Int32) = h6 at H ⊢
  refine ev_p (pc' := 17) (loc' := [.ref a0, .null]) (st' := [.int (0 : Int32), .ref a0]) 2 am_q33 rfl ?_
  obtain ⟨g7, H⟩ := H
  refine ev_s (pc' := 20) (loc' := [.ref a0, .null]) (st' := []) (h1 := am_si h6 a0 5 (0 : Int32)) am_q33 rfl rfl rfl (if_pos (e := none) g7) ?_
  replace H := H _ rfl
  generalize am_si h6 a0 5 (0 : Int32) = h8 at H ⊢
  refine ev_p (pc' := 22) (loc' := [.ref a0, .null]) (st' := [.int (-1 : Int32), .ref a0]) 2 am_q33 rfl ?_
  obtain ⟨g9, H⟩ := H
  refine ev_s (pc' := 25) (loc' := [.ref a0, .null]) (st' := []) (h1 := am_si h8 a0 6 (-1 : Int32)) am_q33 rfl rfl rfl (if_pos (e := none) g9) ?_
  replace H := H _ rfl
  generalize am_si h8 a0 6 (-1 : Int32) = h10 at H ⊢
  refine ev_p (pc' := 26) (loc' := [.ref a0, .null]) (st' := [.ref a0]) 1 am_q33 rfl ?_
  obtain ⟨g13, H⟩ := H
  refine ev_c (vs := [.ref a0]) (rest := []) 44 am_q33 rfl rfl rfl rfl rfl rfl rfl rfl rfl rfl rfl rfl (Or.inr (congrArg some g13)) (Cl.mono H (Nat.le_refl _) (fun r12 h11 H => ?_))
  obtain ⟨rfl, H⟩ := H
  refine ev_p (pc' := 33) (loc' := [.ref a0, .int (1 : Int32)]) (st' := [.int (0 : Int32), .ref a0]) 4 am_q33 rfl ?_
  obtain ⟨g14, H⟩ := H
  refine ev_s (pc' := 36) (loc' := [.ref a0, .int (1 : Int32)]) (st' := []) (h1 := am_si h11 a0 7 (0 : Int32)) am_q33 rfl rfl rfl (if_pos (e := none) g14) ?_
  replace H := H _ rfl
  generalize am_si h11 a0 7 (0 : Int32) = h15 at H ⊢
  exact ev_m (loc' := [.ref a0, .int (1 : Int32)]) am_q33 rfl rfl H
set_option maxRecDepth 20000 in
set_option maxHeartbeats 2000000 in
theorem wp33_36 {d : Nat} (a0 : Nat) (i1 : Int32) {h : AH} {Q : Option Value → AH → Prop} (H : am_kd h a0 = 5 ∧ ((4 : Int32) ≤ (am_gi h a0 7) → Ev (d + 1) 33 111 [.ref a0, .int i1] [] h Q) ∧ (¬ (4 : Int32) ≤ (am_gi h a0 7) → (i1 = (0 : Int32) → Ev (d + 1) 33 111 [.ref a0, .int i1] [] h Q) ∧ (¬ i1 = (0 : Int32) → am_kd h a0 = 5 ∧ ∃ b3, am_gr h a0 4 = some b3 ∧ am_kd h a0 = 5 ∧ am_kd h a0 = 5 ∧ (am_kd h b3 = 100 ∧ 6 ≤ b3) ∧ am_in (am_gi h a0 7) (am_ln h b3) ∧ ∀ h9, h9 = am_si h b3 (Int32.toNatClampNeg (am_gi h a0 7)) (am_gi h a0 3) → am_kd h9 a0 = 5 ∧ am_kd h9 a0 = 5 ∧ Cl d 42 [.ref a0, .int ((8 : Int32) + (am_gi h9 a0 7))] h9 (fun r12 h11 => ∃ x14, r12 = some (.int x14) ∧ (x14 = (0 : Int32) → Ev (d + 1) 33 96 [.ref a0, .null] [] h11 Q) ∧ (¬ x14 = (0 : Int32) → am_kd h11 a0 = 5 ∧ Cl d 34 [.ref a0, .int (0 : Int32)] h11 (fun r16 h15 => ∃ x18, r16 = some (.int x18) ∧ (x18 = (0 : Int32) → Ev (d + 1) 33 96 [.ref a0, .null] [] h15 Q) ∧ (¬ x18 = (0 : Int32) → am_kd h15 a0 = 5 ∧ Cl d 42 [.ref a0, .int (59 : Int32)] h15 (fun r20 h19 => ∃ x22, r20 = some (.int x22) ∧ (x22 = (0 : Int32) → Ev (d + 1) 33 96 [.ref a0, .null] [] h19 Q) ∧ (¬ x22 = (0 : Int32) → am_kd h19 a0 = 5 ∧ am_kd h19 a0 = 5 ∧ ∀ h25, h25 = am_si h19 a0 7 ((am_gi h19 a0 7) + (1 : Int32)) → Ev (d + 1) 33 36 [.ref a0, .int (1 : Int32)] [] h25 Q))))))))) : Ev (d + 1) 33 36 [.ref a0, .int i1] [] h Q := by
  refine ev_p (pc' := 37) (loc' := [.ref a0, .int i1]) (st' := [.ref a0]) 1 am_q33 rfl ?_
  obtain ⟨g1, H⟩ := H
  refine ev_s (pc' := 40) (loc' := [.ref a0, .int i1]) (st' := [.int (am_gi h a0 7)]) (h1 := h) am_q33 rfl rfl rfl (if_pos (e := none) g1) ?_
  refine ev_p (pc' := 41) (loc' := [.ref a0, .int i1]) (st' := [.int (4 : Int32), .int (am_gi h a0 7)]) 1 am_q33 rfl ?_
  refine ev_jc (t := 111) am_q33 rfl rfl (fun hq => ?_) (fun hq => ?_)
  · replace H := H.1 hq
    exact ev_m (loc' := [.ref a0, .int i1]) am_q33 rfl rfl H
  · replace H := H.2 hq
    refine ev_p (pc' := 45) (loc' := [.ref a0, .int i1]) (st' := [.int i1]) 1 am_q33 rfl ?_
    refine ev_jz (t := 111) am_q33 rfl rfl (fun hq => ?_) (fun hq => ?_)
    · replace H := H.1 hq
      exact ev_m (loc' := [.ref a0, .int i1]) am_q33 rfl rfl H
    · replace H := H.2 hq
      refine ev_p (pc' := 49) (loc' := [.ref a0, .int i1]) (st' := [.ref a0]) 1 am_q33 rfl ?_
      obtain ⟨g2, b3, e4, H⟩ := H
      refine ev_s (pc' := 52) (loc' := [.ref a0, .int i1]) (st' := [.ref b3]) (h1 := h) am_q33 rfl rfl rfl (am_gf2 g2 e4) ?_
      refine ev_p (pc' := 53) (loc' := [.ref a0, .int i1]) (st' := [.ref a0, .ref b3]) 1 am_q33 rfl ?_
      obtain ⟨g5, H⟩ := H
      refine ev_s (pc' := 56) (loc' := [.ref a0, .int i1]) (st' := [.int (am_gi h a0 7), .ref b3]) (h1 := h) am_q33 rfl rfl rfl (if_pos (e := none) g5) ?_
      refine ev_p (pc' := 57) (loc' := [.ref a0, .int i1]) (st' := [.ref a0, .int (am_gi h a0 7), .ref b3]) 1 am_q33 rfl ?_
      obtain ⟨g6, H⟩ := H
      refine ev_s (pc' := 60) (loc' := [.ref a0, .int i1]) (st' := [.int (am_gi h a0 3), .int (am_gi h a0 7), .ref b3]) (h1 := h) am_q33 rfl rfl rfl (if_pos (e := none) g6) ?_
      obtain ⟨g7, g8, H⟩ := H
      refine ev_s (pc' := 61) (loc' := [.ref a0, .int i1]) (st' := []) (h1 := am_si h b3 (Int32.toNatClampNeg (am_gi h a0 7)) (am_gi h a0 3)) am_q33 rfl rfl rfl (am_xx g7 g8) ?_
      replace H := H _ rfl
      generalize am_si h b3 (Int32.toNatClampNeg (am_gi h a0 7)) (am_gi h a0 3) = h9 at H ⊢
      refine ev_p (pc' := 65) (loc' := [.ref a0, .int i1]) (st' := [.ref a0, .int (8 : Int32), .ref a0]) 3 am_q33 rfl ?_
      obtain ⟨g10, H⟩ := H
      refine ev_s (pc' := 68) (loc' := [.ref a0, .int i1]) (st' := [.int (am_gi h9 a0 7), .int (8 : Int32), .ref a0]) (h1 := h9) am_q33 rfl rfl rfl (if_pos (e := none) g10) ?_
      refine ev_p (pc' := 69) (loc' := [.ref a0, .int i1]) (st' := [.int ((8 : Int32) + (am_gi h9 a0 7)), .ref a0]) 1 am_q33 rfl ?_
      obtain ⟨g13, H⟩ := H
      refine ev_c (vs := [.ref a0, .int ((8 : Int32) + (am_gi h9 a0 7))]) (rest := []) 42 am_q33 rfl rfl rfl rfl rfl rfl rfl rfl rfl rfl rfl rfl (Or.inr (congrArg some g13)) (Cl.mono H (Nat.le_refl _) (fun r12 h11 H => ?_))
      obtain ⟨x14, rfl, H⟩ := H
      refine ev_jz (t := 96) am_q33 rfl rfl (fun hq => ?_) (fun hq => ?_)
      · replace H := H.1 hq
        exact ev_m (loc' := [.ref a0, .null]) am_q33 rfl rfl H
      · replace H := H.2 hq
        refine ev_p (pc' := 77) (loc' := [.ref a0, .int i1]) (st' := [.int (0 : Int32), .ref a0]) 2 am_q33 rfl ?_
        obtain ⟨g17, H⟩ := H
        refine ev_c (vs := [.ref a0, .int (0 : Int32)]) (rest := []) 34 am_q33 rfl rfl rfl rfl rfl rfl rfl rfl rfl rfl rfl rfl (Or.inr (congrArg some g17)) (Cl.mono H (Nat.le_refl _) (fun r16 h15 H => ?_))
        obtain ⟨x18, rfl, H⟩ := H
        refine ev_jz (t := 96) am_q33 rfl rfl (fun hq => ?_) (fun hq => ?_)
        · replace H := H.1 hq
          exact ev_m (loc' := [.ref a0, .null]) am_q33 rfl rfl H
        · replace H := H.2 hq
          refine ev_p (pc' := 86) (loc' := [.ref a0, .int i1]) (st' := [.int (59 : Int32), .ref a0]) 2 am_q33 rfl ?_
          obtain ⟨g21, H⟩ := H
          refine ev_c (vs := [.ref a0, .int (59 : Int32)]) (rest := []) 42 am_q33 rfl rfl rfl rfl rfl rfl rfl rfl rfl rfl rfl rfl (Or.inr (congrArg some g21)) (Cl.mono H (Nat.le_refl _) (fun r20 h19 H => ?_))
          obtain ⟨x22, rfl, H⟩ := H
          refine ev_jz (t := 96) am_q33 rfl rfl (fun hq => ?_) (fun hq => ?_)
          · replace H := H.1 hq
            exact ev_m (loc' := [.ref a0, .null]) am_q33 rfl rfl H
          · replace H := H.2 hq
            refine ev_p (pc' := 100) (loc' := [.ref a0, .int (1 : Int32)]) (st' := [.ref a0, .ref a0]) 5 am_q33 rfl ?_
            obtain ⟨g23, H⟩ := H
            refine ev_s (pc' := 103) (loc' := [.ref a0, .int (1 : Int32)]) (st' := [.int (am_gi h19 a0 7), .ref a0]) (h1 := h19) am_q33 rfl rfl rfl (if_pos (e := none) g23) ?_
            refine ev_p (pc' := 105) (loc' := [.ref a0, .int (1 : Int32)]) (st' := [.int ((am_gi h19 a0 7) + (1 : Int32)), .ref a0]) 2 am_q33 rfl ?_
            obtain ⟨g24, H⟩ := H
            refine ev_s (pc' := 108) (loc' := [.ref a0, .int (1 : Int32)]) (st' := []) (h1 := am_si h19 a0 7 ((am_gi h19 a0 7) + (1 : Int32))) am_q33 rfl rfl rfl (if_pos (e := none) g24) ?_
            replace H := H _ rfl
            generalize am_si h19 a0 7 ((am_gi h19 a0 7) + (1 : Int32)) = h25 at H ⊢
            refine ev_p (pc' := 36) (loc' := [.ref a0, .int (1 : Int32)]) (st' := []) 1 am_q33 rfl ?_
            exact ev_m (loc' := [.ref a0, .int (1 : Int32)]) am_q33 rfl rfl H
set_option maxRecDepth 20000 in
set_option maxHeartbeats 2000000 in
theorem wp33_96 {d : Nat} (a0 : Nat) {h : AH} {Q : Option Value → AH → Prop} (H : am_kd h a0 = 5 ∧ am_kd h a0 = 5 ∧ ∀ h3, h3 = am_si h a0 7 ((am_gi h a0 7) + (1 : Int32)) → Ev (d + 1) 33 36 [.ref a0, .int (0 : Int32)] [] h3 Q) : Ev (d + 1) 33 96 [.ref a0, .null] [] h Q := by
  refine ev_p (pc' := 100) (loc' := [.ref a0, .int (0 : Int32)]) (st' := [.ref a0, .ref a0]) 4 am_q33 rfl ?_
  obtain ⟨g1, H⟩ := H
  refine ev_s (pc' := 103) (loc' := [.ref a0, .int (0 : Int32)]) (st' := [.int (am_gi h a0 7), .ref a0]) (h1 := h) am_q33 rfl rfl rfl (if_pos (e := none) g1) ?_
  refine ev_p (pc' := 105) (loc' := [.ref a0, .int (0 : Int32)]) (st' := [.int ((am_gi h a0 7) + (1 : Int32)), .ref a0]) 2 am_q33 rfl ?_
  obtain ⟨g2, H⟩ := H
  refine ev_s (pc' := 108) (loc' := [.ref a0, .int (0 : Int32)]) (st' := []) (h1 := am_si h a0 7 ((am_gi h a0 7) + (1 : Int32))) am_q33 rfl rfl rfl (if_pos (e := none) g2) ?_
  replace H := H _ rfl
  generalize am_si h a0 7 ((am_gi h a0 7) + (1 : Int32)) = h3 at H ⊢
  refine ev_p (pc' := 36) (loc' := [.ref a0, .int (0 : Int32)]) (st' := []) 1 am_q33 rfl ?_
  exact ev_m (loc' := [.ref a0, .int (0 : Int32)]) am_q33 rfl rfl H
set_option maxRecDepth 20000 in
set_option maxHeartbeats 2000000 in
theorem wp33_111 {d : Nat} (a0 : Nat) (i1 : Int32) {h : AH} {Q : Option Value → AH → Prop} (H : am_kd h a0 = 5 ∧ ∃ b2, am_gr h a0 4 = some b2 ∧ am_kd h a0 = 5 ∧ (am_kd h b2 = 100 ∧ 6 ≤ b2) ∧ am_in (4 : Int32) (am_ln h b2) ∧ ∀ h7, h7 = am_si h b2 (Int32.toNatClampNeg (4 : Int32)) (am_gi h a0 3) → (i1 = (0 : Int32) → am_kd h7 a0 = 5 ∧ ∀ h9, h9 = am_si h7 a0 5 (1 : Int32) → am_kd h9 a0 = 5 ∧ am_kd h9 a0 = 5 ∧ ∀ h12, h12 = am_si h9 a0 6 (am_gi h9 a0 10) → Q none h12) ∧ (¬ i1 = (0 : Int32) → am_kd h7 a0 = 5 ∧ ((am_gi h7 a0 9) = (0 : Int32) → am_kd h7 a0 = 5 ∧ ((am_gi h7 a0 12) = (-1 : Int32) → Q none h7) ∧ (¬ (am_gi h7 a0 12) = (-1 : Int32) → am_kd h7 a0 = 5 ∧ ∀ h16, h16 = am_si h7 a0 5 (2 : Int32) → am_kd h16 a0 = 5 ∧ am_kd h16 a0 = 5 ∧ ∀ h19, h19 = am_si h16 a0 6 (am_gi h16 a0 12) → Q none h19)) ∧ (¬ (am_gi h7 a0 9) = (0 : Int32) → am_kd h7 a0 = 5 ∧ ∀ h21, h21 = am_si h7 a0 5 (1 : Int32) → am_kd h21 a0 = 5 ∧ am_kd h21 a0 = 5 ∧ ∀ h24, h24 = am_si h21 a0 6 (am_gi h21 a0 10) → Q none h24))) : Ev (d + 1) 33 111 [.ref a0, .int i1] [] h Q := by
  refine ev_p (pc' := 112) (loc' := [.ref a0, .int i1]) (st' := [.ref a0]) 1 am_q33 rfl ?_
  obtain ⟨g1, b2, e3, H⟩ := H
  refine ev_s (pc' := 115) (loc' := [.ref a0, .int i1]) (st' := [.ref b2]) (h1 := h) am_q33 rfl rfl rfl (am_gf2 g1 e3) ?_
  refine ev_p (pc' := 117) (loc' := [.ref a0, .int i1]) (st' := [.ref a0, .int (4 : Int32), .ref b2]) 2 am_q33 rfl ?_
  obtain ⟨g4, H⟩ := H
  refine ev_s (pc' := 120) (loc' := [.ref a0, .int i1]) (st' := [.int (am_gi h a0 3), .int (4 : Int32), .ref b2]) (h1 := h) am_q33 rfl rfl rfl (if_pos (e := none) g4) ?_
  obtain ⟨g5, g6, H⟩ := H
  refine ev_s (pc' := 121) (loc' := [.ref a0, .int i1]) (st' := []) (h1 := am_si h b2 (Int32.toNatClampNeg (4 : Int32)) (am_gi h a0 3)) am_q33 rfl rfl rfl (am_xx g5 g6) ?_
  replace H := H _ rfl
  generalize am_si h b2 (Int32.toNatClampNeg (4 : Int32)) (am_gi h a0 3) = h7 at H ⊢
  refine ev_p (pc' := 122) (loc' := [.ref a0, .int i1]) (st' := [.int i1]) 1 am_q33 rfl ?_
  refine ev_jz (t := 132) am_q33 rfl rfl (fun hq => ?_) (fun hq => ?_)
  · replace H := H.1 hq
    refine ev_p (pc' := 134) (loc' := [.ref a0, .null]) (st' := [.int (1 : Int32), .ref a0]) 2 am_q33 rfl ?_
    obtain ⟨g8, H⟩ := H
    refine ev_s (pc' := 137) (loc' := [.ref a0, .null]) (st' := []) (h1 := am_si h7 a0 5 (1 : Int32)) am_q33 rfl rfl rfl (if_pos (e := none) g8) ?_
    replace H := H _ rfl
    generalize am_si h7 a0 5 (1 : Int32) = h9 at H ⊢
    refine ev_p (pc' := 139) (loc' := [.ref a0, .null]) (st' := [.ref a0, .ref a0]) 2 am_q33 rfl ?_
    obtain ⟨g10, H⟩ := H
    refine ev_s (pc' := 142) (loc' := [.ref a0, .null]) (st' := [.int (am_gi h9 a0 10), .ref a0]) (h1 := h9) am_q33 rfl rfl rfl (if_pos (e := none) g10) ?_
    obtain ⟨g11, H⟩ := H
    refine ev_s (pc' := 145) (loc' := [.ref a0, .null]) (st' := []) (h1 := am_si h9 a0 6 (am_gi h9 a0 10)) am_q33 rfl rfl rfl (if_pos (e := none) g11) ?_
    replace H := H _ rfl
    generalize am_si h9 a0 6 (am_gi h9 a0 10) = h12 at H ⊢
    refine ev_p (pc' := 169) (loc' := [.ref a0, .null]) (st' := []) 1 am_q33 rfl ?_
    exact ev_r (v := none) am_q33 rfl rfl rfl rfl H
  · replace H := H.2 hq
    refine ev_p (pc' := 126) (loc' := [.ref a0, .int i1]) (st' := [.ref a0]) 1 am_q33 rfl ?_
    obtain ⟨g13, H⟩ := H
    refine ev_s (pc' := 129) (loc' := [.ref a0, .int i1]) (st' := [.int (am_gi h7 a0 9)]) (h1 := h7) am_q33 rfl rfl rfl (if_pos (e := none) g13) ?_
    refine ev_jz (t := 148) am_q33 rfl rfl (fun hq => ?_) (fun hq => ?_)
    · replace H := H.1 hq
      refine ev_p (pc' := 149) (loc' := [.ref a0, .int i1]) (st' := [.ref a0]) 1 am_q33 rfl ?_
      obtain ⟨g14, H⟩ := H
      refine ev_s (pc' := 152) (loc' := [.ref a0, .int i1]) (st' := [.int (am_gi h7 a0 12)]) (h1 := h7) am_q33 rfl rfl rfl (if_pos (e := none) g14) ?_
      refine ev_p (pc' := 153) (loc' := [.ref a0, .int i1]) (st' := [.int (-1 : Int32), .int (am_gi h7 a0 12)]) 1 am_q33 rfl ?_
      refine ev_jc (t := 169) am_q33 rfl rfl (fun hq => ?_) (fun hq => ?_)
      · replace H := H.1 hq
        exact ev_r (v := none) am_q33 rfl rfl rfl rfl H
      · replace H := H.2 hq
        refine ev_p (pc' := 158) (loc' := [.ref a0, .int i1]) (st' := [.int (2 : Int32), .ref a0]) 2 am_q33 rfl ?_
        obtain ⟨g15, H⟩ := H
        refine ev_s (pc' := 161) (loc' := [.ref a0, .int i1]) (st' := []) (h1 := am_si h7 a0 5 (2 : Int32)) am_q33 rfl rfl rfl (if_pos (e := none) g15) ?_
        replace H := H _ rfl
        generalize am_si h7 a0 5 (2 : Int32) = h16 at H ⊢
        refine ev_p (pc' := 163) (loc' := [.ref a0, .int i1]) (st' := [.ref a0, .ref a0]) 2 am_q33 rfl ?_
        obtain ⟨g17, H⟩ := H
        refine ev_s (pc' := 166) (loc' := [.ref a0, .int i1]) (st' := [.int (am_gi h16 a0 12), .ref a0]) (h1 := h16) am_q33 rfl rfl rfl (if_pos (e := none) g17) ?_
        obtain ⟨g18, H⟩ := H
        refine ev_s (pc' := 169) (loc' := [.ref a0, .int i1]) (st' := []) (h1 := am_si h16 a0 6 (am_gi h16 a0 12)) am_q33 rfl rfl rfl (if_pos (e := none) g18) ?_
        replace H := H _ rfl
        generalize am_si h16 a0 6 (am_gi h16 a0 12) = h19 at H ⊢
        exact ev_r (v := none) am_q33 rfl rfl rfl rfl H
    · replace H := H.2 hq
      refine ev_p (pc' := 134) (loc' := [.ref a0, .null]) (st' := [.int (1 : Int32), .ref a0]) 2 am_q33 rfl ?_
      obtain ⟨g20, H⟩ := H
      refine ev_s (pc' := 137) (loc' := [.ref a0, .null]) (st' := []) (h1 := am_si h7 a0 5 (1 : Int32)) am_q33 rfl rfl rfl (if_pos (e := none) g20) ?_
      replace H := H _ rfl
      generalize am_si h7 a0 5 (1 : Int32) = h21 at H ⊢
      refine ev_p (pc' := 139) (loc' := [.ref a0, .null]) (st' := [.ref a0, .ref a0]) 2 am_q33 rfl ?_
      obtain ⟨g22, H⟩ := H
      refine ev_s (pc' := 142) (loc' := [.ref a0, .null]) (st' := [.int (am_gi h21 a0 10), .ref a0]) (h1 := h21) am_q33 rfl rfl rfl (if_pos (e := none) g22) ?_
      obtain ⟨g23, H⟩ := H
      refine ev_s (pc' := 145) (loc' := [.ref a0, .null]) (st' := []) (h1 := am_si h21 a0 6 (am_gi h21 a0 10)) am_q33 rfl rfl rfl (if_pos (e := none) g23) ?_
      replace H := H _ rfl
      generalize am_si h21 a0 6 (am_gi h21 a0 10) = h24 at H ⊢
      refine ev_p (pc' := 169) (loc' := [.ref a0, .null]) (st' := []) 1 am_q33 rfl ?_
      exact ev_r (v := none) am_q33 rfl rfl rfl rfl H
/-! 34: X5_readOr -/
theorem am_q34 : (am_mt 34).2.2.2.2.2 = am_m34.2.2.2.2.2 := rfl
set_option maxRecDepth 20000 in
set_option maxHeartbeats 2000000 in
theorem wp34 {d : Nat} (a0 : Nat) (i1 : Int32) {h : AH} {Q : Option Value → AH → Prop} (H : am_kd h a0 = 5 ∧ Cl d 35 [.ref a0, .int i1] h (fun r2 h1 => ∃ x4, r2 = some (.int x4) ∧ ((¬ x4 = (0 : Int32)) → Ev (d + 1) 34 12 [.ref a0, .int i1, .int (0 : Int32)] [] h1 Q) ∧ (¬ (¬ x4 = (0 : Int32)) → Q (some (.int (0 : Int32))) h1))) : Cl (d + 1) 34 [.ref a0, .int i1] h Q := by
  show Ev (d + 1) 34 0 [.ref a0, .int i1, .null] [] h Q
  refine ev_p (pc' := 2) (loc' := [.ref a0, .int i1, .null]) (st' := [.int i1, .ref a0]) 2 am_q34 rfl ?_
  obtain ⟨g3, H⟩ := H
  refine ev_c (vs := [.ref a0, .int i1]) (rest := []) 35 am_q34 rfl rfl rfl rfl rfl rfl rfl rfl rfl rfl rfl rfl (Or.inr (congrArg some g3)) (Cl.mono H (Nat.le_refl _) (fun r2 h1 H => ?_))
  obtain ⟨x4, rfl, H⟩ := H
  refine ev_jz (t := 10) am_q34 rfl rfl (fun hq => ?_) (fun hq => ?_)
  · replace H := H.1 hq
    refine ev_p (pc' := 12) (loc' := [.ref a0, .int i1, .int (0 : Int32)]) (st' := []) 2 am_q34 rfl ?_
    exact ev_m (loc' := [.ref a0, .int i1, .int (0 : Int32)]) am_q34 rfl rfl H
  · replace H := H.2 hq
    refine ev_p (pc' := 9) (loc' := [.ref a0, .int i1, .null]) (st' := [.int (0 : Int32)]) 1 am_q34 rfl ?_
    exact ev_r (v := some (.int (0 : Int32))) am_q34 rfl rfl rfl rfl H
set_option maxRecDepth 20000 in
set_option maxHeartbeats 2000000 in
theorem wp34_12 {d : Nat} (a0 : Nat) (i1 : Int32) (i2 : Int32) {h : AH} {Q : Option Value → AH → Prop} (H : ((400 : Int32) ≤ i2 → Q (some (.int (1 : Int32))) h) ∧ (¬ (400 : Int32) ≤ i2 → am_kd h a0 = 5 ∧ ((¬ (am_gi h a0 9) = (12 : Int32)) → Q (some (.int (1 : Int32))) h) ∧ (¬ (¬ (am_gi h a0 9) = (12 : Int32)) → am_kd h a0 = 5 ∧ Cl d 44 [.ref a0] h (fun r3 h2 => r3 = none ∧ am_kd h2 a0 = 5 ∧ Cl d 35 [.ref a0, .int i1] h2 (fun r6 h5 => ∃ x8, r6 = some (.int x8) ∧ ((¬ x8 = (0 : Int32)) → am_kd h5 a0 = 5 ∧ Cl d 43 [.ref a0, .int (-21 : Int32)] h5 (fun r10 h9 => r10 = none ∧ Ev (d + 1) 34 12 [.ref a0, .int i1, .int (i2 + (1 : Int32))] [] h9 Q)) ∧ (¬ (¬ x8 = (0 : Int32)) → Q (some (.int (0 : Int32))) h5)))))) : Ev (d + 1) 34 12 [.ref a0, .int i1, .int i2] [] h Q := by
  refine ev_p (pc' := 16) (loc' := [.ref a0, .int i1, .int i2]) (st' := [.int (400 : Int32), .int i2]) 2 am_q34 rfl ?_
  refine ev_jc (t := 54) am_q34 rfl rfl (fun hq => ?_) (fun hq => ?_)
  · replace H := H.1 hq
    refine ev_p (pc' := 55) (loc' := [.null, .null, .null]) (st' := [.int (1 : Int32)]) 1 am_q34 rfl ?_
    exact ev_r (v := some (.int (1 : Int32))) am_q34 rfl rfl rfl rfl H
  · replace H := H.2 hq
    refine ev_p (pc' := 20) (loc' := [.ref a0, .int i1, .int i2]) (st' := [.ref a0]) 1 am_q34 rfl ?_
    obtain ⟨g1, H⟩ := H
    refine ev_s (pc' := 23) (loc' := [.ref a0, .int i1, .int i2]) (st' := [.int (am_gi h a0 9)]) (h1 := h) am_q34 rfl rfl rfl (if_pos (e := none) g1) ?_
    refine ev_p (pc' := 25) (loc' := [.ref a0, .int i1, .int i2]) (st' := [.int (12 : Int32), .int (am_gi h a0 9)]) 1 am_q34 rfl ?_
    refine ev_jc (t := 54) am_q34 rfl rfl (fun hq => ?_) (fun hq => ?_)
    · replace H := H.1 hq
      refine ev_p (pc' := 55) (loc' := [.null, .null, .null]) (st' := [.int (1 : Int32)]) 1 am_q34 rfl ?_
      exact ev_r (v := some (.int (1 : Int32))) am_q34 rfl rfl rfl rfl H
    · replace H := H.2 hq
      refine ev_p (pc' := 29) (loc' := [.ref a0, .int i1, .int i2]) (st' := [.ref a0]) 1 am_q34 rfl ?_
      obtain ⟨g4, H⟩ := H
      refine ev_c (vs := [.ref a0]) (rest := []) 44 am_q34 rfl rfl rfl rfl rfl rfl rfl rfl rfl rfl rfl rfl (Or.inr (congrArg some g4)) (Cl.mono H (Nat.le_refl _) (fun r3 h2 H => ?_))
      obtain ⟨rfl, H⟩ := H
      refine ev_p (pc' := 34) (loc' := [.ref a0, .int i1, .int i2]) (st' := [.int i1, .ref a0]) 2 am_q34 rfl ?_
      obtain ⟨g7, H⟩ := H
      refine ev_c (vs := [.ref a0, .int i1]) (rest := []) 35 am_q34 rfl rfl rfl rfl rfl rfl rfl rfl rfl rfl rfl rfl (Or.inr (congrArg some g7)) (Cl.mono H (Nat.le_refl _) (fun r6 h5 H => ?_))
      obtain ⟨x8, rfl, H⟩ := H
      refine ev_jz (t := 42) am_q34 rfl rfl (fun hq => ?_) (fun hq => ?_)
      · replace H := H.1 hq
        refine ev_p (pc' := 45) (loc' := [.ref a0, .int i1, .int i2]) (st' := [.int (-21 : Int32), .ref a0]) 2 am_q34 rfl ?_
        obtain ⟨g11, H⟩ := H
        refine ev_c (vs := [.ref a0, .int (-21 : Int32)]) (rest := []) 43 am_q34 rfl rfl rfl rfl rfl rfl rfl rfl rfl rfl rfl rfl (Or.inr (congrArg some g11)) (Cl.mono H (Nat.le_refl _) (fun r10 h9 H => ?_))
        obtain ⟨rfl, H⟩ := H
        refine ev_p (pc' := 12) (loc' := [.ref a0, .int i1, .int (i2 + (1 : Int32))]) (st' := []) 2 am_q34 rfl ?_
        exact ev_m (loc' := [.ref a0, .int i1, .int (i2 + (1 : Int32))]) am_q34 rfl rfl H
      · replace H := H.2 hq
        refine ev_p (pc' := 41) (loc' := [.ref a0, .int i1, .int i2]) (st' := [.int (0 : Int32)]) 1 am_q34 rfl ?_
        exact ev_r (v := some (.int (0 : Int32))) am_q34 rfl rfl rfl rfl H
/-! 35: X5_readAnd -/
theorem am_q35 : (am_mt 35).2.2.2.2.2 = am_m35.2.2.2.2.2 := rfl
set_option maxRecDepth 20000 in
set_option maxHeartbeats 2000000 in
theorem wp35 {d : Nat} (a0 : Nat) (i1 : Int32) {h : AH} {Q : Option Value → AH → Prop} (H : am_kd h a0 = 5 ∧ Cl d 36 [.ref a0, .int i1] h (fun r2 h1 => ∃ x4, r2 = some (.int x4) ∧ ((¬ x4 = (0 : Int32)) → Ev (d + 1) 35 12 [.ref a0, .int i1, .int (0 : Int32)] [] h1 Q) ∧ (¬ (¬ x4 = (0 : Int32)) → Q (some (.int (0 : Int32))) h1))) : Cl (d + 1) 35 [.ref a0, .int i1] h Q := by
  show Ev (d + 1) 35 0 [.ref a0, .int i1, .null] [] h Q
  refine ev_p (pc' := 2) (loc' := [.ref a0, .int i1, .null]) (st' := [.int i1, .ref a0]) 2 am_q35 rfl ?_
  obtain ⟨g3, H⟩ := H
  refine ev_c (vs := [.ref a0, .int i1]) (rest := []) 36 am_q35 rfl rfl rfl rfl rfl rfl rfl rfl rfl rfl rfl rfl (Or.inr (congrArg some g3)) (Cl.mono H (Nat.le_refl _) (fun r2 h1 H => ?_))
  obtain ⟨x4, rfl, H⟩ := H
  refine ev_jz (t := 10) am_q35 rfl rfl (fun hq => ?_) (fun hq => ?_)
  · replace H := H.1 hq
    refine ev_p (pc' := 12) (loc' := [.ref a0, .int i1, .int (0 : Int32)]) (st' := []) 2 am_q35 rfl ?_
    exact ev_m (loc' := [.ref a0, .int i1, .int (0 : Int32)]) am_q35 rfl rfl H
  · replace H := H.2 hq
    refine ev_p (pc' := 9) (loc' := [.ref a0, .int i1, .null]) (st' := [.int (0 : Int32)]) 1 am_q35 rfl ?_
    exact ev_r (v := some (.int (0 : Int32))) am_q35 rfl rfl rfl rfl H
set_option maxRecDepth 20000 in
set_option maxHeartbeats 2000000 in
theorem wp35_12 {d : Nat} (a0 : Nat) (i1 : Int32) (i2 : Int32) {h : AH} {Q : Option Value → AH → Prop} (H : ((400 : Int32) ≤ i2 → Q (some (.int (1 : Int32))) h) ∧ (¬ (400 : Int32) ≤ i2 → am_kd h a0 = 5 ∧ ((¬ (am_gi h a0 9) = (13 : Int32)) → Q (some (.int (1 : Int32))) h) ∧ (¬ (¬ (am_gi h a0 9) = (13 : Int32)) → am_kd h a0 = 5 ∧ Cl d 44 [.ref a0] h (fun r3 h2 => r3 = none ∧ am_kd h2 a0 = 5 ∧ Cl d 36 [.ref a0, .int i1] h2 (fun r6 h5 => ∃ x8, r6 = some (.int x8) ∧ ((¬ x8 = (0 : Int32)) → am_kd h5 a0 = 5 ∧ Cl d 43 [.ref a0, .int (-22 : Int32)] h5 (fun r10 h9 => r10 = none ∧ Ev (d + 1) 35 12 [.ref a0, .int i1, .int (i2 + (1 : Int32))] [] h9 Q)) ∧ (¬ (¬ x8 = (0 : Int32)) → Q (some (.int (0 : Int32))) h5)))))) : Ev (d + 1) 35 12 [.ref a0, .int i1, .int i2] [] h Q := by
  refine ev_p (pc' := 16) (loc' := [.ref a0, .int i1, .int i2]) (st' := [.int (400 : Int32), .int i2]) 2 am_q35 rfl ?_
  refine ev_jc (t := 54) am_q35 rfl rfl (fun hq => ?_) (fun hq => ?_)
  · replace H := H.1 hq
    refine ev_p (pc' := 55) (loc' := [.null, .null, .null]) (st' := [.int (1 : Int32)]) 1 am_q35 rfl ?_
    exact ev_r (v := some (.int (1 : Int32))) am_q35 rfl rfl rfl rfl H
  · replace H := H.2 hq
    refine ev_p (pc' := 20) (loc' := [.ref a0, .int i1, .int i2]) (st' := [.ref a0]) 1 am_q35 rfl ?_
    obtain ⟨g1, H⟩ := H
    refine ev_s (pc' := 23) (loc' := [.ref a0, .int i1, .int i2]) (st' := [.int (am_gi h a0 9)]) (h1 := h) am_q35 rfl rfl rfl (if_pos (e := none) g1) ?_
    refine ev_p (pc' := 25) (loc' := [.ref a0, .int i1, .int i2]) (st' := [.int (13 : Int32), .int (am_gi h a0 9)]) 1 am_q35 rfl ?_
    refine ev_jc (t := 54) am_q35 rfl rfl (fun hq => ?_) (fun hq => ?_)
    · replace H := H.1 hq
      refine ev_p (pc' := 55) (loc' := [.null, .null, .null]) (st' := [.int (1 : Int32)]) 1 am_q35 rfl ?_
      exact ev_r (v := some (.int (1 : Int32))) am_q35 rfl rfl rfl rfl H
    · replace H := H.2 hq
      refine ev_p (pc' := 29) (loc' := [.ref a0, .int i1, .int i2]) (st' := [.ref a0]) 1 am_q35 rfl ?_
      obtain ⟨g4, H⟩ := H
      refine ev_c (vs := [.ref a0]) (rest := []) 44 am_q35 rfl rfl rfl rfl rfl rfl rfl rfl rfl rfl rfl rfl (Or.inr (congrArg some g4)) (Cl.mono H (Nat.le_refl _) (fun r3 h2 H => ?_))
      obtain ⟨rfl, H⟩ := H
      refine ev_p (pc' := 34) (loc' := [.ref a0, .int i1, .int i2]) (st' := [.int i1, .ref a0]) 2 am_q35 rfl ?_
      obtain ⟨g7, H⟩ := H
      refine ev_c (vs := [.ref a0, .int i1]) (rest := []) 36 am_q35 rfl rfl rfl rfl rfl rfl rfl rfl rfl rfl rfl rfl (Or.inr (congrArg some g7)) (Cl.mono H (Nat.le_refl _) (fun r6 h5 H => ?_))
      obtain ⟨x8, rfl, H⟩ := H
      refine ev_jz (t := 42) am_q35 rfl rfl (fun hq => ?_) (fun hq => ?_)
      · replace H := H.1 hq
        refine ev_p (pc' := 45) (loc' := [.ref a0, .int i1, .int i2]) (st' := [.int (-22 : Int32), .ref a0]) 2 am_q35 rfl ?_
        obtain ⟨g11, H⟩ := H
        refine ev_c (vs := [.ref a0, .int (-22 : Int32)]) (rest := []) 43 am_q35 rfl rfl rfl rfl rfl rfl rfl rfl rfl rfl rfl rfl (Or.inr (congrArg some g11)) (Cl.mono H (Nat.le_refl _) (fun r10 h9 H => ?_))
        obtain ⟨rfl, H⟩ := H
        refine ev_p (pc' := 12) (loc' := [.ref a0, .int i1, .int (i2 + (1 : Int32))]) (st' := []) 2 am_q35 rfl ?_
        exact ev_m (loc' := [.ref a0, .int i1, .int (i2 + (1 : Int32))]) am_q35 rfl rfl H
      · replace H := H.2 hq
        refine ev_p (pc' := 41) (loc' := [.ref a0, .int i1, .int i2]) (st' := [.int (0 : Int32)]) 1 am_q35 rfl ?_
        exact ev_r (v := some (.int (0 : Int32))) am_q35 rfl rfl rfl rfl H
/-! 36: X5_readNot -/
theorem am_q36 : (am_mt 36).2.2.2.2.2 = am_m36.2.2.2.2.2 := rfl
set_option maxRecDepth 20000 in
set_option maxHeartbeats 2000000 in
theorem wp36 {d : Nat} (a0 : Nat) (i1 : Int32) {h : AH} {Q : Option Value → AH → Prop} (H : am_kd h a0 = 5 ∧ ((am_gi h a0 9) = (14 : Int32) → (i1 < (8 : Int32) → am_kd h a0 = 5 ∧ Cl d 44 [.ref a0] h (fun r3 h2 => r3 = none ∧ am_kd h2 a0 = 5 ∧ Cl d 36 [.ref a0, .int (i1 + (1 : Int32))] h2 (fun r6 h5 => ∃ x8, r6 = some (.int x8) ∧ ((¬ x8 = (0 : Int32)) → am_kd h5 a0 = 5 ∧ Cl d 43 [.ref a0, .int (-23 : Int32)] h5 (fun r10 h9 => r10 = none ∧ Q (some (.int (1 : Int32))) h9)) ∧ (¬ (¬ x8 = (0 : Int32)) → Q (some (.int (0 : Int32))) h5)))) ∧ (¬ i1 < (8 : Int32) → Q (some (.int (0 : Int32))) h)) ∧ (¬ (am_gi h a0 9) = (14 : Int32) → am_kd h a0 = 5 ∧ Cl d 37 [.ref a0, .int i1] h (fun r13 h12 => ∃ x15, r13 = some (.int x15) ∧ (x15 = (0 : Int32) ∨ x15 = (1 : Int32)) ∧ Q (some (.int x15)) h12))) : Cl (d + 1) 36 [.ref a0, .int i1] h Q := by
  show Ev (d + 1) 36 0 [.ref a0, .int i1] [] h Q
  refine ev_p (pc' := 1) (loc' := [.ref a0, .int i1]) (st' := [.ref a0]) 1 am_q36 rfl ?_
  obtain ⟨g1, H⟩ := H
  refine ev_s (pc' := 4) (loc' := [.ref a0, .int i1]) (st' := [.int (am_gi h a0 9)]) (h1 := h) am_q36 rfl rfl rfl (if_pos (e := none) g1) ?_
  refine ev_p (pc' := 6) (loc' := [.ref a0, .int i1]) (st' := [.int (14 : Int32), .int (am_gi h a0 9)]) 1 am_q36 rfl ?_
  refine ev_jc (t := 15) am_q36 rfl rfl (fun hq => ?_) (fun hq => ?_)
  · replace H := H.1 hq
    refine ev_p (pc' := 18) (loc' := [.ref a0, .int i1]) (st' := [.int (8 : Int32), .int i1]) 2 am_q36 rfl ?_
    refine ev_jc (t := 23) am_q36 rfl rfl (fun hq => ?_) (fun hq => ?_)
    · replace H := H.1 hq
      refine ev_p (pc' := 24) (loc' := [.ref a0, .int i1]) (st' := [.ref a0]) 1 am_q36 rfl ?_
      obtain ⟨g4, H⟩ := H
      refine ev_c (vs := [.ref a0]) (rest := []) 44 am_q36 rfl rfl rfl rfl rfl rfl rfl rfl rfl rfl rfl rfl (Or.inr (congrArg some g4)) (Cl.mono H (Nat.le_refl _) (fun r3 h2 H => ?_))
      obtain ⟨rfl, H⟩ := H
      refine ev_p (pc' := 31) (loc' := [.ref a0, .int i1]) (st' := [.int (i1 + (1 : Int32)), .ref a0]) 4 am_q36 rfl ?_
      obtain ⟨g7, H⟩ := H
      refine ev_c (vs := [.ref a0, .int (i1 + (1 : Int32))]) (rest := []) 36 am_q36 rfl rfl rfl rfl rfl rfl rfl rfl rfl rfl rfl rfl (Or.inr (congrArg some g7)) (Cl.mono H (Nat.le_refl _) (fun r6 h5 H => ?_))
      obtain ⟨x8, rfl, H⟩ := H
      refine ev_jz (t := 39) am_q36 rfl rfl (fun hq => ?_) (fun hq => ?_)
      · replace H := H.1 hq
        refine ev_p (pc' := 42) (loc' := [.ref a0, .int i1]) (st' := [.int (-23 : Int32), .ref a0]) 2 am_q36 rfl ?_
        obtain ⟨g11, H⟩ := H
        refine ev_c (vs := [.ref a0, .int (-23 : Int32)]) (rest := []) 43 am_q36 rfl rfl rfl rfl rfl rfl rfl rfl rfl rfl rfl rfl (Or.inr (congrArg some g11)) (Cl.mono H (Nat.le_refl _) (fun r10 h9 H => ?_))
        obtain ⟨rfl, H⟩ := H
        refine ev_p (pc' := 46) (loc' := [.ref a0, .int i1]) (st' := [.int (1 : Int32)]) 1 am_q36 rfl ?_
        exact ev_r (v := some (.int (1 : Int32))) am_q36 rfl rfl rfl rfl H
      · replace H := H.2 hq
        refine ev_p (pc' := 38) (loc' := [.ref a0, .int i1]) (st' := [.int (0 : Int32)]) 1 am_q36 rfl ?_
        exact ev_r (v := some (.int (0 : Int32))) am_q36 rfl rfl rfl rfl H
    · replace H := H.2 hq
      refine ev_p (pc' := 22) (loc' := [.ref a0, .int i1]) (st' := [.int (0 : Int32)]) 1 am_q36 rfl ?_
      exact ev_r (v := some (.int (0 : Int32))) am_q36 rfl rfl rfl rfl H
  · replace H := H.2 hq
    refine ev_p (pc' := 11) (loc' := [.ref a0, .int i1]) (st' := [.int i1, .ref a0]) 2 am_q36 rfl ?_
    obtain ⟨g14, H⟩ := H
    refine ev_c (vs := [.ref a0, .int i1]) (rest := []) 37 am_q36 rfl rfl rfl rfl rfl rfl rfl rfl rfl rfl rfl rfl (Or.inr (congrArg some g14)) (Cl.mono H (Nat.le_refl _) (fun r13 h12 H => ?_))
    obtain ⟨x15, rfl, H⟩ := H
    exact ev_r (v := some (.int x15)) am_q36 rfl rfl rfl (decide_eq_true H.1) H.2
/-! 37: X5_readComparison -/
theorem am_q37 : (am_mt 37).2.2.2.2.2 = am_m37.2.2.2.2.2 := rfl
set_option maxRecDepth 20000 in
set_option maxHeartbeats 2000000 in
theorem wp37 {d : Nat} (a0 : Nat) (i1 : Int32) {h : AH} {Q : Option Value → AH → Prop} (H : am_kd h a0 = 5 ∧ Cl d 38 [.ref a0, .int i1] h (fun r2 h1 => ∃ x4, r2 = some (.int x4) ∧ ((¬ x4 = (0 : Int32)) → am_kd h1 a0 = 5 ∧ ((am_gi h1 a0 9) = (60 : Int32) → Ev (d + 1) 37 29 [.ref a0, .int i1, .int (am_gi h1 a0 9)] [] h1 Q) ∧ (¬ (am_gi h1 a0 9) = (60 : Int32) → ((am_gi h1 a0 9) = (61 : Int32) → Ev (d + 1) 37 29 [.ref a0, .int i1, .int (am_gi h1 a0 9)] [] h1 Q) ∧ (¬ (am_gi h1 a0 9) = (61 : Int32) → Q (some (.int (1 : Int32))) h1))) ∧ (¬ (¬ x4 = (0 : Int32)) → Q (some (.int (0 : Int32))) h1))) : Cl (d + 1) 37 [.ref a0, .int i1] h Q := by
  show Ev (d + 1) 37 0 [.ref a0, .int i1, .null] [] h Q
  refine ev_p (pc' := 2) (loc' := [.ref a0, .int i1, .null]) (st' := [.int i1, .ref a0]) 2 am_q37 rfl ?_
  obtain ⟨g3, H⟩ := H
  refine ev_c (vs := [.ref a0, .int i1]) (rest := []) 38 am_q37 rfl rfl rfl rfl rfl rfl rfl rfl rfl rfl rfl rfl (Or.inr (congrArg some g3)) (Cl.mono H (Nat.le_refl _) (fun r2 h1 H => ?_))
  obtain ⟨x4, rfl, H⟩ := H
  refine ev_jz (t := 10) am_q37 rfl rfl (fun hq => ?_) (fun hq => ?_)
  · replace H := H.1 hq
    refine ev_p (pc' := 11) (loc' := [.ref a0, .int i1, .null]) (st' := [.ref a0]) 1 am_q37 rfl ?_
    obtain ⟨g5, H⟩ := H
    refine ev_s (pc' := 14) (loc' := [.ref a0, .int i1, .null]) (st' := [.int (am_gi h1 a0 9)]) (h1 := h1) am_q37 rfl rfl rfl (if_pos (e := none) g5) ?_
    refine ev_p (pc' := 18) (loc' := [.ref a0, .int i1, .int (am_gi h1 a0 9)]) (st' := [.int (60 : Int32), .int (am_gi h1 a0 9)]) 3 am_q37 rfl ?_
    refine ev_jc (t := 29) am_q37 rfl rfl (fun hq => ?_) (fun hq => ?_)
    · replace H := H.1 hq
      exact ev_m (loc' := [.ref a0, .int i1, .int (am_gi h1 a0 9)]) am_q37 rfl rfl H
    · replace H := H.2 hq
      refine ev_p (pc' := 24) (loc' := [.ref a0, .int i1, .int (am_gi h1 a0 9)]) (st' := [.int (61 : Int32), .int (am_gi h1 a0 9)]) 2 am_q37 rfl ?_
      refine ev_jc (t := 29) am_q37 rfl rfl (fun hq => ?_) (fun hq => ?_)
      · replace H := H.1 hq
        exact ev_m (loc' := [.ref a0, .int i1, .int (am_gi h1 a0 9)]) am_q37 rfl rfl H
      · replace H := H.2 hq
        refine ev_p (pc' := 28) (loc' := [.ref a0, .int i1, .int (am_gi h1 a0 9)]) (st' := [.int (1 : Int32)]) 1 am_q37 rfl ?_
        exact ev_r (v := some (.int (1 : Int32))) am_q37 rfl rfl rfl rfl H
  · replace H := H.2 hq
    refine ev_p (pc' := 9) (loc' := [.ref a0, .int i1, .null]) (st' := [.int (0 : Int32)]) 1 am_q37 rfl ?_
    exact ev_r (v := some (.int (0 : Int32))) am_q37 rfl rfl rfl rfl H
set_option maxRecDepth 20000 in
set_option maxHeartbeats 2000000 in
theorem wp37_29 {d : Nat} (a0 : Nat) (i1 : Int32) (i2 : Int32) {h : AH} {Q : Option Value → AH → Prop} (H : am_kd h a0 = 5 ∧ Cl d 44 [.ref a0] h (fun r2 h1 => r2 = none ∧ am_kd h1 a0 = 5 ∧ Cl d 38 [.ref a0, .int i1] h1 (fun r5 h4 => ∃ x7, r5 = some (.int x7) ∧ ((¬ x7 = (0 : Int32)) → ((¬ i2 = (60 : Int32)) → am_kd h4 a0 = 5 ∧ Cl d 43 [.ref a0, .int (-25 : Int32)] h4 (fun r9 h8 => r9 = none ∧ Q (some (.int (1 : Int32))) h8)) ∧ (¬ (¬ i2 = (60 : Int32)) → am_kd h4 a0 = 5 ∧ Cl d 43 [.ref a0, .int (-24 : Int32)] h4 (fun r12 h11 => r12 = none ∧ Q (some (.int (1 : Int32))) h11))) ∧ (¬ (¬ x7 = (0 : Int32)) → Q (some (.int (0 : Int32))) h4)))) : Ev (d + 1) 37 29 [.ref a0, .int i1, .int i2] [] h Q := by
  refine ev_p (pc' := 30) (loc' := [.ref a0, .int i1, .int i2]) (st' := [.ref a0]) 1 am_q37 rfl ?_
  obtain ⟨g3, H⟩ := H
  refine ev_c (vs := [.ref a0]) (rest := []) 44 am_q37 rfl rfl rfl rfl rfl rfl rfl rfl rfl rfl rfl rfl (Or.inr (congrArg some g3)) (Cl.mono H (Nat.le_refl _) (fun r2 h1 H => ?_))
  obtain ⟨rfl, H⟩ := H
  refine ev_p (pc' := 35) (loc' := [.ref a0, .int i1, .int i2]) (st' := [.int i1, .ref a0]) 2 am_q37 rfl ?_
  obtain ⟨g6, H⟩ := H
  refine ev_c (vs := [.ref a0, .int i1]) (rest := []) 38 am_q37 rfl rfl rfl rfl rfl rfl rfl rfl rfl rfl rfl rfl (Or.inr (congrArg some g6)) (Cl.mono H (Nat.le_refl _) (fun r5 h4 H => ?_))
  obtain ⟨x7, rfl, H⟩ := H
  refine ev_jz (t := 43) am_q37 rfl rfl (fun hq => ?_) (fun hq => ?_)
  · replace H := H.1 hq
    refine ev_p (pc' := 47) (loc' := [.ref a0, .int i1, .int i2]) (st' := [.int (60 : Int32), .int i2, .ref a0]) 3 am_q37 rfl ?_
    refine ev_jc (t := 55) am_q37 rfl rfl (fun hq => ?_) (fun hq => ?_)
    · replace H := H.1 hq
      refine ev_p (pc' := 57) (loc' := [.ref a0, .int i1, .int i2]) (st' := [.int (-25 : Int32), .ref a0]) 1 am_q37 rfl ?_
      obtain ⟨g10, H⟩ := H
      refine ev_c (vs := [.ref a0, .int (-25 : Int32)]) (rest := []) 43 am_q37 rfl rfl rfl rfl rfl rfl rfl rfl rfl rfl rfl rfl (Or.inr (congrArg some g10)) (Cl.mono H (Nat.le_refl _) (fun r9 h8 H => ?_))
      obtain ⟨rfl, H⟩ := H
      refine ev_p (pc' := 61) (loc' := [.null, .null, .null]) (st' := [.int (1 : Int32)]) 1 am_q37 rfl ?_
      exact ev_r (v := some (.int (1 : Int32))) am_q37 rfl rfl rfl rfl H
    · replace H := H.2 hq
      refine ev_p (pc' := 57) (loc' := [.ref a0, .int i1, .int i2]) (st' := [.int (-24 : Int32), .ref a0]) 2 am_q37 rfl ?_
      obtain ⟨g13, H⟩ := H
      refine ev_c (vs := [.ref a0, .int (-24 : Int32)]) (rest := []) 43 am_q37 rfl rfl rfl rfl rfl rfl rfl rfl rfl rfl rfl rfl (Or.inr (congrArg some g13)) (Cl.mono H (Nat.le_refl _) (fun r12 h11 H => ?_))
      obtain ⟨rfl, H⟩ := H
      refine ev_p (pc' := 61) (loc' := [.null, .null, .null]) (st' := [.int (1 : Int32)]) 1 am_q37 rfl ?_
      exact ev_r (v := some (.int (1 : Int32))) am_q37 rfl rfl rfl rfl H
  · replace H := H.2 hq
    refine ev_p (pc' := 42) (loc' := [.ref a0, .int i1, .int i2]) (st' := [.int (0 : Int32)]) 1 am_q37 rfl ?_
    exact ev_r (v := some (.int (0 : Int32))) am_q37 rfl rfl rfl rfl H
/-! 38: X5_readSum -/
theorem am_q38 : (am_mt 38).2.2.2.2.2 = am_m38.2.2.2.2.2 := rfl
set_option maxRecDepth 20000 in
set_option maxHeartbeats 2000000 in
theorem wp38 {d : Nat} (a0 : Nat) (i1 : Int32) {h : AH} {Q : Option Value → AH → Prop} (H : am_kd h a0 = 5 ∧ Cl d 39 [.ref a0, .int i1] h (fun r2 h1 => ∃ x4, r2 = some (.int x4) ∧ ((¬ x4 = (0 : Int32)) → Ev (d + 1) 38 12 [.ref a0, .int i1, .int (0 : Int32), .null] [] h1 Q) ∧ (¬ (¬ x4 = (0 : Int32)) → Q (some (.int (0 : Int32))) h1))) : Cl (d + 1) 38 [.ref a0, .int i1] h Q := by
  show Ev (d + 1) 38 0 [.ref a0, .int i1, .null, .null] [] h Q
  refine ev_p (pc' := 2) (loc' := [.ref a0, .int i1, .null, .null]) (st' := [.int i1, .ref a0]) 2 am_q38 rfl ?_
  obtain ⟨g3, H⟩ := H
  refine ev_c (vs := [.ref a0, .int i1]) (rest := []) 39 am_q38 rfl rfl rfl rfl rfl rfl rfl rfl rfl rfl rfl rfl (Or.inr (congrArg some g3)) (Cl.mono H (Nat.le_refl _) (fun r2 h1 H => ?_))
  obtain ⟨x4, rfl, H⟩ := H
  refine ev_jz (t := 10) am_q38 rfl rfl (fun hq => ?_) (fun hq => ?_)
  · replace H := H.1 hq
    refine ev_p (pc' := 12) (loc' := [.ref a0, .int i1, .int (0 : Int32), .null]) (st' := []) 2 am_q38 rfl ?_
    exact ev_m (loc' := [.ref a0, .int i1, .int (0 : Int32), .null]) am_q38 rfl rfl H
  · replace H := H.2 hq
    refine ev_p (pc' := 9) (loc' := [.ref a0, .int i1, .null, .null]) (st' := [.int (0 : Int32)]) 1 am_q38 rfl ?_
    exact ev_r (v := some (.int (0 : Int32))) am_q38 rfl rfl rfl rfl H
set_option maxRecDepth 20000 in
set_option maxHeartbeats 2000000 in
theorem wp38_12 {d : Nat} (a0 : Nat) (i1 : Int32) (i2 : Int32) {h : AH} {Q : Option Value → AH → Prop} (H : ((400 : Int32) ≤ i2 → Q (some (.int (1 : Int32))) h) ∧ (¬ (400 : Int32) ≤ i2 → am_kd h a0 = 5 ∧ ((am_gi h a0 9) = (43 : Int32) → Ev (d + 1) 38 37 [.ref a0, .int i1, .int i2, .null] [] h Q) ∧ (¬ (am_gi h a0 9) = (43 : Int32) → am_kd h a0 = 5 ∧ ((¬ (am_gi h a0 9) = (45 : Int32)) → Q (some (.int (1 : Int32))) h) ∧ (¬ (¬ (am_gi h a0 9) = (45 : Int32)) → Ev (d + 1) 38 37 [.ref a0, .int i1, .int i2, .null] [] h Q)))) : Ev (d + 1) 38 12 [.ref a0, .int i1, .int i2, .null] [] h Q := by
  refine ev_p (pc' := 16) (loc' := [.ref a0, .int i1, .int i2, .null]) (st' := [.int (400 : Int32), .int i2]) 2 am_q38 rfl ?_
  refine ev_jc (t := 79) am_q38 rfl rfl (fun hq => ?_) (fun hq => ?_)
  · replace H := H.1 hq
    refine ev_p (pc' := 80) (loc' := [.null, .null, .null, .null]) (st' := [.int (1 : Int32)]) 1 am_q38 rfl ?_
    exact ev_r (v := some (.int (1 : Int32))) am_q38 rfl rfl rfl rfl H
  · replace H := H.2 hq
    refine ev_p (pc' := 20) (loc' := [.ref a0, .int i1, .int i2, .null]) (st' := [.ref a0]) 1 am_q38 rfl ?_
    obtain ⟨g1, H⟩ := H
    refine ev_s (pc' := 23) (loc' := [.ref a0, .int i1, .int i2, .null]) (st' := [.int (am_gi h a0 9)]) (h1 := h) am_q38 rfl rfl rfl (if_pos (e := none) g1) ?_
    refine ev_p (pc' := 25) (loc' := [.ref a0, .int i1, .int i2, .null]) (st' := [.int (43 : Int32), .int (am_gi h a0 9)]) 1 am_q38 rfl ?_
    refine ev_jc (t := 37) am_q38 rfl rfl (fun hq => ?_) (fun hq => ?_)
    · replace H := H.1 hq
      exact ev_m (loc' := [.ref a0, .int i1, .int i2, .null]) am_q38 rfl rfl H
    · replace H := H.2 hq
      refine ev_p (pc' := 29) (loc' := [.ref a0, .int i1, .int i2, .null]) (st' := [.ref a0]) 1 am_q38 rfl ?_
      obtain ⟨g2, H⟩ := H
      refine ev_s (pc' := 32) (loc' := [.ref a0, .int i1, .int i2, .null]) (st' := [.int (am_gi h a0 9)]) (h1 := h) am_q38 rfl rfl rfl (if_pos (e := none) g2) ?_
      refine ev_p (pc' := 34) (loc' := [.ref a0, .int i1, .int i2, .null]) (st' := [.int (45 : Int32), .int (am_gi h a0 9)]) 1 am_q38 rfl ?_
      refine ev_jc (t := 79) am_q38 rfl rfl (fun hq => ?_) (fun hq => ?_)
      · replace H := H.1 hq
        refine ev_p (pc' := 80) (loc' := [.null, .null, .null, .null]) (st' := [.int (1 : Int32)]) 1 am_q38 rfl ?_
        exact ev_r (v := some (.int (1 : Int32))) am_q38 rfl rfl rfl rfl H
      · replace H := H.2 hq
        exact ev_m (loc' := [.ref a0, .int i1, .int i2, .null]) am_q38 rfl rfl H
set_option maxRecDepth 20000 in
set_option maxHeartbeats 2000000 in
theorem wp38_37 {d : Nat} (a0 : Nat) (i1 : Int32) (i2 : Int32) {h : AH} {Q : Option Value → AH → Prop} (H : am_kd h a0 = 5 ∧ am_kd h a0 = 5 ∧ Cl d 44 [.ref a0] h (fun r3 h2 => r3 = none ∧ am_kd h2 a0 = 5 ∧ Cl d 39 [.ref a0, .int i1] h2 (fun r6 h5 => ∃ x8, r6 = some (.int x8) ∧ ((¬ x8 = (0 : Int32)) → ((¬ (am_gi h a0 9) = (43 : Int32)) → am_kd h5 a0 = 5 ∧ Cl d 43 [.ref a0, .int (-27 : Int32)] h5 (fun r10 h9 => r10 = none ∧ Ev (d + 1) 38 12 [.ref a0, .int i1, .int (i2 + (1 : Int32)), .null] [] h9 Q)) ∧ (¬ (¬ (am_gi h a0 9) = (43 : Int32)) → am_kd h5 a0 = 5 ∧ Cl d 43 [.ref a0, .int (-26 : Int32)] h5 (fun r13 h12 => r13 = none ∧ Ev (d + 1) 38 12 [.ref a0, .int i1, .int (i2 + (1 : Int32)), .null] [] h12 Q))) ∧ (¬ (¬ x8 = (0 : Int32)) → Q (some (.int (0 : Int32))) h5)))) : Ev (d + 1) 38 37 [.ref a0, .int i1, .int i2, .null] [] h Q := by
  refine ev_p (pc' := 38) (loc' := [.ref a0, .int i1, .int i2, .null]) (st' := [.ref a0]) 1 am_q38 rfl ?_
  obtain ⟨g1, H⟩ := H
  refine ev_s (pc' := 41) (loc' := [.ref a0, .int i1, .int i2, .null]) (st' := [.int (am_gi h a0 9)]) (h1 := h) am_q38 rfl rfl rfl (if_pos (e := none) g1) ?_
  refine ev_p (pc' := 43) (loc' := [.ref a0, .int i1, .int i2, .int (am_gi h a0 9)]) (st' := [.ref a0]) 2 am_q38 rfl ?_
  obtain ⟨g4, H⟩ := H
  refine ev_c (vs := [.ref a0]) (rest := []) 44 am_q38 rfl rfl rfl rfl rfl rfl rfl rfl rfl rfl rfl rfl (Or.inr (congrArg some g4)) (Cl.mono H (Nat.le_refl _) (fun r3 h2 H => ?_))
  obtain ⟨rfl, H⟩ := H
  refine ev_p (pc' := 48) (loc' := [.ref a0, .int i1, .int i2, .int (am_gi h a0 9)]) (st' := [.int i1, .ref a0]) 2 am_q38 rfl ?_
  obtain ⟨g7, H⟩ := H
  refine ev_c (vs := [.ref a0, .int i1]) (rest := []) 39 am_q38 rfl rfl rfl rfl rfl rfl rfl rfl rfl rfl rfl rfl (Or.inr (congrArg some g7)) (Cl.mono H (Nat.le_refl _) (fun r6 h5 H => ?_))
  obtain ⟨x8, rfl, H⟩ := H
  refine ev_jz (t := 56) am_q38 rfl rfl (fun hq => ?_) (fun hq => ?_)
  · replace H := H.1 hq
    refine ev_p (pc' := 60) (loc' := [.ref a0, .int i1, .int i2, .int (am_gi h a0 9)]) (st' := [.int (43 : Int32), .int (am_gi h a0 9), .ref a0]) 3 am_q38 rfl ?_
    refine ev_jc (t := 68) am_q38 rfl rfl (fun hq => ?_) (fun hq => ?_)
    · replace H := H.1 hq
      refine ev_p (pc' := 70) (loc' := [.ref a0, .int i1, .int i2, .int (am_gi h a0 9)]) (st' := [.int (-27 : Int32), .ref a0]) 1 am_q38 rfl ?_
      obtain ⟨g11, H⟩ := H
      refine ev_c (vs := [.ref a0, .int (-27 : Int32)]) (rest := []) 43 am_q38 rfl rfl rfl rfl rfl rfl rfl rfl rfl rfl rfl rfl (Or.inr (congrArg some g11)) (Cl.mono H (Nat.le_refl _) (fun r10 h9 H => ?_))
      obtain ⟨rfl, H⟩ := H
      refine ev_p (pc' := 12) (loc' := [.ref a0, .int i1, .int (i2 + (1 : Int32)), .null]) (st' := []) 2 am_q38 rfl ?_
      exact ev_m (loc' := [.ref a0, .int i1, .int (i2 + (1 : Int32)), .null]) am_q38 rfl rfl H
    · replace H := H.2 hq
      refine ev_p (pc' := 70) (loc' := [.ref a0, .int i1, .int i2, .int (am_gi h a0 9)]) (st' := [.int (-26 : Int32), .ref a0]) 2 am_q38 rfl ?_
      obtain ⟨g14, H⟩ := H
      refine ev_c (vs := [.ref a0, .int (-26 : Int32)]) (rest := []) 43 am_q38 rfl rfl rfl rfl rfl rfl rfl rfl rfl rfl rfl rfl (Or.inr (congrArg some g14)) (Cl.mono H (Nat.le_refl _) (fun r13 h12 H => ?_))
      obtain ⟨rfl, H⟩ := H
      refine ev_p (pc' := 12) (loc' := [.ref a0, .int i1, .int (i2 + (1 : Int32)), .null]) (st' := []) 2 am_q38 rfl ?_
      exact ev_m (loc' := [.ref a0, .int i1, .int (i2 + (1 : Int32)), .null]) am_q38 rfl rfl H
  · replace H := H.2 hq
    refine ev_p (pc' := 55) (loc' := [.ref a0, .int i1, .int i2, .int (am_gi h a0 9)]) (st' := [.int (0 : Int32)]) 1 am_q38 rfl ?_
    exact ev_r (v := some (.int (0 : Int32))) am_q38 rfl rfl rfl rfl H
/-! 39: X5_readTerm -/
theorem am_q39 : (am_mt 39).2.2.2.2.2 = am_m39.2.2.2.2.2 := rfl
set_option maxRecDepth 20000 in
set_option maxHeartbeats 2000000 in
theorem wp39 {d : Nat} (a0 : Nat) (i1 : Int32) {h : AH} {Q : Option Value → AH → Prop} (H : am_kd h a0 = 5 ∧ Cl d 40 [.ref a0, .int i1] h (fun r2 h1 => ∃ x4, r2 = some (.int x4) ∧ ((¬ x4 = (0 : Int32)) → Ev (d + 1) 39 12 [.ref a0, .int i1, .int (0 : Int32)] [] h1 Q) ∧ (¬ (¬ x4 = (0 : Int32)) → Q (some (.int (0 : Int32))) h1))) : Cl (d + 1) 39 [.ref a0, .int i1] h Q := by
  show Ev (d + 1) 39 0 [.ref a0, .int i1, .null] [] h Q
  refine ev_p (pc' := 2) (loc' := [.ref a0, .int i1, .null]) (st' := [.int i1, .ref a0]) 2 am_q39 rfl ?_
  obtain ⟨g3, H⟩ := H
  refine ev_c (vs := [.ref a0, .int i1]) (rest := []) 40 am_q39 rfl rfl rfl rfl rfl rfl rfl rfl rfl rfl rfl rfl (Or.inr (congrArg some g3)) (Cl.mono H (Nat.le_refl _) (fun r2 h1 H => ?_))
  obtain ⟨x4, rfl, H⟩ := H
  refine ev_jz (t := 10) am_q39 rfl rfl (fun hq => ?_) (fun hq => ?_)
  · replace H := H.1 hq
    refine ev_p (pc' := 12) (loc' := [.ref a0, .int i1, .int (0 : Int32)]) (st' := []) 2 am_q39 rfl ?_
    exact ev_m (loc' := [.ref a0, .int i1, .int (0 : Int32)]) am_q39 rfl rfl H
  · replace H := H.2 hq
    refine ev_p (pc' := 9) (loc' := [.ref a0, .int i1, .null]) (st' := [.int (0 : Int32)]) 1 am_q39 rfl ?_
    exact ev_r (v := some (.int (0 : Int32))) am_q39 rfl rfl rfl rfl H
set_option maxRecDepth 20000 in
set_option maxHeartbeats 2000000 in
theorem wp39_12 {d : Nat} (a0 : Nat) (i1 : Int32) (i2 : Int32) {h : AH} {Q : Option Value → AH → Prop} (H : ((400 : Int32) ≤ i2 → Q (some (.int (1 : Int32))) h) ∧ (¬ (400 : Int32) ≤ i2 → am_kd h a0 = 5 ∧ ((¬ (am_gi h a0 9) = (42 : Int32)) → Q (some (.int (1 : Int32))) h) ∧ (¬ (¬ (am_gi h a0 9) = (42 : Int32)) → am_kd h a0 = 5 ∧ Cl d 44 [.ref a0] h (fun r3 h2 => r3 = none ∧ am_kd h2 a0 = 5 ∧ Cl d 40 [.ref a0, .int i1] h2 (fun r6 h5 => ∃ x8, r6 = some (.int x8) ∧ ((¬ x8 = (0 : Int32)) → am_kd h5 a0 = 5 ∧ Cl d 43 [.ref a0, .int (-28 : Int32)] h5 (fun r10 h9 => r10 = none ∧ Ev (d + 1) 39 12 [.ref a0, .int i1, .int (i2 + (1 : Int32))] [] h9 Q)) ∧ (¬ (¬ x8 = (0 : Int32)) → Q (some (.int (0 : Int32))) h5)))))) : Ev (d + 1) 39 12 [.ref a0, .int i1, .int i2] [] h Q := by
  refine ev_p (pc' := 16) (loc' := [.ref a0, .int i1, .int i2]) (st' := [.int (400 : Int32), .int i2]) 2 am_q39 rfl ?_
  refine ev_jc (t := 54) am_q39 rfl rfl (fun hq => ?_) (fun hq => ?_)
  · replace H := H.1 hq
    refine ev_p (pc' := 55) (loc' := [.null, .null, .null]) (st' := [.int (1 : Int32)]) 1 am_q39 rfl ?_
    exact ev_r (v := some (.int (1 : Int32))) am_q39 rfl rfl rfl rfl H
  · replace H := H.2 hq
    refine ev_p (pc' := 20) (loc' := [.ref a0, .int i1, .int i2]) (st' := [.ref a0]) 1 am_q39 rfl ?_
    obtain ⟨g1, H⟩ := H
    refine ev_s (pc' := 23) (loc' := [.ref a0, .int i1, .int i2]) (st' := [.int (am_gi h a0 9)]) (h1 := h) am_q39 rfl rfl rfl (if_pos (e := none) g1) ?_
    refine ev_p (pc' := 25) (loc' := [.ref a0, .int i1, .int i2]) (st' := [.int (42 : Int32), .int (am_gi h a0 9)]) 1 am_q39 rfl ?_
    refine ev_jc (t := 54) am_q39 rfl rfl (fun hq => ?_) (fun hq => ?_)
    · replace H := H.1 hq
      refine ev_p (pc' := 55) (loc' := [.null, .null, .null]) (st' := [.int (1 : Int32)]) 1 am_q39 rfl ?_
      exact ev_r (v := some (.int (1 : Int32))) am_q39 rfl rfl rfl rfl H
    · replace H := H.2 hq
      refine ev_p (pc' := 29) (loc' := [.ref a0, .int i1, .int i2]) (st' := [.ref a0]) 1 am_q39 rfl ?_
      obtain ⟨g4, H⟩ := H
      refine ev_c (vs := [.ref a0]) (rest := []) 44 am_q39 rfl rfl rfl rfl rfl rfl rfl rfl rfl rfl rfl rfl (Or.inr (congrArg some g4)) (Cl.mono H (Nat.le_refl _) (fun r3 h2 H => ?_))
      obtain ⟨rfl, H⟩ := H
      refine ev_p (pc' := 34) (loc' := [.ref a0, .int i1, .int i2]) (st' := [.int i1, .ref a0]) 2 am_q39 rfl ?_
      obtain ⟨g7, H⟩ := H
      refine ev_c (vs := [.ref a0, .int i1]) (rest := []) 40 am_q39 rfl rfl rfl rfl rfl rfl rfl rfl rfl rfl rfl rfl (Or.inr (congrArg some g7)) (Cl.mono H (Nat.le_refl _) (fun r6 h5 H => ?_))
      obtain ⟨x8, rfl, H⟩ := H
      refine ev_jz (t := 42) am_q39 rfl rfl (fun hq => ?_) (fun hq => ?_)
      · replace H := H.1 hq
        refine ev_p (pc' := 45) (loc' := [.ref a0, .int i1, .int i2]) (st' := [.int (-28 : Int32), .ref a0]) 2 am_q39 rfl ?_
        obtain ⟨g11, H⟩ := H
        refine ev_c (vs := [.ref a0, .int (-28 : Int32)]) (rest := []) 43 am_q39 rfl rfl rfl rfl rfl rfl rfl rfl rfl rfl rfl rfl (Or.inr (congrArg some g11)) (Cl.mono H (Nat.le_refl _) (fun r10 h9 H => ?_))
        obtain ⟨rfl, H⟩ := H
        refine ev_p (pc' := 12) (loc' := [.ref a0, .int i1, .int (i2 + (1 : Int32))]) (st' := []) 2 am_q39 rfl ?_
        exact ev_m (loc' := [.ref a0, .int i1, .int (i2 + (1 : Int32))]) am_q39 rfl rfl H
      · replace H := H.2 hq
        refine ev_p (pc' := 41) (loc' := [.ref a0, .int i1, .int i2]) (st' := [.int (0 : Int32)]) 1 am_q39 rfl ?_
        exact ev_r (v := some (.int (0 : Int32))) am_q39 rfl rfl rfl rfl H
/-! 40: X5_readOne -/
theorem am_q40 : (am_mt 40).2.2.2.2.2 = am_m40.2.2.2.2.2 := rfl
set_option maxRecDepth 20000 in
set_option maxHeartbeats 2000000 in
theorem wp40 {d : Nat} (a0 : Nat) (i1 : Int32) {h : AH} {Q : Option Value → AH → Prop} (H : am_kd h a0 = 5 ∧ ((am_gi h a0 9) = (2 : Int32) → am_kd h a0 = 5 ∧ Cl d 41 [.ref a0] h (fun r3 h2 => r3 = none ∧ Q (some (.int (1 : Int32))) h2)) ∧ (¬ (am_gi h a0 9) = (2 : Int32) → am_kd h a0 = 5 ∧ ((¬ (am_gi h a0 9) = (3 : Int32)) → (i1 < (8 : Int32) → am_kd h a0 = 5 ∧ ((¬ (am_gi h a0 9) = (40 : Int32)) → am_kd h a0 = 5 ∧ ((am_gi h a0 9) = (45 : Int32) → am_kd h a0 = 5 ∧ Cl d 44 [.ref a0] h (fun r9 h8 => r9 = none ∧ am_kd h8 a0 = 5 ∧ Cl d 40 [.ref a0, .int (i1 + (1 : Int32))] h8 (fun r12 h11 => ∃ x14, r12 = some (.int x14) ∧ ((¬ x14 = (0 : Int32)) → am_kd h11 a0 = 5 ∧ Cl d 43 [.ref a0, .int (-29 : Int32)] h11 (fun r16 h15 => r16 = none ∧ Q (some (.int (1 : Int32))) h15)) ∧ (¬ (¬ x14 = (0 : Int32)) → Q (some (.int (0 : Int32))) h11)))) ∧ (¬ (am_gi h a0 9) = (45 : Int32) → Q (some (.int (0 : Int32))) h)) ∧ (¬ (¬ (am_gi h a0 9) = (40 : Int32)) → am_kd h a0 = 5 ∧ Cl d 44 [.ref a0] h (fun r19 h18 => r19 = none ∧ am_kd h18 a0 = 5 ∧ Cl d 34 [.ref a0, .int (i1 + (1 : Int32))] h18 (fun r22 h21 => ∃ x24, r22 = some (.int x24) ∧ (x24 = (0 : Int32) → Q (some (.int (0 : Int32))) h21) ∧ (¬ x24 = (0 : Int32) → am_kd h21 a0 = 5 ∧ Cl d 42 [.ref a0, .int (41 : Int32)] h21 (fun r26 h25 => ∃ x28, r26 = some (.int x28) ∧ (x28 = (0 : Int32) → Q (some (.int (0 : Int32))) h25) ∧ (¬ x28 = (0 : Int32) → Q (some (.int (1 : Int32))) h25))))))) ∧ (¬ i1 < (8 : Int32) → Q (some (.int (0 : Int32))) h)) ∧ (¬ (¬ (am_gi h a0 9) = (3 : Int32)) → am_kd h a0 = 5 ∧ Cl d 41 [.ref a0] h (fun r30 h29 => r30 = none ∧ Q (some (.int (1 : Int32))) h29)))) : Cl (d + 1) 40 [.ref a0, .int i1] h Q := by
  show Ev (d + 1) 40 0 [.ref a0, .int i1] [] h Q
  refine ev_p (pc' := 1) (loc' := [.ref a0, .int i1]) (st' := [.ref a0]) 1 am_q40 rfl ?_
  obtain ⟨g1, H⟩ := H
  refine ev_s (pc' := 4) (loc' := [.ref a0, .int i1]) (st' := [.int (am_gi h a0 9)]) (h1 := h) am_q40 rfl rfl rfl (if_pos (e := none) g1) ?_
  refine ev_p (pc' := 5) (loc' := [.ref a0, .int i1]) (st' := [.int (2 : Int32), .int (am_gi h a0 9)]) 1 am_q40 rfl ?_
  refine ev_jc (t := 16) am_q40 rfl rfl (fun hq => ?_) (fun hq => ?_)
  · replace H := H.1 hq
    refine ev_p (pc' := 17) (loc' := [.ref a0, .null]) (st' := [.ref a0]) 1 am_q40 rfl ?_
    obtain ⟨g4, H⟩ := H
    refine ev_c (vs := [.ref a0]) (rest := []) 41 am_q40 rfl rfl rfl rfl rfl rfl rfl rfl rfl rfl rfl rfl (Or.inr (congrArg some g4)) (Cl.mono H (Nat.le_refl _) (fun r3 h2 H => ?_))
    obtain ⟨rfl, H⟩ := H
    refine ev_p (pc' := 21) (loc' := [.ref a0, .null]) (st' := [.int (1 : Int32)]) 1 am_q40 rfl ?_
    exact ev_r (v := some (.int (1 : Int32))) am_q40 rfl rfl rfl rfl H
  · replace H := H.2 hq
    refine ev_p (pc' := 9) (loc' := [.ref a0, .int i1]) (st' := [.ref a0]) 1 am_q40 rfl ?_
    obtain ⟨g5, H⟩ := H
    refine ev_s (pc' := 12) (loc' := [.ref a0, .int i1]) (st' := [.int (am_gi h a0 9)]) (h1 := h) am_q40 rfl rfl rfl (if_pos (e := none) g5) ?_
    refine ev_p (pc' := 13) (loc' := [.ref a0, .int i1]) (st' := [.int (3 : Int32), .int (am_gi h a0 9)]) 1 am_q40 rfl ?_
    refine ev_jc (t := 22) am_q40 rfl rfl (fun hq => ?_) (fun hq => ?_)
    · replace H := H.1 hq
      refine ev_p (pc' := 25) (loc' := [.ref a0, .int i1]) (st' := [.int (8 : Int32), .int i1]) 2 am_q40 rfl ?_
      refine ev_jc (t := 30) am_q40 rfl rfl (fun hq => ?_) (fun hq => ?_)
      · replace H := H.1 hq
        refine ev_p (pc' := 31) (loc' := [.ref a0, .int i1]) (st' := [.ref a0]) 1 am_q40 rfl ?_
        obtain ⟨g6, H⟩ := H
        refine ev_s (pc' := 34) (loc' := [.ref a0, .int i1]) (st' := [.int (am_gi h a0 9)]) (h1 := h) am_q40 rfl rfl rfl (if_pos (e := none) g6) ?_
        refine ev_p (pc' := 36) (loc' := [.ref a0, .int i1]) (st' := [.int (40 : Int32), .int (am_gi h a0 9)]) 1 am_q40 rfl ?_
        refine ev_jc (t := 68) am_q40 rfl rfl (fun hq => ?_) (fun hq => ?_)
        · replace H := H.1 hq
          refine ev_p (pc' := 69) (loc' := [.ref a0, .int i1]) (st' := [.ref a0]) 1 am_q40 rfl ?_
          obtain ⟨g7, H⟩ := H
          refine ev_s (pc' := 72) (loc' := [.ref a0, .int i1]) (st' := [.int (am_gi h a0 9)]) (h1 := h) am_q40 rfl rfl rfl (if_pos (e := none) g7) ?_
          refine ev_p (pc' := 74) (loc' := [.ref a0, .int i1]) (st' := [.int (45 : Int32), .int (am_gi h a0 9)]) 1 am_q40 rfl ?_
          refine ev_jc (t := 79) am_q40 rfl rfl (fun hq => ?_) (fun hq => ?_)
          · replace H := H.1 hq
            refine ev_p (pc' := 80) (loc' := [.ref a0, .int i1]) (st' := [.ref a0]) 1 am_q40 rfl ?_
            obtain ⟨g10, H⟩ := H
            refine ev_c (vs := [.ref a0]) (rest := []) 44 am_q40 rfl rfl rfl rfl rfl rfl rfl rfl rfl rfl rfl rfl (Or.inr (congrArg some g10)) (Cl.mono H (Nat.le_refl _) (fun r9 h8 H => ?_))
            obtain ⟨rfl, H⟩ := H
            refine ev_p (pc' := 87) (loc' := [.ref a0, .int i1]) (st' := [.int (i1 + (1 : Int32)), .ref a0]) 4 am_q40 rfl ?_
            obtain ⟨g13, H⟩ := H
            refine ev_c (vs := [.ref a0, .int (i1 + (1 : Int32))]) (rest := []) 40 am_q40 rfl rfl rfl rfl rfl rfl rfl rfl rfl rfl rfl rfl (Or.inr (congrArg some g13)) (Cl.mono H (Nat.le_refl _) (fun r12 h11 H => ?_))
            obtain ⟨x14, rfl, H⟩ := H
            refine ev_jz (t := 95) am_q40 rfl rfl (fun hq => ?_) (fun hq => ?_)
            · replace H := H.1 hq
              refine ev_p (pc' := 98) (loc' := [.ref a0, .int i1]) (st' := [.int (-29 : Int32), .ref a0]) 2 am_q40 rfl ?_
              obtain ⟨g17, H⟩ := H
              refine ev_c (vs := [.ref a0, .int (-29 : Int32)]) (rest := []) 43 am_q40 rfl rfl rfl rfl rfl rfl rfl rfl rfl rfl rfl rfl (Or.inr (congrArg some g17)) (Cl.mono H (Nat.le_refl _) (fun r16 h15 H => ?_))
              obtain ⟨rfl, H⟩ := H
              refine ev_p (pc' := 102) (loc' := [.ref a0, .int i1]) (st' := [.int (1 : Int32)]) 1 am_q40 rfl ?_
              exact ev_r (v := some (.int (1 : Int32))) am_q40 rfl rfl rfl rfl H
            · replace H := H.2 hq
              refine ev_p (pc' := 94) (loc' := [.ref a0, .int i1]) (st' := [.int (0 : Int32)]) 1 am_q40 rfl ?_
              exact ev_r (v := some (.int (0 : Int32))) am_q40 rfl rfl rfl rfl H
          · replace H := H.2 hq
            refine ev_p (pc' := 78) (loc' := [.ref a0, .int i1]) (st' := [.int (0 : Int32)]) 1 am_q40 rfl ?_
            exact ev_r (v := some (.int (0 : Int32))) am_q40 rfl rfl rfl rfl H
        · replace H := H.2 hq
          refine ev_p (pc' := 40) (loc' := [.ref a0, .int i1]) (st' := [.ref a0]) 1 am_q40 rfl ?_
          obtain ⟨g20, H⟩ := H
          refine ev_c (vs := [.ref a0]) (rest := []) 44 am_q40 rfl rfl rfl rfl rfl rfl rfl rfl rfl rfl rfl rfl (Or.inr (congrArg some g20)) (Cl.mono H (Nat.le_refl _) (fun r19 h18 H => ?_))
          obtain ⟨rfl, H⟩ := H
          refine ev_p (pc' := 47) (loc' := [.ref a0, .int i1]) (st' := [.int (i1 + (1 : Int32)), .ref a0]) 4 am_q40 rfl ?_
          obtain ⟨g23, H⟩ := H
          refine ev_c (vs := [.ref a0, .int (i1 + (1 : Int32))]) (rest := []) 34 am_q40 rfl rfl rfl rfl rfl rfl rfl rfl rfl rfl rfl rfl (Or.inr (congrArg some g23)) (Cl.mono H (Nat.le_refl _) (fun r22 h21 H => ?_))
          obtain ⟨x24, rfl, H⟩ := H
          refine ev_jz (t := 66) am_q40 rfl rfl (fun hq => ?_) (fun hq => ?_)
          · replace H := H.1 hq
            refine ev_p (pc' := 67) (loc' := [.null, .null]) (st' := [.int (0 : Int32)]) 1 am_q40 rfl ?_
            exact ev_r (v := some (.int (0 : Int32))) am_q40 rfl rfl rfl rfl H
          · replace H := H.2 hq
            refine ev_p (pc' := 56) (loc' := [.ref a0, .int i1]) (st' := [.int (41 : Int32), .ref a0]) 2 am_q40 rfl ?_
            obtain ⟨g27, H⟩ := H
            refine ev_c (vs := [.ref a0, .int (41 : Int32)]) (rest := []) 42 am_q40 rfl rfl rfl rfl rfl rfl rfl rfl rfl rfl rfl rfl (Or.inr (congrArg some g27)) (Cl.mono H (Nat.le_refl _) (fun r26 h25 H => ?_))
            obtain ⟨x28, rfl, H⟩ := H
            refine ev_jz (t := 66) am_q40 rfl rfl (fun hq => ?_) (fun hq => ?_)
            · replace H := H.1 hq
              refine ev_p (pc' := 67) (loc' := [.null, .null]) (st' := [.int (0 : Int32)]) 1 am_q40 rfl ?_
              exact ev_r (v := some (.int (0 : Int32))) am_q40 rfl rfl rfl rfl H
            · replace H := H.2 hq
              refine ev_p (pc' := 67) (loc' := [.ref a0, .int i1]) (st' := [.int (1 : Int32)]) 2 am_q40 rfl ?_
              exact ev_r (v := some (.int (1 : Int32))) am_q40 rfl rfl rfl rfl H
      · replace H := H.2 hq
        refine ev_p (pc' := 29) (loc' := [.ref a0, .int i1]) (st' := [.int (0 : Int32)]) 1 am_q40 rfl ?_
        exact ev_r (v := some (.int (0 : Int32))) am_q40 rfl rfl rfl rfl H
    · replace H := H.2 hq
      refine ev_p (pc' := 17) (loc' := [.ref a0, .null]) (st' := [.ref a0]) 1 am_q40 rfl ?_
      obtain ⟨g31, H⟩ := H
      refine ev_c (vs := [.ref a0]) (rest := []) 41 am_q40 rfl rfl rfl rfl rfl rfl rfl rfl rfl rfl rfl rfl (Or.inr (congrArg some g31)) (Cl.mono H (Nat.le_refl _) (fun r30 h29 H => ?_))
      obtain ⟨rfl, H⟩ := H
      refine ev_p (pc' := 21) (loc' := [.ref a0, .null]) (st' := [.int (1 : Int32)]) 1 am_q40 rfl ?_
      exact ev_r (v := some (.int (1 : Int32))) am_q40 rfl rfl rfl rfl H
/-! 41: X5_readOperand -/
theorem am_q41 : (am_mt 41).2.2.2.2.2 = am_m41.2.2.2.2.2 := rfl
set_option maxRecDepth 20000 in
set_option maxHeartbeats 2000000 in
theorem wp41 {d : Nat} (a0 : Nat) {h : AH} {Q : Option Value → AH → Prop} (H : am_kd h a0 = 5 ∧ ((¬ (am_gi h a0 9) = (2 : Int32)) → am_kd h a0 = 5 ∧ am_kd h a0 = 5 ∧ Cl d 43 [.ref a0, .int ((-1 : Int32) - (am_gi h a0 11))] h (fun r4 h3 => r4 = none ∧ am_kd h3 a0 = 5 ∧ ((¬ (am_gi h3 a0 12) = (-1 : Int32)) → am_kd h3 a0 = 5 ∧ Cl d 44 [.ref a0] h3 (fun r8 h7 => r8 = none ∧ Q none h7)) ∧ (¬ (¬ (am_gi h3 a0 12) = (-1 : Int32)) → am_kd h3 a0 = 5 ∧ am_kd h3 1 = 100 ∧ am_in (am_gi h3 a0 7) (am_ln h3 1) ∧ am_kd h3 a0 = 5 ∧ ((¬ (((am_gi h3 1 (Int32.toNatClampNeg (am_gi h3 a0 7))) >>> ((am_gi h3 a0 11) &&& 31)) &&& (1 : Int32)) = (0 : Int32)) → am_kd h3 a0 = 5 ∧ Cl d 44 [.ref a0] h3 (fun r15 h14 => r15 = none ∧ Q none h14)) ∧ (¬ (¬ (((am_gi h3 1 (Int32.toNatClampNeg (am_gi h3 a0 7))) >>> ((am_gi h3 a0 11) &&& 31)) &&& (1 : Int32)) = (0 : Int32)) → am_kd h3 a0 = 5 ∧ am_kd h3 a0 = 5 ∧ ∀ h19, h19 = am_si h3 a0 12 (am_gi h3 a0 10) → am_kd h19 a0 = 5 ∧ Cl d 44 [.ref a0] h19 (fun r21 h20 => r21 = none ∧ Q none h20))))) ∧ (¬ (¬ (am_gi h a0 9) = (2 : Int32)) → am_kd h a0 = 5 ∧ am_kd h a0 = 5 ∧ Cl d 43 [.ref a0, .int (am_gi h a0 11)] h (fun r25 h24 => r25 = none ∧ am_kd h24 a0 = 5 ∧ Cl d 44 [.ref a0] h24 (fun r28 h27 => r28 = none ∧ Q none h27)))) : Cl (d + 1) 41 [.ref a0] h Q := by
  show Ev (d + 1) 41 0 [.ref a0] [] h Q
  refine ev_p (pc' := 1) (loc' := [.ref a0]) (st' := [.ref a0]) 1 am_q41 rfl ?_
  obtain ⟨g1, H⟩ := H
  refine ev_s (pc' := 4) (loc' := [.ref a0]) (st' := [.int (am_gi h a0 9)]) (h1 := h) am_q41 rfl rfl rfl (if_pos (e := none) g1) ?_
  refine ev_p (pc' := 5) (loc' := [.ref a0]) (st' := [.int (2 : Int32), .int (am_gi h a0 9)]) 1 am_q41 rfl ?_
  refine ev_jc (t := 19) am_q41 rfl rfl (fun hq => ?_) (fun hq => ?_)
  · replace H := H.1 hq
    refine ev_p (pc' := 22) (loc' := [.ref a0]) (st' := [.ref a0, .int (-1 : Int32), .ref a0]) 3 am_q41 rfl ?_
    obtain ⟨g2, H⟩ := H
    refine ev_s (pc' := 25) (loc' := [.ref a0]) (st' := [.int (am_gi h a0 11), .int (-1 : Int32), .ref a0]) (h1 := h) am_q41 rfl rfl rfl (if_pos (e := none) g2) ?_
    refine ev_p (pc' := 26) (loc' := [.ref a0]) (st' := [.int ((-1 : Int32) - (am_gi h a0 11)), .ref a0]) 1 am_q41 rfl ?_
    obtain ⟨g5, H⟩ := H
    refine ev_c (vs := [.ref a0, .int ((-1 : Int32) - (am_gi h a0 11))]) (rest := []) 43 am_q41 rfl rfl rfl rfl rfl rfl rfl rfl rfl rfl rfl rfl (Or.inr (congrArg some g5)) (Cl.mono H (Nat.le_refl _) (fun r4 h3 H => ?_))
    obtain ⟨rfl, H⟩ := H
    refine ev_p (pc' := 30) (loc' := [.ref a0]) (st' := [.ref a0]) 1 am_q41 rfl ?_
    obtain ⟨g6, H⟩ := H
    refine ev_s (pc' := 33) (loc' := [.ref a0]) (st' := [.int (am_gi h3 a0 12)]) (h1 := h3) am_q41 rfl rfl rfl (if_pos (e := none) g6) ?_
    refine ev_p (pc' := 34) (loc' := [.ref a0]) (st' := [.int (-1 : Int32), .int (am_gi h3 a0 12)]) 1 am_q41 rfl ?_
    refine ev_jc (t := 63) am_q41 rfl rfl (fun hq => ?_) (fun hq => ?_)
    · replace H := H.1 hq
      refine ev_p (pc' := 64) (loc' := [.ref a0]) (st' := [.ref a0]) 1 am_q41 rfl ?_
      obtain ⟨g9, H⟩ := H
      refine ev_c (vs := [.ref a0]) (rest := []) 44 am_q41 rfl rfl rfl rfl rfl rfl rfl rfl rfl rfl rfl rfl (Or.inr (congrArg some g9)) (Cl.mono H (Nat.le_refl _) (fun r8 h7 H => ?_))
      obtain ⟨rfl, H⟩ := H
      exact ev_r (v := none) am_q41 rfl rfl rfl rfl H
    · replace H := H.2 hq
      refine ev_p (pc' := 41) (loc' := [.ref a0]) (st' := [.ref a0, .ref 1]) 2 am_q41 rfl ?_
      obtain ⟨g10, H⟩ := H
      refine ev_s (pc' := 44) (loc' := [.ref a0]) (st' := [.int (am_gi h3 a0 7), .ref 1]) (h1 := h3) am_q41 rfl rfl rfl (if_pos (e := none) g10) ?_
      obtain ⟨g11, g12, H⟩ := H
      refine ev_s (pc' := 45) (loc' := [.ref a0]) (st' := [.int (am_gi h3 1 (Int32.toNatClampNeg (am_gi h3 a0 7)))]) (h1 := h3) am_q41 rfl rfl rfl (am_xx g11 g12) ?_
      refine ev_p (pc' := 46) (loc' := [.ref a0]) (st' := [.ref a0, .int (am_gi h3 1 (Int32.toNatClampNeg (am_gi h3 a0 7)))]) 1 am_q41 rfl ?_
      obtain ⟨g13, H⟩ := H
      refine ev_s (pc' := 49) (loc' := [.ref a0]) (st' := [.int (am_gi h3 a0 11), .int (am_gi h3 1 (Int32.toNatClampNeg (am_gi h3 a0 7)))]) (h1 := h3) am_q41 rfl rfl rfl (if_pos (e := none) g13) ?_
      refine ev_p (pc' := 52) (loc' := [.ref a0]) (st' := [.int (((am_gi h3 1 (Int32.toNatClampNeg (am_gi h3 a0 7))) >>> ((am_gi h3 a0 11) &&& 31)) &&& (1 : Int32))]) 3 am_q41 rfl ?_
      refine ev_jz (t := 63) am_q41 rfl rfl (fun hq => ?_) (fun hq => ?_)
      · replace H := H.1 hq
        refine ev_p (pc' := 64) (loc' := [.ref a0]) (st' := [.ref a0]) 1 am_q41 rfl ?_
        obtain ⟨g16, H⟩ := H
        refine ev_c (vs := [.ref a0]) (rest := []) 44 am_q41 rfl rfl rfl rfl rfl rfl rfl rfl rfl rfl rfl rfl (Or.inr (congrArg some g16)) (Cl.mono H (Nat.le_refl _) (fun r15 h14 H => ?_))
        obtain ⟨rfl, H⟩ := H
        exact ev_r (v := none) am_q41 rfl rfl rfl rfl H
      · replace H := H.2 hq
        refine ev_p (pc' := 57) (loc' := [.ref a0]) (st' := [.ref a0, .ref a0]) 2 am_q41 rfl ?_
        obtain ⟨g17, H⟩ := H
        refine ev_s (pc' := 60) (loc' := [.ref a0]) (st' := [.int (am_gi h3 a0 10), .ref a0]) (h1 := h3) am_q41 rfl rfl rfl (if_pos (e := none) g17) ?_
        obtain ⟨g18, H⟩ := H
        refine ev_s (pc' := 63) (loc' := [.ref a0]) (st' := []) (h1 := am_si h3 a0 12 (am_gi h3 a0 10)) am_q41 rfl rfl rfl (if_pos (e := none) g18) ?_
        replace H := H _ rfl
        generalize am_si h3 a0 12 (am_gi h3 a0 10) = h19 at H ⊢
        refine ev_p (pc' := 64) (loc' := [.ref a0]) (st' := [.ref a0]) 1 am_q41 rfl ?_
        obtain ⟨g22, H⟩ := H
        refine ev_c (vs := [.ref a0]) (rest := []) 44 am_q41 rfl rfl rfl rfl rfl rfl rfl rfl rfl rfl rfl rfl (Or.inr (congrArg some g22)) (Cl.mono H (Nat.le_refl _) (fun r21 h20 H => ?_))
        obtain ⟨rfl, H⟩ := H
        exact ev_r (v := none) am_q41 rfl rfl rfl rfl H
  · replace H := H.2 hq
    refine ev_p (pc' := 10) (loc' := [.ref a0]) (st' := [.ref a0, .ref a0]) 2 am_q41 rfl ?_
    obtain ⟨g23, H⟩ := H
    refine ev_s (pc' := 13) (loc' := [.ref a0]) (st' := [.int (am_gi h a0 11), .ref a0]) (h1 := h) am_q41 rfl rfl rfl (if_pos (e := none) g23) ?_
    obtain ⟨g26, H⟩ := H
    refine ev_c (vs := [.ref a0, .int (am_gi h a0 11)]) (rest := []) 43 am_q41 rfl rfl rfl rfl rfl rfl rfl rfl rfl rfl rfl rfl (Or.inr (congrArg some g26)) (Cl.mono H (Nat.le_refl _) (fun r25 h24 H => ?_))
    obtain ⟨rfl, H⟩ := H
    refine ev_p (pc' := 64) (loc' := [.ref a0]) (st' := [.ref a0]) 2 am_q41 rfl ?_
    obtain ⟨g29, H⟩ := H
    refine ev_c (vs := [.ref a0]) (rest := []) 44 am_q41 rfl rfl rfl rfl rfl rfl rfl rfl rfl rfl rfl rfl (Or.inr (congrArg some g29)) (Cl.mono H (Nat.le_refl _) (fun r28 h27 H => ?_))
    obtain ⟨rfl, H⟩ := H
    exact ev_r (v := none) am_q41 rfl rfl rfl rfl H
/-! 42: X5_skip -/
theorem am_q42 : (am_mt 42).2.2.2.2.2 = am_m42.2.2.2.2.2 := rfl
set_option maxRecDepth 20000 in
set_option maxHeartbeats 2000000 in
theorem wp42 {d : Nat} (a0 : Nat) (i1 : Int32) {h : AH} {Q : Option Value → AH → Prop} (H : am_kd h a0 = 5 ∧ ((am_gi h a0 9) = i1 → am_kd h a0 = 5 ∧ Cl d 44 [.ref a0] h (fun r3 h2 => r3 = none ∧ Q (some (.int (1 : Int32))) h2)) ∧ (¬ (am_gi h a0 9) = i1 → Q (some (.int (0 : Int32))) h)) : Cl (d + 1) 42 [.ref a0, .int i1] h Q := by
  show Ev (d + 1) 42 0 [.ref a0, .int i1] [] h Q
  refine ev_p (pc' := 1) (loc' := [.ref a0, .int i1]) (st' := [.ref a0]) 1 am_q42 rfl ?_
  obtain ⟨g1, H⟩ := H
  refine ev_s (pc' := 4) (loc' := [.ref a0, .int i1]) (st' := [.int (am_gi h a0 9)]) (h1 := h) am_q42 rfl rfl rfl (if_pos (e := none) g1) ?_
  refine ev_p (pc' := 5) (loc' := [.ref a0, .int i1]) (st' := [.int i1, .int (am_gi h a0 9)]) 1 am_q42 rfl ?_
  refine ev_jc (t := 10) am_q42 rfl rfl (fun hq => ?_) (fun hq => ?_)
  · replace H := H.1 hq
    refine ev_p (pc' := 11) (loc' := [.ref a0, .int i1]) (st' := [.ref a0]) 1 am_q42 rfl ?_
    obtain ⟨g4, H⟩ := H
    refine ev_c (vs := [.ref a0]) (rest := []) 44 am_q42 rfl rfl rfl rfl rfl rfl rfl rfl rfl rfl rfl rfl (Or.inr (congrArg some g4)) (Cl.mono H (Nat.le_refl _) (fun r3 h2 H => ?_))
    obtain ⟨rfl, H⟩ := H
    refine ev_p (pc' := 15) (loc' := [.ref a0, .int i1]) (st' := [.int (1 : Int32)]) 1 am_q42 rfl ?_
    exact ev_r (v := some (.int (1 : Int32))) am_q42 rfl rfl rfl rfl H
  · replace H := H.2 hq
    refine ev_p (pc' := 9) (loc' := [.ref a0, .int i1]) (st' := [.int (0 : Int32)]) 1 am_q42 rfl ?_
    exact ev_r (v := some (.int (0 : Int32))) am_q42 rfl rfl rfl rfl H
/-! 43: X5_emit -/
theorem am_q43 : (am_mt 43).2.2.2.2.2 = am_m43.2.2.2.2.2 := rfl
set_option maxRecDepth 20000 in
set_option maxHeartbeats 2000000 in
theorem wp43 {d : Nat} (a0 : Nat) (i1 : Int32) {h : AH} {Q : Option Value → AH → Prop} (H : am_kd h a0 = 5 ∧ ((400 : Int32) ≤ (am_gi h a0 3) → Q none h) ∧ (¬ (400 : Int32) ≤ (am_gi h a0 3) → am_kd h a0 = 5 ∧ ∃ b3, am_gr h a0 2 = some b3 ∧ am_kd h a0 = 5 ∧ (am_kd h b3 = 100 ∧ 6 ≤ b3) ∧ am_in (am_gi h a0 3) (am_ln h b3) ∧ ∀ h8, h8 = am_si h b3 (Int32.toNatClampNeg (am_gi h a0 3)) i1 → am_kd h8 a0 = 5 ∧ am_kd h8 a0 = 5 ∧ ∀ h11, h11 = am_si h8 a0 3 ((am_gi h8 a0 3) + (1 : Int32)) → Q none h11)) : Cl d 43 [.ref a0, .int i1] h Q := by
  show Ev d 43 0 [.ref a0, .int i1] [] h Q
  refine ev_p (pc' := 1) (loc' := [.ref a0, .int i1]) (st' := [.ref a0]) 1 am_q43 rfl ?_
  obtain ⟨g1, H⟩ := H
  refine ev_s (pc' := 4) (loc' := [.ref a0, .int i1]) (st' := [.int (am_gi h a0 3)]) (h1 := h) am_q43 rfl rfl rfl (if_pos (e := none) g1) ?_
  refine ev_p (pc' := 7) (loc' := [.ref a0, .int i1]) (st' := [.int (400 : Int32), .int (am_gi h a0 3)]) 1 am_q43 rfl ?_
  refine ev_jc (t := 30) am_q43 rfl rfl (fun hq => ?_) (fun hq => ?_)
  · replace H := H.1 hq
    exact ev_r (v := none) am_q43 rfl rfl rfl rfl H
  · replace H := H.2 hq
    refine ev_p (pc' := 11) (loc' := [.ref a0, .int i1]) (st' := [.ref a0]) 1 am_q43 rfl ?_
    obtain ⟨g2, b3, e4, H⟩ := H
    refine ev_s (pc' := 14) (loc' := [.ref a0, .int i1]) (st' := [.ref b3]) (h1 := h) am_q43 rfl rfl rfl (am_gf2 g2 e4) ?_
    refine ev_p (pc' := 15) (loc' := [.ref a0, .int i1]) (st' := [.ref a0, .ref b3]) 1 am_q43 rfl ?_
    obtain ⟨g5, H⟩ := H
    refine ev_s (pc' := 18) (loc' := [.ref a0, .int i1]) (st' := [.int (am_gi h a0 3), .ref b3]) (h1 := h) am_q43 rfl rfl rfl (if_pos (e := none) g5) ?_
    refine ev_p (pc' := 19) (loc' := [.ref a0, .int i1]) (st' := [.int i1, .int (am_gi h a0 3), .ref b3]) 1 am_q43 rfl ?_
    obtain ⟨g6, g7, H⟩ := H
    refine ev_s (pc' := 20) (loc' := [.ref a0, .int i1]) (st' := []) (h1 := am_si h b3 (Int32.toNatClampNeg (am_gi h a0 3)) i1) am_q43 rfl rfl rfl (am_xx g6 g7) ?_
    replace H := H _ rfl
    generalize am_si h b3 (Int32.toNatClampNeg (am_gi h a0 3)) i1 = h8 at H ⊢
    refine ev_p (pc' := 22) (loc' := [.ref a0, .int i1]) (st' := [.ref a0, .ref a0]) 2 am_q43 rfl ?_
    obtain ⟨g9, H⟩ := H
    refine ev_s (pc' := 25) (loc' := [.ref a0, .int i1]) (st' := [.int (am_gi h8 a0 3), .ref a0]) (h1 := h8) am_q43 rfl rfl rfl (if_pos (e := none) g9) ?_
    refine ev_p (pc' := 27) (loc' := [.ref a0, .int i1]) (st' := [.int ((am_gi h8 a0 3) + (1 : Int32)), .ref a0]) 2 am_q43 rfl ?_
    obtain ⟨g10, H⟩ := H
    refine ev_s (pc' := 30) (loc' := [.ref a0, .int i1]) (st' := []) (h1 := am_si h8 a0 3 ((am_gi h8 a0 3) + (1 : Int32))) am_q43 rfl rfl rfl (if_pos (e := none) g10) ?_
    replace H := H _ rfl
    generalize am_si h8 a0 3 ((am_gi h8 a0 3) + (1 : Int32)) = h11 at H ⊢
    exact ev_r (v := none) am_q43 rfl rfl rfl rfl H
/-! 44: X5_advance -/
theorem am_q44 : (am_mt 44).2.2.2.2.2 = am_m44.2.2.2.2.2 := rfl
set_option maxRecDepth 20000 in
set_option maxHeartbeats 2000000 in
theorem wp44 {d : Nat} (a0 : Nat) {h : AH} {Q : Option Value → AH → Prop} (H : am_kd h a0 = 5 ∧ am_kd h a0 = 5 ∧ ((am_gi h a0 1) ≤ (am_gi h a0 8) → Ev (d + 1) 44 39 [.ref a0] [] h Q) ∧ (¬ (am_gi h a0 1) ≤ (am_gi h a0 8) → am_kd h a0 = 5 ∧ ∃ b4, am_gr h a0 0 = some b4 ∧ am_kd h a0 = 5 ∧ (am_kd h b4 = 102 ∨ am_kd h b4 = 103) ∧ am_in (am_gi h a0 8) (am_ln h b4) ∧ Cl d 48 [.int (am_gi h b4 (Int32.toNatClampNeg (am_gi h a0 8)))] h (fun r10 h9 => ∃ x11, r10 = some (.int x11) ∧ (x11 = (0 : Int32) → Ev (d + 1) 44 39 [.ref a0] [] h9 Q) ∧ (¬ x11 = (0 : Int32) → am_kd h9 a0 = 5 ∧ am_kd h9 a0 = 5 ∧ ∀ h14, h14 = am_si h9 a0 8 ((am_gi h9 a0 8) + (1 : Int32)) → Ev (d + 1) 44 0 [.ref a0] [] h14 Q)))) : Cl (d + 1) 44 [.ref a0] h Q := by
  show Ev (d + 1) 44 0 [.ref a0] [] h Q
  refine ev_p (pc' := 1) (loc' := [.ref a0]) (st' := [.ref a0]) 1 am_q44 rfl ?_
  obtain ⟨g1, H⟩ := H
  refine ev_s (pc' := 4) (loc' := [.ref a0]) (st' := [.int (am_gi h a0 8)]) (h1 := h) am_q44 rfl rfl rfl (if_pos (e := none) g1) ?_
  refine ev_p (pc' := 5) (loc' := [.ref a0]) (st' := [.ref a0, .int (am_gi h a0 8)]) 1 am_q44 rfl ?_
  obtain ⟨g2, H⟩ := H
  refine ev_s (pc' := 8) (loc' := [.ref a0]) (st' := [.int (am_gi h a0 1), .int (am_gi h a0 8)]) (h1 := h) am_q44 rfl rfl rfl (if_pos (e := none) g2) ?_
  refine ev_jc (t := 39) am_q44 rfl rfl (fun hq => ?_) (fun hq => ?_)
  · replace H := H.1 hq
    exact ev_m (loc' := [.ref a0]) am_q44 rfl rfl H
  · replace H := H.2 hq
    refine ev_p (pc' := 12) (loc' := [.ref a0]) (st' := [.ref a0]) 1 am_q44 rfl ?_
    obtain ⟨g3, b4, e5, H⟩ := H
    refine ev_s (pc' := 15) (loc' := [.ref a0]) (st' := [.ref b4]) (h1 := h) am_q44 rfl rfl rfl (am_gf2 g3 e5) ?_
    refine ev_p (pc' := 16) (loc' := [.ref a0]) (st' := [.ref a0, .ref b4]) 1 am_q44 rfl ?_
    obtain ⟨g6, H⟩ := H
    refine ev_s (pc' := 19) (loc' := [.ref a0]) (st' := [.int (am_gi h a0 8), .ref b4]) (h1 := h) am_q44 rfl rfl rfl (if_pos (e := none) g6) ?_
    obtain ⟨g7, g8, H⟩ := H
    refine ev_s (pc' := 20) (loc' := [.ref a0]) (st' := [.int (am_gi h b4 (Int32.toNatClampNeg (am_gi h a0 8)))]) (h1 := h) am_q44 rfl rfl rfl (am_xx g7 g8) ?_
    refine ev_c (vs := [.int (am_gi h b4 (Int32.toNatClampNeg (am_gi h a0 8)))]) (rest := []) 48 am_q44 rfl rfl rfl rfl rfl rfl rfl rfl rfl rfl rfl rfl (Or.inl rfl) (Cl.mono H (Nat.le_refl _) (fun r10 h9 H => ?_))
    obtain ⟨x11, rfl, H⟩ := H
    refine ev_jz (t := 39) am_q44 rfl rfl (fun hq => ?_) (fun hq => ?_)
    · replace H := H.1 hq
      exact ev_m (loc' := [.ref a0]) am_q44 rfl rfl H
    · replace H := H.2 hq
      refine ev_p (pc' := 28) (loc' := [.ref a0]) (st' := [.ref a0, .ref a0]) 2 am_q44 rfl ?_
      obtain ⟨g12, H⟩ := H
      refine ev_s (pc' := 31) (loc' := [.ref a0]) (st' := [.int (am_gi h9 a0 8), .ref a0]) (h1 := h9) am_q44 rfl rfl rfl (if_pos (e := none) g12) ?_
      refine ev_p (pc' := 33) (loc' := [.ref a0]) (st' := [.int ((am_gi h9 a0 8) + (1 : Int32)), .ref a0]) 2 am_q44 rfl ?_
      obtain ⟨g13, H⟩ := H
      refine ev_s (pc' := 36) (loc' := [.ref a0]) (st' := []) (h1 := am_si h9 a0 8 ((am_gi h9 a0 8) + (1 : Int32))) am_q44 rfl rfl rfl (if_pos (e := none) g13) ?_
      replace H := H _ rfl
      generalize am_si h9 a0 8 ((am_gi h9 a0 8) + (1 : Int32)) = h14 at H ⊢
      refine ev_p (pc' := 0) (loc' := [.ref a0]) (st' := []) 1 am_q44 rfl ?_
      exact ev_m (loc' := [.ref a0]) am_q44 rfl rfl H
set_option maxRecDepth 20000 in
set_option maxHeartbeats 2000000 in
theorem wp44_39 {d : Nat} (a0 : Nat) {h : AH} {Q : Option Value → AH → Prop} (H : am_kd h a0 = 5 ∧ am_kd h a0 = 5 ∧ ∀ h3, h3 = am_si h a0 10 (am_gi h a0 8) → am_kd h3 a0 = 5 ∧ am_kd h3 a0 = 5 ∧ ((am_gi h3 a0 8) < (am_gi h3 a0 1) → am_kd h3 a0 = 5 ∧ ∃ b7, am_gr h3 a0 0 = some b7 ∧ am_kd h3 a0 = 5 ∧ (am_kd h3 b7 = 102 ∨ am_kd h3 b7 = 103) ∧ am_in (am_gi h3 a0 8) (am_ln h3 b7) ∧ Cl d 49 [.int (am_gi h3 b7 (Int32.toNatClampNeg (am_gi h3 a0 8)))] h3 (fun r13 h12 => ∃ x14, r13 = some (.int x14) ∧ (x14 = (0 : Int32) → am_kd h12 a0 = 5 ∧ ∃ b16, am_gr h12 a0 0 = some b16 ∧ am_kd h12 a0 = 5 ∧ (am_kd h12 b16 = 102 ∨ am_kd h12 b16 = 103) ∧ am_in (am_gi h12 a0 8) (am_ln h12 b16) ∧ Cl d 50 [.int (am_gi h12 b16 (Int32.toNatClampNeg (am_gi h12 a0 8)))] h12 (fun r22 h21 => ∃ x23, r22 = some (.int x23) ∧ (x23 = (0 : Int32) → am_kd h21 a0 = 5 ∧ ∃ b25, am_gr h21 a0 0 = some b25 ∧ am_kd h21 a0 = 5 ∧ (am_kd h21 b25 = 102 ∨ am_kd h21 b25 = 103) ∧ am_in (am_gi h21 a0 8) (am_ln h21 b25) ∧ Cl d 51 [.int (am_gi h21 b25 (Int32.toNatClampNeg (am_gi h21 a0 8)))] h21 (fun r31 h30 => ∃ x32, r31 = some (.int x32) ∧ (x32 = (0 : Int32) → am_kd h30 a0 = 5 ∧ ∀ h34, h34 = am_si h30 a0 9 (1 : Int32) → am_kd h34 a0 = 5 ∧ am_kd h34 a0 = 5 ∧ ∀ h37, h37 = am_si h34 a0 8 ((am_gi h34 a0 8) + (1 : Int32)) → Q none h37) ∧ (¬ x32 = (0 : Int32) → am_kd h30 a0 = 5 ∧ ∃ b39, am_gr h30 a0 0 = some b39 ∧ am_kd h30 a0 = 5 ∧ (am_kd h30 b39 = 102 ∨ am_kd h30 b39 = 103) ∧ am_in (am_gi h30 a0 8) (am_ln h30 b39) ∧ am_kd h30 a0 = 5 ∧ ∀ h45, h45 = am_si h30 a0 9 (am_gi h30 b39 (Int32.toNatClampNeg (am_gi h30 a0 8))) → am_kd h45 a0 = 5 ∧ am_kd h45 a0 = 5 ∧ ∀ h48, h48 = am_si h45 a0 8 ((am_gi h45 a0 8) + (1 : Int32)) → Q none h48))) ∧ (¬ x23 = (0 : Int32) → am_kd h21 a0 = 5 ∧ Cl d 47 [.ref a0] h21 (fun r50 h49 => r50 = none ∧ Q none h49)))) ∧ (¬ x14 = (0 : Int32) → am_kd h12 a0 = 5 ∧ Cl d 45 [.ref a0] h12 (fun r53 h52 => r53 = none ∧ Q none h52)))) ∧ (¬ (am_gi h3 a0 8) < (am_gi h3 a0 1) → am_kd h3 a0 = 5 ∧ ∀ h56, h56 = am_si h3 a0 9 (0 : Int32) → Q none h56)) : Ev (d + 1) 44 39 [.ref a0] [] h Q := by
  refine ev_p (pc' := 41) (loc' := [.ref a0]) (st' := [.ref a0, .ref a0]) 2 am_q44 rfl ?_
  obtain ⟨g1, H⟩ := H
  refine ev_s (pc' := 44) (loc' := [.ref a0]) (st' := [.int (am_gi h a0 8), .ref a0]) (h1 := h) am_q44 rfl rfl rfl (if_pos (e := none) g1) ?_
  obtain ⟨g2, H⟩ := H
  refine ev_s (pc' := 47) (loc' := [.ref a0]) (st' := []) (h1 := am_si h a0 10 (am_gi h a0 8)) am_q44 rfl rfl rfl (if_pos (e := none) g2) ?_
  replace H := H _ rfl
  generalize am_si h a0 10 (am_gi h a0 8) = h3 at H ⊢
  refine ev_p (pc' := 48) (loc' := [.ref a0]) (st' := [.ref a0]) 1 am_q44 rfl ?_
  obtain ⟨g4, H⟩ := H
  refine ev_s (pc' := 51) (loc' := [.ref a0]) (st' := [.int (am_gi h3 a0 8)]) (h1 := h3) am_q44 rfl rfl rfl (if_pos (e := none) g4) ?_
  refine ev_p (pc' := 52) (loc' := [.ref a0]) (st' := [.ref a0, .int (am_gi h3 a0 8)]) 1 am_q44 rfl ?_
  obtain ⟨g5, H⟩ := H
  refine ev_s (pc' := 55) (loc' := [.ref a0]) (st' := [.int (am_gi h3 a0 1), .int (am_gi h3 a0 8)]) (h1 := h3) am_q44 rfl rfl rfl (if_pos (e := none) g5) ?_
  refine ev_jc (t := 66) am_q44 rfl rfl (fun hq => ?_) (fun hq => ?_)
  · replace H := H.1 hq
    refine ev_p (pc' := 67) (loc' := [.ref a0]) (st' := [.ref a0]) 1 am_q44 rfl ?_
    obtain ⟨g6, b7, e8, H⟩ := H
    refine ev_s (pc' := 70) (loc' := [.ref a0]) (st' := [.ref b7]) (h1 := h3) am_q44 rfl rfl rfl (am_gf2 g6 e8) ?_
    refine ev_p (pc' := 71) (loc' := [.ref a0]) (st' := [.ref a0, .ref b7]) 1 am_q44 rfl ?_
    obtain ⟨g9, H⟩ := H
    refine ev_s (pc' := 74) (loc' := [.ref a0]) (st' := [.int (am_gi h3 a0 8), .ref b7]) (h1 := h3) am_q44 rfl rfl rfl (if_pos (e := none) g9) ?_
    obtain ⟨g10, g11, H⟩ := H
    refine ev_s (pc' := 75) (loc' := [.ref a0]) (st' := [.int (am_gi h3 b7 (Int32.toNatClampNeg (am_gi h3 a0 8)))]) (h1 := h3) am_q44 rfl rfl rfl (am_xx g10 g11) ?_
    refine ev_c (vs := [.int (am_gi h3 b7 (Int32.toNatClampNeg (am_gi h3 a0 8)))]) (rest := []) 49 am_q44 rfl rfl rfl rfl rfl rfl rfl rfl rfl rfl rfl rfl (Or.inl rfl) (Cl.mono H (Nat.le_refl _) (fun r13 h12 H => ?_))
    obtain ⟨x14, rfl, H⟩ := H
    refine ev_jz (t := 88) am_q44 rfl rfl (fun hq => ?_) (fun hq => ?_)
    · replace H := H.1 hq
      refine ev_p (pc' := 89) (loc' := [.ref a0]) (st' := [.ref a0]) 1 am_q44 rfl ?_
      obtain ⟨g15, b16, e17, H⟩ := H
      refine ev_s (pc' := 92) (loc' := [.ref a0]) (st' := [.ref b16]) (h1 := h12) am_q44 rfl rfl rfl (am_gf2 g15 e17) ?_
      refine ev_p (pc' := 93) (loc' := [.ref a0]) (st' := [.ref a0, .ref b16]) 1 am_q44 rfl ?_
      obtain ⟨g18, H⟩ := H
      refine ev_s (pc' := 96) (loc' := [.ref a0]) (st' := [.int (am_gi h12 a0 8), .ref b16]) (h1 := h12) am_q44 rfl rfl rfl (if_pos (e := none) g18) ?_
      obtain ⟨g19, g20, H⟩ := H
      refine ev_s (pc' := 97) (loc' := [.ref a0]) (st' := [.int (am_gi h12 b16 (Int32.toNatClampNeg (am_gi h12 a0 8)))]) (h1 := h12) am_q44 rfl rfl rfl (am_xx g19 g20) ?_
      refine ev_c (vs := [.int (am_gi h12 b16 (Int32.toNatClampNeg (am_gi h12 a0 8)))]) (rest := []) 50 am_q44 rfl rfl rfl rfl rfl rfl rfl rfl rfl rfl rfl rfl (Or.inl rfl) (Cl.mono H (Nat.le_refl _) (fun r22 h21 H => ?_))
      obtain ⟨x23, rfl, H⟩ := H
      refine ev_jz (t := 110) am_q44 rfl rfl (fun hq => ?_) (fun hq => ?_)
      · replace H := H.1 hq
        refine ev_p (pc' := 112) (loc' := [.ref a0]) (st' := [.ref a0, .ref a0]) 2 am_q44 rfl ?_
        obtain ⟨g24, b25, e26, H⟩ := H
        refine ev_s (pc' := 115) (loc' := [.ref a0]) (st' := [.ref b25, .ref a0]) (h1 := h21) am_q44 rfl rfl rfl (am_gf2 g24 e26) ?_
        refine ev_p (pc' := 116) (loc' := [.ref a0]) (st' := [.ref a0, .ref b25, .ref a0]) 1 am_q44 rfl ?_
        obtain ⟨g27, H⟩ := H
        refine ev_s (pc' := 119) (loc' := [.ref a0]) (st' := [.int (am_gi h21 a0 8), .ref b25, .ref a0]) (h1 := h21) am_q44 rfl rfl rfl (if_pos (e := none) g27) ?_
        obtain ⟨g28, g29, H⟩ := H
        refine ev_s (pc' := 120) (loc' := [.ref a0]) (st' := [.int (am_gi h21 b25 (Int32.toNatClampNeg (am_gi h21 a0 8))), .ref a0]) (h1 := h21) am_q44 rfl rfl rfl (am_xx g28 g29) ?_
        refine ev_c (vs := [.int (am_gi h21 b25 (Int32.toNatClampNeg (am_gi h21 a0 8)))]) (rest := [.ref a0]) 51 am_q44 rfl rfl rfl rfl rfl rfl rfl rfl rfl rfl rfl rfl (Or.inl rfl) (Cl.mono H (Nat.le_refl _) (fun r31 h30 H => ?_))
        obtain ⟨x32, rfl, H⟩ := H
        refine ev_jz (t := 138) am_q44 rfl rfl (fun hq => ?_) (fun hq => ?_)
        · replace H := H.1 hq
          refine ev_p (pc' := 139) (loc' := [.ref a0]) (st' := [.int (1 : Int32), .ref a0]) 1 am_q44 rfl ?_
          obtain ⟨g33, H⟩ := H
          refine ev_s (pc' := 142) (loc' := [.ref a0]) (st' := []) (h1 := am_si h30 a0 9 (1 : Int32)) am_q44 rfl rfl rfl (if_pos (e := none) g33) ?_
          replace H := H _ rfl
          generalize am_si h30 a0 9 (1 : Int32) = h34 at H ⊢
          refine ev_p (pc' := 144) (loc' := [.ref a0]) (st' := [.ref a0, .ref a0]) 2 am_q44 rfl ?_
          obtain ⟨g35, H⟩ := H
          refine ev_s (pc' := 147) (loc' := [.ref a0]) (st' := [.int (am_gi h34 a0 8), .ref a0]) (h1 := h34) am_q44 rfl rfl rfl (if_pos (e := none) g35) ?_
          refine ev_p (pc' := 149) (loc' := [.ref a0]) (st' := [.int ((am_gi h34 a0 8) + (1 : Int32)), .ref a0]) 2 am_q44 rfl ?_
          obtain ⟨g36, H⟩ := H
          refine ev_s (pc' := 152) (loc' := [.ref a0]) (st' := []) (h1 := am_si h34 a0 8 ((am_gi h34 a0 8) + (1 : Int32))) am_q44 rfl rfl rfl (if_pos (e := none) g36) ?_
          replace H := H _ rfl
          generalize am_si h34 a0 8 ((am_gi h34 a0 8) + (1 : Int32)) = h37 at H ⊢
          exact ev_r (v := none) am_q44 rfl rfl rfl rfl H
        · replace H := H.2 hq
          refine ev_p (pc' := 127) (loc' := [.ref a0]) (st' := [.ref a0, .ref a0]) 1 am_q44 rfl ?_
          obtain ⟨g38, b39, e40, H⟩ := H
          refine ev_s (pc' := 130) (loc' := [.ref a0]) (st' := [.ref b39, .ref a0]) (h1 := h30) am_q44 rfl rfl rfl (am_gf2 g38 e40) ?_
          refine ev_p (pc' := 131) (loc' := [.ref a0]) (st' := [.ref a0, .ref b39, .ref a0]) 1 am_q44 rfl ?_
          obtain ⟨g41, H⟩ := H
          refine ev_s (pc' := 134) (loc' := [.ref a0]) (st' := [.int (am_gi h30 a0 8), .ref b39, .ref a0]) (h1 := h30) am_q44 rfl rfl rfl (if_pos (e := none) g41) ?_
          obtain ⟨g42, g43, H⟩ := H
          refine ev_s (pc' := 135) (loc' := [.ref a0]) (st' := [.int (am_gi h30 b39 (Int32.toNatClampNeg (am_gi h30 a0 8))), .ref a0]) (h1 := h30) am_q44 rfl rfl rfl (am_xx g42 g43) ?_
          refine ev_p (pc' := 139) (loc' := [.ref a0]) (st' := [.int (am_gi h30 b39 (Int32.toNatClampNeg (am_gi h30 a0 8))), .ref a0]) 1 am_q44 rfl ?_
          obtain ⟨g44, H⟩ := H
          refine ev_s (pc' := 142) (loc' := [.ref a0]) (st' := []) (h1 := am_si h30 a0 9 (am_gi h30 b39 (Int32.toNatClampNeg (am_gi h30 a0 8)))) am_q44 rfl rfl rfl (if_pos (e := none) g44) ?_
          replace H := H _ rfl
          generalize am_si h30 a0 9 (am_gi h30 b39 (Int32.toNatClampNeg (am_gi h30 a0 8))) = h45 at H ⊢
          refine ev_p (pc' := 144) (loc' := [.ref a0]) (st' := [.ref a0, .ref a0]) 2 am_q44 rfl ?_
          obtain ⟨g46, H⟩ := H
          refine ev_s (pc' := 147) (loc' := [.ref a0]) (st' := [.int (am_gi h45 a0 8), .ref a0]) (h1 := h45) am_q44 rfl rfl rfl (if_pos (e := none) g46) ?_
          refine ev_p (pc' := 149) (loc' := [.ref a0]) (st' := [.int ((am_gi h45 a0 8) + (1 : Int32)), .ref a0]) 2 am_q44 rfl ?_
          obtain ⟨g47, H⟩ := H
          refine ev_s (pc' := 152) (loc' := [.ref a0]) (st' := []) (h1 := am_si h45 a0 8 ((am_gi h45 a0 8) + (1 : Int32))) am_q44 rfl rfl rfl (if_pos (e := none) g47) ?_
          replace H := H _ rfl
          generalize am_si h45 a0 8 ((am_gi h45 a0 8) + (1 : Int32)) = h48 at H ⊢
          exact ev_r (v := none) am_q44 rfl rfl rfl rfl H
      · replace H := H.2 hq
        refine ev_p (pc' := 104) (loc' := [.ref a0]) (st' := [.ref a0]) 1 am_q44 rfl ?_
        obtain ⟨g51, H⟩ := H
        refine ev_c (vs := [.ref a0]) (rest := []) 47 am_q44 rfl rfl rfl rfl rfl rfl rfl rfl rfl rfl rfl rfl (Or.inr (congrArg some g51)) (Cl.mono H (Nat.le_refl _) (fun r50 h49 H => ?_))
        obtain ⟨rfl, H⟩ := H
        refine ev_p (pc' := 152) (loc' := [.ref a0]) (st' := []) 1 am_q44 rfl ?_
        exact ev_r (v := none) am_q44 rfl rfl rfl rfl H
    · replace H := H.2 hq
      refine ev_p (pc' := 82) (loc' := [.ref a0]) (st' := [.ref a0]) 1 am_q44 rfl ?_
      obtain ⟨g54, H⟩ := H
      refine ev_c (vs := [.ref a0]) (rest := []) 45 am_q44 rfl rfl rfl rfl rfl rfl rfl rfl rfl rfl rfl rfl (Or.inr (congrArg some g54)) (Cl.mono H (Nat.le_refl _) (fun r53 h52 H => ?_))
      obtain ⟨rfl, H⟩ := H
      refine ev_p (pc' := 152) (loc' := [.ref a0]) (st' := []) 1 am_q44 rfl ?_
      exact ev_r (v := none) am_q44 rfl rfl rfl rfl H
  · replace H := H.2 hq
    refine ev_p (pc' := 60) (loc' := [.ref a0]) (st' := [.int (0 : Int32), .ref a0]) 2 am_q44 rfl ?_
    obtain ⟨g55, H⟩ := H
    refine ev_s (pc' := 63) (loc' := [.ref a0]) (st' := []) (h1 := am_si h3 a0 9 (0 : Int32)) am_q44 rfl rfl rfl (if_pos (e := none) g55) ?_
    replace H := H _ rfl
    generalize am_si h3 a0 9 (0 : Int32) = h56 at H ⊢
    refine ev_p (pc' := 152) (loc' := [.ref a0]) (st' := []) 1 am_q44 rfl ?_
    exact ev_r (v := none) am_q44 rfl rfl rfl rfl H
/-! 45: X5_scanWord -/
theorem am_q45 : (am_mt 45).2.2.2.2.2 = am_m45.2.2.2.2.2 := rfl
set_option maxRecDepth 20000 in
set_option maxHeartbeats 2000000 in
theorem wp45 {d : Nat} (a0 : Nat) {h : AH} {Q : Option Value → AH → Prop} (H : am_kd h a0 = 5 ∧ am_kd h a0 = 5 ∧ ((am_gi h a0 1) ≤ (am_gi h a0 8) → am_kd h a0 = 5 ∧ am_kd h a0 = 5 ∧ (((am_gi h a0 8) - (am_gi h a0 10)) ≤ (8 : Int32) → am_kd h a0 = 5 ∧ Cl d 46 [.ref a0] h (fun r6 h5 => ∃ x8, r6 = some (.int x8) ∧ Ev (d + 1) 45 61 [.ref a0, .null] [.int x8] h5 Q)) ∧ (¬ ((am_gi h a0 8) - (am_gi h a0 10)) ≤ (8 : Int32) → Ev (d + 1) 45 61 [.ref a0, .null] [.int (-1 : Int32)] h Q)) ∧ (¬ (am_gi h a0 1) ≤ (am_gi h a0 8) → am_kd h a0 = 5 ∧ ∃ b10, am_gr h a0 0 = some b10 ∧ am_kd h a0 = 5 ∧ (am_kd h b10 = 102 ∨ am_kd h b10 = 103) ∧ am_in (am_gi h a0 8) (am_ln h b10) ∧ Cl d 49 [.int (am_gi h b10 (Int32.toNatClampNeg (am_gi h a0 8)))] h (fun r16 h15 => ∃ x17, r16 = some (.int x17) ∧ (x17 = (0 : Int32) → am_kd h15 a0 = 5 ∧ am_kd h15 a0 = 5 ∧ (((am_gi h15 a0 8) - (am_gi h15 a0 10)) ≤ (8 : Int32) → am_kd h15 a0 = 5 ∧ Cl d 46 [.ref a0] h15 (fun r21 h20 => ∃ x23, r21 = some (.int x23) ∧ Ev (d + 1) 45 61 [.ref a0, .null] [.int x23] h20 Q)) ∧ (¬ ((am_gi h15 a0 8) - (am_gi h15 a0 10)) ≤ (8 : Int32) → Ev (d + 1) 45 61 [.ref a0, .null] [.int (-1 : Int32)] h15 Q)) ∧ (¬ x17 = (0 : Int32) → am_kd h15 a0 = 5 ∧ am_kd h15 a0 = 5 ∧ ∀ h26, h26 = am_si h15 a0 8 ((am_gi h15 a0 8) + (1 : Int32)) → Ev (d + 1) 45 0 [.ref a0, .null] [] h26 Q)))) : Cl (d + 1) 45 [.ref a0] h Q := by
  show Ev (d + 1) 45 0 [.ref a0, .null] [] h Q
  refine ev_p (pc' := 1) (loc' := [.ref a0, .null]) (st' := [.ref a0]) 1 am_q45 rfl ?_
  obtain ⟨g1, H⟩ := H
  refine ev_s (pc' := 4) (loc' := [.ref a0, .null]) (st' := [.int (am_gi h a0 8)]) (h1 := h) am_q45 rfl rfl rfl (if_pos (e := none) g1) ?_
  refine ev_p (pc' := 5) (loc' := [.ref a0, .null]) (st' := [.ref a0, .int (am_gi h a0 8)]) 1 am_q45 rfl ?_
  obtain ⟨g2, H⟩ := H
  refine ev_s (pc' := 8) (loc' := [.ref a0, .null]) (st' := [.int (am_gi h a0 1), .int (am_gi h a0 8)]) (h1 := h) am_q45 rfl rfl rfl (if_pos (e := none) g2) ?_
  refine ev_jc (t := 39) am_q45 rfl rfl (fun hq => ?_) (fun hq => ?_)
  · replace H := H.1 hq
    refine ev_p (pc' := 40) (loc' := [.ref a0, .null]) (st' := [.ref a0]) 1 am_q45 rfl ?_
    obtain ⟨g3, H⟩ := H
    refine ev_s (pc' := 43) (loc' := [.ref a0, .null]) (st' := [.int (am_gi h a0 8)]) (h1 := h) am_q45 rfl rfl rfl (if_pos (e := none) g3) ?_
    refine ev_p (pc' := 44) (loc' := [.ref a0, .null]) (st' := [.ref a0, .int (am_gi h a0 8)]) 1 am_q45 rfl ?_
    obtain ⟨g4, H⟩ := H
    refine ev_s (pc' := 47) (loc' := [.ref a0, .null]) (st' := [.int (am_gi h a0 10), .int (am_gi h a0 8)]) (h1 := h) am_q45 rfl rfl rfl (if_pos (e := none) g4) ?_
    refine ev_p (pc' := 50) (loc' := [.ref a0, .null]) (st' := [.int (8 : Int32), .int ((am_gi h a0 8) - (am_gi h a0 10))]) 2 am_q45 rfl ?_
    refine ev_jc (t := 57) am_q45 rfl rfl (fun hq => ?_) (fun hq => ?_)
    · replace H := H.1 hq
      refine ev_p (pc' := 58) (loc' := [.ref a0, .null]) (st' := [.ref a0]) 1 am_q45 rfl ?_
      obtain ⟨g7, H⟩ := H
      refine ev_c (vs := [.ref a0]) (rest := []) 46 am_q45 rfl rfl rfl rfl rfl rfl rfl rfl rfl rfl rfl rfl (Or.inr (congrArg some g7)) (Cl.mono H (Nat.le_refl _) (fun r6 h5 H => ?_))
      obtain ⟨x8, rfl, H⟩ := H
      exact ev_m (loc' := [.ref a0, .null]) am_q45 rfl rfl H
    · replace H := H.2 hq
      refine ev_p (pc' := 61) (loc' := [.ref a0, .null]) (st' := [.int (-1 : Int32)]) 2 am_q45 rfl ?_
      exact ev_m (loc' := [.ref a0, .null]) am_q45 rfl rfl H
  · replace H := H.2 hq
    refine ev_p (pc' := 12) (loc' := [.ref a0, .null]) (st' := [.ref a0]) 1 am_q45 rfl ?_
    obtain ⟨g9, b10, e11, H⟩ := H
    refine ev_s (pc' := 15) (loc' := [.ref a0, .null]) (st' := [.ref b10]) (h1 := h) am_q45 rfl rfl rfl (am_gf2 g9 e11) ?_
    refine ev_p (pc' := 16) (loc' := [.ref a0, .null]) (st' := [.ref a0, .ref b10]) 1 am_q45 rfl ?_
    obtain ⟨g12, H⟩ := H
    refine ev_s (pc' := 19) (loc' := [.ref a0, .null]) (st' := [.int (am_gi h a0 8), .ref b10]) (h1 := h) am_q45 rfl rfl rfl (if_pos (e := none) g12) ?_
    obtain ⟨g13, g14, H⟩ := H
    refine ev_s (pc' := 20) (loc' := [.ref a0, .null]) (st' := [.int (am_gi h b10 (Int32.toNatClampNeg (am_gi h a0 8)))]) (h1 := h) am_q45 rfl rfl rfl (am_xx g13 g14) ?_
    refine ev_c (vs := [.int (am_gi h b10 (Int32.toNatClampNeg (am_gi h a0 8)))]) (rest := []) 49 am_q45 rfl rfl rfl rfl rfl rfl rfl rfl rfl rfl rfl rfl (Or.inl rfl) (Cl.mono H (Nat.le_refl _) (fun r16 h15 H => ?_))
    obtain ⟨x17, rfl, H⟩ := H
    refine ev_jz (t := 39) am_q45 rfl rfl (fun hq => ?_) (fun hq => ?_)
    · replace H := H.1 hq
      refine ev_p (pc' := 40) (loc' := [.ref a0, .null]) (st' := [.ref a0]) 1 am_q45 rfl ?_
      obtain ⟨g18, H⟩ := H
      refine ev_s (pc' := 43) (loc' := [.ref a0, .null]) (st' := [.int (am_gi h15 a0 8)]) (h1 := h15) am_q45 rfl rfl rfl (if_pos (e := none) g18) ?_
      refine ev_p (pc' := 44) (loc' := [.ref a0, .null]) (st' := [.ref a0, .int (am_gi h15 a0 8)]) 1 am_q45 rfl ?_
      obtain ⟨g19, H⟩ := H
      refine ev_s (pc' := 47) (loc' := [.ref a0, .null]) (st' := [.int (am_gi h15 a0 10), .int (am_gi h15 a0 8)]) (h1 := h15) am_q45 rfl rfl rfl (if_pos (e := none) g19) ?_
      refine ev_p (pc' := 50) (loc' := [.ref a0, .null]) (st' := [.int (8 : Int32), .int ((am_gi h15 a0 8) - (am_gi h15 a0 10))]) 2 am_q45 rfl ?_
      refine ev_jc (t := 57) am_q45 rfl rfl (fun hq => ?_) (fun hq => ?_)
      · replace H := H.1 hq
        refine ev_p (pc' := 58) (loc' := [.ref a0, .null]) (st' := [.ref a0]) 1 am_q45 rfl ?_
        obtain ⟨g22, H⟩ := H
        refine ev_c (vs := [.ref a0]) (rest := []) 46 am_q45 rfl rfl rfl rfl rfl rfl rfl rfl rfl rfl rfl rfl (Or.inr (congrArg some g22)) (Cl.mono H (Nat.le_refl _) (fun r21 h20 H => ?_))
        obtain ⟨x23, rfl, H⟩ := H
        exact ev_m (loc' := [.ref a0, .null]) am_q45 rfl rfl H
      · replace H := H.2 hq
        refine ev_p (pc' := 61) (loc' := [.ref a0, .null]) (st' := [.int (-1 : Int32)]) 2 am_q45 rfl ?_
        exact ev_m (loc' := [.ref a0, .null]) am_q45 rfl rfl H
    · replace H := H.2 hq
      refine ev_p (pc' := 28) (loc' := [.ref a0, .null]) (st' := [.ref a0, .ref a0]) 2 am_q45 rfl ?_
      obtain ⟨g24, H⟩ := H
      refine ev_s (pc' := 31) (loc' := [.ref a0, .null]) (st' := [.int (am_gi h15 a0 8), .ref a0]) (h1 := h15) am_q45 rfl rfl rfl (if_pos (e := none) g24) ?_
      refine ev_p (pc' := 33) (loc' := [.ref a0, .null]) (st' := [.int ((am_gi h15 a0 8) + (1 : Int32)), .ref a0]) 2 am_q45 rfl ?_
      obtain ⟨g25, H⟩ := H
      refine ev_s (pc' := 36) (loc' := [.ref a0, .null]) (st' := []) (h1 := am_si h15 a0 8 ((am_gi h15 a0 8) + (1 : Int32))) am_q45 rfl rfl rfl (if_pos (e := none) g25) ?_
      replace H := H _ rfl
      generalize am_si h15 a0 8 ((am_gi h15 a0 8) + (1 : Int32)) = h26 at H ⊢
      refine ev_p (pc' := 0) (loc' := [.ref a0, .null]) (st' := []) 1 am_q45 rfl ?_
      exact ev_m (loc' := [.ref a0, .null]) am_q45 rfl rfl H
set_option maxRecDepth 20000 in
set_option maxHeartbeats 2000000 in
theorem wp45_61 {d : Nat} (a0 : Nat) (s0 : Int32) {h : AH} {Q : Option Value → AH → Prop} (H : ((¬ s0 = (-1 : Int32)) → ((8 : Int32) ≤ s0 → am_kd h a0 = 5 ∧ ∀ h2, h2 = am_si h a0 9 s0 → am_kd h2 a0 = 5 ∧ ∀ h4, h4 = am_si h2 a0 11 s0 → Q none h4) ∧ (¬ (8 : Int32) ≤ s0 → am_kd h a0 = 5 ∧ ∀ h6, h6 = am_si h a0 9 (3 : Int32) → am_kd h6 a0 = 5 ∧ ∀ h8, h8 = am_si h6 a0 11 s0 → Q none h8)) ∧ (¬ (¬ s0 = (-1 : Int32)) → am_kd h a0 = 5 ∧ ∀ h10, h10 = am_si h a0 9 (1 : Int32) → Q none h10)) : Ev (d + 1) 45 61 [.ref a0, .null] [.int s0] h Q := by
  refine ev_p (pc' := 64) (loc' := [.ref a0, .int s0]) (st' := [.int (-1 : Int32), .int s0]) 3 am_q45 rfl ?_
  refine ev_jc (t := 75) am_q45 rfl rfl (fun hq => ?_) (fun hq => ?_)
  · replace H := H.1 hq
    refine ev_p (pc' := 79) (loc' := [.ref a0, .int s0]) (st' := [.int (8 : Int32), .int s0, .ref a0]) 3 am_q45 rfl ?_
    refine ev_jc (t := 86) am_q45 rfl rfl (fun hq => ?_) (fun hq => ?_)
    · replace H := H.1 hq
      refine ev_p (pc' := 87) (loc' := [.ref a0, .int s0]) (st' := [.int s0, .ref a0]) 1 am_q45 rfl ?_
      obtain ⟨g1, H⟩ := H
      refine ev_s (pc' := 90) (loc' := [.ref a0, .int s0]) (st' := []) (h1 := am_si h a0 9 s0) am_q45 rfl rfl rfl (if_pos (e := none) g1) ?_
      replace H := H _ rfl
      generalize am_si h a0 9 s0 = h2 at H ⊢
      refine ev_p (pc' := 92) (loc' := [.ref a0, .int s0]) (st' := [.int s0, .ref a0]) 2 am_q45 rfl ?_
      obtain ⟨g3, H⟩ := H
      refine ev_s (pc' := 95) (loc' := [.ref a0, .int s0]) (st' := []) (h1 := am_si h2 a0 11 s0) am_q45 rfl rfl rfl (if_pos (e := none) g3) ?_
      replace H := H _ rfl
      generalize am_si h2 a0 11 s0 = h4 at H ⊢
      exact ev_r (v := none) am_q45 rfl rfl rfl rfl H
    · replace H := H.2 hq
      refine ev_p (pc' := 87) (loc' := [.ref a0, .int s0]) (st' := [.int (3 : Int32), .ref a0]) 2 am_q45 rfl ?_
      obtain ⟨g5, H⟩ := H
      refine ev_s (pc' := 90) (loc' := [.ref a0, .int s0]) (st' := []) (h1 := am_si h a0 9 (3 : Int32)) am_q45 rfl rfl rfl (if_pos (e := none) g5) ?_
      replace H := H _ rfl
      generalize am_si h a0 9 (3 : Int32) = h6 at H ⊢
      refine ev_p (pc' := 92) (loc' := [.ref a0, .int s0]) (st' := [.int s0, .ref a0]) 2 am_q45 rfl ?_
      obtain ⟨g7, H⟩ := H
      refine ev_s (pc' := 95) (loc' := [.ref a0, .int s0]) (st' := []) (h1 := am_si h6 a0 11 s0) am_q45 rfl rfl rfl (if_pos (e := none) g7) ?_
      replace H := H _ rfl
      generalize am_si h6 a0 11 s0 = h8 at H ⊢
      exact ev_r (v := none) am_q45 rfl rfl rfl rfl H
  · replace H := H.2 hq
    refine ev_p (pc' := 69) (loc' := [.ref a0, .int s0]) (st' := [.int (1 : Int32), .ref a0]) 2 am_q45 rfl ?_
    obtain ⟨g9, H⟩ := H
    refine ev_s (pc' := 72) (loc' := [.ref a0, .int s0]) (st' := []) (h1 := am_si h a0 9 (1 : Int32)) am_q45 rfl rfl rfl (if_pos (e := none) g9) ?_
    replace H := H _ rfl
    generalize am_si h a0 9 (1 : Int32) = h10 at H ⊢
    refine ev_p (pc' := 95) (loc' := [.ref a0, .int s0]) (st' := []) 1 am_q45 rfl ?_
    exact ev_r (v := none) am_q45 rfl rfl rfl rfl H
/-! 46: X5_wordOnTape -/
theorem am_q46 : (am_mt 46).2.2.2.2.2 = am_m46.2.2.2.2.2 := rfl
set_option maxRecDepth 20000 in
set_option maxHeartbeats 2000000 in
theorem wp46 {d : Nat} (a0 : Nat) {h : AH} {Q : Option Value → AH → Prop} (H : am_kd h a0 = 5 ∧ Ev d 46 9 [.ref a0, .int (0 : Int32), .int (am_gi h a0 10), .int (0 : Int32), .null] [] h Q) : Cl d 46 [.ref a0] h Q := by
  show Ev d 46 0 [.ref a0, .null, .null, .null, .null] [] h Q
  refine ev_p (pc' := 3) (loc' := [.ref a0, .int (0 : Int32), .null, .null, .null]) (st' := [.ref a0]) 3 am_q46 rfl ?_
  obtain ⟨g1, H⟩ := H
  refine ev_s (pc' := 6) (loc' := [.ref a0, .int (0 : Int32), .null, .null, .null]) (st' := [.int (am_gi h a0 10)]) (h1 := h) am_q46 rfl rfl rfl (if_pos (e := none) g1) ?_
  refine ev_p (pc' := 9) (loc' := [.ref a0, .int (0 : Int32), .int (am_gi h a0 10), .int (0 : Int32), .null]) (st' := []) 3 am_q46 rfl ?_
  exact ev_m (loc' := [.ref a0, .int (0 : Int32), .int (am_gi h a0 10), .int (0 : Int32), .null]) am_q46 rfl rfl H
set_option maxRecDepth 20000 in
set_option maxHeartbeats 2000000 in
theorem wp46_9 {d : Nat} (a0 : Nat) (i1 : Int32) (i2 : Int32) (i3 : Int32) {h : AH} {Q : Option Value → AH → Prop} (H : am_kd h 4 = 200 ∧ ((Int32.ofNat (am_ln h (4 + 1))) ≤ i3 → Q (some (.int (-1 : Int32))) h) ∧ (¬ (Int32.ofNat (am_ln h (4 + 1))) ≤ i3 → am_kd h 4 = 200 ∧ am_in i3 (am_ln h (4 + 1)) ∧ ((am_gi h (4 + 1) (Int32.toNatClampNeg i3) &&& 255) = (32 : Int32) → am_kd h a0 = 5 ∧ ((¬ i2 = (am_gi h a0 8)) → am_kd h a0 = 5 ∧ Ev d 46 9 [.ref a0, .int (i1 + (1 : Int32)), .int (am_gi h a0 10), .int (i3 + (1 : Int32)), .null] [] h Q) ∧ (¬ (¬ i2 = (am_gi h a0 8)) → Q (some (.int i1)) h)) ∧ (¬ (am_gi h (4 + 1) (Int32.toNatClampNeg i3) &&& 255) = (32 : Int32) → am_kd h a0 = 5 ∧ ((am_gi h a0 8) ≤ i2 → am_kd h a0 = 5 ∧ Ev d 46 9 [.ref a0, .int i1, .int ((am_gi h a0 8) + (1 : Int32)), .int (i3 + (1 : Int32)), .null] [] h Q) ∧ (¬ (am_gi h a0 8) ≤ i2 → am_kd h a0 = 5 ∧ ∃ b9, am_gr h a0 0 = some b9 ∧ (am_kd h b9 = 102 ∨ am_kd h b9 = 103) ∧ am_in i2 (am_ln h b9) ∧ ((¬ (am_gi h b9 (Int32.toNatClampNeg i2)) = (am_gi h (4 + 1) (Int32.toNatClampNeg i3) &&& 255)) → am_kd h a0 = 5 ∧ Ev d 46 9 [.ref a0, .int i1, .int ((am_gi h a0 8) + (1 : Int32)), .int (i3 + (1 : Int32)), .null] [] h Q) ∧ (¬ (¬ (am_gi h b9 (Int32.toNatClampNeg i2)) = (am_gi h (4 + 1) (Int32.toNatClampNeg i3) &&& 255)) → Ev d 46 9 [.ref a0, .int i1, .int (i2 + (1 : Int32)), .int (i3 + (1 : Int32)), .null] [] h Q))))) : Ev d 46 9 [.ref a0, .int i1, .int i2, .int i3, .null] [] h Q := by
  refine ev_p (pc' := 12) (loc' := [.ref a0, .int i1, .int i2, .int i3, .null]) (st' := [.ref 4, .int i3]) 2 am_q46 rfl ?_
  obtain ⟨g1, H⟩ := H
  refine ev_b (st' := [.int (Int32.ofNat (am_ln h (4 + 1))), .int i3]) (h1 := h) am_q46 rfl rfl rfl rfl (if_pos (e := none) g1) rfl ?_
  refine ev_jc (t := 92) am_q46 rfl rfl (fun hq => ?_) (fun hq => ?_)
  · replace H := H.1 hq
    refine ev_p (pc' := 93) (loc' := [.ref a0, .int i1, .int i2, .int i3, .null]) (st' := [.int (-1 : Int32)]) 1 am_q46 rfl ?_
    exact ev_r (v := some (.int (-1 : Int32))) am_q46 rfl rfl rfl rfl H
  · replace H := H.2 hq
    refine ev_p (pc' := 21) (loc' := [.ref a0, .int i1, .int i2, .int i3, .null]) (st' := [.int i3, .ref 4]) 2 am_q46 rfl ?_
    obtain ⟨g2, g3, H⟩ := H
    refine ev_b (st' := [.int (am_gi h (4 + 1) (Int32.toNatClampNeg i3) &&& 255)]) (h1 := h) am_q46 rfl rfl rfl rfl (am_b6 g2 g3) rfl ?_
    refine ev_p (pc' := 30) (loc' := [.ref a0, .int i1, .int i2, .int i3, .int (am_gi h (4 + 1) (Int32.toNatClampNeg i3) &&& 255)]) (st' := [.int (32 : Int32), .int (am_gi h (4 + 1) (Int32.toNatClampNeg i3) &&& 255)]) 3 am_q46 rfl ?_
    refine ev_jc (t := 68) am_q46 rfl rfl (fun hq => ?_) (fun hq => ?_)
    · replace H := H.1 hq
      refine ev_p (pc' := 70) (loc' := [.ref a0, .int i1, .int i2, .int i3, .int (am_gi h (4 + 1) (Int32.toNatClampNeg i3) &&& 255)]) (st' := [.ref a0, .int i2]) 2 am_q46 rfl ?_
      obtain ⟨g4, H⟩ := H
      refine ev_s (pc' := 73) (loc' := [.ref a0, .int i1, .int i2, .int i3, .int (am_gi h (4 + 1) (Int32.toNatClampNeg i3) &&& 255)]) (st' := [.int (am_gi h a0 8), .int i2]) (h1 := h) am_q46 rfl rfl rfl (if_pos (e := none) g4) ?_
      refine ev_jc (t := 78) am_q46 rfl rfl (fun hq => ?_) (fun hq => ?_)
      · replace H := H.1 hq
        refine ev_p (pc' := 82) (loc' := [.ref a0, .int (i1 + (1 : Int32)), .int i2, .int i3, .int (am_gi h (4 + 1) (Int32.toNatClampNeg i3) &&& 255)]) (st' := [.ref a0]) 2 am_q46 rfl ?_
        obtain ⟨g5, H⟩ := H
        refine ev_s (pc' := 85) (loc' := [.ref a0, .int (i1 + (1 : Int32)), .int i2, .int i3, .int (am_gi h (4 + 1) (Int32.toNatClampNeg i3) &&& 255)]) (st' := [.int (am_gi h a0 10)]) (h1 := h) am_q46 rfl rfl rfl (if_pos (e := none) g5) ?_
        refine ev_p (pc' := 9) (loc' := [.ref a0, .int (i1 + (1 : Int32)), .int (am_gi h a0 10), .int (i3 + (1 : Int32)), .null]) (st' := []) 3 am_q46 rfl ?_
        exact ev_m (loc' := [.ref a0, .int (i1 + (1 : Int32)), .int (am_gi h a0 10), .int (i3 + (1 : Int32)), .null]) am_q46 rfl rfl H
      · replace H := H.2 hq
        refine ev_p (pc' := 77) (loc' := [.ref a0, .int i1, .int i2, .int i3, .int (am_gi h (4 + 1) (Int32.toNatClampNeg i3) &&& 255)]) (st' := [.int i1]) 1 am_q46 rfl ?_
        exact ev_r (v := some (.int i1)) am_q46 rfl rfl rfl rfl H
    · replace H := H.2 hq
      refine ev_p (pc' := 35) (loc' := [.ref a0, .int i1, .int i2, .int i3, .int (am_gi h (4 + 1) (Int32.toNatClampNeg i3) &&& 255)]) (st' := [.ref a0, .int i2]) 2 am_q46 rfl ?_
      obtain ⟨g6, H⟩ := H
      refine ev_s (pc' := 38) (loc' := [.ref a0, .int i1, .int i2, .int i3, .int (am_gi h (4 + 1) (Int32.toNatClampNeg i3) &&& 255)]) (st' := [.int (am_gi h a0 8), .int i2]) (h1 := h) am_q46 rfl rfl rfl (if_pos (e := none) g6) ?_
      refine ev_jc (t := 58) am_q46 rfl rfl (fun hq => ?_) (fun hq => ?_)
      · replace H := H.1 hq
        refine ev_p (pc' := 59) (loc' := [.ref a0, .int i1, .null, .int i3, .null]) (st' := [.ref a0]) 1 am_q46 rfl ?_
        obtain ⟨g7, H⟩ := H
        refine ev_s (pc' := 62) (loc' := [.ref a0, .int i1, .null, .int i3, .null]) (st' := [.int (am_gi h a0 8)]) (h1 := h) am_q46 rfl rfl rfl (if_pos (e := none) g7) ?_
        refine ev_p (pc' := 9) (loc' := [.ref a0, .int i1, .int ((am_gi h a0 8) + (1 : Int32)), .int (i3 + (1 : Int32)), .null]) (st' := []) 6 am_q46 rfl ?_
        exact ev_m (loc' := [.ref a0, .int i1, .int ((am_gi h a0 8) + (1 : Int32)), .int (i3 + (1 : Int32)), .null]) am_q46 rfl rfl H
      · replace H := H.2 hq
        refine ev_p (pc' := 42) (loc' := [.ref a0, .int i1, .int i2, .int i3, .int (am_gi h (4 + 1) (Int32.toNatClampNeg i3) &&& 255)]) (st' := [.ref a0]) 1 am_q46 rfl ?_
        obtain ⟨g8, b9, e10, H⟩ := H
        refine ev_s (pc' := 45) (loc' := [.ref a0, .int i1, .int i2, .int i3, .int (am_gi h (4 + 1) (Int32.toNatClampNeg i3) &&& 255)]) (st' := [.ref b9]) (h1 := h) am_q46 rfl rfl rfl (am_gf2 g8 e10) ?_
        refine ev_p (pc' := 46) (loc' := [.ref a0, .int i1, .int i2, .int i3, .int (am_gi h (4 + 1) (Int32.toNatClampNeg i3) &&& 255)]) (st' := [.int i2, .ref b9]) 1 am_q46 rfl ?_
        obtain ⟨g11, g12, H⟩ := H
        refine ev_s (pc' := 47) (loc' := [.ref a0, .int i1, .int i2, .int i3, .int (am_gi h (4 + 1) (Int32.toNatClampNeg i3) &&& 255)]) (st' := [.int (am_gi h b9 (Int32.toNatClampNeg i2))]) (h1 := h) am_q46 rfl rfl rfl (am_xx g11 g12) ?_
        refine ev_p (pc' := 49) (loc' := [.ref a0, .int i1, .int i2, .int i3, .int (am_gi h (4 + 1) (Int32.toNatClampNeg i3) &&& 255)]) (st' := [.int (am_gi h (4 + 1) (Int32.toNatClampNeg i3) &&& 255), .int (am_gi h b9 (Int32.toNatClampNeg i2))]) 1 am_q46 rfl ?_
        refine ev_jc (t := 58) am_q46 rfl rfl (fun hq => ?_) (fun hq => ?_)
        · replace H := H.1 hq
          refine ev_p (pc' := 59) (loc' := [.ref a0, .int i1, .null, .int i3, .null]) (st' := [.ref a0]) 1 am_q46 rfl ?_
          obtain ⟨g13, H⟩ := H
          refine ev_s (pc' := 62) (loc' := [.ref a0, .int i1, .null, .int i3, .null]) (st' := [.int (am_gi h a0 8)]) (h1 := h) am_q46 rfl rfl rfl (if_pos (e := none) g13) ?_
          refine ev_p (pc' := 9) (loc' := [.ref a0, .int i1, .int ((am_gi h a0 8) + (1 : Int32)), .int (i3 + (1 : Int32)), .null]) (st' := []) 6 am_q46 rfl ?_
          exact ev_m (loc' := [.ref a0, .int i1, .int ((am_gi h a0 8) + (1 : Int32)), .int (i3 + (1 : Int32)), .null]) am_q46 rfl rfl H
        · replace H := H.2 hq
          refine ev_p (pc' := 9) (loc' := [.ref a0, .int i1, .int (i2 + (1 : Int32)), .int (i3 + (1 : Int32)), .null]) (st' := []) 8 am_q46 rfl ?_
          exact ev_m (loc' := [.ref a0, .int i1, .int (i2 + (1 : Int32)), .int (i3 + (1 : Int32)), .null]) am_q46 rfl rfl H
/-! 47: X5_scanNumber -/
theorem am_q47 : (am_mt 47).2.2.2.2.2 = am_m47.2.2.2.2.2 := rfl
set_option maxRecDepth 20000 in
set_option maxHeartbeats 2000000 in
theorem wp47 {d : Nat} (a0 : Nat) {h : AH} {Q : Option Value → AH → Prop} (H : Ev (d + 1) 47 2 [.ref a0, .int (0 : Int32)] [] h Q) : Cl (d + 1) 47 [.ref a0] h Q := by
  show Ev (d + 1) 47 0 [.ref a0, .null] [] h Q
  refine ev_p (pc' := 2) (loc' := [.ref a0, .int (0 : Int32)]) (st' := []) 2 am_q47 rfl ?_
  exact ev_m (loc' := [.ref a0, .int (0 : Int32)]) am_q47 rfl rfl H
set_option maxRecDepth 20000 in
set_option maxHeartbeats 2000000 in
theorem wp47_2 {d : Nat} (a0 : Nat) (i1 : Int32) {h : AH} {Q : Option Value → AH → Prop} (H : am_kd h a0 = 5 ∧ am_kd h a0 = 5 ∧ ((am_gi h a0 1) ≤ (am_gi h a0 8) → Ev (d + 1) 47 59 [.ref a0, .int i1] [] h Q) ∧ (¬ (am_gi h a0 1) ≤ (am_gi h a0 8) → am_kd h a0 = 5 ∧ ∃ b4, am_gr h a0 0 = some b4 ∧ am_kd h a0 = 5 ∧ (am_kd h b4 = 102 ∨ am_kd h b4 = 103) ∧ am_in (am_gi h a0 8) (am_ln h b4) ∧ Cl d 50 [.int (am_gi h b4 (Int32.toNatClampNeg (am_gi h a0 8)))] h (fun r10 h9 => ∃ x11, r10 = some (.int x11) ∧ (x11 = (0 : Int32) → Ev (d + 1) 47 59 [.ref a0, .int i1] [] h9 Q) ∧ (¬ x11 = (0 : Int32) → am_kd h9 a0 = 5 ∧ ∃ b13, am_gr h9 a0 0 = some b13 ∧ am_kd h9 a0 = 5 ∧ (am_kd h9 b13 = 102 ∨ am_kd h9 b13 = 103) ∧ am_in (am_gi h9 a0 8) (am_ln h9 b13) ∧ am_kd h9 a0 = 5 ∧ am_kd h9 a0 = 5 ∧ ∀ h20, h20 = am_si h9 a0 8 ((am_gi h9 a0 8) + (1 : Int32)) → Ev (d + 1) 47 2 [.ref a0, .int ((((10 : Int32) * i1) + (am_gi h9 b13 (Int32.toNatClampNeg (am_gi h9 a0 8)))) - (48 : Int32))] [] h20 Q)))) : Ev (d + 1) 47 2 [.ref a0, .int i1] [] h Q := by
  refine ev_p (pc' := 3) (loc' := [.ref a0, .int i1]) (st' := [.ref a0]) 1 am_q47 rfl ?_
  obtain ⟨g1, H⟩ := H
  refine ev_s (pc' := 6) (loc' := [.ref a0, .int i1]) (st' := [.int (am_gi h a0 8)]) (h1 := h) am_q47 rfl rfl rfl (if_pos (e := none) g1) ?_
  refine ev_p (pc' := 7) (loc' := [.ref a0, .int i1]) (st' := [.ref a0, .int (am_gi h a0 8)]) 1 am_q47 rfl ?_
  obtain ⟨g2, H⟩ := H
  refine ev_s (pc' := 10) (loc' := [.ref a0, .int i1]) (st' := [.int (am_gi h a0 1), .int (am_gi h a0 8)]) (h1 := h) am_q47 rfl rfl rfl (if_pos (e := none) g2) ?_
  refine ev_jc (t := 59) am_q47 rfl rfl (fun hq => ?_) (fun hq => ?_)
  · replace H := H.1 hq
    exact ev_m (loc' := [.ref a0, .int i1]) am_q47 rfl rfl H
  · replace H := H.2 hq
    refine ev_p (pc' := 14) (loc' := [.ref a0, .int i1]) (st' := [.ref a0]) 1 am_q47 rfl ?_
    obtain ⟨g3, b4, e5, H⟩ := H
    refine ev_s (pc' := 17) (loc' := [.ref a0, .int i1]) (st' := [.ref b4]) (h1 := h) am_q47 rfl rfl rfl (am_gf2 g3 e5) ?_
    refine ev_p (pc' := 18) (loc' := [.ref a0, .int i1]) (st' := [.ref a0, .ref b4]) 1 am_q47 rfl ?_
    obtain ⟨g6, H⟩ := H
    refine ev_s (pc' := 21) (loc' := [.ref a0, .int i1]) (st' := [.int (am_gi h a0 8), .ref b4]) (h1 := h) am_q47 rfl rfl rfl (if_pos (e := none) g6) ?_
    obtain ⟨g7, g8, H⟩ := H
    refine ev_s (pc' := 22) (loc' := [.ref a0, .int i1]) (st' := [.int (am_gi h b4 (Int32.toNatClampNeg (am_gi h a0 8)))]) (h1 := h) am_q47 rfl rfl rfl (am_xx g7 g8) ?_
    refine ev_c (vs := [.int (am_gi h b4 (Int32.toNatClampNeg (am_gi h a0 8)))]) (rest := []) 50 am_q47 rfl rfl rfl rfl rfl rfl rfl rfl rfl rfl rfl rfl (Or.inl rfl) (Cl.mono H (Nat.le_refl _) (fun r10 h9 H => ?_))
    obtain ⟨x11, rfl, H⟩ := H
    refine ev_jz (t := 59) am_q47 rfl rfl (fun hq => ?_) (fun hq => ?_)
    · replace H := H.1 hq
      exact ev_m (loc' := [.ref a0, .int i1]) am_q47 rfl rfl H
    · replace H := H.2 hq
      refine ev_p (pc' := 33) (loc' := [.ref a0, .int i1]) (st' := [.ref a0, .int ((10 : Int32) * i1)]) 4 am_q47 rfl ?_
      obtain ⟨g12, b13, e14, H⟩ := H
      refine ev_s (pc' := 36) (loc' := [.ref a0, .int i1]) (st' := [.ref b13, .int ((10 : Int32) * i1)]) (h1 := h9) am_q47 rfl rfl rfl (am_gf2 g12 e14) ?_
      refine ev_p (pc' := 37) (loc' := [.ref a0, .int i1]) (st' := [.ref a0, .ref b13, .int ((10 : Int32) * i1)]) 1 am_q47 rfl ?_
      obtain ⟨g15, H⟩ := H
      refine ev_s (pc' := 40) (loc' := [.ref a0, .int i1]) (st' := [.int (am_gi h9 a0 8), .ref b13, .int ((10 : Int32) * i1)]) (h1 := h9) am_q47 rfl rfl rfl (if_pos (e := none) g15) ?_
      obtain ⟨g16, g17, H⟩ := H
      refine ev_s (pc' := 41) (loc' := [.ref a0, .int i1]) (st' := [.int (am_gi h9 b13 (Int32.toNatClampNeg (am_gi h9 a0 8))), .int ((10 : Int32) * i1)]) (h1 := h9) am_q47 rfl rfl rfl (am_xx g16 g17) ?_
      refine ev_p (pc' := 48) (loc' := [.ref a0, .int ((((10 : Int32) * i1) + (am_gi h9 b13 (Int32.toNatClampNeg (am_gi h9 a0 8)))) - (48 : Int32))]) (st' := [.ref a0, .ref a0]) 6 am_q47 rfl ?_
      obtain ⟨g18, H⟩ := H
      refine ev_s (pc' := 51) (loc' := [.ref a0, .int ((((10 : Int32) * i1) + (am_gi h9 b13 (Int32.toNatClampNeg (am_gi h9 a0 8)))) - (48 : Int32))]) (st' := [.int (am_gi h9 a0 8), .ref a0]) (h1 := h9) am_q47 rfl rfl rfl (if_pos (e := none) g18) ?_
      refine ev_p (pc' := 53) (loc' := [.ref a0, .int ((((10 : Int32) * i1) + (am_gi h9 b13 (Int32.toNatClampNeg (am_gi h9 a0 8)))) - (48 : Int32))]) (st' := [.int ((am_gi h9 a0 8) + (1 : Int32)), .ref a0]) 2 am_q47 rfl ?_
      obtain ⟨g19, H⟩ := H
      refine ev_s (pc' := 56) (loc' := [.ref a0, .int ((((10 : Int32) * i1) + (am_gi h9 b13 (Int32.toNatClampNeg (am_gi h9 a0 8)))) - (48 : Int32))]) (st' := []) (h1 := am_si h9 a0 8 ((am_gi h9 a0 8) + (1 : Int32))) am_q47 rfl rfl rfl (if_pos (e := none) g19) ?_
      replace H := H _ rfl
      generalize am_si h9 a0 8 ((am_gi h9 a0 8) + (1 : Int32)) = h20 at H ⊢
      refine ev_p (pc' := 2) (loc' := [.ref a0, .int ((((10 : Int32) * i1) + (am_gi h9 b13 (Int32.toNatClampNeg (am_gi h9 a0 8)))) - (48 : Int32))]) (st' := []) 1 am_q47 rfl ?_
      exact ev_m (loc' := [.ref a0, .int ((((10 : Int32) * i1) + (am_gi h9 b13 (Int32.toNatClampNeg (am_gi h9 a0 8)))) - (48 : Int32))]) am_q47 rfl rfl H
set_option maxRecDepth 20000 in
set_option maxHeartbeats 2000000 in
theorem wp47_59 {d : Nat} (a0 : Nat) (i1 : Int32) {h : AH} {Q : Option Value → AH → Prop} (H : am_kd h a0 = 5 ∧ am_kd h a0 = 5 ∧ (((am_gi h a0 8) - (am_gi h a0 10)) ≤ (6 : Int32) → am_kd h a0 = 5 ∧ ∀ h4, h4 = am_si h a0 9 (2 : Int32) → am_kd h4 a0 = 5 ∧ ∀ h6, h6 = am_si h4 a0 11 i1 → Q none h6) ∧ (¬ ((am_gi h a0 8) - (am_gi h a0 10)) ≤ (6 : Int32) → am_kd h a0 = 5 ∧ ∀ h8, h8 = am_si h a0 9 (1 : Int32) → am_kd h8 a0 = 5 ∧ ∀ h10, h10 = am_si h8 a0 11 i1 → Q none h10)) : Ev (d + 1) 47 59 [.ref a0, .int i1] [] h Q := by
  refine ev_p (pc' := 61) (loc' := [.ref a0, .int i1]) (st' := [.ref a0, .ref a0]) 2 am_q47 rfl ?_
  obtain ⟨g1, H⟩ := H
  refine ev_s (pc' := 64) (loc' := [.ref a0, .int i1]) (st' := [.int (am_gi h a0 8), .ref a0]) (h1 := h) am_q47 rfl rfl rfl (if_pos (e := none) g1) ?_
  refine ev_p (pc' := 65) (loc' := [.ref a0, .int i1]) (st' := [.ref a0, .int (am_gi h a0 8), .ref a0]) 1 am_q47 rfl ?_
  obtain ⟨g2, H⟩ := H
  refine ev_s (pc' := 68) (loc' := [.ref a0, .int i1]) (st' := [.int (am_gi h a0 10), .int (am_gi h a0 8), .ref a0]) (h1 := h) am_q47 rfl rfl rfl (if_pos (e := none) g2) ?_
  refine ev_p (pc' := 71) (loc' := [.ref a0, .int i1]) (st' := [.int (6 : Int32), .int ((am_gi h a0 8) - (am_gi h a0 10)), .ref a0]) 2 am_q47 rfl ?_
  refine ev_jc (t := 78) am_q47 rfl rfl (fun hq => ?_) (fun hq => ?_)
  · replace H := H.1 hq
    refine ev_p (pc' := 79) (loc' := [.ref a0, .int i1]) (st' := [.int (2 : Int32), .ref a0]) 1 am_q47 rfl ?_
    obtain ⟨g3, H⟩ := H
    refine ev_s (pc' := 82) (loc' := [.ref a0, .int i1]) (st' := []) (h1 := am_si h a0 9 (2 : Int32)) am_q47 rfl rfl rfl (if_pos (e := none) g3) ?_
    replace H := H _ rfl
    generalize am_si h a0 9 (2 : Int32) = h4 at H ⊢
    refine ev_p (pc' := 84) (loc' := [.ref a0, .int i1]) (st' := [.int i1, .ref a0]) 2 am_q47 rfl ?_
    obtain ⟨g5, H⟩ := H
    refine ev_s (pc' := 87) (loc' := [.ref a0, .int i1]) (st' := []) (h1 := am_si h4 a0 11 i1) am_q47 rfl rfl rfl (if_pos (e := none) g5) ?_
    replace H := H _ rfl
    generalize am_si h4 a0 11 i1 = h6 at H ⊢
    exact ev_r (v := none) am_q47 rfl rfl rfl rfl H
  · replace H := H.2 hq
    refine ev_p (pc' := 79) (loc' := [.ref a0, .int i1]) (st' := [.int (1 : Int32), .ref a0]) 2 am_q47 rfl ?_
    obtain ⟨g7, H⟩ := H
    refine ev_s (pc' := 82) (loc' := [.ref a0, .int i1]) (st' := []) (h1 := am_si h a0 9 (1 : Int32)) am_q47 rfl rfl rfl (if_pos (e := none) g7) ?_
    replace H := H _ rfl
    generalize am_si h a0 9 (1 : Int32) = h8 at H ⊢
    refine ev_p (pc' := 84) (loc' := [.ref a0, .int i1]) (st' := [.int i1, .ref a0]) 2 am_q47 rfl ?_
    obtain ⟨g9, H⟩ := H
    refine ev_s (pc' := 87) (loc' := [.ref a0, .int i1]) (st' := []) (h1 := am_si h8 a0 11 i1) am_q47 rfl rfl rfl (if_pos (e := none) g9) ?_
    replace H := H _ rfl
    generalize am_si h8 a0 11 i1 = h10 at H ⊢
    exact ev_r (v := none) am_q47 rfl rfl rfl rfl H
/-! 48: X5_isBlank -/
theorem am_q48 : (am_mt 48).2.2.2.2.2 = am_m48.2.2.2.2.2 := rfl
set_option maxRecDepth 20000 in
set_option maxHeartbeats 2000000 in
theorem wp48 {d : Nat} (i0 : Int32) {h : AH} {Q : Option Value → AH → Prop} (H : (i0 = (32 : Int32) → Q (some (.int (1 : Int32))) h) ∧ (¬ i0 = (32 : Int32) → ((¬ i0 = (10 : Int32)) → Q (some (.int (0 : Int32))) h) ∧ (¬ (¬ i0 = (10 : Int32)) → Q (some (.int (1 : Int32))) h))) : Cl d 48 [.int i0] h Q := by
  show Ev d 48 0 [.int i0] [] h Q
  refine ev_p (pc' := 3) (loc' := [.int i0]) (st' := [.int (32 : Int32), .int i0]) 2 am_q48 rfl ?_
  refine ev_jc (t := 12) am_q48 rfl rfl (fun hq => ?_) (fun hq => ?_)
  · replace H := H.1 hq
    refine ev_p (pc' := 17) (loc' := [.null]) (st' := [.int (1 : Int32)]) 2 am_q48 rfl ?_
    exact ev_r (v := some (.int (1 : Int32))) am_q48 rfl rfl rfl rfl H
  · replace H := H.2 hq
    refine ev_p (pc' := 9) (loc' := [.int i0]) (st' := [.int (10 : Int32), .int i0]) 2 am_q48 rfl ?_
    refine ev_jc (t := 16) am_q48 rfl rfl (fun hq => ?_) (fun hq => ?_)
    · replace H := H.1 hq
      refine ev_p (pc' := 17) (loc' := [.int i0]) (st' := [.int (0 : Int32)]) 1 am_q48 rfl ?_
      exact ev_r (v := some (.int (0 : Int32))) am_q48 rfl rfl rfl rfl H
    · replace H := H.2 hq
      refine ev_p (pc' := 17) (loc' := [.null]) (st' := [.int (1 : Int32)]) 2 am_q48 rfl ?_
      exact ev_r (v := some (.int (1 : Int32))) am_q48 rfl rfl rfl rfl H
/-! 49: X5_isLetter -/
theorem am_q49 : (am_mt 49).2.2.2.2.2 = am_m49.2.2.2.2.2 := rfl
set_option maxRecDepth 20000 in
set_option maxHeartbeats 2000000 in
theorem wp49 {d : Nat} (i0 : Int32) {h : AH} {Q : Option Value → AH → Prop} (H : (i0 < (97 : Int32) → Q (some (.int (0 : Int32))) h) ∧ (¬ i0 < (97 : Int32) → ((122 : Int32) < i0 → Q (some (.int (0 : Int32))) h) ∧ (¬ (122 : Int32) < i0 → Q (some (.int (1 : Int32))) h))) : Cl d 49 [.int i0] h Q := by
  show Ev d 49 0 [.int i0] [] h Q
  refine ev_p (pc' := 3) (loc' := [.int i0]) (st' := [.int (97 : Int32), .int i0]) 2 am_q49 rfl ?_
  refine ev_jc (t := 16) am_q49 rfl rfl (fun hq => ?_) (fun hq => ?_)
  · replace H := H.1 hq
    refine ev_p (pc' := 17) (loc' := [.null]) (st' := [.int (0 : Int32)]) 1 am_q49 rfl ?_
    exact ev_r (v := some (.int (0 : Int32))) am_q49 rfl rfl rfl rfl H
  · replace H := H.2 hq
    refine ev_p (pc' := 9) (loc' := [.int i0]) (st' := [.int (122 : Int32), .int i0]) 2 am_q49 rfl ?_
    refine ev_jc (t := 16) am_q49 rfl rfl (fun hq => ?_) (fun hq => ?_)
    · replace H := H.1 hq
      refine ev_p (pc' := 17) (loc' := [.null]) (st' := [.int (0 : Int32)]) 1 am_q49 rfl ?_
      exact ev_r (v := some (.int (0 : Int32))) am_q49 rfl rfl rfl rfl H
    · replace H := H.2 hq
      refine ev_p (pc' := 17) (loc' := [.int i0]) (st' := [.int (1 : Int32)]) 2 am_q49 rfl ?_
      exact ev_r (v := some (.int (1 : Int32))) am_q49 rfl rfl rfl rfl H
/-! 50: X5_isDigit -/
theorem am_q50 : (am_mt 50).2.2.2.2.2 = am_m50.2.2.2.2.2 := rfl
set_option maxRecDepth 20000 in
set_option maxHeartbeats 2000000 in
theorem wp50 {d : Nat} (i0 : Int32) {h : AH} {Q : Option Value → AH → Prop} (H : (i0 < (48 : Int32) → Q (some (.int (0 : Int32))) h) ∧ (¬ i0 < (48 : Int32) → ((57 : Int32) < i0 → Q (some (.int (0 : Int32))) h) ∧ (¬ (57 : Int32) < i0 → Q (some (.int (1 : Int32))) h))) : Cl d 50 [.int i0] h Q := by
  show Ev d 50 0 [.int i0] [] h Q
  refine ev_p (pc' := 3) (loc' := [.int i0]) (st' := [.int (48 : Int32), .int i0]) 2 am_q50 rfl ?_
  refine ev_jc (t := 16) am_q50 rfl rfl (fun hq => ?_) (fun hq => ?_)
  · replace H := H.1 hq
    refine ev_p (pc' := 17) (loc' := [.null]) (st' := [.int (0 : Int32)]) 1 am_q50 rfl ?_
    exact ev_r (v := some (.int (0 : Int32))) am_q50 rfl rfl rfl rfl H
  · replace H := H.2 hq
    refine ev_p (pc' := 9) (loc' := [.int i0]) (st' := [.int (57 : Int32), .int i0]) 2 am_q50 rfl ?_
    refine ev_jc (t := 16) am_q50 rfl rfl (fun hq => ?_) (fun hq => ?_)
    · replace H := H.1 hq
      refine ev_p (pc' := 17) (loc' := [.null]) (st' := [.int (0 : Int32)]) 1 am_q50 rfl ?_
      exact ev_r (v := some (.int (0 : Int32))) am_q50 rfl rfl rfl rfl H
    · replace H := H.2 hq
      refine ev_p (pc' := 17) (loc' := [.int i0]) (st' := [.int (1 : Int32)]) 2 am_q50 rfl ?_
      exact ev_r (v := some (.int (1 : Int32))) am_q50 rfl rfl rfl rfl H
/-! 51: X5_isSign -/
theorem am_q51 : (am_mt 51).2.2.2.2.2 = am_m51.2.2.2.2.2 := rfl
set_option maxRecDepth 20000 in
set_option maxHeartbeats 2000000 in
theorem wp51 {d : Nat} (i0 : Int32) {h : AH} {Q : Option Value → AH → Prop} (H : (i0 = (40 : Int32) → Ev d 51 48 [.null] [] h Q) ∧ (¬ i0 = (40 : Int32) → (i0 = (41 : Int32) → Ev d 51 48 [.null] [] h Q) ∧ (¬ i0 = (41 : Int32) → (i0 = (59 : Int32) → Ev d 51 48 [.null] [] h Q) ∧ (¬ i0 = (59 : Int32) → (i0 = (43 : Int32) → Ev d 51 48 [.null] [] h Q) ∧ (¬ i0 = (43 : Int32) → (i0 = (45 : Int32) → Ev d 51 48 [.null] [] h Q) ∧ (¬ i0 = (45 : Int32) → (i0 = (42 : Int32) → Ev d 51 48 [.null] [] h Q) ∧ (¬ i0 = (42 : Int32) → (i0 = (60 : Int32) → Ev d 51 48 [.null] [] h Q) ∧ (¬ i0 = (60 : Int32) → ((¬ i0 = (61 : Int32)) → Q (some (.int (0 : Int32))) h) ∧ (¬ (¬ i0 = (61 : Int32)) → Ev d 51 48 [.null] [] h Q))))))))) : Cl d 51 [.int i0] h Q := by
  show Ev d 51 0 [.int i0] [] h Q
  refine ev_p (pc' := 3) (loc' := [.int i0]) (st' := [.int (40 : Int32), .int i0]) 2 am_q51 rfl ?_
  refine ev_jc (t := 48) am_q51 rfl rfl (fun hq => ?_) (fun hq => ?_)
  · replace H := H.1 hq
    exact ev_m (loc' := [.null]) am_q51 rfl rfl H
  · replace H := H.2 hq
    refine ev_p (pc' := 9) (loc' := [.int i0]) (st' := [.int (41 : Int32), .int i0]) 2 am_q51 rfl ?_
    refine ev_jc (t := 48) am_q51 rfl rfl (fun hq => ?_) (fun hq => ?_)
    · replace H := H.1 hq
      exact ev_m (loc' := [.null]) am_q51 rfl rfl H
    · replace H := H.2 hq
      refine ev_p (pc' := 15) (loc' := [.int i0]) (st' := [.int (59 : Int32), .int i0]) 2 am_q51 rfl ?_
      refine ev_jc (t := 48) am_q51 rfl rfl (fun hq => ?_) (fun hq => ?_)
      · replace H := H.1 hq
        exact ev_m (loc' := [.null]) am_q51 rfl rfl H
      · replace H := H.2 hq
        refine ev_p (pc' := 21) (loc' := [.int i0]) (st' := [.int (43 : Int32), .int i0]) 2 am_q51 rfl ?_
        refine ev_jc (t := 48) am_q51 rfl rfl (fun hq => ?_) (fun hq => ?_)
        · replace H := H.1 hq
          exact ev_m (loc' := [.null]) am_q51 rfl rfl H
        · replace H := H.2 hq
          refine ev_p (pc' := 27) (loc' := [.int i0]) (st' := [.int (45 : Int32), .int i0]) 2 am_q51 rfl ?_
          refine ev_jc (t := 48) am_q51 rfl rfl (fun hq => ?_) (fun hq => ?_)
          · replace H := H.1 hq
            exact ev_m (loc' := [.null]) am_q51 rfl rfl H
          · replace H := H.2 hq
            refine ev_p (pc' := 33) (loc' := [.int i0]) (st' := [.int (42 : Int32), .int i0]) 2 am_q51 rfl ?_
            refine ev_jc (t := 48) am_q51 rfl rfl (fun hq => ?_) (fun hq => ?_)
            · replace H := H.1 hq
              exact ev_m (loc' := [.null]) am_q51 rfl rfl H
            · replace H := H.2 hq
              refine ev_p (pc' := 39) (loc' := [.int i0]) (st' := [.int (60 : Int32), .int i0]) 2 am_q51 rfl ?_
              refine ev_jc (t := 48) am_q51 rfl rfl (fun hq => ?_) (fun hq => ?_)
              · replace H := H.1 hq
                exact ev_m (loc' := [.null]) am_q51 rfl rfl H
              · replace H := H.2 hq
                refine ev_p (pc' := 45) (loc' := [.int i0]) (st' := [.int (61 : Int32), .int i0]) 2 am_q51 rfl ?_
                refine ev_jc (t := 52) am_q51 rfl rfl (fun hq => ?_) (fun hq => ?_)
                · replace H := H.1 hq
                  refine ev_p (pc' := 53) (loc' := [.int i0]) (st' := [.int (0 : Int32)]) 1 am_q51 rfl ?_
                  exact ev_r (v := some (.int (0 : Int32))) am_q51 rfl rfl rfl rfl H
                · replace H := H.2 hq
                  exact ev_m (loc' := [.null]) am_q51 rfl rfl H
set_option maxRecDepth 20000 in
set_option maxHeartbeats 2000000 in
theorem wp51_48 {d : Nat}  {h : AH} {Q : Option Value → AH → Prop} (H : Q (some (.int (1 : Int32))) h) : Ev d 51 48 [.null] [] h Q := by
  refine ev_p (pc' := 53) (loc' := [.null]) (st' := [.int (1 : Int32)]) 2 am_q51 rfl ?_
  exact ev_r (v := some (.int (1 : Int32))) am_q51 rfl rfl rfl rfl H
