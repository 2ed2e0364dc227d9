/-! 52: X6_init -/
theorem am_q52 : (am_mt 52).2.2.2.2.2 = am_m52.2.2.2.2.2 := rfl
set_option maxRecDepth 20000 in
set_option maxHeartbeats 2000000 in
theorem wp52 {d : Nat} (a0 : Nat) {h : AH} {Q : Option Value → AH → Prop} (H : (¬ (60 : Int32) < (0 : Int32) ∧ (Int32.toNatClampNeg (60 : Int32)) ≤ 100000) ∧ ∀ b3, b3 = am_sz h → ∀ h2, h2 = am_nw h 106 (Int32.toNatClampNeg (60 : Int32)) (Int32.toNatClampNeg (60 : Int32)) → am_kd h2 a0 = 6 ∧ ∀ h6, h6 = am_sr h2 a0 0 (some b3) → Ev (d + 1) 52 15 [.ref a0, .int (0 : Int32)] [] h6 Q) : Cl (d + 1) 52 [.ref a0] h Q := by
  show Ev (d + 1) 52 0 [.ref a0, .null] [] h Q
  refine ev_p (pc' := 1) (loc' := [.ref a0, .null]) (st' := [.ref a0]) 1 am_q52 rfl ?_
  refine ev_b (st' := []) (h1 := h) am_q52 rfl rfl rfl rfl (rfl) rfl ?_
  refine ev_p (pc' := 7) (loc' := [.ref a0, .null]) (st' := [.int (60 : Int32), .ref a0]) 2 am_q52 rfl ?_
  obtain ⟨g4, H⟩ := H
  refine ev_s (pc' := 10) (loc' := [.ref a0, .null]) (st' := [.ref (am_sz h), .ref a0]) (h1 := am_nw h 106 (Int32.toNatClampNeg (60 : Int32)) (Int32.toNatClampNeg (60 : Int32))) am_q52 rfl rfl rfl (if_pos (e := none) g4) ?_
  replace H := H _ rfl _ rfl
  generalize am_nw h 106 (Int32.toNatClampNeg (60 : Int32)) (Int32.toNatClampNeg (60 : Int32)) = h2 at H ⊢
  generalize am_sz h = b3 at H ⊢
  obtain ⟨g5, H⟩ := H
  refine ev_s (pc' := 13) (loc' := [.ref a0, .null]) (st' := []) (h1 := am_sr h2 a0 0 (some b3)) am_q52 rfl rfl rfl (if_pos (e := none) g5) ?_
  replace H := H _ rfl
  generalize am_sr h2 a0 0 (some b3) = h6 at H ⊢
  refine ev_p (pc' := 15) (loc' := [.ref a0, .int (0 : Int32)]) (st' := []) 2 am_q52 rfl ?_
  exact ev_m (loc' := [.ref a0, .int (0 : Int32)]) am_q52 rfl rfl H
set_option maxRecDepth 20000 in
set_option maxHeartbeats 2000000 in
theorem wp52_15 {d : Nat} (a0 : Nat) (i1 : Int32) {h : AH} {Q : Option Value → AH → Prop} (H : ((60 : Int32) ≤ i1 → Q none h) ∧ (¬ (60 : Int32) ≤ i1 → am_kd h a0 = 6 ∧ ∃ b2, am_gr h a0 0 = some b2 ∧ ∀ b5, b5 = am_sz h → ∀ h4, h4 = am_nw h 7 0 6 → am_kd h4 b5 = 7 ∧ Cl d 64 [.ref b5] h4 (fun r7 h6 => r7 = none ∧ (104 ≤ am_kd h6 b2 ∧ am_kd h6 b2 ≤ 108 ∧ am_kd h6 b5 = am_cmpn (am_kd h6 b2)) ∧ am_in i1 (am_ln h6 b2) ∧ ∀ h11, h11 = am_sr h6 b2 (Int32.toNatClampNeg i1) (some b5) → Ev (d + 1) 52 15 [.ref a0, .int (i1 + (1 : Int32))] [] h11 Q))) : Ev (d + 1) 52 15 [.ref a0, .int i1] [] h Q := by
  refine ev_p (pc' := 18) (loc' := [.ref a0, .int i1]) (st' := [.int (60 : Int32), .int i1]) 2 am_q52 rfl ?_
  refine ev_jc (t := 40) am_q52 rfl rfl (fun hq => ?_) (fun hq => ?_)
  · replace H := H.1 hq
    exact ev_r (v := none) am_q52 rfl rfl rfl rfl H
  · replace H := H.2 hq
    refine ev_p (pc' := 22) (loc' := [.ref a0, .int i1]) (st' := [.ref a0]) 1 am_q52 rfl ?_
    obtain ⟨g1, b2, e3, H⟩ := H
    refine ev_s (pc' := 25) (loc' := [.ref a0, .int i1]) (st' := [.ref b2]) (h1 := h) am_q52 rfl rfl rfl (am_gf2 g1 e3) ?_
    refine ev_p (pc' := 26) (loc' := [.ref a0, .int i1]) (st' := [.int i1, .ref b2]) 1 am_q52 rfl ?_
    refine ev_s (pc' := 29) (loc' := [.ref a0, .int i1]) (st' := [.ref (am_sz h), .int i1, .ref b2]) (h1 := am_nw h 7 0 6) am_q52 rfl rfl rfl (rfl) ?_
    replace H := H _ rfl _ rfl
    generalize am_nw h 7 0 6 = h4 at H ⊢
    generalize am_sz h = b5 at H ⊢
    refine ev_p (pc' := 30) (loc' := [.ref a0, .int i1]) (st' := [.ref b5, .ref b5, .int i1, .ref b2]) 1 am_q52 rfl ?_
    obtain ⟨g8, H⟩ := H
    refine ev_c (vs := [.ref b5]) (rest := [.ref b5, .int i1, .ref b2]) 64 am_q52 rfl rfl rfl rfl rfl rfl rfl rfl rfl rfl rfl rfl (Or.inr (congrArg some g8)) (Cl.mono H (Nat.le_refl _) (fun r7 h6 H => ?_))
    obtain ⟨rfl, H⟩ := H
    obtain ⟨g9, g10, H⟩ := H
    refine ev_s (pc' := 34) (loc' := [.ref a0, .int i1]) (st' := []) (h1 := am_sr h6 b2 (Int32.toNatClampNeg i1) (some b5)) am_q52 rfl rfl rfl (am_xx g9 g10) ?_
    replace H := H _ rfl
    generalize am_sr h6 b2 (Int32.toNatClampNeg i1) (some b5) = h11 at H ⊢
    refine ev_p (pc' := 15) (loc' := [.ref a0, .int (i1 + (1 : Int32))]) (st' := []) 2 am_q52 rfl ?_
    exact ev_m (loc' := [.ref a0, .int (i1 + (1 : Int32))]) am_q52 rfl rfl H
/-! 53: X6_has -/
theorem am_q53 : (am_mt 53).2.2.2.2.2 = am_m53.2.2.2.2.2 := rfl
set_option maxRecDepth 20000 in
set_option maxHeartbeats 2000000 in
theorem wp53 {d : Nat} (a0 : Nat) (i1 : Int32) {h : AH} {Q : Option Value → AH → Prop} (H : (i1 < (0 : Int32) → Q (some (.int (0 : Int32))) h) ∧ (¬ i1 < (0 : Int32) → am_kd h a0 = 6 ∧ ((am_gi h a0 1) ≤ i1 → Q (some (.int (0 : Int32))) h) ∧ (¬ (am_gi h a0 1) ≤ i1 → Q (some (.int (1 : Int32))) h))) : Cl d 53 [.ref a0, .int i1] h Q := by
  show Ev d 53 0 [.ref a0, .int i1] [] h Q
  refine ev_p (pc' := 1) (loc' := [.ref a0, .int i1]) (st' := [.int i1]) 1 am_q53 rfl ?_
  refine ev_jz (t := 16) am_q53 rfl rfl (fun hq => ?_) (fun hq => ?_)
  · replace H := H.1 hq
    refine ev_p (pc' := 17) (loc' := [.null, .null]) (st' := [.int (0 : Int32)]) 1 am_q53 rfl ?_
    exact ev_r (v := some (.int (0 : Int32))) am_q53 rfl rfl rfl rfl H
  · replace H := H.2 hq
    refine ev_p (pc' := 6) (loc' := [.ref a0, .int i1]) (st' := [.ref a0, .int i1]) 2 am_q53 rfl ?_
    obtain ⟨g1, H⟩ := H
    refine ev_s (pc' := 9) (loc' := [.ref a0, .int i1]) (st' := [.int (am_gi h a0 1), .int i1]) (h1 := h) am_q53 rfl rfl rfl (if_pos (e := none) g1) ?_
    refine ev_jc (t := 16) am_q53 rfl rfl (fun hq => ?_) (fun hq => ?_)
    · replace H := H.1 hq
      refine ev_p (pc' := 17) (loc' := [.null, .null]) (st' := [.int (0 : Int32)]) 1 am_q53 rfl ?_
      exact ev_r (v := some (.int (0 : Int32))) am_q53 rfl rfl rfl rfl H
    · replace H := H.2 hq
      refine ev_p (pc' := 17) (loc' := [.ref a0, .int i1]) (st' := [.int (1 : Int32)]) 2 am_q53 rfl ?_
      exact ev_r (v := some (.int (1 : Int32))) am_q53 rfl rfl rfl rfl H
/-! 54: X6_hasRoom -/
theorem am_q54 : (am_mt 54).2.2.2.2.2 = am_m54.2.2.2.2.2 := rfl
set_option maxRecDepth 20000 in
set_option maxHeartbeats 2000000 in
theorem wp54 {d : Nat} (a0 : Nat) (i1 : Int32) {h : AH} {Q : Option Value → AH → Prop} (H : am_kd h a0 = 6 ∧ ((60 : Int32) < ((am_gi h a0 1) + i1) → Q (some (.int (0 : Int32))) h) ∧ (¬ (60 : Int32) < ((am_gi h a0 1) + i1) → Q (some (.int (1 : Int32))) h)) : Cl d 54 [.ref a0, .int i1] h Q := by
  show Ev d 54 0 [.ref a0, .int i1] [] h Q
  refine ev_p (pc' := 1) (loc' := [.ref a0, .int i1]) (st' := [.ref a0]) 1 am_q54 rfl ?_
  obtain ⟨g1, H⟩ := H
  refine ev_s (pc' := 4) (loc' := [.ref a0, .int i1]) (st' := [.int (am_gi h a0 1)]) (h1 := h) am_q54 rfl rfl rfl (if_pos (e := none) g1) ?_
  refine ev_p (pc' := 8) (loc' := [.ref a0, .int i1]) (st' := [.int (60 : Int32), .int ((am_gi h a0 1) + i1)]) 3 am_q54 rfl ?_
  refine ev_jc (t := 15) am_q54 rfl rfl (fun hq => ?_) (fun hq => ?_)
  · replace H := H.1 hq
    refine ev_p (pc' := 16) (loc' := [.ref a0, .int i1]) (st' := [.int (0 : Int32)]) 1 am_q54 rfl ?_
    exact ev_r (v := some (.int (0 : Int32))) am_q54 rfl rfl rfl rfl H
  · replace H := H.2 hq
    refine ev_p (pc' := 16) (loc' := [.ref a0, .int i1]) (st' := [.int (1 : Int32)]) 2 am_q54 rfl ?_
    exact ev_r (v := some (.int (1 : Int32))) am_q54 rfl rfl rfl rfl H
/-! 55: X6_add -/
theorem am_q55 : (am_mt 55).2.2.2.2.2 = am_m55.2.2.2.2.2 := rfl
set_option maxRecDepth 20000 in
set_option maxHeartbeats 2000000 in
theorem wp55 {d : Nat} (a0 : Nat) (i1 : Int32) (i2 : Int32) (i3 : Int32) (i4 : Int32) (i5 : Int32) (i6 : Int32) {h : AH} {Q : Option Value → AH → Prop} (H : am_kd h a0 = 6 ∧ Cl d 54 [.ref a0, .int (1 : Int32)] h (fun r2 h1 => ∃ x4, r2 = some (.int x4) ∧ ((¬ x4 = (0 : Int32)) → am_kd h1 a0 = 6 ∧ ∃ b6, am_gr h1 a0 0 = some b6 ∧ am_kd h1 a0 = 6 ∧ (104 ≤ am_kd h1 b6 ∧ am_kd h1 b6 ≤ 109) ∧ am_in (am_gi h1 a0 1) (am_ln h1 b6) ∧ ∃ b11, am_gr h1 b6 (Int32.toNatClampNeg (am_gi h1 a0 1)) = some b11 ∧ am_kd h1 b11 = 7 ∧ ∀ h14, h14 = am_si h1 b11 0 i1 → am_kd h14 b11 = 7 ∧ ∀ h16, h16 = am_si h14 b11 1 i2 → am_kd h16 b11 = 7 ∧ ∀ h18, h18 = am_si h16 b11 2 i3 → am_kd h18 b11 = 7 ∧ ∀ h20, h20 = am_si h18 b11 3 i4 → am_kd h20 b11 = 7 ∧ ∀ h22, h22 = am_si h20 b11 4 i5 → am_kd h22 b11 = 7 ∧ ∀ h24, h24 = am_si h22 b11 5 i6 → am_kd h24 a0 = 6 ∧ am_kd h24 a0 = 6 ∧ ∀ h27, h27 = am_si h24 a0 1 ((am_gi h24 a0 1) + (1 : Int32)) → am_kd h27 a0 = 6 ∧ Q (some (.int ((am_gi h27 a0 1) - (1 : Int32)))) h27) ∧ (¬ (¬ x4 = (0 : Int32)) → Q (some (.int (-4 : Int32))) h1))) : Cl (d + 1) 55 [.ref a0, .int i1, .int i2, .int i3, .int i4, .int i5, .int i6] h Q := by
  show Ev (d + 1) 55 0 [.ref a0, .int i1, .int i2, .int i3, .int i4, .int i5, .int i6, .null] [] h Q
  refine ev_p (pc' := 2) (loc' := [.ref a0, .int i1, .int i2, .int i3, .int i4, .int i5, .int i6, .null]) (st' := [.int (1 : Int32), .ref a0]) 2 am_q55 rfl ?_
  obtain ⟨g3, H⟩ := H
  refine ev_c (vs := [.ref a0, .int (1 : Int32)]) (rest := []) 54 am_q55 rfl rfl rfl rfl rfl rfl rfl rfl rfl rfl rfl rfl (Or.inr (congrArg some g3)) (Cl.mono H (Nat.le_refl _) (fun r2 h1 H => ?_))
  obtain ⟨x4, rfl, H⟩ := H
  refine ev_jz (t := 11) am_q55 rfl rfl (fun hq => ?_) (fun hq => ?_)
  · replace H := H.1 hq
    refine ev_p (pc' := 12) (loc' := [.ref a0, .int i1, .int i2, .int i3, .int i4, .int i5, .int i6, .null]) (st' := [.ref a0]) 1 am_q55 rfl ?_
    obtain ⟨g5, b6, e7, H⟩ := H
    refine ev_s (pc' := 15) (loc' := [.ref a0, .int i1, .int i2, .int i3, .int i4, .int i5, .int i6, .null]) (st' := [.ref b6]) (h1 := h1) am_q55 rfl rfl rfl (am_gf2 g5 e7) ?_
    refine ev_p (pc' := 16) (loc' := [.ref a0, .int i1, .int i2, .int i3, .int i4, .int i5, .int i6, .null]) (st' := [.ref a0, .ref b6]) 1 am_q55 rfl ?_
    obtain ⟨g8, H⟩ := H
    refine ev_s (pc' := 19) (loc' := [.ref a0, .int i1, .int i2, .int i3, .int i4, .int i5, .int i6, .null]) (st' := [.int (am_gi h1 a0 1), .ref b6]) (h1 := h1) am_q55 rfl rfl rfl (if_pos (e := none) g8) ?_
    obtain ⟨g9, g10, b11, e12, H⟩ := H
    refine ev_s (pc' := 20) (loc' := [.ref a0, .int i1, .int i2, .int i3, .int i4, .int i5, .int i6, .null]) (st' := [.ref b11]) (h1 := h1) am_q55 rfl rfl rfl (am_xa g9 g10 e12) ?_
    refine ev_p (pc' := 25) (loc' := [.ref a0, .int i1, .int i2, .int i3, .int i4, .int i5, .int i6, .ref b11]) (st' := [.int i1, .ref b11]) 3 am_q55 rfl ?_
    obtain ⟨g13, H⟩ := H
    refine ev_s (pc' := 28) (loc' := [.ref a0, .int i1, .int i2, .int i3, .int i4, .int i5, .int i6, .ref b11]) (st' := []) (h1 := am_si h1 b11 0 i1) am_q55 rfl rfl rfl (if_pos (e := none) g13) ?_
    replace H := H _ rfl
    generalize am_si h1 b11 0 i1 = h14 at H ⊢
    refine ev_p (pc' := 31) (loc' := [.ref a0, .int i1, .int i2, .int i3, .int i4, .int i5, .int i6, .ref b11]) (st' := [.int i2, .ref b11]) 2 am_q55 rfl ?_
    obtain ⟨g15, H⟩ := H
    refine ev_s (pc' := 34) (loc' := [.ref a0, .int i1, .int i2, .int i3, .int i4, .int i5, .int i6, .ref b11]) (st' := []) (h1 := am_si h14 b11 1 i2) am_q55 rfl rfl rfl (if_pos (e := none) g15) ?_
    replace H := H _ rfl
    generalize am_si h14 b11 1 i2 = h16 at H ⊢
    refine ev_p (pc' := 37) (loc' := [.ref a0, .int i1, .int i2, .int i3, .int i4, .int i5, .int i6, .ref b11]) (st' := [.int i3, .ref b11]) 2 am_q55 rfl ?_
    obtain ⟨g17, H⟩ := H
    refine ev_s (pc' := 40) (loc' := [.ref a0, .int i1, .int i2, .int i3, .int i4, .int i5, .int i6, .ref b11]) (st' := []) (h1 := am_si h16 b11 2 i3) am_q55 rfl rfl rfl (if_pos (e := none) g17) ?_
    replace H := H _ rfl
    generalize am_si h16 b11 2 i3 = h18 at H ⊢
    refine ev_p (pc' := 44) (loc' := [.ref a0, .int i1, .int i2, .int i3, .int i4, .int i5, .int i6, .ref b11]) (st' := [.int i4, .ref b11]) 2 am_q55 rfl ?_
    obtain ⟨g19, H⟩ := H
    refine ev_s (pc' := 47) (loc' := [.ref a0, .int i1, .int i2, .int i3, .int i4, .int i5, .int i6, .ref b11]) (st' := []) (h1 := am_si h18 b11 3 i4) am_q55 rfl rfl rfl (if_pos (e := none) g19) ?_
    replace H := H _ rfl
    generalize am_si h18 b11 3 i4 = h20 at H ⊢
    refine ev_p (pc' := 51) (loc' := [.ref a0, .int i1, .int i2, .int i3, .int i4, .int i5, .int i6, .ref b11]) (st' := [.int i5, .ref b11]) 2 am_q55 rfl ?_
    obtain ⟨g21, H⟩ := H
    refine ev_s (pc' := 54) (loc' := [.ref a0, .int i1, .int i2, .int i3, .int i4, .int i5, .int i6, .ref b11]) (st' := []) (h1 := am_si h20 b11 4 i5) am_q55 rfl rfl rfl (if_pos (e := none) g21) ?_
    replace H := H _ rfl
    generalize am_si h20 b11 4 i5 = h22 at H ⊢
    refine ev_p (pc' := 58) (loc' := [.ref a0, .int i1, .int i2, .int i3, .int i4, .int i5, .int i6, .ref b11]) (st' := [.int i6, .ref b11]) 2 am_q55 rfl ?_
    obtain ⟨g23, H⟩ := H
    refine ev_s (pc' := 61) (loc' := [.ref a0, .int i1, .int i2, .int i3, .int i4, .int i5, .int i6, .ref b11]) (st' := []) (h1 := am_si h22 b11 5 i6) am_q55 rfl rfl rfl (if_pos (e := none) g23) ?_
    replace H := H _ rfl
    generalize am_si h22 b11 5 i6 = h24 at H ⊢
    refine ev_p (pc' := 63) (loc' := [.ref a0, .int i1, .int i2, .int i3, .int i4, .int i5, .int i6, .ref b11]) (st' := [.ref a0, .ref a0]) 2 am_q55 rfl ?_
    obtain ⟨g25, H⟩ := H
    refine ev_s (pc' := 66) (loc' := [.ref a0, .int i1, .int i2, .int i3, .int i4, .int i5, .int i6, .ref b11]) (st' := [.int (am_gi h24 a0 1), .ref a0]) (h1 := h24) am_q55 rfl rfl rfl (if_pos (e := none) g25) ?_
    refine ev_p (pc' := 68) (loc' := [.ref a0, .int i1, .int i2, .int i3, .int i4, .int i5, .int i6, .ref b11]) (st' := [.int ((am_gi h24 a0 1) + (1 : Int32)), .ref a0]) 2 am_q55 rfl ?_
    obtain ⟨g26, H⟩ := H
    refine ev_s (pc' := 71) (loc' := [.ref a0, .int i1, .int i2, .int i3, .int i4, .int i5, .int i6, .ref b11]) (st' := []) (h1 := am_si h24 a0 1 ((am_gi h24 a0 1) + (1 : Int32))) am_q55 rfl rfl rfl (if_pos (e := none) g26) ?_
    replace H := H _ rfl
    generalize am_si h24 a0 1 ((am_gi h24 a0 1) + (1 : Int32)) = h27 at H ⊢
    refine ev_p (pc' := 72) (loc' := [.ref a0, .int i1, .int i2, .int i3, .int i4, .int i5, .int i6, .ref b11]) (st' := [.ref a0]) 1 am_q55 rfl ?_
    obtain ⟨g28, H⟩ := H
    refine ev_s (pc' := 75) (loc' := [.ref a0, .int i1, .int i2, .int i3, .int i4, .int i5, .int i6, .ref b11]) (st' := [.int (am_gi h27 a0 1)]) (h1 := h27) am_q55 rfl rfl rfl (if_pos (e := none) g28) ?_
    refine ev_p (pc' := 77) (loc' := [.ref a0, .int i1, .int i2, .int i3, .int i4, .int i5, .int i6, .ref b11]) (st' := [.int ((am_gi h27 a0 1) - (1 : Int32))]) 2 am_q55 rfl ?_
    exact ev_r (v := some (.int ((am_gi h27 a0 1) - (1 : Int32)))) am_q55 rfl rfl rfl rfl H
  · replace H := H.2 hq
    refine ev_p (pc' := 10) (loc' := [.ref a0, .int i1, .int i2, .int i3, .int i4, .int i5, .int i6, .null]) (st' := [.int (-4 : Int32)]) 1 am_q55 rfl ?_
    exact ev_r (v := some (.int (-4 : Int32))) am_q55 rfl rfl rfl rfl H
/-! 56: X6_ofHome -/
theorem am_q56 : (am_mt 56).2.2.2.2.2 = am_m56.2.2.2.2.2 := rfl
set_option maxRecDepth 20000 in
set_option maxHeartbeats 2000000 in
theorem wp56 {d : Nat} (a0 : Nat) (i1 : Int32) (i2 : Int32) {h : AH} {Q : Option Value → AH → Prop} (H : Ev (d + 1) 56 2 [.ref a0, .int i1, .int i2, .int (0 : Int32)] [] h Q) : Cl (d + 1) 56 [.ref a0, .int i1, .int i2] h Q := by
  show Ev (d + 1) 56 0 [.ref a0, .int i1, .int i2, .null] [] h Q
  refine ev_p (pc' := 2) (loc' := [.ref a0, .int i1, .int i2, .int (0 : Int32)]) (st' := []) 2 am_q56 rfl ?_
  exact ev_m (loc' := [.ref a0, .int i1, .int i2, .int (0 : Int32)]) am_q56 rfl rfl H
set_option maxRecDepth 20000 in
set_option maxHeartbeats 2000000 in
theorem wp56_2 {d : Nat} (a0 : Nat) (i1 : Int32) (i2 : Int32) (i3 : Int32) {h : AH} {Q : Option Value → AH → Prop} (H : am_kd h a0 = 6 ∧ ((am_gi h a0 1) ≤ i3 → Q (some (.int (-1 : Int32))) h) ∧ (¬ (am_gi h a0 1) ≤ i3 → am_kd h a0 = 6 ∧ ∃ b3, am_gr h a0 0 = some b3 ∧ (104 ≤ am_kd h b3 ∧ am_kd h b3 ≤ 109) ∧ am_in i3 (am_ln h b3) ∧ ∃ b7, am_gr h b3 (Int32.toNatClampNeg i3) = some b7 ∧ am_kd h b7 = 7 ∧ ((¬ (am_gi h b7 1) = i1) → Ev (d + 1) 56 2 [.ref a0, .int i1, .int i2, .int (i3 + (1 : Int32))] [] h Q) ∧ (¬ (¬ (am_gi h b7 1) = i1) → am_kd h a0 = 6 ∧ ∃ b11, am_gr h a0 0 = some b11 ∧ (104 ≤ am_kd h b11 ∧ am_kd h b11 ≤ 109) ∧ am_in i3 (am_ln h b11) ∧ ∃ b15, am_gr h b11 (Int32.toNatClampNeg i3) = some b15 ∧ am_kd h b15 = 7 ∧ Cl d 66 [.ref b15, .int i2] h (fun r18 h17 => ∃ x20, r18 = some (.int x20) ∧ (x20 = (0 : Int32) → Ev (d + 1) 56 2 [.ref a0, .int i1, .int i2, .int (i3 + (1 : Int32))] [] h17 Q) ∧ (¬ x20 = (0 : Int32) → Q (some (.int i3)) h17))))) : Ev (d + 1) 56 2 [.ref a0, .int i1, .int i2, .int i3] [] h Q := by
  refine ev_p (pc' := 4) (loc' := [.ref a0, .int i1, .int i2, .int i3]) (st' := [.ref a0, .int i3]) 2 am_q56 rfl ?_
  obtain ⟨g1, H⟩ := H
  refine ev_s (pc' := 7) (loc' := [.ref a0, .int i1, .int i2, .int i3]) (st' := [.int (am_gi h a0 1), .int i3]) (h1 := h) am_q56 rfl rfl rfl (if_pos (e := none) g1) ?_
  refine ev_jc (t := 44) am_q56 rfl rfl (fun hq => ?_) (fun hq => ?_)
  · replace H := H.1 hq
    refine ev_p (pc' := 45) (loc' := [.ref a0, .int i1, .int i2, .int i3]) (st' := [.int (-1 : Int32)]) 1 am_q56 rfl ?_
    exact ev_r (v := some (.int (-1 : Int32))) am_q56 rfl rfl rfl rfl H
  · replace H := H.2 hq
    refine ev_p (pc' := 11) (loc' := [.ref a0, .int i1, .int i2, .int i3]) (st' := [.ref a0]) 1 am_q56 rfl ?_
    obtain ⟨g2, b3, e4, H⟩ := H
    refine ev_s (pc' := 14) (loc' := [.ref a0, .int i1, .int i2, .int i3]) (st' := [.ref b3]) (h1 := h) am_q56 rfl rfl rfl (am_gf2 g2 e4) ?_
    refine ev_p (pc' := 15) (loc' := [.ref a0, .int i1, .int i2, .int i3]) (st' := [.int i3, .ref b3]) 1 am_q56 rfl ?_
    obtain ⟨g5, g6, b7, e8, H⟩ := H
    refine ev_s (pc' := 16) (loc' := [.ref a0, .int i1, .int i2, .int i3]) (st' := [.ref b7]) (h1 := h) am_q56 rfl rfl rfl (am_xa g5 g6 e8) ?_
    obtain ⟨g9, H⟩ := H
    refine ev_s (pc' := 19) (loc' := [.ref a0, .int i1, .int i2, .int i3]) (st' := [.int (am_gi h b7 1)]) (h1 := h) am_q56 rfl rfl rfl (if_pos (e := none) g9) ?_
    refine ev_p (pc' := 20) (loc' := [.ref a0, .int i1, .int i2, .int i3]) (st' := [.int i1, .int (am_gi h b7 1)]) 1 am_q56 rfl ?_
    refine ev_jc (t := 38) am_q56 rfl rfl (fun hq => ?_) (fun hq => ?_)
    · replace H := H.1 hq
      refine ev_p (pc' := 2) (loc' := [.ref a0, .int i1, .int i2, .int (i3 + (1 : Int32))]) (st' := []) 2 am_q56 rfl ?_
      exact ev_m (loc' := [.ref a0, .int i1, .int i2, .int (i3 + (1 : Int32))]) am_q56 rfl rfl H
    · replace H := H.2 hq
      refine ev_p (pc' := 24) (loc' := [.ref a0, .int i1, .int i2, .int i3]) (st' := [.ref a0]) 1 am_q56 rfl ?_
      obtain ⟨g10, b11, e12, H⟩ := H
      refine ev_s (pc' := 27) (loc' := [.ref a0, .int i1, .int i2, .int i3]) (st' := [.ref b11]) (h1 := h) am_q56 rfl rfl rfl (am_gf2 g10 e12) ?_
      refine ev_p (pc' := 28) (loc' := [.ref a0, .int i1, .int i2, .int i3]) (st' := [.int i3, .ref b11]) 1 am_q56 rfl ?_
      obtain ⟨g13, g14, b15, e16, H⟩ := H
      refine ev_s (pc' := 29) (loc' := [.ref a0, .int i1, .int i2, .int i3]) (st' := [.ref b15]) (h1 := h) am_q56 rfl rfl rfl (am_xa g13 g14 e16) ?_
      refine ev_p (pc' := 30) (loc' := [.ref a0, .int i1, .int i2, .int i3]) (st' := [.int i2, .ref b15]) 1 am_q56 rfl ?_
      obtain ⟨g19, H⟩ := H
      refine ev_c (vs := [.ref b15, .int i2]) (rest := []) 66 am_q56 rfl rfl rfl rfl rfl rfl rfl rfl rfl rfl rfl rfl (Or.inr (congrArg some g19)) (Cl.mono H (Nat.le_refl _) (fun r18 h17 H => ?_))
      obtain ⟨x20, rfl, H⟩ := H
      refine ev_jz (t := 38) am_q56 rfl rfl (fun hq => ?_) (fun hq => ?_)
      · replace H := H.1 hq
        refine ev_p (pc' := 2) (loc' := [.ref a0, .int i1, .int i2, .int (i3 + (1 : Int32))]) (st' := []) 2 am_q56 rfl ?_
        exact ev_m (loc' := [.ref a0, .int i1, .int i2, .int (i3 + (1 : Int32))]) am_q56 rfl rfl H
      · replace H := H.2 hq
        refine ev_p (pc' := 37) (loc' := [.ref a0, .int i1, .int i2, .int i3]) (st' := [.int i3]) 1 am_q56 rfl ?_
        exact ev_r (v := some (.int i3)) am_q56 rfl rfl rfl rfl H
/-! 57: X6_ofMember -/
theorem am_q57 : (am_mt 57).2.2.2.2.2 = am_m57.2.2.2.2.2 := rfl
set_option maxRecDepth 20000 in
set_option maxHeartbeats 2000000 in
theorem wp57 {d : Nat} (a0 : Nat) (i1 : Int32) (i2 : Int32) {h : AH} {Q : Option Value → AH → Prop} (H : Ev (d + 1) 57 2 [.ref a0, .int i1, .int i2, .int (0 : Int32)] [] h Q) : Cl (d + 1) 57 [.ref a0, .int i1, .int i2] h Q := by
  show Ev (d + 1) 57 0 [.ref a0, .int i1, .int i2, .null] [] h Q
  refine ev_p (pc' := 2) (loc' := [.ref a0, .int i1, .int i2, .int (0 : Int32)]) (st' := []) 2 am_q57 rfl ?_
  exact ev_m (loc' := [.ref a0, .int i1, .int i2, .int (0 : Int32)]) am_q57 rfl rfl H
set_option maxRecDepth 20000 in
set_option maxHeartbeats 2000000 in
theorem wp57_2 {d : Nat} (a0 : Nat) (i1 : Int32) (i2 : Int32) (i3 : Int32) {h : AH} {Q : Option Value → AH → Prop} (H : am_kd h a0 = 6 ∧ ((am_gi h a0 1) ≤ i3 → Q (some (.int (-1 : Int32))) h) ∧ (¬ (am_gi h a0 1) ≤ i3 → am_kd h a0 = 6 ∧ ∃ b3, am_gr h a0 0 = some b3 ∧ (104 ≤ am_kd h b3 ∧ am_kd h b3 ≤ 109) ∧ am_in i3 (am_ln h b3) ∧ ∃ b7, am_gr h b3 (Int32.toNatClampNeg i3) = some b7 ∧ am_kd h b7 = 7 ∧ Cl d 67 [.ref b7, .int i1] h (fun r10 h9 => ∃ x12, r10 = some (.int x12) ∧ (x12 = (0 : Int32) → Ev (d + 1) 57 2 [.ref a0, .int i1, .int i2, .int (i3 + (1 : Int32))] [] h9 Q) ∧ (¬ x12 = (0 : Int32) → am_kd h9 a0 = 6 ∧ ∃ b14, am_gr h9 a0 0 = some b14 ∧ (104 ≤ am_kd h9 b14 ∧ am_kd h9 b14 ≤ 109) ∧ am_in i3 (am_ln h9 b14) ∧ ∃ b18, am_gr h9 b14 (Int32.toNatClampNeg i3) = some b18 ∧ am_kd h9 b18 = 7 ∧ Cl d 66 [.ref b18, .int i2] h9 (fun r21 h20 => ∃ x23, r21 = some (.int x23) ∧ (x23 = (0 : Int32) → Ev (d + 1) 57 2 [.ref a0, .int i1, .int i2, .int (i3 + (1 : Int32))] [] h20 Q) ∧ (¬ x23 = (0 : Int32) → Q (some (.int i3)) h20)))))) : Ev (d + 1) 57 2 [.ref a0, .int i1, .int i2, .int i3] [] h Q := by
  refine ev_p (pc' := 4) (loc' := [.ref a0, .int i1, .int i2, .int i3]) (st' := [.ref a0, .int i3]) 2 am_q57 rfl ?_
  obtain ⟨g1, H⟩ := H
  refine ev_s (pc' := 7) (loc' := [.ref a0, .int i1, .int i2, .int i3]) (st' := [.int (am_gi h a0 1), .int i3]) (h1 := h) am_q57 rfl rfl rfl (if_pos (e := none) g1) ?_
  refine ev_jc (t := 44) am_q57 rfl rfl (fun hq => ?_) (fun hq => ?_)
  · replace H := H.1 hq
    refine ev_p (pc' := 45) (loc' := [.ref a0, .int i1, .int i2, .int i3]) (st' := [.int (-1 : Int32)]) 1 am_q57 rfl ?_
    exact ev_r (v := some (.int (-1 : Int32))) am_q57 rfl rfl rfl rfl H
  · replace H := H.2 hq
    refine ev_p (pc' := 11) (loc' := [.ref a0, .int i1, .int i2, .int i3]) (st' := [.ref a0]) 1 am_q57 rfl ?_
    obtain ⟨g2, b3, e4, H⟩ := H
    refine ev_s (pc' := 14) (loc' := [.ref a0, .int i1, .int i2, .int i3]) (st' := [.ref b3]) (h1 := h) am_q57 rfl rfl rfl (am_gf2 g2 e4) ?_
    refine ev_p (pc' := 15) (loc' := [.ref a0, .int i1, .int i2, .int i3]) (st' := [.int i3, .ref b3]) 1 am_q57 rfl ?_
    obtain ⟨g5, g6, b7, e8, H⟩ := H
    refine ev_s (pc' := 16) (loc' := [.ref a0, .int i1, .int i2, .int i3]) (st' := [.ref b7]) (h1 := h) am_q57 rfl rfl rfl (am_xa g5 g6 e8) ?_
    refine ev_p (pc' := 17) (loc' := [.ref a0, .int i1, .int i2, .int i3]) (st' := [.int i1, .ref b7]) 1 am_q57 rfl ?_
    obtain ⟨g11, H⟩ := H
    refine ev_c (vs := [.ref b7, .int i1]) (rest := []) 67 am_q57 rfl rfl rfl rfl rfl rfl rfl rfl rfl rfl rfl rfl (Or.inr (congrArg some g11)) (Cl.mono H (Nat.le_refl _) (fun r10 h9 H => ?_))
    obtain ⟨x12, rfl, H⟩ := H
    refine ev_jz (t := 38) am_q57 rfl rfl (fun hq => ?_) (fun hq => ?_)
    · replace H := H.1 hq
      refine ev_p (pc' := 2) (loc' := [.ref a0, .int i1, .int i2, .int (i3 + (1 : Int32))]) (st' := []) 2 am_q57 rfl ?_
      exact ev_m (loc' := [.ref a0, .int i1, .int i2, .int (i3 + (1 : Int32))]) am_q57 rfl rfl H
    · replace H := H.2 hq
      refine ev_p (pc' := 24) (loc' := [.ref a0, .int i1, .int i2, .int i3]) (st' := [.ref a0]) 1 am_q57 rfl ?_
      obtain ⟨g13, b14, e15, H⟩ := H
      refine ev_s (pc' := 27) (loc' := [.ref a0, .int i1, .int i2, .int i3]) (st' := [.ref b14]) (h1 := h9) am_q57 rfl rfl rfl (am_gf2 g13 e15) ?_
      refine ev_p (pc' := 28) (loc' := [.ref a0, .int i1, .int i2, .int i3]) (st' := [.int i3, .ref b14]) 1 am_q57 rfl ?_
      obtain ⟨g16, g17, b18, e19, H⟩ := H
      refine ev_s (pc' := 29) (loc' := [.ref a0, .int i1, .int i2, .int i3]) (st' := [.ref b18]) (h1 := h9) am_q57 rfl rfl rfl (am_xa g16 g17 e19) ?_
      refine ev_p (pc' := 30) (loc' := [.ref a0, .int i1, .int i2, .int i3]) (st' := [.int i2, .ref b18]) 1 am_q57 rfl ?_
      obtain ⟨g22, H⟩ := H
      refine ev_c (vs := [.ref b18, .int i2]) (rest := []) 66 am_q57 rfl rfl rfl rfl rfl rfl rfl rfl rfl rfl rfl rfl (Or.inr (congrArg some g22)) (Cl.mono H (Nat.le_refl _) (fun r21 h20 H => ?_))
      obtain ⟨x23, rfl, H⟩ := H
      refine ev_jz (t := 38) am_q57 rfl rfl (fun hq => ?_) (fun hq => ?_)
      · replace H := H.1 hq
        refine ev_p (pc' := 2) (loc' := [.ref a0, .int i1, .int i2, .int (i3 + (1 : Int32))]) (st' := []) 2 am_q57 rfl ?_
        exact ev_m (loc' := [.ref a0, .int i1, .int i2, .int (i3 + (1 : Int32))]) am_q57 rfl rfl H
      · replace H := H.2 hq
        refine ev_p (pc' := 37) (loc' := [.ref a0, .int i1, .int i2, .int i3]) (st' := [.int i3]) 1 am_q57 rfl ?_
        exact ev_r (v := some (.int i3)) am_q57 rfl rfl rfl rfl H
/-! 58: X6_guestsIn -/
theorem am_q58 : (am_mt 58).2.2.2.2.2 = am_m58.2.2.2.2.2 := rfl
set_option maxRecDepth 20000 in
set_option maxHeartbeats 2000000 in
theorem wp58 {d : Nat} (a0 : Nat) (i1 : Int32) (i2 : Int32) {h : AH} {Q : Option Value → AH → Prop} (H : Ev (d + 1) 58 5 [.ref a0, .int i1, .int i2, .int (0 : Int32), .int (0 : Int32)] [] h Q) : Cl (d + 1) 58 [.ref a0, .int i1, .int i2] h Q := by
  show Ev (d + 1) 58 0 [.ref a0, .int i1, .int i2, .null, .null] [] h Q
  refine ev_p (pc' := 5) (loc' := [.ref a0, .int i1, .int i2, .int (0 : Int32), .int (0 : Int32)]) (st' := []) 4 am_q58 rfl ?_
  exact ev_m (loc' := [.ref a0, .int i1, .int i2, .int (0 : Int32), .int (0 : Int32)]) am_q58 rfl rfl H
set_option maxRecDepth 20000 in
set_option maxHeartbeats 2000000 in
theorem wp58_5 {d : Nat} (a0 : Nat) (i1 : Int32) (i2 : Int32) (i3 : Int32) (i4 : Int32) {h : AH} {Q : Option Value → AH → Prop} (H : am_kd h a0 = 6 ∧ ((am_gi h a0 1) ≤ i4 → Q (some (.int i3)) h) ∧ (¬ (am_gi h a0 1) ≤ i4 → am_kd h a0 = 6 ∧ ∃ b3, am_gr h a0 0 = some b3 ∧ (104 ≤ am_kd h b3 ∧ am_kd h b3 ≤ 109) ∧ am_in i4 (am_ln h b3) ∧ ∃ b7, am_gr h b3 (Int32.toNatClampNeg i4) = some b7 ∧ am_kd h b7 = 7 ∧ ((¬ (am_gi h b7 1) = i1) → Ev (d + 1) 58 5 [.ref a0, .int i1, .int i2, .int i3, .int (i4 + (1 : Int32))] [] h Q) ∧ (¬ (¬ (am_gi h b7 1) = i1) → am_kd h a0 = 6 ∧ ∃ b11, am_gr h a0 0 = some b11 ∧ (104 ≤ am_kd h b11 ∧ am_kd h b11 ≤ 109) ∧ am_in i4 (am_ln h b11) ∧ ∃ b15, am_gr h b11 (Int32.toNatClampNeg i4) = some b15 ∧ am_kd h b15 = 7 ∧ ((¬ (am_gi h b15 0) = (2 : Int32)) → Ev (d + 1) 58 5 [.ref a0, .int i1, .int i2, .int i3, .int (i4 + (1 : Int32))] [] h Q) ∧ (¬ (¬ (am_gi h b15 0) = (2 : Int32)) → am_kd h a0 = 6 ∧ ∃ b19, am_gr h a0 0 = some b19 ∧ (104 ≤ am_kd h b19 ∧ am_kd h b19 ≤ 109) ∧ am_in i4 (am_ln h b19) ∧ ∃ b23, am_gr h b19 (Int32.toNatClampNeg i4) = some b23 ∧ am_kd h b23 = 7 ∧ Cl d 65 [.ref b23, .int i2] h (fun r26 h25 => ∃ x28, r26 = some (.int x28) ∧ (x28 = (0 : Int32) → Ev (d + 1) 58 5 [.ref a0, .int i1, .int i2, .int i3, .int (i4 + (1 : Int32))] [] h25 Q) ∧ (¬ x28 = (0 : Int32) → Ev (d + 1) 58 5 [.ref a0, .int i1, .int i2, .int (i3 + (1 : Int32)), .int (i4 + (1 : Int32))] [] h25 Q)))))) : Ev (d + 1) 58 5 [.ref a0, .int i1, .int i2, .int i3, .int i4] [] h Q := by
  refine ev_p (pc' := 8) (loc' := [.ref a0, .int i1, .int i2, .int i3, .int i4]) (st' := [.ref a0, .int i4]) 2 am_q58 rfl ?_
  obtain ⟨g1, H⟩ := H
  refine ev_s (pc' := 11) (loc' := [.ref a0, .int i1, .int i2, .int i3, .int i4]) (st' := [.int (am_gi h a0 1), .int i4]) (h1 := h) am_q58 rfl rfl rfl (if_pos (e := none) g1) ?_
  refine ev_jc (t := 65) am_q58 rfl rfl (fun hq => ?_) (fun hq => ?_)
  · replace H := H.1 hq
    refine ev_p (pc' := 66) (loc' := [.ref a0, .int i1, .int i2, .int i3, .int i4]) (st' := [.int i3]) 1 am_q58 rfl ?_
    exact ev_r (v := some (.int i3)) am_q58 rfl rfl rfl rfl H
  · replace H := H.2 hq
    refine ev_p (pc' := 15) (loc' := [.ref a0, .int i1, .int i2, .int i3, .int i4]) (st' := [.ref a0]) 1 am_q58 rfl ?_
    obtain ⟨g2, b3, e4, H⟩ := H
    refine ev_s (pc' := 18) (loc' := [.ref a0, .int i1, .int i2, .int i3, .int i4]) (st' := [.ref b3]) (h1 := h) am_q58 rfl rfl rfl (am_gf2 g2 e4) ?_
    refine ev_p (pc' := 20) (loc' := [.ref a0, .int i1, .int i2, .int i3, .int i4]) (st' := [.int i4, .ref b3]) 1 am_q58 rfl ?_
    obtain ⟨g5, g6, b7, e8, H⟩ := H
    refine ev_s (pc' := 21) (loc' := [.ref a0, .int i1, .int i2, .int i3, .int i4]) (st' := [.ref b7]) (h1 := h) am_q58 rfl rfl rfl (am_xa g5 g6 e8) ?_
    obtain ⟨g9, H⟩ := H
    refine ev_s (pc' := 24) (loc' := [.ref a0, .int i1, .int i2, .int i3, .int i4]) (st' := [.int (am_gi h b7 1)]) (h1 := h) am_q58 rfl rfl rfl (if_pos (e := none) g9) ?_
    refine ev_p (pc' := 25) (loc' := [.ref a0, .int i1, .int i2, .int i3, .int i4]) (st' := [.int i1, .int (am_gi h b7 1)]) 1 am_q58 rfl ?_
    refine ev_jc (t := 59) am_q58 rfl rfl (fun hq => ?_) (fun hq => ?_)
    · replace H := H.1 hq
      refine ev_p (pc' := 5) (loc' := [.ref a0, .int i1, .int i2, .int i3, .int (i4 + (1 : Int32))]) (st' := []) 2 am_q58 rfl ?_
      exact ev_m (loc' := [.ref a0, .int i1, .int i2, .int i3, .int (i4 + (1 : Int32))]) am_q58 rfl rfl H
    · replace H := H.2 hq
      refine ev_p (pc' := 29) (loc' := [.ref a0, .int i1, .int i2, .int i3, .int i4]) (st' := [.ref a0]) 1 am_q58 rfl ?_
      obtain ⟨g10, b11, e12, H⟩ := H
      refine ev_s (pc' := 32) (loc' := [.ref a0, .int i1, .int i2, .int i3, .int i4]) (st' := [.ref b11]) (h1 := h) am_q58 rfl rfl rfl (am_gf2 g10 e12) ?_
      refine ev_p (pc' := 34) (loc' := [.ref a0, .int i1, .int i2, .int i3, .int i4]) (st' := [.int i4, .ref b11]) 1 am_q58 rfl ?_
      obtain ⟨g13, g14, b15, e16, H⟩ := H
      refine ev_s (pc' := 35) (loc' := [.ref a0, .int i1, .int i2, .int i3, .int i4]) (st' := [.ref b15]) (h1 := h) am_q58 rfl rfl rfl (am_xa g13 g14 e16) ?_
      obtain ⟨g17, H⟩ := H
      refine ev_s (pc' := 38) (loc' := [.ref a0, .int i1, .int i2, .int i3, .int i4]) (st' := [.int (am_gi h b15 0)]) (h1 := h) am_q58 rfl rfl rfl (if_pos (e := none) g17) ?_
      refine ev_p (pc' := 39) (loc' := [.ref a0, .int i1, .int i2, .int i3, .int i4]) (st' := [.int (2 : Int32), .int (am_gi h b15 0)]) 1 am_q58 rfl ?_
      refine ev_jc (t := 59) am_q58 rfl rfl (fun hq => ?_) (fun hq => ?_)
      · replace H := H.1 hq
        refine ev_p (pc' := 5) (loc' := [.ref a0, .int i1, .int i2, .int i3, .int (i4 + (1 : Int32))]) (st' := []) 2 am_q58 rfl ?_
        exact ev_m (loc' := [.ref a0, .int i1, .int i2, .int i3, .int (i4 + (1 : Int32))]) am_q58 rfl rfl H
      · replace H := H.2 hq
        refine ev_p (pc' := 43) (loc' := [.ref a0, .int i1, .int i2, .int i3, .int i4]) (st' := [.ref a0]) 1 am_q58 rfl ?_
        obtain ⟨g18, b19, e20, H⟩ := H
        refine ev_s (pc' := 46) (loc' := [.ref a0, .int i1, .int i2, .int i3, .int i4]) (st' := [.ref b19]) (h1 := h) am_q58 rfl rfl rfl (am_gf2 g18 e20) ?_
        refine ev_p (pc' := 48) (loc' := [.ref a0, .int i1, .int i2, .int i3, .int i4]) (st' := [.int i4, .ref b19]) 1 am_q58 rfl ?_
        obtain ⟨g21, g22, b23, e24, H⟩ := H
        refine ev_s (pc' := 49) (loc' := [.ref a0, .int i1, .int i2, .int i3, .int i4]) (st' := [.ref b23]) (h1 := h) am_q58 rfl rfl rfl (am_xa g21 g22 e24) ?_
        refine ev_p (pc' := 50) (loc' := [.ref a0, .int i1, .int i2, .int i3, .int i4]) (st' := [.int i2, .ref b23]) 1 am_q58 rfl ?_
        obtain ⟨g27, H⟩ := H
        refine ev_c (vs := [.ref b23, .int i2]) (rest := []) 65 am_q58 rfl rfl rfl rfl rfl rfl rfl rfl rfl rfl rfl rfl (Or.inr (congrArg some g27)) (Cl.mono H (Nat.le_refl _) (fun r26 h25 H => ?_))
        obtain ⟨x28, rfl, H⟩ := H
        refine ev_jz (t := 59) am_q58 rfl rfl (fun hq => ?_) (fun hq => ?_)
        · replace H := H.1 hq
          refine ev_p (pc' := 5) (loc' := [.ref a0, .int i1, .int i2, .int i3, .int (i4 + (1 : Int32))]) (st' := []) 2 am_q58 rfl ?_
          exact ev_m (loc' := [.ref a0, .int i1, .int i2, .int i3, .int (i4 + (1 : Int32))]) am_q58 rfl rfl H
        · replace H := H.2 hq
          refine ev_p (pc' := 5) (loc' := [.ref a0, .int i1, .int i2, .int (i3 + (1 : Int32)), .int (i4 + (1 : Int32))]) (st' := []) 3 am_q58 rfl ?_
          exact ev_m (loc' := [.ref a0, .int i1, .int i2, .int (i3 + (1 : Int32)), .int (i4 + (1 : Int32))]) am_q58 rfl rfl H
/-! 59: X6_inForceOn -/
theorem am_q59 : (am_mt 59).2.2.2.2.2 = am_m59.2.2.2.2.2 := rfl
set_option maxRecDepth 20000 in
set_option maxHeartbeats 2000000 in
theorem wp59 {d : Nat} (a0 : Nat) (i1 : Int32) {h : AH} {Q : Option Value → AH → Prop} (H : Ev (d + 1) 59 4 [.ref a0, .int i1, .int (0 : Int32), .int (0 : Int32)] [] h Q) : Cl (d + 1) 59 [.ref a0, .int i1] h Q := by
  show Ev (d + 1) 59 0 [.ref a0, .int i1, .null, .null] [] h Q
  refine ev_p (pc' := 4) (loc' := [.ref a0, .int i1, .int (0 : Int32), .int (0 : Int32)]) (st' := []) 4 am_q59 rfl ?_
  exact ev_m (loc' := [.ref a0, .int i1, .int (0 : Int32), .int (0 : Int32)]) am_q59 rfl rfl H
set_option maxRecDepth 20000 in
set_option maxHeartbeats 2000000 in
theorem wp59_4 {d : Nat} (a0 : Nat) (i1 : Int32) (i2 : Int32) (i3 : Int32) {h : AH} {Q : Option Value → AH → Prop} (H : am_kd h a0 = 6 ∧ ((am_gi h a0 1) ≤ i3 → Q (some (.int i2)) h) ∧ (¬ (am_gi h a0 1) ≤ i3 → am_kd h a0 = 6 ∧ ∃ b3, am_gr h a0 0 = some b3 ∧ (104 ≤ am_kd h b3 ∧ am_kd h b3 ≤ 109) ∧ am_in i3 (am_ln h b3) ∧ ∃ b7, am_gr h b3 (Int32.toNatClampNeg i3) = some b7 ∧ am_kd h b7 = 7 ∧ Cl d 65 [.ref b7, .int i1] h (fun r10 h9 => ∃ x12, r10 = some (.int x12) ∧ (x12 = (0 : Int32) → Ev (d + 1) 59 4 [.ref a0, .int i1, .int i2, .int (i3 + (1 : Int32))] [] h9 Q) ∧ (¬ x12 = (0 : Int32) → Ev (d + 1) 59 4 [.ref a0, .int i1, .int (i2 + (1 : Int32)), .int (i3 + (1 : Int32))] [] h9 Q)))) : Ev (d + 1) 59 4 [.ref a0, .int i1, .int i2, .int i3] [] h Q := by
  refine ev_p (pc' := 6) (loc' := [.ref a0, .int i1, .int i2, .int i3]) (st' := [.ref a0, .int i3]) 2 am_q59 rfl ?_
  obtain ⟨g1, H⟩ := H
  refine ev_s (pc' := 9) (loc' := [.ref a0, .int i1, .int i2, .int i3]) (st' := [.int (am_gi h a0 1), .int i3]) (h1 := h) am_q59 rfl rfl rfl (if_pos (e := none) g1) ?_
  refine ev_jc (t := 34) am_q59 rfl rfl (fun hq => ?_) (fun hq => ?_)
  · replace H := H.1 hq
    refine ev_p (pc' := 35) (loc' := [.ref a0, .int i1, .int i2, .int i3]) (st' := [.int i2]) 1 am_q59 rfl ?_
    exact ev_r (v := some (.int i2)) am_q59 rfl rfl rfl rfl H
  · replace H := H.2 hq
    refine ev_p (pc' := 13) (loc' := [.ref a0, .int i1, .int i2, .int i3]) (st' := [.ref a0]) 1 am_q59 rfl ?_
    obtain ⟨g2, b3, e4, H⟩ := H
    refine ev_s (pc' := 16) (loc' := [.ref a0, .int i1, .int i2, .int i3]) (st' := [.ref b3]) (h1 := h) am_q59 rfl rfl rfl (am_gf2 g2 e4) ?_
    refine ev_p (pc' := 17) (loc' := [.ref a0, .int i1, .int i2, .int i3]) (st' := [.int i3, .ref b3]) 1 am_q59 rfl ?_
    obtain ⟨g5, g6, b7, e8, H⟩ := H
    refine ev_s (pc' := 18) (loc' := [.ref a0, .int i1, .int i2, .int i3]) (st' := [.ref b7]) (h1 := h) am_q59 rfl rfl rfl (am_xa g5 g6 e8) ?_
    refine ev_p (pc' := 19) (loc' := [.ref a0, .int i1, .int i2, .int i3]) (st' := [.int i1, .ref b7]) 1 am_q59 rfl ?_
    obtain ⟨g11, H⟩ := H
    refine ev_c (vs := [.ref b7, .int i1]) (rest := []) 65 am_q59 rfl rfl rfl rfl rfl rfl rfl rfl rfl rfl rfl rfl (Or.inr (congrArg some g11)) (Cl.mono H (Nat.le_refl _) (fun r10 h9 H => ?_))
    obtain ⟨x12, rfl, H⟩ := H
    refine ev_jz (t := 28) am_q59 rfl rfl (fun hq => ?_) (fun hq => ?_)
    · replace H := H.1 hq
      refine ev_p (pc' := 4) (loc' := [.ref a0, .int i1, .int i2, .int (i3 + (1 : Int32))]) (st' := []) 2 am_q59 rfl ?_
      exact ev_m (loc' := [.ref a0, .int i1, .int i2, .int (i3 + (1 : Int32))]) am_q59 rfl rfl H
    · replace H := H.2 hq
      refine ev_p (pc' := 4) (loc' := [.ref a0, .int i1, .int (i2 + (1 : Int32)), .int (i3 + (1 : Int32))]) (st' := []) 3 am_q59 rfl ?_
      exact ev_m (loc' := [.ref a0, .int i1, .int (i2 + (1 : Int32)), .int (i3 + (1 : Int32))]) am_q59 rfl rfl H
/-! 60: X6_heirsBehind -/
theorem am_q60 : (am_mt 60).2.2.2.2.2 = am_m60.2.2.2.2.2 := rfl
set_option maxRecDepth 20000 in
set_option maxHeartbeats 2000000 in
theorem wp60 {d : Nat} (a0 : Nat) (i1 : Int32) (i2 : Int32) {h : AH} {Q : Option Value → AH → Prop} (H : am_kd h a0 = 6 ∧ Cl d 57 [.ref a0, .int i1, .int i2] h (fun r2 h1 => ∃ x4, r2 = some (.int x4) ∧ (x4 = (-1 : Int32) → Q (some (.int (0 : Int32))) h1) ∧ (¬ x4 = (-1 : Int32) → am_kd h1 a0 = 6 ∧ ∃ b6, am_gr h1 a0 0 = some b6 ∧ (104 ≤ am_kd h1 b6 ∧ am_kd h1 b6 ≤ 109) ∧ am_in x4 (am_ln h1 b6) ∧ ∃ b10, am_gr h1 b6 (Int32.toNatClampNeg x4) = some b10 ∧ am_kd h1 b10 = 7 ∧ ((¬ (am_gi h1 b10 0) = (3 : Int32)) → Q (some (.int (0 : Int32))) h1) ∧ (¬ (¬ (am_gi h1 b10 0) = (3 : Int32)) → Q (some (.int (1 : Int32))) h1)))) : Cl (d + 1) 60 [.ref a0, .int i1, .int i2] h Q := by
  show Ev (d + 1) 60 0 [.ref a0, .int i1, .int i2, .null] [] h Q
  refine ev_p (pc' := 3) (loc' := [.ref a0, .int i1, .int i2, .null]) (st' := [.int i2, .int i1, .ref a0]) 3 am_q60 rfl ?_
  obtain ⟨g3, H⟩ := H
  refine ev_c (vs := [.ref a0, .int i1, .int i2]) (rest := []) 57 am_q60 rfl rfl rfl rfl rfl rfl rfl rfl rfl rfl rfl rfl (Or.inr (congrArg some g3)) (Cl.mono H (Nat.le_refl _) (fun r2 h1 H => ?_))
  obtain ⟨x4, rfl, H⟩ := H
  refine ev_p (pc' := 9) (loc' := [.ref a0, .int i1, .int i2, .int x4]) (st' := [.int (-1 : Int32), .int x4]) 3 am_q60 rfl ?_
  refine ev_jc (t := 29) am_q60 rfl rfl (fun hq => ?_) (fun hq => ?_)
  · replace H := H.1 hq
    refine ev_p (pc' := 30) (loc' := [.null, .null, .null, .null]) (st' := [.int (0 : Int32)]) 1 am_q60 rfl ?_
    exact ev_r (v := some (.int (0 : Int32))) am_q60 rfl rfl rfl rfl H
  · replace H := H.2 hq
    refine ev_p (pc' := 13) (loc' := [.ref a0, .int i1, .int i2, .int x4]) (st' := [.ref a0]) 1 am_q60 rfl ?_
    obtain ⟨g5, b6, e7, H⟩ := H
    refine ev_s (pc' := 16) (loc' := [.ref a0, .int i1, .int i2, .int x4]) (st' := [.ref b6]) (h1 := h1) am_q60 rfl rfl rfl (am_gf2 g5 e7) ?_
    refine ev_p (pc' := 17) (loc' := [.ref a0, .int i1, .int i2, .int x4]) (st' := [.int x4, .ref b6]) 1 am_q60 rfl ?_
    obtain ⟨g8, g9, b10, e11, H⟩ := H
    refine ev_s (pc' := 18) (loc' := [.ref a0, .int i1, .int i2, .int x4]) (st' := [.ref b10]) (h1 := h1) am_q60 rfl rfl rfl (am_xa g8 g9 e11) ?_
    obtain ⟨g12, H⟩ := H
    refine ev_s (pc' := 21) (loc' := [.ref a0, .int i1, .int i2, .int x4]) (st' := [.int (am_gi h1 b10 0)]) (h1 := h1) am_q60 rfl rfl rfl (if_pos (e := none) g12) ?_
    refine ev_p (pc' := 22) (loc' := [.ref a0, .int i1, .int i2, .int x4]) (st' := [.int (3 : Int32), .int (am_gi h1 b10 0)]) 1 am_q60 rfl ?_
    refine ev_jc (t := 29) am_q60 rfl rfl (fun hq => ?_) (fun hq => ?_)
    · replace H := H.1 hq
      refine ev_p (pc' := 30) (loc' := [.null, .null, .null, .null]) (st' := [.int (0 : Int32)]) 1 am_q60 rfl ?_
      exact ev_r (v := some (.int (0 : Int32))) am_q60 rfl rfl rfl rfl H
    · replace H := H.2 hq
      refine ev_p (pc' := 30) (loc' := [.ref a0, .int i1, .int i2, .int x4]) (st' := [.int (1 : Int32)]) 2 am_q60 rfl ?_
      exact ev_r (v := some (.int (1 : Int32))) am_q60 rfl rfl rfl rfl H
/-! 61: X6_giveUp -/
theorem am_q61 : (am_mt 61).2.2.2.2.2 = am_m61.2.2.2.2.2 := rfl
set_option maxRecDepth 20000 in
set_option maxHeartbeats 2000000 in
theorem wp61 {d : Nat} (a0 : Nat) (i1 : Int32) (i2 : Int32) {h : AH} {Q : Option Value → AH → Prop} (H : am_kd h a0 = 6 ∧ Cl d 57 [.ref a0, .int i1, .int i2] h (fun r2 h1 => ∃ x4, r2 = some (.int x4) ∧ ((¬ x4 = (-1 : Int32)) → am_kd h1 a0 = 6 ∧ ∃ b6, am_gr h1 a0 0 = some b6 ∧ (104 ≤ am_kd h1 b6 ∧ am_kd h1 b6 ≤ 109) ∧ am_in x4 (am_ln h1 b6) ∧ ∃ b10, am_gr h1 b6 (Int32.toNatClampNeg x4) = some b10 ∧ am_kd h1 b10 = 7 ∧ ∀ h13, h13 = am_si h1 b10 5 i2 → am_kd h13 b10 = 7 ∧ ((am_gi h13 b10 0) = (3 : Int32) → am_kd h13 b10 = 7 ∧ ((¬ (am_gi h13 b10 2) = i1) → am_kd h13 b10 = 7 ∧ am_kd h13 b10 = 7 ∧ am_kd h13 a0 = 6 ∧ Cl d 55 [.ref a0, .int (4 : Int32), .int (am_gi h13 b10 1), .int (am_gi h13 b10 2), .int (-1 : Int32), .int i2, .int (-1 : Int32)] h13 (fun r19 h18 => ∃ x21, r19 = some (.int x21) ∧ Q (some (.int x21)) h18)) ∧ (¬ (¬ (am_gi h13 b10 2) = i1) → am_kd h13 b10 = 7 ∧ am_kd h13 b10 = 7 ∧ am_kd h13 a0 = 6 ∧ Cl d 55 [.ref a0, .int (4 : Int32), .int (am_gi h13 b10 1), .int (am_gi h13 b10 3), .int (-1 : Int32), .int i2, .int (-1 : Int32)] h13 (fun r25 h24 => ∃ x27, r25 = some (.int x27) ∧ Q (some (.int x27)) h24))) ∧ (¬ (am_gi h13 b10 0) = (3 : Int32) → Q (some (.int (-1 : Int32))) h13)) ∧ (¬ (¬ x4 = (-1 : Int32)) → Q (some (.int (-1 : Int32))) h1))) : Cl (d + 1) 61 [.ref a0, .int i1, .int i2] h Q := by
  show Ev (d + 1) 61 0 [.ref a0, .int i1, .int i2, .null, .null, .null] [] h Q
  refine ev_p (pc' := 3) (loc' := [.ref a0, .int i1, .int i2, .null, .null, .null]) (st' := [.int i2, .int i1, .ref a0]) 3 am_q61 rfl ?_
  obtain ⟨g3, H⟩ := H
  refine ev_c (vs := [.ref a0, .int i1, .int i2]) (rest := []) 57 am_q61 rfl rfl rfl rfl rfl rfl rfl rfl rfl rfl rfl rfl (Or.inr (congrArg some g3)) (Cl.mono H (Nat.le_refl _) (fun r2 h1 H => ?_))
  obtain ⟨x4, rfl, H⟩ := H
  refine ev_p (pc' := 9) (loc' := [.ref a0, .int i1, .int i2, .int x4, .null, .null]) (st' := [.int (-1 : Int32), .int x4]) 3 am_q61 rfl ?_
  refine ev_jc (t := 14) am_q61 rfl rfl (fun hq => ?_) (fun hq => ?_)
  · replace H := H.1 hq
    refine ev_p (pc' := 15) (loc' := [.ref a0, .int i1, .int i2, .int x4, .null, .null]) (st' := [.ref a0]) 1 am_q61 rfl ?_
    obtain ⟨g5, b6, e7, H⟩ := H
    refine ev_s (pc' := 18) (loc' := [.ref a0, .int i1, .int i2, .int x4, .null, .null]) (st' := [.ref b6]) (h1 := h1) am_q61 rfl rfl rfl (am_gf2 g5 e7) ?_
    refine ev_p (pc' := 19) (loc' := [.ref a0, .int i1, .int i2, .int x4, .null, .null]) (st' := [.int x4, .ref b6]) 1 am_q61 rfl ?_
    obtain ⟨g8, g9, b10, e11, H⟩ := H
    refine ev_s (pc' := 20) (loc' := [.ref a0, .int i1, .int i2, .int x4, .null, .null]) (st' := [.ref b10]) (h1 := h1) am_q61 rfl rfl rfl (am_xa g8 g9 e11) ?_
    refine ev_p (pc' := 25) (loc' := [.ref a0, .int i1, .int i2, .int x4, .ref b10, .null]) (st' := [.int i2, .ref b10]) 3 am_q61 rfl ?_
    obtain ⟨g12, H⟩ := H
    refine ev_s (pc' := 28) (loc' := [.ref a0, .int i1, .int i2, .int x4, .ref b10, .null]) (st' := []) (h1 := am_si h1 b10 5 i2) am_q61 rfl rfl rfl (if_pos (e := none) g12) ?_
    replace H := H _ rfl
    generalize am_si h1 b10 5 i2 = h13 at H ⊢
    refine ev_p (pc' := 30) (loc' := [.ref a0, .int i1, .int i2, .int x4, .ref b10, .null]) (st' := [.ref b10]) 1 am_q61 rfl ?_
    obtain ⟨g14, H⟩ := H
    refine ev_s (pc' := 33) (loc' := [.ref a0, .int i1, .int i2, .int x4, .ref b10, .null]) (st' := [.int (am_gi h13 b10 0)]) (h1 := h13) am_q61 rfl rfl rfl (if_pos (e := none) g14) ?_
    refine ev_p (pc' := 34) (loc' := [.ref a0, .int i1, .int i2, .int x4, .ref b10, .null]) (st' := [.int (3 : Int32), .int (am_gi h13 b10 0)]) 1 am_q61 rfl ?_
    refine ev_jc (t := 39) am_q61 rfl rfl (fun hq => ?_) (fun hq => ?_)
    · replace H := H.1 hq
      refine ev_p (pc' := 41) (loc' := [.ref a0, .int i1, .int i2, .int x4, .ref b10, .null]) (st' := [.ref b10]) 1 am_q61 rfl ?_
      obtain ⟨g15, H⟩ := H
      refine ev_s (pc' := 44) (loc' := [.ref a0, .int i1, .int i2, .int x4, .ref b10, .null]) (st' := [.int (am_gi h13 b10 2)]) (h1 := h13) am_q61 rfl rfl rfl (if_pos (e := none) g15) ?_
      refine ev_p (pc' := 45) (loc' := [.ref a0, .int i1, .int i2, .int x4, .ref b10, .null]) (st' := [.int i1, .int (am_gi h13 b10 2)]) 1 am_q61 rfl ?_
      refine ev_jc (t := 56) am_q61 rfl rfl (fun hq => ?_) (fun hq => ?_)
      · replace H := H.1 hq
        refine ev_p (pc' := 58) (loc' := [.ref a0, .int i1, .int i2, .int x4, .ref b10, .null]) (st' := [.ref b10]) 1 am_q61 rfl ?_
        obtain ⟨g16, H⟩ := H
        refine ev_s (pc' := 61) (loc' := [.ref a0, .int i1, .int i2, .int x4, .ref b10, .null]) (st' := [.int (am_gi h13 b10 2)]) (h1 := h13) am_q61 rfl rfl rfl (if_pos (e := none) g16) ?_
        refine ev_p (pc' := 67) (loc' := [.ref a0, .null, .int i2, .null, .ref b10, .int (am_gi h13 b10 2)]) (st' := [.ref b10, .int (4 : Int32), .ref a0]) 4 am_q61 rfl ?_
        obtain ⟨g17, H⟩ := H
        refine ev_s (pc' := 70) (loc' := [.ref a0, .null, .int i2, .null, .ref b10, .int (am_gi h13 b10 2)]) (st' := [.int (am_gi h13 b10 1), .int (4 : Int32), .ref a0]) (h1 := h13) am_q61 rfl rfl rfl (if_pos (e := none) g17) ?_
        refine ev_p (pc' := 75) (loc' := [.ref a0, .null, .int i2, .null, .ref b10, .int (am_gi h13 b10 2)]) (st' := [.int (-1 : Int32), .int i2, .int (-1 : Int32), .int (am_gi h13 b10 2), .int (am_gi h13 b10 1), .int (4 : Int32), .ref a0]) 4 am_q61 rfl ?_
        obtain ⟨g20, H⟩ := H
        refine ev_c (vs := [.ref a0, .int (4 : Int32), .int (am_gi h13 b10 1), .int (am_gi h13 b10 2), .int (-1 : Int32), .int i2, .int (-1 : Int32)]) (rest := []) 55 am_q61 rfl rfl rfl rfl rfl rfl rfl rfl rfl rfl rfl rfl (Or.inr (congrArg some g20)) (Cl.mono H (Nat.le_refl _) (fun r19 h18 H => ?_))
        obtain ⟨x21, rfl, H⟩ := H
        exact ev_r (v := some (.int x21)) am_q61 rfl rfl rfl rfl H
      · replace H := H.2 hq
        refine ev_p (pc' := 50) (loc' := [.ref a0, .int i1, .int i2, .int x4, .ref b10, .null]) (st' := [.ref b10]) 1 am_q61 rfl ?_
        obtain ⟨g22, H⟩ := H
        refine ev_s (pc' := 53) (loc' := [.ref a0, .int i1, .int i2, .int x4, .ref b10, .null]) (st' := [.int (am_gi h13 b10 3)]) (h1 := h13) am_q61 rfl rfl rfl (if_pos (e := none) g22) ?_
        refine ev_p (pc' := 67) (loc' := [.ref a0, .null, .int i2, .null, .ref b10, .int (am_gi h13 b10 3)]) (st' := [.ref b10, .int (4 : Int32), .ref a0]) 5 am_q61 rfl ?_
        obtain ⟨g23, H⟩ := H
        refine ev_s (pc' := 70) (loc' := [.ref a0, .null, .int i2, .null, .ref b10, .int (am_gi h13 b10 3)]) (st' := [.int (am_gi h13 b10 1), .int (4 : Int32), .ref a0]) (h1 := h13) am_q61 rfl rfl rfl (if_pos (e := none) g23) ?_
        refine ev_p (pc' := 75) (loc' := [.ref a0, .null, .int i2, .null, .ref b10, .int (am_gi h13 b10 3)]) (st' := [.int (-1 : Int32), .int i2, .int (-1 : Int32), .int (am_gi h13 b10 3), .int (am_gi h13 b10 1), .int (4 : Int32), .ref a0]) 4 am_q61 rfl ?_
        obtain ⟨g26, H⟩ := H
        refine ev_c (vs := [.ref a0, .int (4 : Int32), .int (am_gi h13 b10 1), .int (am_gi h13 b10 3), .int (-1 : Int32), .int i2, .int (-1 : Int32)]) (rest := []) 55 am_q61 rfl rfl rfl rfl rfl rfl rfl rfl rfl rfl rfl rfl (Or.inr (congrArg some g26)) (Cl.mono H (Nat.le_refl _) (fun r25 h24 H => ?_))
        obtain ⟨x27, rfl, H⟩ := H
        exact ev_r (v := some (.int x27)) am_q61 rfl rfl rfl rfl H
    · replace H := H.2 hq
      refine ev_p (pc' := 38) (loc' := [.ref a0, .int i1, .int i2, .int x4, .ref b10, .null]) (st' := [.int (-1 : Int32)]) 1 am_q61 rfl ?_
      exact ev_r (v := some (.int (-1 : Int32))) am_q61 rfl rfl rfl rfl H
  · replace H := H.2 hq
    refine ev_p (pc' := 13) (loc' := [.ref a0, .int i1, .int i2, .int x4, .null, .null]) (st' := [.int (-1 : Int32)]) 1 am_q61 rfl ?_
    exact ev_r (v := some (.int (-1 : Int32))) am_q61 rfl rfl rfl rfl H
/-! 62: X6_endAllOf -/
theorem am_q62 : (am_mt 62).2.2.2.2.2 = am_m62.2.2.2.2.2 := rfl
set_option maxRecDepth 20000 in
set_option maxHeartbeats 2000000 in
theorem wp62 {d : Nat} (a0 : Nat) (i1 : Int32) (i2 : Int32) {h : AH} {Q : Option Value → AH → Prop} (H : Ev (d + 1) 62 2 [.ref a0, .int i1, .int i2, .int (0 : Int32)] [] h Q) : Cl (d + 1) 62 [.ref a0, .int i1, .int i2] h Q := by
  show Ev (d + 1) 62 0 [.ref a0, .int i1, .int i2, .null] [] h Q
  refine ev_p (pc' := 2) (loc' := [.ref a0, .int i1, .int i2, .int (0 : Int32)]) (st' := []) 2 am_q62 rfl ?_
  exact ev_m (loc' := [.ref a0, .int i1, .int i2, .int (0 : Int32)]) am_q62 rfl rfl H
set_option maxRecDepth 20000 in
set_option maxHeartbeats 2000000 in
theorem wp62_2 {d : Nat} (a0 : Nat) (i1 : Int32) (i2 : Int32) (i3 : Int32) {h : AH} {Q : Option Value → AH → Prop} (H : am_kd h a0 = 6 ∧ ((am_gi h a0 1) ≤ i3 → Q none h) ∧ (¬ (am_gi h a0 1) ≤ i3 → am_kd h a0 = 6 ∧ ∃ b3, am_gr h a0 0 = some b3 ∧ (104 ≤ am_kd h b3 ∧ am_kd h b3 ≤ 109) ∧ am_in i3 (am_ln h b3) ∧ ∃ b7, am_gr h b3 (Int32.toNatClampNeg i3) = some b7 ∧ am_kd h b7 = 7 ∧ Cl d 67 [.ref b7, .int i1] h (fun r10 h9 => ∃ x12, r10 = some (.int x12) ∧ (x12 = (0 : Int32) → Ev (d + 1) 62 2 [.ref a0, .int i1, .int i2, .int (i3 + (1 : Int32))] [] h9 Q) ∧ (¬ x12 = (0 : Int32) → am_kd h9 a0 = 6 ∧ ∃ b14, am_gr h9 a0 0 = some b14 ∧ (104 ≤ am_kd h9 b14 ∧ am_kd h9 b14 ≤ 109) ∧ am_in i3 (am_ln h9 b14) ∧ ∃ b18, am_gr h9 b14 (Int32.toNatClampNeg i3) = some b18 ∧ am_kd h9 b18 = 7 ∧ Cl d 65 [.ref b18, .int i2] h9 (fun r21 h20 => ∃ x23, r21 = some (.int x23) ∧ (x23 = (0 : Int32) → Ev (d + 1) 62 2 [.ref a0, .int i1, .int i2, .int (i3 + (1 : Int32))] [] h20 Q) ∧ (¬ x23 = (0 : Int32) → am_kd h20 a0 = 6 ∧ ∃ b25, am_gr h20 a0 0 = some b25 ∧ (104 ≤ am_kd h20 b25 ∧ am_kd h20 b25 ≤ 109) ∧ am_in i3 (am_ln h20 b25) ∧ ∃ b29, am_gr h20 b25 (Int32.toNatClampNeg i3) = some b29 ∧ am_kd h20 b29 = 7 ∧ ∀ h32, h32 = am_si h20 b29 5 i2 → Ev (d + 1) 62 2 [.ref a0, .int i1, .int i2, .int (i3 + (1 : Int32))] [] h32 Q)))))) : Ev (d + 1) 62 2 [.ref a0, .int i1, .int i2, .int i3] [] h Q := by
  refine ev_p (pc' := 4) (loc' := [.ref a0, .int i1, .int i2, .int i3]) (st' := [.ref a0, .int i3]) 2 am_q62 rfl ?_
  obtain ⟨g1, H⟩ := H
  refine ev_s (pc' := 7) (loc' := [.ref a0, .int i1, .int i2, .int i3]) (st' := [.int (am_gi h a0 1), .int i3]) (h1 := h) am_q62 rfl rfl rfl (if_pos (e := none) g1) ?_
  refine ev_jc (t := 52) am_q62 rfl rfl (fun hq => ?_) (fun hq => ?_)
  · replace H := H.1 hq
    exact ev_r (v := none) am_q62 rfl rfl rfl rfl H
  · replace H := H.2 hq
    refine ev_p (pc' := 11) (loc' := [.ref a0, .int i1, .int i2, .int i3]) (st' := [.ref a0]) 1 am_q62 rfl ?_
    obtain ⟨g2, b3, e4, H⟩ := H
    refine ev_s (pc' := 14) (loc' := [.ref a0, .int i1, .int i2, .int i3]) (st' := [.ref b3]) (h1 := h) am_q62 rfl rfl rfl (am_gf2 g2 e4) ?_
    refine ev_p (pc' := 15) (loc' := [.ref a0, .int i1, .int i2, .int i3]) (st' := [.int i3, .ref b3]) 1 am_q62 rfl ?_
    obtain ⟨g5, g6, b7, e8, H⟩ := H
    refine ev_s (pc' := 16) (loc' := [.ref a0, .int i1, .int i2, .int i3]) (st' := [.ref b7]) (h1 := h) am_q62 rfl rfl rfl (am_xa g5 g6 e8) ?_
    refine ev_p (pc' := 17) (loc' := [.ref a0, .int i1, .int i2, .int i3]) (st' := [.int i1, .ref b7]) 1 am_q62 rfl ?_
    obtain ⟨g11, H⟩ := H
    refine ev_c (vs := [.ref b7, .int i1]) (rest := []) 67 am_q62 rfl rfl rfl rfl rfl rfl rfl rfl rfl rfl rfl rfl (Or.inr (congrArg some g11)) (Cl.mono H (Nat.le_refl _) (fun r10 h9 H => ?_))
    obtain ⟨x12, rfl, H⟩ := H
    refine ev_jz (t := 46) am_q62 rfl rfl (fun hq => ?_) (fun hq => ?_)
    · replace H := H.1 hq
      refine ev_p (pc' := 2) (loc' := [.ref a0, .int i1, .int i2, .int (i3 + (1 : Int32))]) (st' := []) 2 am_q62 rfl ?_
      exact ev_m (loc' := [.ref a0, .int i1, .int i2, .int (i3 + (1 : Int32))]) am_q62 rfl rfl H
    · replace H := H.2 hq
      refine ev_p (pc' := 24) (loc' := [.ref a0, .int i1, .int i2, .int i3]) (st' := [.ref a0]) 1 am_q62 rfl ?_
      obtain ⟨g13, b14, e15, H⟩ := H
      refine ev_s (pc' := 27) (loc' := [.ref a0, .int i1, .int i2, .int i3]) (st' := [.ref b14]) (h1 := h9) am_q62 rfl rfl rfl (am_gf2 g13 e15) ?_
      refine ev_p (pc' := 28) (loc' := [.ref a0, .int i1, .int i2, .int i3]) (st' := [.int i3, .ref b14]) 1 am_q62 rfl ?_
      obtain ⟨g16, g17, b18, e19, H⟩ := H
      refine ev_s (pc' := 29) (loc' := [.ref a0, .int i1, .int i2, .int i3]) (st' := [.ref b18]) (h1 := h9) am_q62 rfl rfl rfl (am_xa g16 g17 e19) ?_
      refine ev_p (pc' := 30) (loc' := [.ref a0, .int i1, .int i2, .int i3]) (st' := [.int i2, .ref b18]) 1 am_q62 rfl ?_
      obtain ⟨g22, H⟩ := H
      refine ev_c (vs := [.ref b18, .int i2]) (rest := []) 65 am_q62 rfl rfl rfl rfl rfl rfl rfl rfl rfl rfl rfl rfl (Or.inr (congrArg some g22)) (Cl.mono H (Nat.le_refl _) (fun r21 h20 H => ?_))
      obtain ⟨x23, rfl, H⟩ := H
      refine ev_jz (t := 46) am_q62 rfl rfl (fun hq => ?_) (fun hq => ?_)
      · replace H := H.1 hq
        refine ev_p (pc' := 2) (loc' := [.ref a0, .int i1, .int i2, .int (i3 + (1 : Int32))]) (st' := []) 2 am_q62 rfl ?_
        exact ev_m (loc' := [.ref a0, .int i1, .int i2, .int (i3 + (1 : Int32))]) am_q62 rfl rfl H
      · replace H := H.2 hq
        refine ev_p (pc' := 37) (loc' := [.ref a0, .int i1, .int i2, .int i3]) (st' := [.ref a0]) 1 am_q62 rfl ?_
        obtain ⟨g24, b25, e26, H⟩ := H
        refine ev_s (pc' := 40) (loc' := [.ref a0, .int i1, .int i2, .int i3]) (st' := [.ref b25]) (h1 := h20) am_q62 rfl rfl rfl (am_gf2 g24 e26) ?_
        refine ev_p (pc' := 41) (loc' := [.ref a0, .int i1, .int i2, .int i3]) (st' := [.int i3, .ref b25]) 1 am_q62 rfl ?_
        obtain ⟨g27, g28, b29, e30, H⟩ := H
        refine ev_s (pc' := 42) (loc' := [.ref a0, .int i1, .int i2, .int i3]) (st' := [.ref b29]) (h1 := h20) am_q62 rfl rfl rfl (am_xa g27 g28 e30) ?_
        refine ev_p (pc' := 43) (loc' := [.ref a0, .int i1, .int i2, .int i3]) (st' := [.int i2, .ref b29]) 1 am_q62 rfl ?_
        obtain ⟨g31, H⟩ := H
        refine ev_s (pc' := 46) (loc' := [.ref a0, .int i1, .int i2, .int i3]) (st' := []) (h1 := am_si h20 b29 5 i2) am_q62 rfl rfl rfl (if_pos (e := none) g31) ?_
        replace H := H _ rfl
        generalize am_si h20 b29 5 i2 = h32 at H ⊢
        refine ev_p (pc' := 2) (loc' := [.ref a0, .int i1, .int i2, .int (i3 + (1 : Int32))]) (st' := []) 2 am_q62 rfl ?_
        exact ev_m (loc' := [.ref a0, .int i1, .int i2, .int (i3 + (1 : Int32))]) am_q62 rfl rfl H
/-! 63: X6_moveHolder -/
theorem am_q63 : (am_mt 63).2.2.2.2.2 = am_m63.2.2.2.2.2 := rfl
set_option maxRecDepth 20000 in
set_option maxHeartbeats 2000000 in
theorem wp63 {d : Nat} (a0 : Nat) (i1 : Int32) (i2 : Int32) (i3 : Int32) {h : AH} {Q : Option Value → AH → Prop} (H : am_kd h a0 = 6 ∧ Cl d 57 [.ref a0, .int i1, .int i3] h (fun r2 h1 => ∃ x4, r2 = some (.int x4) ∧ ((¬ x4 = (-1 : Int32)) → am_kd h1 a0 = 6 ∧ ∃ b6, am_gr h1 a0 0 = some b6 ∧ (104 ≤ am_kd h1 b6 ∧ am_kd h1 b6 ≤ 109) ∧ am_in x4 (am_ln h1 b6) ∧ ∃ b10, am_gr h1 b6 (Int32.toNatClampNeg x4) = some b10 ∧ am_kd h1 b10 = 7 ∧ ∀ h13, h13 = am_si h1 b10 5 i3 → am_kd h13 b10 = 7 ∧ am_kd h13 b10 = 7 ∧ am_kd h13 b10 = 7 ∧ am_kd h13 a0 = 6 ∧ Cl d 55 [.ref a0, .int (am_gi h13 b10 0), .int i2, .int (am_gi h13 b10 2), .int (am_gi h13 b10 3), .int i3, .int (-1 : Int32)] h13 (fun r18 h17 => ∃ x20, r18 = some (.int x20) ∧ Q none h17)) ∧ (¬ (¬ x4 = (-1 : Int32)) → Q none h1))) : Cl (d + 1) 63 [.ref a0, .int i1, .int i2, .int i3] h Q := by
  show Ev (d + 1) 63 0 [.ref a0, .int i1, .int i2, .int i3, .null, .null] [] h Q
  refine ev_p (pc' := 3) (loc' := [.ref a0, .int i1, .int i2, .int i3, .null, .null]) (st' := [.int i3, .int i1, .ref a0]) 3 am_q63 rfl ?_
  obtain ⟨g3, H⟩ := H
  refine ev_c (vs := [.ref a0, .int i1, .int i3]) (rest := []) 57 am_q63 rfl rfl rfl rfl rfl rfl rfl rfl rfl rfl rfl rfl (Or.inr (congrArg some g3)) (Cl.mono H (Nat.le_refl _) (fun r2 h1 H => ?_))
  obtain ⟨x4, rfl, H⟩ := H
  refine ev_p (pc' := 11) (loc' := [.ref a0, .int i1, .int i2, .int i3, .int x4, .null]) (st' := [.int (-1 : Int32), .int x4]) 3 am_q63 rfl ?_
  refine ev_jc (t := 15) am_q63 rfl rfl (fun hq => ?_) (fun hq => ?_)
  · replace H := H.1 hq
    refine ev_p (pc' := 16) (loc' := [.ref a0, .int i1, .int i2, .int i3, .int x4, .null]) (st' := [.ref a0]) 1 am_q63 rfl ?_
    obtain ⟨g5, b6, e7, H⟩ := H
    refine ev_s (pc' := 19) (loc' := [.ref a0, .int i1, .int i2, .int i3, .int x4, .null]) (st' := [.ref b6]) (h1 := h1) am_q63 rfl rfl rfl (am_gf2 g5 e7) ?_
    refine ev_p (pc' := 21) (loc' := [.ref a0, .int i1, .int i2, .int i3, .int x4, .null]) (st' := [.int x4, .ref b6]) 1 am_q63 rfl ?_
    obtain ⟨g8, g9, b10, e11, H⟩ := H
    refine ev_s (pc' := 22) (loc' := [.ref a0, .int i1, .int i2, .int i3, .int x4, .null]) (st' := [.ref b10]) (h1 := h1) am_q63 rfl rfl rfl (am_xa g8 g9 e11) ?_
    refine ev_p (pc' := 27) (loc' := [.ref a0, .int i1, .int i2, .int i3, .int x4, .ref b10]) (st' := [.int i3, .ref b10]) 3 am_q63 rfl ?_
    obtain ⟨g12, H⟩ := H
    refine ev_s (pc' := 30) (loc' := [.ref a0, .int i1, .int i2, .int i3, .int x4, .ref b10]) (st' := []) (h1 := am_si h1 b10 5 i3) am_q63 rfl rfl rfl (if_pos (e := none) g12) ?_
    replace H := H _ rfl
    generalize am_si h1 b10 5 i3 = h13 at H ⊢
    refine ev_p (pc' := 33) (loc' := [.ref a0, .int i1, .int i2, .int i3, .int x4, .ref b10]) (st' := [.ref b10, .ref a0]) 2 am_q63 rfl ?_
    obtain ⟨g14, H⟩ := H
    refine ev_s (pc' := 36) (loc' := [.ref a0, .int i1, .int i2, .int i3, .int x4, .ref b10]) (st' := [.int (am_gi h13 b10 0), .ref a0]) (h1 := h13) am_q63 rfl rfl rfl (if_pos (e := none) g14) ?_
    refine ev_p (pc' := 39) (loc' := [.ref a0, .int i1, .int i2, .int i3, .int x4, .ref b10]) (st' := [.ref b10, .int i2, .int (am_gi h13 b10 0), .ref a0]) 2 am_q63 rfl ?_
    obtain ⟨g15, H⟩ := H
    refine ev_s (pc' := 42) (loc' := [.ref a0, .int i1, .int i2, .int i3, .int x4, .ref b10]) (st' := [.int (am_gi h13 b10 2), .int i2, .int (am_gi h13 b10 0), .ref a0]) (h1 := h13) am_q63 rfl rfl rfl (if_pos (e := none) g15) ?_
    refine ev_p (pc' := 44) (loc' := [.ref a0, .int i1, .int i2, .int i3, .int x4, .ref b10]) (st' := [.ref b10, .int (am_gi h13 b10 2), .int i2, .int (am_gi h13 b10 0), .ref a0]) 1 am_q63 rfl ?_
    obtain ⟨g16, H⟩ := H
    refine ev_s (pc' := 47) (loc' := [.ref a0, .int i1, .int i2, .int i3, .int x4, .ref b10]) (st' := [.int (am_gi h13 b10 3), .int (am_gi h13 b10 2), .int i2, .int (am_gi h13 b10 0), .ref a0]) (h1 := h13) am_q63 rfl rfl rfl (if_pos (e := none) g16) ?_
    refine ev_p (pc' := 49) (loc' := [.ref a0, .int i1, .int i2, .int i3, .int x4, .ref b10]) (st' := [.int (-1 : Int32), .int i3, .int (am_gi h13 b10 3), .int (am_gi h13 b10 2), .int i2, .int (am_gi h13 b10 0), .ref a0]) 2 am_q63 rfl ?_
    obtain ⟨g19, H⟩ := H
    refine ev_c (vs := [.ref a0, .int (am_gi h13 b10 0), .int i2, .int (am_gi h13 b10 2), .int (am_gi h13 b10 3), .int i3, .int (-1 : Int32)]) (rest := []) 55 am_q63 rfl rfl rfl rfl rfl rfl rfl rfl rfl rfl rfl rfl (Or.inr (congrArg some g19)) (Cl.mono H (Nat.le_refl _) (fun r18 h17 H => ?_))
    obtain ⟨x20, rfl, H⟩ := H
    refine ev_p (pc' := 53) (loc' := [.ref a0, .int i1, .int i2, .int i3, .int x4, .ref b10]) (st' := []) 1 am_q63 rfl ?_
    exact ev_r (v := none) am_q63 rfl rfl rfl rfl H
  · replace H := H.2 hq
    exact ev_r (v := none) am_q63 rfl rfl rfl rfl H
/-! 64: X7_init -/
theorem am_q64 : (am_mt 64).2.2.2.2.2 = am_m64.2.2.2.2.2 := rfl
set_option maxRecDepth 20000 in
set_option maxHeartbeats 2000000 in
theorem wp64 {d : Nat} (a0 : Nat) {h : AH} {Q : Option Value → AH → Prop} (H : Q none h) : Cl d 64 [.ref a0] h Q := by
  show Ev d 64 0 [.ref a0] [] h Q
  refine ev_p (pc' := 1) (loc' := [.ref a0]) (st' := [.ref a0]) 1 am_q64 rfl ?_
  refine ev_b (st' := []) (h1 := h) am_q64 rfl rfl rfl rfl (rfl) rfl ?_
  exact ev_r (v := none) am_q64 rfl rfl rfl rfl H
/-! 65: X7_isInForce -/
theorem am_q65 : (am_mt 65).2.2.2.2.2 = am_m65.2.2.2.2.2 := rfl
set_option maxRecDepth 20000 in
set_option maxHeartbeats 2000000 in
theorem wp65 {d : Nat} (a0 : Nat) (i1 : Int32) {h : AH} {Q : Option Value → AH → Prop} (H : am_kd h a0 = 7 ∧ (i1 < (am_gi h a0 4) → Q (some (.int (0 : Int32))) h) ∧ (¬ i1 < (am_gi h a0 4) → am_kd h a0 = 7 ∧ ((am_gi h a0 5) = (-1 : Int32) → Q (some (.int (1 : Int32))) h) ∧ (¬ (am_gi h a0 5) = (-1 : Int32) → am_kd h a0 = 7 ∧ ((am_gi h a0 5) ≤ i1 → Q (some (.int (0 : Int32))) h) ∧ (¬ (am_gi h a0 5) ≤ i1 → Q (some (.int (1 : Int32))) h)))) : Cl d 65 [.ref a0, .int i1] h Q := by
  show Ev d 65 0 [.ref a0, .int i1] [] h Q
  refine ev_p (pc' := 1) (loc' := [.ref a0, .int i1]) (st' := [.ref a0]) 1 am_q65 rfl ?_
  obtain ⟨g1, H⟩ := H
  refine ev_s (pc' := 4) (loc' := [.ref a0, .int i1]) (st' := [.int (am_gi h a0 4)]) (h1 := h) am_q65 rfl rfl rfl (if_pos (e := none) g1) ?_
  refine ev_p (pc' := 5) (loc' := [.ref a0, .int i1]) (st' := [.int i1, .int (am_gi h a0 4)]) 1 am_q65 rfl ?_
  refine ev_jc (t := 28) am_q65 rfl rfl (fun hq => ?_) (fun hq => ?_)
  · replace H := H.1 hq
    refine ev_p (pc' := 29) (loc' := [.null, .null]) (st' := [.int (0 : Int32)]) 1 am_q65 rfl ?_
    exact ev_r (v := some (.int (0 : Int32))) am_q65 rfl rfl rfl rfl H
  · replace H := H.2 hq
    refine ev_p (pc' := 9) (loc' := [.ref a0, .int i1]) (st' := [.ref a0]) 1 am_q65 rfl ?_
    obtain ⟨g2, H⟩ := H
    refine ev_s (pc' := 12) (loc' := [.ref a0, .int i1]) (st' := [.int (am_gi h a0 5)]) (h1 := h) am_q65 rfl rfl rfl (if_pos (e := none) g2) ?_
    refine ev_p (pc' := 13) (loc' := [.ref a0, .int i1]) (st' := [.int (-1 : Int32), .int (am_gi h a0 5)]) 1 am_q65 rfl ?_
    refine ev_jc (t := 24) am_q65 rfl rfl (fun hq => ?_) (fun hq => ?_)
    · replace H := H.1 hq
      refine ev_p (pc' := 29) (loc' := [.null, .null]) (st' := [.int (1 : Int32)]) 2 am_q65 rfl ?_
      exact ev_r (v := some (.int (1 : Int32))) am_q65 rfl rfl rfl rfl H
    · replace H := H.2 hq
      refine ev_p (pc' := 18) (loc' := [.ref a0, .int i1]) (st' := [.ref a0, .int i1]) 2 am_q65 rfl ?_
      obtain ⟨g3, H⟩ := H
      refine ev_s (pc' := 21) (loc' := [.ref a0, .int i1]) (st' := [.int (am_gi h a0 5), .int i1]) (h1 := h) am_q65 rfl rfl rfl (if_pos (e := none) g3) ?_
      refine ev_jc (t := 28) am_q65 rfl rfl (fun hq => ?_) (fun hq => ?_)
      · replace H := H.1 hq
        refine ev_p (pc' := 29) (loc' := [.null, .null]) (st' := [.int (0 : Int32)]) 1 am_q65 rfl ?_
        exact ev_r (v := some (.int (0 : Int32))) am_q65 rfl rfl rfl rfl H
      · replace H := H.2 hq
        refine ev_p (pc' := 29) (loc' := [.null, .null]) (st' := [.int (1 : Int32)]) 2 am_q65 rfl ?_
        exact ev_r (v := some (.int (1 : Int32))) am_q65 rfl rfl rfl rfl H
/-! 66: X7_isHeld -/
theorem am_q66 : (am_mt 66).2.2.2.2.2 = am_m66.2.2.2.2.2 := rfl
set_option maxRecDepth 20000 in
set_option maxHeartbeats 2000000 in
theorem wp66 {d : Nat} (a0 : Nat) (i1 : Int32) {h : AH} {Q : Option Value → AH → Prop} (H : am_kd h a0 = 7 ∧ ((am_gi h a0 0) = (2 : Int32) → Q (some (.int (0 : Int32))) h) ∧ (¬ (am_gi h a0 0) = (2 : Int32) → am_kd h a0 = 7 ∧ Cl d 65 [.ref a0, .int i1] h (fun r3 h2 => ∃ x5, r3 = some (.int x5) ∧ (x5 = (0 : Int32) → Q (some (.int (0 : Int32))) h2) ∧ (¬ x5 = (0 : Int32) → Q (some (.int (1 : Int32))) h2)))) : Cl (d + 1) 66 [.ref a0, .int i1] h Q := by
  show Ev (d + 1) 66 0 [.ref a0, .int i1] [] h Q
  refine ev_p (pc' := 1) (loc' := [.ref a0, .int i1]) (st' := [.ref a0]) 1 am_q66 rfl ?_
  obtain ⟨g1, H⟩ := H
  refine ev_s (pc' := 4) (loc' := [.ref a0, .int i1]) (st' := [.int (am_gi h a0 0)]) (h1 := h) am_q66 rfl rfl rfl (if_pos (e := none) g1) ?_
  refine ev_p (pc' := 5) (loc' := [.ref a0, .int i1]) (st' := [.int (2 : Int32), .int (am_gi h a0 0)]) 1 am_q66 rfl ?_
  refine ev_jc (t := 20) am_q66 rfl rfl (fun hq => ?_) (fun hq => ?_)
  · replace H := H.1 hq
    refine ev_p (pc' := 21) (loc' := [.null, .null]) (st' := [.int (0 : Int32)]) 1 am_q66 rfl ?_
    exact ev_r (v := some (.int (0 : Int32))) am_q66 rfl rfl rfl rfl H
  · replace H := H.2 hq
    refine ev_p (pc' := 10) (loc' := [.ref a0, .int i1]) (st' := [.int i1, .ref a0]) 2 am_q66 rfl ?_
    obtain ⟨g4, H⟩ := H
    refine ev_c (vs := [.ref a0, .int i1]) (rest := []) 65 am_q66 rfl rfl rfl rfl rfl rfl rfl rfl rfl rfl rfl rfl (Or.inr (congrArg some g4)) (Cl.mono H (Nat.le_refl _) (fun r3 h2 H => ?_))
    obtain ⟨x5, rfl, H⟩ := H
    refine ev_jz (t := 20) am_q66 rfl rfl (fun hq => ?_) (fun hq => ?_)
    · replace H := H.1 hq
      refine ev_p (pc' := 21) (loc' := [.null, .null]) (st' := [.int (0 : Int32)]) 1 am_q66 rfl ?_
      exact ev_r (v := some (.int (0 : Int32))) am_q66 rfl rfl rfl rfl H
    · replace H := H.2 hq
      refine ev_p (pc' := 21) (loc' := [.ref a0, .int i1]) (st' := [.int (1 : Int32)]) 2 am_q66 rfl ?_
      exact ev_r (v := some (.int (1 : Int32))) am_q66 rfl rfl rfl rfl H
/-! 67: X7_isOf -/
theorem am_q67 : (am_mt 67).2.2.2.2.2 = am_m67.2.2.2.2.2 := rfl
set_option maxRecDepth 20000 in
set_option maxHeartbeats 2000000 in
theorem wp67 {d : Nat} (a0 : Nat) (i1 : Int32) {h : AH} {Q : Option Value → AH → Prop} (H : am_kd h a0 = 7 ∧ ((am_gi h a0 2) = i1 → Q (some (.int (1 : Int32))) h) ∧ (¬ (am_gi h a0 2) = i1 → am_kd h a0 = 7 ∧ ((¬ (am_gi h a0 3) = i1) → Q (some (.int (0 : Int32))) h) ∧ (¬ (¬ (am_gi h a0 3) = i1) → Q (some (.int (1 : Int32))) h))) : Cl d 67 [.ref a0, .int i1] h Q := by
  show Ev d 67 0 [.ref a0, .int i1] [] h Q
  refine ev_p (pc' := 1) (loc' := [.ref a0, .int i1]) (st' := [.ref a0]) 1 am_q67 rfl ?_
  obtain ⟨g1, H⟩ := H
  refine ev_s (pc' := 4) (loc' := [.ref a0, .int i1]) (st' := [.int (am_gi h a0 2)]) (h1 := h) am_q67 rfl rfl rfl (if_pos (e := none) g1) ?_
  refine ev_p (pc' := 5) (loc' := [.ref a0, .int i1]) (st' := [.int i1, .int (am_gi h a0 2)]) 1 am_q67 rfl ?_
  refine ev_jc (t := 16) am_q67 rfl rfl (fun hq => ?_) (fun hq => ?_)
  · replace H := H.1 hq
    refine ev_p (pc' := 21) (loc' := [.null, .null]) (st' := [.int (1 : Int32)]) 2 am_q67 rfl ?_
    exact ev_r (v := some (.int (1 : Int32))) am_q67 rfl rfl rfl rfl H
  · replace H := H.2 hq
    refine ev_p (pc' := 9) (loc' := [.ref a0, .int i1]) (st' := [.ref a0]) 1 am_q67 rfl ?_
    obtain ⟨g2, H⟩ := H
    refine ev_s (pc' := 12) (loc' := [.ref a0, .int i1]) (st' := [.int (am_gi h a0 3)]) (h1 := h) am_q67 rfl rfl rfl (if_pos (e := none) g2) ?_
    refine ev_p (pc' := 13) (loc' := [.ref a0, .int i1]) (st' := [.int i1, .int (am_gi h a0 3)]) 1 am_q67 rfl ?_
    refine ev_jc (t := 20) am_q67 rfl rfl (fun hq => ?_) (fun hq => ?_)
    · replace H := H.1 hq
      refine ev_p (pc' := 21) (loc' := [.ref a0, .int i1]) (st' := [.int (0 : Int32)]) 1 am_q67 rfl ?_
      exact ev_r (v := some (.int (0 : Int32))) am_q67 rfl rfl rfl rfl H
    · replace H := H.2 hq
      refine ev_p (pc' := 21) (loc' := [.null, .null]) (st' := [.int (1 : Int32)]) 2 am_q67 rfl ?_
      exact ev_r (v := some (.int (1 : Int32))) am_q67 rfl rfl rfl rfl H
/-! 68: X7_mayMove -/
theorem am_q68 : (am_mt 68).2.2.2.2.2 = am_m68.2.2.2.2.2 := rfl
set_option maxRecDepth 20000 in
set_option maxHeartbeats 2000000 in
theorem wp68 {d : Nat} (a0 : Nat) (i1 : Int32) {h : AH} {Q : Option Value → AH → Prop} (H : am_kd h a0 = 7 ∧ ((¬ (am_gi h a0 2) = i1) → Q (some (.int (0 : Int32))) h) ∧ (¬ (¬ (am_gi h a0 2) = i1) → am_kd h a0 = 7 ∧ ((¬ (am_gi h a0 5) = (-1 : Int32)) → Q (some (.int (0 : Int32))) h) ∧ (¬ (¬ (am_gi h a0 5) = (-1 : Int32)) → am_kd h a0 = 7 ∧ ((am_gi h a0 0) = (0 : Int32) → Q (some (.int (1 : Int32))) h) ∧ (¬ (am_gi h a0 0) = (0 : Int32) → am_kd h a0 = 7 ∧ ((am_gi h a0 0) = (3 : Int32) → Q (some (.int (1 : Int32))) h) ∧ (¬ (am_gi h a0 0) = (3 : Int32) → am_kd h a0 = 7 ∧ ((¬ (am_gi h a0 0) = (4 : Int32)) → Q (some (.int (0 : Int32))) h) ∧ (¬ (¬ (am_gi h a0 0) = (4 : Int32)) → Q (some (.int (1 : Int32))) h)))))) : Cl d 68 [.ref a0, .int i1] h Q := by
  show Ev d 68 0 [.ref a0, .int i1] [] h Q
  refine ev_p (pc' := 1) (loc' := [.ref a0, .int i1]) (st' := [.ref a0]) 1 am_q68 rfl ?_
  obtain ⟨g1, H⟩ := H
  refine ev_s (pc' := 4) (loc' := [.ref a0, .int i1]) (st' := [.int (am_gi h a0 2)]) (h1 := h) am_q68 rfl rfl rfl (if_pos (e := none) g1) ?_
  refine ev_p (pc' := 5) (loc' := [.ref a0, .int i1]) (st' := [.int i1, .int (am_gi h a0 2)]) 1 am_q68 rfl ?_
  refine ev_jc (t := 43) am_q68 rfl rfl (fun hq => ?_) (fun hq => ?_)
  · replace H := H.1 hq
    refine ev_p (pc' := 44) (loc' := [.null, .null]) (st' := [.int (0 : Int32)]) 1 am_q68 rfl ?_
    exact ev_r (v := some (.int (0 : Int32))) am_q68 rfl rfl rfl rfl H
  · replace H := H.2 hq
    refine ev_p (pc' := 9) (loc' := [.ref a0, .int i1]) (st' := [.ref a0]) 1 am_q68 rfl ?_
    obtain ⟨g2, H⟩ := H
    refine ev_s (pc' := 12) (loc' := [.ref a0, .int i1]) (st' := [.int (am_gi h a0 5)]) (h1 := h) am_q68 rfl rfl rfl (if_pos (e := none) g2) ?_
    refine ev_p (pc' := 13) (loc' := [.ref a0, .int i1]) (st' := [.int (-1 : Int32), .int (am_gi h a0 5)]) 1 am_q68 rfl ?_
    refine ev_jc (t := 43) am_q68 rfl rfl (fun hq => ?_) (fun hq => ?_)
    · replace H := H.1 hq
      refine ev_p (pc' := 44) (loc' := [.null, .null]) (st' := [.int (0 : Int32)]) 1 am_q68 rfl ?_
      exact ev_r (v := some (.int (0 : Int32))) am_q68 rfl rfl rfl rfl H
    · replace H := H.2 hq
      refine ev_p (pc' := 17) (loc' := [.ref a0, .int i1]) (st' := [.ref a0]) 1 am_q68 rfl ?_
      obtain ⟨g3, H⟩ := H
      refine ev_s (pc' := 20) (loc' := [.ref a0, .int i1]) (st' := [.int (am_gi h a0 0)]) (h1 := h) am_q68 rfl rfl rfl (if_pos (e := none) g3) ?_
      refine ev_jz (t := 39) am_q68 rfl rfl (fun hq => ?_) (fun hq => ?_)
      · replace H := H.1 hq
        refine ev_p (pc' := 44) (loc' := [.null, .null]) (st' := [.int (1 : Int32)]) 2 am_q68 rfl ?_
        exact ev_r (v := some (.int (1 : Int32))) am_q68 rfl rfl rfl rfl H
      · replace H := H.2 hq
        refine ev_p (pc' := 24) (loc' := [.ref a0, .int i1]) (st' := [.ref a0]) 1 am_q68 rfl ?_
        obtain ⟨g4, H⟩ := H
        refine ev_s (pc' := 27) (loc' := [.ref a0, .int i1]) (st' := [.int (am_gi h a0 0)]) (h1 := h) am_q68 rfl rfl rfl (if_pos (e := none) g4) ?_
        refine ev_p (pc' := 28) (loc' := [.ref a0, .int i1]) (st' := [.int (3 : Int32), .int (am_gi h a0 0)]) 1 am_q68 rfl ?_
        refine ev_jc (t := 39) am_q68 rfl rfl (fun hq => ?_) (fun hq => ?_)
        · replace H := H.1 hq
          refine ev_p (pc' := 44) (loc' := [.null, .null]) (st' := [.int (1 : Int32)]) 2 am_q68 rfl ?_
          exact ev_r (v := some (.int (1 : Int32))) am_q68 rfl rfl rfl rfl H
        · replace H := H.2 hq
          refine ev_p (pc' := 32) (loc' := [.ref a0, .int i1]) (st' := [.ref a0]) 1 am_q68 rfl ?_
          obtain ⟨g5, H⟩ := H
          refine ev_s (pc' := 35) (loc' := [.ref a0, .int i1]) (st' := [.int (am_gi h a0 0)]) (h1 := h) am_q68 rfl rfl rfl (if_pos (e := none) g5) ?_
          refine ev_p (pc' := 36) (loc' := [.ref a0, .int i1]) (st' := [.int (4 : Int32), .int (am_gi h a0 0)]) 1 am_q68 rfl ?_
          refine ev_jc (t := 43) am_q68 rfl rfl (fun hq => ?_) (fun hq => ?_)
          · replace H := H.1 hq
            refine ev_p (pc' := 44) (loc' := [.null, .null]) (st' := [.int (0 : Int32)]) 1 am_q68 rfl ?_
            exact ev_r (v := some (.int (0 : Int32))) am_q68 rfl rfl rfl rfl H
          · replace H := H.2 hq
            refine ev_p (pc' := 44) (loc' := [.null, .null]) (st' := [.int (1 : Int32)]) 2 am_q68 rfl ?_
            exact ev_r (v := some (.int (1 : Int32))) am_q68 rfl rfl rfl rfl H
/-! 69: X8_init -/
theorem am_q69 : (am_mt 69).2.2.2.2.2 = am_m69.2.2.2.2.2 := rfl
set_option maxRecDepth 20000 in
set_option maxHeartbeats 2000000 in
theorem wp69 {d : Nat} (a0 : Nat) {h : AH} {Q : Option Value → AH → Prop} (H : (¬ (8 : Int32) < (0 : Int32) ∧ (Int32.toNatClampNeg (8 : Int32)) ≤ 100000) ∧ ∀ b3, b3 = am_sz h → ∀ h2, h2 = am_nw h 101 (Int32.toNatClampNeg (8 : Int32)) (Int32.toNatClampNeg (8 : Int32)) → am_kd h2 a0 = 8 ∧ ∀ h6, h6 = am_sr h2 a0 0 (some b3) → (¬ (64 : Int32) < (0 : Int32) ∧ (Int32.toNatClampNeg (64 : Int32)) ≤ 100000) ∧ ∀ b8, b8 = am_sz h6 → ∀ h7, h7 = am_nw h6 101 (Int32.toNatClampNeg (64 : Int32)) (Int32.toNatClampNeg (64 : Int32)) → am_kd h7 a0 = 8 ∧ ∀ h11, h11 = am_sr h7 a0 1 (some b8) → Q none h11) : Cl d 69 [.ref a0] h Q := by
  show Ev d 69 0 [.ref a0] [] h Q
  refine ev_p (pc' := 1) (loc' := [.ref a0]) (st' := [.ref a0]) 1 am_q69 rfl ?_
  refine ev_b (st' := []) (h1 := h) am_q69 rfl rfl rfl rfl (rfl) rfl ?_
  refine ev_p (pc' := 7) (loc' := [.ref a0]) (st' := [.int (8 : Int32), .ref a0]) 2 am_q69 rfl ?_
  obtain ⟨g4, H⟩ := H
  refine ev_s (pc' := 9) (loc' := [.ref a0]) (st' := [.ref (am_sz h), .ref a0]) (h1 := am_nw h 101 (Int32.toNatClampNeg (8 : Int32)) (Int32.toNatClampNeg (8 : Int32))) am_q69 rfl rfl rfl (if_pos (e := none) g4) ?_
  replace H := H _ rfl _ rfl
  generalize am_nw h 101 (Int32.toNatClampNeg (8 : Int32)) (Int32.toNatClampNeg (8 : Int32)) = h2 at H ⊢
  generalize am_sz h = b3 at H ⊢
  obtain ⟨g5, H⟩ := H
  refine ev_s (pc' := 12) (loc' := [.ref a0]) (st' := []) (h1 := am_sr h2 a0 0 (some b3)) am_q69 rfl rfl rfl (if_pos (e := none) g5) ?_
  replace H := H _ rfl
  generalize am_sr h2 a0 0 (some b3) = h6 at H ⊢
  refine ev_p (pc' := 15) (loc' := [.ref a0]) (st' := [.int (64 : Int32), .ref a0]) 2 am_q69 rfl ?_
  obtain ⟨g9, H⟩ := H
  refine ev_s (pc' := 17) (loc' := [.ref a0]) (st' := [.ref (am_sz h6), .ref a0]) (h1 := am_nw h6 101 (Int32.toNatClampNeg (64 : Int32)) (Int32.toNatClampNeg (64 : Int32))) am_q69 rfl rfl rfl (if_pos (e := none) g9) ?_
  replace H := H _ rfl _ rfl
  generalize am_nw h6 101 (Int32.toNatClampNeg (64 : Int32)) (Int32.toNatClampNeg (64 : Int32)) = h7 at H ⊢
  generalize am_sz h6 = b8 at H ⊢
  obtain ⟨g10, H⟩ := H
  refine ev_s (pc' := 20) (loc' := [.ref a0]) (st' := []) (h1 := am_sr h7 a0 1 (some b8)) am_q69 rfl rfl rfl (if_pos (e := none) g10) ?_
  replace H := H _ rfl
  generalize am_sr h7 a0 1 (some b8) = h11 at H ⊢
  exact ev_r (v := none) am_q69 rfl rfl rfl rfl H
/-! 70: X8_worth -/
theorem am_q70 : (am_mt 70).2.2.2.2.2 = am_m70.2.2.2.2.2 := rfl
set_option maxRecDepth 20000 in
set_option maxHeartbeats 2000000 in
theorem wp70 {d : Nat} (a0 : Nat) (a1 : Nat) (i2 : Int32) {h : AH} {Q : Option Value → AH → Prop} (H : am_kd h a0 = 8 ∧ ∀ h2, h2 = am_si h a0 2 (0 : Int32) → am_kd h2 a1 = 9 ∧ ∃ b4, am_gr h2 a1 2 = some b4 ∧ am_kd h2 b4 = 100 ∧ am_in (i2 + (1 : Int32)) (am_ln h2 b4) ∧ am_kd h2 a1 = 9 ∧ ∃ b9, am_gr h2 a1 1 = some b9 ∧ (100 ≤ am_kd h2 b9 ∧ am_kd h2 b9 ≤ 109) ∧ Cl d 265 [.int (am_gi h2 b4 (Int32.toNatClampNeg (i2 + (1 : Int32)))), .int (Int32.ofNat (am_ln h2 b9))] h2 (fun r13 h12 => ∃ x14, r13 = some (.int x14) ∧ am_kd h12 a1 = 9 ∧ ∃ b16, am_gr h12 a1 2 = some b16 ∧ am_kd h12 b16 = 100 ∧ am_in i2 (am_ln h12 b16) ∧ Ev (d + 1) 70 30 [.ref a0, .ref a1, .null, .int x14, .int (am_gi h12 b16 (Int32.toNatClampNeg i2))] [] h12 Q)) : Cl (d + 1) 70 [.ref a0, .ref a1, .int i2] h Q := by
  show Ev (d + 1) 70 0 [.ref a0, .ref a1, .int i2, .null, .null] [] h Q
  refine ev_p (pc' := 2) (loc' := [.ref a0, .ref a1, .int i2, .null, .null]) (st' := [.int (0 : Int32), .ref a0]) 2 am_q70 rfl ?_
  obtain ⟨g1, H⟩ := H
  refine ev_s (pc' := 5) (loc' := [.ref a0, .ref a1, .int i2, .null, .null]) (st' := []) (h1 := am_si h a0 2 (0 : Int32)) am_q70 rfl rfl rfl (if_pos (e := none) g1) ?_
  replace H := H _ rfl
  generalize am_si h a0 2 (0 : Int32) = h2 at H ⊢
  refine ev_p (pc' := 6) (loc' := [.ref a0, .ref a1, .int i2, .null, .null]) (st' := [.ref a1]) 1 am_q70 rfl ?_
  obtain ⟨g3, b4, e5, H⟩ := H
  refine ev_s (pc' := 9) (loc' := [.ref a0, .ref a1, .int i2, .null, .null]) (st' := [.ref b4]) (h1 := h2) am_q70 rfl rfl rfl (am_gf2 g3 e5) ?_
  refine ev_p (pc' := 12) (loc' := [.ref a0, .ref a1, .int i2, .null, .null]) (st' := [.int (i2 + (1 : Int32)), .ref b4]) 3 am_q70 rfl ?_
  obtain ⟨g6, g7, H⟩ := H
  refine ev_s (pc' := 13) (loc' := [.ref a0, .ref a1, .int i2, .null, .null]) (st' := [.int (am_gi h2 b4 (Int32.toNatClampNeg (i2 + (1 : Int32))))]) (h1 := h2) am_q70 rfl rfl rfl (am_xx g6 g7) ?_
  refine ev_p (pc' := 14) (loc' := [.ref a0, .ref a1, .int i2, .null, .null]) (st' := [.ref a1, .int (am_gi h2 b4 (Int32.toNatClampNeg (i2 + (1 : Int32))))]) 1 am_q70 rfl ?_
  obtain ⟨g8, b9, e10, H⟩ := H
  refine ev_s (pc' := 17) (loc' := [.ref a0, .ref a1, .int i2, .null, .null]) (st' := [.ref b9, .int (am_gi h2 b4 (Int32.toNatClampNeg (i2 + (1 : Int32))))]) (h1 := h2) am_q70 rfl rfl rfl (am_gf2 g8 e10) ?_
  obtain ⟨g11, H⟩ := H
  refine ev_s (pc' := 18) (loc' := [.ref a0, .ref a1, .int i2, .null, .null]) (st' := [.int (Int32.ofNat (am_ln h2 b9)), .int (am_gi h2 b4 (Int32.toNatClampNeg (i2 + (1 : Int32))))]) (h1 := h2) am_q70 rfl rfl rfl (if_pos (e := none) g11) ?_
  refine ev_c (vs := [.int (am_gi h2 b4 (Int32.toNatClampNeg (i2 + (1 : Int32)))), .int (Int32.ofNat (am_ln h2 b9))]) (rest := []) 265 am_q70 rfl rfl rfl rfl rfl rfl rfl rfl rfl rfl rfl rfl (Or.inl rfl) (Cl.mono H (Nat.le_refl _) (fun r13 h12 H => ?_))
  obtain ⟨x14, rfl, H⟩ := H
  refine ev_p (pc' := 23) (loc' := [.ref a0, .ref a1, .int i2, .int x14, .null]) (st' := [.ref a1]) 2 am_q70 rfl ?_
  obtain ⟨g15, b16, e17, H⟩ := H
  refine ev_s (pc' := 26) (loc' := [.ref a0, .ref a1, .int i2, .int x14, .null]) (st' := [.ref b16]) (h1 := h12) am_q70 rfl rfl rfl (am_gf2 g15 e17) ?_
  refine ev_p (pc' := 27) (loc' := [.ref a0, .ref a1, .int i2, .int x14, .null]) (st' := [.int i2, .ref b16]) 1 am_q70 rfl ?_
  obtain ⟨g18, g19, H⟩ := H
  refine ev_s (pc' := 28) (loc' := [.ref a0, .ref a1, .int i2, .int x14, .null]) (st' := [.int (am_gi h12 b16 (Int32.toNatClampNeg i2))]) (h1 := h12) am_q70 rfl rfl rfl (am_xx g18 g19) ?_
  refine ev_p (pc' := 30) (loc' := [.ref a0, .ref a1, .int i2, .int x14, .int (am_gi h12 b16 (Int32.toNatClampNeg i2))]) (st' := []) 1 am_q70 rfl ?_
  exact ev_m (loc' := [.ref a0, .ref a1, .null, .int x14, .int (am_gi h12 b16 (Int32.toNatClampNeg i2))]) am_q70 rfl rfl H
set_option maxRecDepth 20000 in
set_option maxHeartbeats 2000000 in
theorem wp70_30 {d : Nat} (a0 : Nat) (a1 : Nat) (i3 : Int32) (i4 : Int32) {h : AH} {Q : Option Value → AH → Prop} (H : (i3 ≤ i4 → am_kd h a0 = 8 ∧ Cl d 74 [.ref a0] h (fun r2 h1 => ∃ y4, r2 = some (.long y4) ∧ Q (some (.long y4)) h1)) ∧ (¬ i3 ≤ i4 → am_kd h a1 = 9 ∧ ∃ b6, am_gr h a1 1 = some b6 ∧ am_kd h b6 = 100 ∧ am_in i4 (am_ln h b6) ∧ am_kd h a0 = 8 ∧ Cl d 71 [.ref a0, .int (am_gi h b6 (Int32.toNatClampNeg i4))] h (fun r11 h10 => r11 = none ∧ Ev (d + 1) 70 30 [.ref a0, .ref a1, .null, .int i3, .int (i4 + (1 : Int32))] [] h10 Q))) : Ev (d + 1) 70 30 [.ref a0, .ref a1, .null, .int i3, .int i4] [] h Q := by
  refine ev_p (pc' := 33) (loc' := [.ref a0, .ref a1, .null, .int i3, .int i4]) (st' := [.int i3, .int i4]) 2 am_q70 rfl ?_
  refine ev_jc (t := 53) am_q70 rfl rfl (fun hq => ?_) (fun hq => ?_)
  · replace H := H.1 hq
    refine ev_p (pc' := 54) (loc' := [.ref a0, .ref a1, .null, .int i3, .int i4]) (st' := [.ref a0]) 1 am_q70 rfl ?_
    obtain ⟨g3, H⟩ := H
    refine ev_c (vs := [.ref a0]) (rest := []) 74 am_q70 rfl rfl rfl rfl rfl rfl rfl rfl rfl rfl rfl rfl (Or.inr (congrArg some g3)) (Cl.mono H (Nat.le_refl _) (fun r2 h1 H => ?_))
    obtain ⟨y4, rfl, H⟩ := H
    exact ev_r (v := some (.long y4)) am_q70 rfl rfl rfl rfl H
  · replace H := H.2 hq
    refine ev_p (pc' := 38) (loc' := [.ref a0, .ref a1, .null, .int i3, .int i4]) (st' := [.ref a1, .ref a0]) 2 am_q70 rfl ?_
    obtain ⟨g5, b6, e7, H⟩ := H
    refine ev_s (pc' := 41) (loc' := [.ref a0, .ref a1, .null, .int i3, .int i4]) (st' := [.ref b6, .ref a0]) (h1 := h) am_q70 rfl rfl rfl (am_gf2 g5 e7) ?_
    refine ev_p (pc' := 43) (loc' := [.ref a0, .ref a1, .null, .int i3, .int i4]) (st' := [.int i4, .ref b6, .ref a0]) 1 am_q70 rfl ?_
    obtain ⟨g8, g9, H⟩ := H
    refine ev_s (pc' := 44) (loc' := [.ref a0, .ref a1, .null, .int i3, .int i4]) (st' := [.int (am_gi h b6 (Int32.toNatClampNeg i4)), .ref a0]) (h1 := h) am_q70 rfl rfl rfl (am_xx g8 g9) ?_
    obtain ⟨g12, H⟩ := H
    refine ev_c (vs := [.ref a0, .int (am_gi h b6 (Int32.toNatClampNeg i4))]) (rest := []) 71 am_q70 rfl rfl rfl rfl rfl rfl rfl rfl rfl rfl rfl rfl (Or.inr (congrArg some g12)) (Cl.mono H (Nat.le_refl _) (fun r11 h10 H => ?_))
    obtain ⟨rfl, H⟩ := H
    refine ev_p (pc' := 30) (loc' := [.ref a0, .ref a1, .null, .int i3, .int (i4 + (1 : Int32))]) (st' := []) 2 am_q70 rfl ?_
    exact ev_m (loc' := [.ref a0, .ref a1, .null, .int i3, .int (i4 + (1 : Int32))]) am_q70 rfl rfl H
/-! 71: X8_step -/
theorem am_q71 : (am_mt 71).2.2.2.2.2 = am_m71.2.2.2.2.2 := rfl
set_option maxRecDepth 20000 in
set_option maxHeartbeats 2000000 in
theorem wp71 {d : Nat} (a0 : Nat) (i1 : Int32) {h : AH} {Q : Option Value → AH → Prop} (H : (i1 < (0 : Int32) → ((8 : Int32) ≤ ((-1 : Int32) - i1) → ((¬ i1 = (-29 : Int32)) → ((¬ i1 = (-23 : Int32)) → am_kd h a0 = 8 ∧ Cl d 74 [.ref a0] h (fun r2 h1 => ∃ y4, r2 = some (.long y4) ∧ am_kd h1 a0 = 8 ∧ Cl d 74 [.ref a0] h1 (fun r6 h5 => ∃ y8, r6 = some (.long y8) ∧ Cl d 72 [.int i1, .long y8, .long y4] h5 (fun r10 h9 => ∃ y11, r10 = some (.long y11) ∧ am_kd h9 a0 = 8 ∧ Cl d 73 [.ref a0, .long y11] h9 (fun r13 h12 => r13 = none ∧ Q none h12))))) ∧ (¬ (¬ i1 = (-23 : Int32)) → am_kd h a0 = 8 ∧ Cl d 74 [.ref a0] h (fun r16 h15 => ∃ y18, r16 = some (.long y18) ∧ ((¬ (lg_cmp y18 (0 : Int64)) = (0 : Int32)) → am_kd h15 a0 = 8 ∧ Cl d 73 [.ref a0, .long (0 : Int64)] h15 (fun r20 h19 => r20 = none ∧ Q none h19)) ∧ (¬ (¬ (lg_cmp y18 (0 : Int64)) = (0 : Int32)) → am_kd h15 a0 = 8 ∧ Cl d 73 [.ref a0, .long (1 : Int64)] h15 (fun r23 h22 => r23 = none ∧ Q none h22))))) ∧ (¬ (¬ i1 = (-29 : Int32)) → am_kd h a0 = 8 ∧ Cl d 74 [.ref a0] h (fun r26 h25 => ∃ y28, r26 = some (.long y28) ∧ am_kd h25 a0 = 8 ∧ Cl d 73 [.ref a0, .long (-y28)] h25 (fun r30 h29 => r30 = none ∧ Q none h29)))) ∧ (¬ (8 : Int32) ≤ ((-1 : Int32) - i1) → am_kd h a0 = 8 ∧ ∃ b33, am_gr h a0 0 = some b33 ∧ am_kd h b33 = 101 ∧ am_in ((-1 : Int32) - i1) (am_ln h b33) ∧ am_kd h a0 = 8 ∧ Cl d 73 [.ref a0, .long (am_gl h b33 (Int32.toNatClampNeg ((-1 : Int32) - i1)))] h (fun r38 h37 => r38 = none ∧ Q none h37))) ∧ (¬ i1 < (0 : Int32) → am_kd h a0 = 8 ∧ Cl d 73 [.ref a0, .long (Int32.toInt64 i1)] h (fun r41 h40 => r41 = none ∧ Q none h40))) : Cl (d + 1) 71 [.ref a0, .int i1] h Q := by
  show Ev (d + 1) 71 0 [.ref a0, .int i1, .null, .null] [] h Q
  refine ev_p (pc' := 1) (loc' := [.ref a0, .int i1, .null, .null]) (st' := [.int i1]) 1 am_q71 rfl ?_
  refine ev_jz (t := 13) am_q71 rfl rfl (fun hq => ?_) (fun hq => ?_)
  · replace H := H.1 hq
    refine ev_p (pc' := 18) (loc' := [.ref a0, .int i1, .null, .null]) (st' := [.int (8 : Int32), .int ((-1 : Int32) - i1)]) 4 am_q71 rfl ?_
    refine ev_jc (t := 36) am_q71 rfl rfl (fun hq => ?_) (fun hq => ?_)
    · replace H := H.1 hq
      refine ev_p (pc' := 39) (loc' := [.ref a0, .int i1, .null, .null]) (st' := [.int (-29 : Int32), .int i1]) 2 am_q71 rfl ?_
      refine ev_jc (t := 54) am_q71 rfl rfl (fun hq => ?_) (fun hq => ?_)
      · replace H := H.1 hq
        refine ev_p (pc' := 57) (loc' := [.ref a0, .int i1, .null, .null]) (st' := [.int (-23 : Int32), .int i1]) 2 am_q71 rfl ?_
        refine ev_jc (t := 81) am_q71 rfl rfl (fun hq => ?_) (fun hq => ?_)
        · replace H := H.1 hq
          refine ev_p (pc' := 82) (loc' := [.ref a0, .int i1, .null, .null]) (st' := [.ref a0]) 1 am_q71 rfl ?_
          obtain ⟨g3, H⟩ := H
          refine ev_c (vs := [.ref a0]) (rest := []) 74 am_q71 rfl rfl rfl rfl rfl rfl rfl rfl rfl rfl rfl rfl (Or.inr (congrArg some g3)) (Cl.mono H (Nat.le_refl _) (fun r2 h1 H => ?_))
          obtain ⟨y4, rfl, H⟩ := H
          refine ev_p (pc' := 89) (loc' := [.ref a0, .int i1, .long y4, .null]) (st' := [.ref a0, .int i1, .ref a0]) 4 am_q71 rfl ?_
          obtain ⟨g7, H⟩ := H
          refine ev_c (vs := [.ref a0]) (rest := [.int i1, .ref a0]) 74 am_q71 rfl rfl rfl rfl rfl rfl rfl rfl rfl rfl rfl rfl (Or.inr (congrArg some g7)) (Cl.mono H (Nat.le_refl _) (fun r6 h5 H => ?_))
          obtain ⟨y8, rfl, H⟩ := H
          refine ev_p (pc' := 93) (loc' := [.ref a0, .int i1, .long y4, .null]) (st' := [.long y4, .long y8, .int i1, .ref a0]) 1 am_q71 rfl ?_
          refine ev_c (vs := [.int i1, .long y8, .long y4]) (rest := [.ref a0]) 72 am_q71 rfl rfl rfl rfl rfl rfl rfl rfl rfl rfl rfl rfl (Or.inl rfl) (Cl.mono H (Nat.le_refl _) (fun r10 h9 H => ?_))
          obtain ⟨y11, rfl, H⟩ := H
          obtain ⟨g14, H⟩ := H
          refine ev_c (vs := [.ref a0, .long y11]) (rest := []) 73 am_q71 rfl rfl rfl rfl rfl rfl rfl rfl rfl rfl rfl rfl (Or.inr (congrArg some g14)) (Cl.mono H (Nat.le_refl _) (fun r13 h12 H => ?_))
          obtain ⟨rfl, H⟩ := H
          exact ev_r (v := none) am_q71 rfl rfl rfl rfl H
        · replace H := H.2 hq
          refine ev_p (pc' := 62) (loc' := [.ref a0, .int i1, .null, .null]) (st' := [.ref a0, .ref a0]) 2 am_q71 rfl ?_
          obtain ⟨g17, H⟩ := H
          refine ev_c (vs := [.ref a0]) (rest := [.ref a0]) 74 am_q71 rfl rfl rfl rfl rfl rfl rfl rfl rfl rfl rfl rfl (Or.inr (congrArg some g17)) (Cl.mono H (Nat.le_refl _) (fun r16 h15 H => ?_))
          obtain ⟨y18, rfl, H⟩ := H
          refine ev_p (pc' := 67) (loc' := [.ref a0, .int i1, .null, .null]) (st' := [.int (lg_cmp y18 (0 : Int64)), .ref a0]) 2 am_q71 rfl ?_
          refine ev_jz (t := 74) am_q71 rfl rfl (fun hq => ?_) (fun hq => ?_)
          · replace H := H.1 hq
            refine ev_p (pc' := 75) (loc' := [.ref a0, .int i1, .null, .null]) (st' := [.long (0 : Int64), .ref a0]) 1 am_q71 rfl ?_
            obtain ⟨g21, H⟩ := H
            refine ev_c (vs := [.ref a0, .long (0 : Int64)]) (rest := []) 73 am_q71 rfl rfl rfl rfl rfl rfl rfl rfl rfl rfl rfl rfl (Or.inr (congrArg some g21)) (Cl.mono H (Nat.le_refl _) (fun r20 h19 H => ?_))
            obtain ⟨rfl, H⟩ := H
            refine ev_p (pc' := 99) (loc' := [.null, .null, .null, .null]) (st' := []) 1 am_q71 rfl ?_
            exact ev_r (v := none) am_q71 rfl rfl rfl rfl H
          · replace H := H.2 hq
            refine ev_p (pc' := 75) (loc' := [.ref a0, .int i1, .null, .null]) (st' := [.long (1 : Int64), .ref a0]) 2 am_q71 rfl ?_
            obtain ⟨g24, H⟩ := H
            refine ev_c (vs := [.ref a0, .long (1 : Int64)]) (rest := []) 73 am_q71 rfl rfl rfl rfl rfl rfl rfl rfl rfl rfl rfl rfl (Or.inr (congrArg some g24)) (Cl.mono H (Nat.le_refl _) (fun r23 h22 H => ?_))
            obtain ⟨rfl, H⟩ := H
            refine ev_p (pc' := 99) (loc' := [.null, .null, .null, .null]) (st' := []) 1 am_q71 rfl ?_
            exact ev_r (v := none) am_q71 rfl rfl rfl rfl H
      · replace H := H.2 hq
        refine ev_p (pc' := 44) (loc' := [.ref a0, .int i1, .null, .null]) (st' := [.ref a0, .ref a0]) 2 am_q71 rfl ?_
        obtain ⟨g27, H⟩ := H
        refine ev_c (vs := [.ref a0]) (rest := [.ref a0]) 74 am_q71 rfl rfl rfl rfl rfl rfl rfl rfl rfl rfl rfl rfl (Or.inr (congrArg some g27)) (Cl.mono H (Nat.le_refl _) (fun r26 h25 H => ?_))
        obtain ⟨y28, rfl, H⟩ := H
        refine ev_p (pc' := 48) (loc' := [.ref a0, .int i1, .null, .null]) (st' := [.long (-y28), .ref a0]) 1 am_q71 rfl ?_
        obtain ⟨g31, H⟩ := H
        refine ev_c (vs := [.ref a0, .long (-y28)]) (rest := []) 73 am_q71 rfl rfl rfl rfl rfl rfl rfl rfl rfl rfl rfl rfl (Or.inr (congrArg some g31)) (Cl.mono H (Nat.le_refl _) (fun r30 h29 H => ?_))
        obtain ⟨rfl, H⟩ := H
        refine ev_p (pc' := 99) (loc' := [.ref a0, .int i1, .null, .null]) (st' := []) 1 am_q71 rfl ?_
        exact ev_r (v := none) am_q71 rfl rfl rfl rfl H
    · replace H := H.2 hq
      refine ev_p (pc' := 23) (loc' := [.ref a0, .int i1, .null, .null]) (st' := [.ref a0, .ref a0]) 2 am_q71 rfl ?_
      obtain ⟨g32, b33, e34, H⟩ := H
      refine ev_s (pc' := 26) (loc' := [.ref a0, .int i1, .null, .null]) (st' := [.ref b33, .ref a0]) (h1 := h) am_q71 rfl rfl rfl (am_gf2 g32 e34) ?_
      refine ev_p (pc' := 29) (loc' := [.ref a0, .int i1, .null, .null]) (st' := [.int ((-1 : Int32) - i1), .ref b33, .ref a0]) 3 am_q71 rfl ?_
      obtain ⟨g35, g36, H⟩ := H
      refine ev_s (pc' := 30) (loc' := [.ref a0, .int i1, .null, .null]) (st' := [.long (am_gl h b33 (Int32.toNatClampNeg ((-1 : Int32) - i1))), .ref a0]) (h1 := h) am_q71 rfl rfl rfl (am_xx g35 g36) ?_
      obtain ⟨g39, H⟩ := H
      refine ev_c (vs := [.ref a0, .long (am_gl h b33 (Int32.toNatClampNeg ((-1 : Int32) - i1)))]) (rest := []) 73 am_q71 rfl rfl rfl rfl rfl rfl rfl rfl rfl rfl rfl rfl (Or.inr (congrArg some g39)) (Cl.mono H (Nat.le_refl _) (fun r38 h37 H => ?_))
      obtain ⟨rfl, H⟩ := H
      refine ev_p (pc' := 99) (loc' := [.ref a0, .int i1, .null, .null]) (st' := []) 1 am_q71 rfl ?_
      exact ev_r (v := none) am_q71 rfl rfl rfl rfl H
  · replace H := H.2 hq
    refine ev_p (pc' := 7) (loc' := [.ref a0, .int i1, .null, .null]) (st' := [.long (Int32.toInt64 i1), .ref a0]) 3 am_q71 rfl ?_
    obtain ⟨g42, H⟩ := H
    refine ev_c (vs := [.ref a0, .long (Int32.toInt64 i1)]) (rest := []) 73 am_q71 rfl rfl rfl rfl rfl rfl rfl rfl rfl rfl rfl rfl (Or.inr (congrArg some g42)) (Cl.mono H (Nat.le_refl _) (fun r41 h40 H => ?_))
    obtain ⟨rfl, H⟩ := H
    refine ev_p (pc' := 99) (loc' := [.ref a0, .int i1, .null, .null]) (st' := []) 1 am_q71 rfl ?_
    exact ev_r (v := none) am_q71 rfl rfl rfl rfl H
/-! 72: X8_joined -/
theorem am_q72 : (am_mt 72).2.2.2.2.2 = am_m72.2.2.2.2.2 := rfl
set_option maxRecDepth 20000 in
set_option maxHeartbeats 2000000 in
theorem wp72 {d : Nat} (i0 : Int32) (l1 : Int64) (l3 : Int64) {h : AH} {Q : Option Value → AH → Prop} (H : (i0 = (-27 : Int32) → Q (some (.long (l1 - l3))) h) ∧ (i0 = (-26 : Int32) → Q (some (.long (l1 + l3))) h) ∧ (i0 = (-25 : Int32) → ((¬ (lg_cmp l1 l3) = (0 : Int32)) → Q (some (.long (0 : Int64))) h) ∧ (¬ (¬ (lg_cmp l1 l3) = (0 : Int32)) → Q (some (.long (1 : Int64))) h)) ∧ (i0 = (-24 : Int32) → ((0 : Int32) ≤ (lg_cmp l1 l3) → Q (some (.long (0 : Int64))) h) ∧ (¬ (0 : Int32) ≤ (lg_cmp l1 l3) → Q (some (.long (1 : Int64))) h)) ∧ (i0 = (-23 : Int32) → Q (some (.long (l1 * l3))) h) ∧ (i0 = (-22 : Int32) → ((lg_cmp l1 (0 : Int64)) = (0 : Int32) → Q (some (.long (0 : Int64))) h) ∧ (¬ (lg_cmp l1 (0 : Int64)) = (0 : Int32) → ((lg_cmp l3 (0 : Int64)) = (0 : Int32) → Q (some (.long (0 : Int64))) h) ∧ (¬ (lg_cmp l3 (0 : Int64)) = (0 : Int32) → Q (some (.long (1 : Int64))) h))) ∧ (i0 = (-21 : Int32) → ((¬ (lg_cmp l1 (0 : Int64)) = (0 : Int32)) → Q (some (.long (1 : Int64))) h) ∧ (¬ (¬ (lg_cmp l1 (0 : Int64)) = (0 : Int32)) → ((lg_cmp l3 (0 : Int64)) = (0 : Int32) → Q (some (.long (0 : Int64))) h) ∧ (¬ (lg_cmp l3 (0 : Int64)) = (0 : Int32) → Q (some (.long (1 : Int64))) h))) ∧ (¬ i0 = (-27 : Int32) ∧ ¬ i0 = (-26 : Int32) ∧ ¬ i0 = (-25 : Int32) ∧ ¬ i0 = (-24 : Int32) ∧ ¬ i0 = (-23 : Int32) ∧ ¬ i0 = (-22 : Int32) ∧ ¬ i0 = (-21 : Int32) → Q (some (.long (l1 * l3))) h)) : Cl d 72 [.int i0, .long l1, .long l3] h Q := by
  show Ev d 72 0 [.int i0, .long l1, .null, .long l3, .null] [] h Q
  refine ev_p (pc' := 1) (loc' := [.int i0, .long l1, .null, .long l3, .null]) (st' := [.int i0]) 1 am_q72 rfl ?_
  by_cases k1 : i0 = (-27 : Int32)
  · replace H := H.1 k1
    refine ev_s (pc' := 108) (loc' := [.int i0, .long l1, .null, .long l3, .null]) (st' := []) (h1 := h) am_q72 rfl rfl rfl (by rw [k1]; rfl) ?_
    refine ev_p (pc' := 111) (loc' := [.int i0, .long l1, .null, .long l3, .null]) (st' := [.long (l1 - l3)]) 3 am_q72 rfl ?_
    exact ev_r (v := some (.long (l1 - l3))) am_q72 rfl rfl rfl rfl H
  replace H := H.2
  by_cases k2 : i0 = (-26 : Int32)
  · replace H := H.1 k2
    refine ev_s (pc' := 104) (loc' := [.int i0, .long l1, .null, .long l3, .null]) (st' := []) (h1 := h) am_q72 rfl rfl rfl (by rw [k2]; rfl) ?_
    refine ev_p (pc' := 107) (loc' := [.int i0, .long l1, .null, .long l3, .null]) (st' := [.long (l1 + l3)]) 3 am_q72 rfl ?_
    exact ev_r (v := some (.long (l1 + l3))) am_q72 rfl rfl rfl rfl H
  replace H := H.2
  by_cases k3 : i0 = (-25 : Int32)
  · replace H := H.1 k3
    refine ev_s (pc' := 92) (loc' := [.int i0, .long l1, .null, .long l3, .null]) (st' := []) (h1 := h) am_q72 rfl rfl rfl (by rw [k3]; rfl) ?_
    refine ev_p (pc' := 95) (loc' := [.int i0, .long l1, .null, .long l3, .null]) (st' := [.int (lg_cmp l1 l3)]) 3 am_q72 rfl ?_
    refine ev_jz (t := 102) am_q72 rfl rfl (fun hq => ?_) (fun hq => ?_)
    · replace H := H.1 hq
      refine ev_p (pc' := 103) (loc' := [.int i0, .long l1, .null, .long l3, .null]) (st' := [.long (0 : Int64)]) 1 am_q72 rfl ?_
      exact ev_r (v := some (.long (0 : Int64))) am_q72 rfl rfl rfl rfl H
    · replace H := H.2 hq
      refine ev_p (pc' := 103) (loc' := [.int i0, .long l1, .null, .long l3, .null]) (st' := [.long (1 : Int64)]) 2 am_q72 rfl ?_
      exact ev_r (v := some (.long (1 : Int64))) am_q72 rfl rfl rfl rfl H
  replace H := H.2
  by_cases k4 : i0 = (-24 : Int32)
  · replace H := H.1 k4
    refine ev_s (pc' := 80) (loc' := [.int i0, .long l1, .null, .long l3, .null]) (st' := []) (h1 := h) am_q72 rfl rfl rfl (by rw [k4]; rfl) ?_
    refine ev_p (pc' := 83) (loc' := [.int i0, .long l1, .null, .long l3, .null]) (st' := [.int (lg_cmp l1 l3)]) 3 am_q72 rfl ?_
    refine ev_jz (t := 90) am_q72 rfl rfl (fun hq => ?_) (fun hq => ?_)
    · replace H := H.1 hq
      refine ev_p (pc' := 91) (loc' := [.int i0, .long l1, .null, .long l3, .null]) (st' := [.long (0 : Int64)]) 1 am_q72 rfl ?_
      exact ev_r (v := some (.long (0 : Int64))) am_q72 rfl rfl rfl rfl H
    · replace H := H.2 hq
      refine ev_p (pc' := 91) (loc' := [.int i0, .long l1, .null, .long l3, .null]) (st' := [.long (1 : Int64)]) 2 am_q72 rfl ?_
      exact ev_r (v := some (.long (1 : Int64))) am_q72 rfl rfl rfl rfl H
  replace H := H.2
  by_cases k5 : i0 = (-23 : Int32)
  · replace H := H.1 k5
    refine ev_s (pc' := 112) (loc' := [.int i0, .long l1, .null, .long l3, .null]) (st' := []) (h1 := h) am_q72 rfl rfl rfl (by rw [k5]; rfl) ?_
    refine ev_p (pc' := 115) (loc' := [.int i0, .long l1, .null, .long l3, .null]) (st' := [.long (l1 * l3)]) 3 am_q72 rfl ?_
    exact ev_r (v := some (.long (l1 * l3))) am_q72 rfl rfl rfl rfl H
  replace H := H.2
  by_cases k6 : i0 = (-22 : Int32)
  · replace H := H.1 k6
    refine ev_s (pc' := 62) (loc' := [.int i0, .long l1, .null, .long l3, .null]) (st' := []) (h1 := h) am_q72 rfl rfl rfl (by rw [k6]; rfl) ?_
    refine ev_p (pc' := 65) (loc' := [.int i0, .long l1, .null, .long l3, .null]) (st' := [.int (lg_cmp l1 (0 : Int64))]) 3 am_q72 rfl ?_
    refine ev_jz (t := 78) am_q72 rfl rfl (fun hq => ?_) (fun hq => ?_)
    · replace H := H.1 hq
      refine ev_p (pc' := 79) (loc' := [.null, .null, .null, .null, .null]) (st' := [.long (0 : Int64)]) 1 am_q72 rfl ?_
      exact ev_r (v := some (.long (0 : Int64))) am_q72 rfl rfl rfl rfl H
    · replace H := H.2 hq
      refine ev_p (pc' := 71) (loc' := [.int i0, .long l1, .null, .long l3, .null]) (st' := [.int (lg_cmp l3 (0 : Int64))]) 3 am_q72 rfl ?_
      refine ev_jz (t := 78) am_q72 rfl rfl (fun hq => ?_) (fun hq => ?_)
      · replace H := H.1 hq
        refine ev_p (pc' := 79) (loc' := [.null, .null, .null, .null, .null]) (st' := [.long (0 : Int64)]) 1 am_q72 rfl ?_
        exact ev_r (v := some (.long (0 : Int64))) am_q72 rfl rfl rfl rfl H
      · replace H := H.2 hq
        refine ev_p (pc' := 79) (loc' := [.int i0, .long l1, .null, .long l3, .null]) (st' := [.long (1 : Int64)]) 2 am_q72 rfl ?_
        exact ev_r (v := some (.long (1 : Int64))) am_q72 rfl rfl rfl rfl H
  replace H := H.2
  by_cases k7 : i0 = (-21 : Int32)
  · replace H := H.1 k7
    refine ev_s (pc' := 44) (loc' := [.int i0, .long l1, .null, .long l3, .null]) (st' := []) (h1 := h) am_q72 rfl rfl rfl (by rw [k7]; rfl) ?_
    refine ev_p (pc' := 47) (loc' := [.int i0, .long l1, .null, .long l3, .null]) (st' := [.int (lg_cmp l1 (0 : Int64))]) 3 am_q72 rfl ?_
    refine ev_jz (t := 56) am_q72 rfl rfl (fun hq => ?_) (fun hq => ?_)
    · replace H := H.1 hq
      refine ev_p (pc' := 61) (loc' := [.null, .null, .null, .null, .null]) (st' := [.long (1 : Int64)]) 2 am_q72 rfl ?_
      exact ev_r (v := some (.long (1 : Int64))) am_q72 rfl rfl rfl rfl H
    · replace H := H.2 hq
      refine ev_p (pc' := 53) (loc' := [.int i0, .long l1, .null, .long l3, .null]) (st' := [.int (lg_cmp l3 (0 : Int64))]) 3 am_q72 rfl ?_
      refine ev_jz (t := 60) am_q72 rfl rfl (fun hq => ?_) (fun hq => ?_)
      · replace H := H.1 hq
        refine ev_p (pc' := 61) (loc' := [.int i0, .long l1, .null, .long l3, .null]) (st' := [.long (0 : Int64)]) 1 am_q72 rfl ?_
        exact ev_r (v := some (.long (0 : Int64))) am_q72 rfl rfl rfl rfl H
      · replace H := H.2 hq
        refine ev_p (pc' := 61) (loc' := [.null, .null, .null, .null, .null]) (st' := [.long (1 : Int64)]) 2 am_q72 rfl ?_
        exact ev_r (v := some (.long (1 : Int64))) am_q72 rfl rfl rfl rfl H
  replace H := H.2
  replace H := H ⟨k1, k2, k3, k4, k5, k6, k7⟩
  refine ev_s (pc' := 112) (loc' := [.int i0, .long l1, .null, .long l3, .null]) (st' := []) (h1 := h) am_q72 rfl rfl rfl (am_tso (x := (i0).toInt) (by have z0 : (i0).toInt ≠ -27 := am_tn k1 (by decide); have z1 : (i0).toInt ≠ -26 := am_tn k2 (by decide); have z2 : (i0).toInt ≠ -25 := am_tn k3 (by decide); have z3 : (i0).toInt ≠ -24 := am_tn k4 (by decide); have z4 : (i0).toInt ≠ -23 := am_tn k5 (by decide); have z5 : (i0).toInt ≠ -22 := am_tn k6 (by decide); have z6 : (i0).toInt ≠ -21 := am_tn k7 (by decide); omega)) ?_
  refine ev_p (pc' := 115) (loc' := [.int i0, .long l1, .null, .long l3, .null]) (st' := [.long (l1 * l3)]) 3 am_q72 rfl ?_
  exact ev_r (v := some (.long (l1 * l3))) am_q72 rfl rfl rfl rfl H
/-! 73: X8_push -/
theorem am_q73 : (am_mt 73).2.2.2.2.2 = am_m73.2.2.2.2.2 := rfl
set_option maxRecDepth 20000 in
set_option maxHeartbeats 2000000 in
theorem wp73 {d : Nat} (a0 : Nat) (l1 : Int64) {h : AH} {Q : Option Value → AH → Prop} (H : am_kd h a0 = 8 ∧ ((64 : Int32) ≤ (am_gi h a0 2) → Q none h) ∧ (¬ (64 : Int32) ≤ (am_gi h a0 2) → am_kd h a0 = 8 ∧ ∃ b3, am_gr h a0 1 = some b3 ∧ am_kd h a0 = 8 ∧ am_kd h b3 = 101 ∧ am_in (am_gi h a0 2) (am_ln h b3) ∧ ∀ h8, h8 = am_sl h b3 (Int32.toNatClampNeg (am_gi h a0 2)) l1 → am_kd h8 a0 = 8 ∧ am_kd h8 a0 = 8 ∧ ∀ h11, h11 = am_si h8 a0 2 ((am_gi h8 a0 2) + (1 : Int32)) → Q none h11)) : Cl d 73 [.ref a0, .long l1] h Q := by
  show Ev d 73 0 [.ref a0, .long l1, .null] [] h Q
  refine ev_p (pc' := 1) (loc' := [.ref a0, .long l1, .null]) (st' := [.ref a0]) 1 am_q73 rfl ?_
  obtain ⟨g1, H⟩ := H
  refine ev_s (pc' := 4) (loc' := [.ref a0, .long l1, .null]) (st' := [.int (am_gi h a0 2)]) (h1 := h) am_q73 rfl rfl rfl (if_pos (e := none) g1) ?_
  refine ev_p (pc' := 6) (loc' := [.ref a0, .long l1, .null]) (st' := [.int (64 : Int32), .int (am_gi h a0 2)]) 1 am_q73 rfl ?_
  refine ev_jc (t := 29) am_q73 rfl rfl (fun hq => ?_) (fun hq => ?_)
  · replace H := H.1 hq
    exact ev_r (v := none) am_q73 rfl rfl rfl rfl H
  · replace H := H.2 hq
    refine ev_p (pc' := 10) (loc' := [.ref a0, .long l1, .null]) (st' := [.ref a0]) 1 am_q73 rfl ?_
    obtain ⟨g2, b3, e4, H⟩ := H
    refine ev_s (pc' := 13) (loc' := [.ref a0, .long l1, .null]) (st' := [.ref b3]) (h1 := h) am_q73 rfl rfl rfl (am_gf2 g2 e4) ?_
    refine ev_p (pc' := 14) (loc' := [.ref a0, .long l1, .null]) (st' := [.ref a0, .ref b3]) 1 am_q73 rfl ?_
    obtain ⟨g5, H⟩ := H
    refine ev_s (pc' := 17) (loc' := [.ref a0, .long l1, .null]) (st' := [.int (am_gi h a0 2), .ref b3]) (h1 := h) am_q73 rfl rfl rfl (if_pos (e := none) g5) ?_
    refine ev_p (pc' := 18) (loc' := [.ref a0, .long l1, .null]) (st' := [.long l1, .int (am_gi h a0 2), .ref b3]) 1 am_q73 rfl ?_
    obtain ⟨g6, g7, H⟩ := H
    refine ev_s (pc' := 19) (loc' := [.ref a0, .long l1, .null]) (st' := []) (h1 := am_sl h b3 (Int32.toNatClampNeg (am_gi h a0 2)) l1) am_q73 rfl rfl rfl (am_xx g6 g7) ?_
    replace H := H _ rfl
    generalize am_sl h b3 (Int32.toNatClampNeg (am_gi h a0 2)) l1 = h8 at H ⊢
    refine ev_p (pc' := 21) (loc' := [.ref a0, .long l1, .null]) (st' := [.ref a0, .ref a0]) 2 am_q73 rfl ?_
    obtain ⟨g9, H⟩ := H
    refine ev_s (pc' := 24) (loc' := [.ref a0, .long l1, .null]) (st' := [.int (am_gi h8 a0 2), .ref a0]) (h1 := h8) am_q73 rfl rfl rfl (if_pos (e := none) g9) ?_
    refine ev_p (pc' := 26) (loc' := [.ref a0, .long l1, .null]) (st' := [.int ((am_gi h8 a0 2) + (1 : Int32)), .ref a0]) 2 am_q73 rfl ?_
    obtain ⟨g10, H⟩ := H
    refine ev_s (pc' := 29) (loc' := [.ref a0, .long l1, .null]) (st' := []) (h1 := am_si h8 a0 2 ((am_gi h8 a0 2) + (1 : Int32))) am_q73 rfl rfl rfl (if_pos (e := none) g10) ?_
    replace H := H _ rfl
    generalize am_si h8 a0 2 ((am_gi h8 a0 2) + (1 : Int32)) = h11 at H ⊢
    exact ev_r (v := none) am_q73 rfl rfl rfl rfl H
/-! 74: X8_pop -/
theorem am_q74 : (am_mt 74).2.2.2.2.2 = am_m74.2.2.2.2.2 := rfl
set_option maxRecDepth 20000 in
set_option maxHeartbeats 2000000 in
theorem wp74 {d : Nat} (a0 : Nat) {h : AH} {Q : Option Value → AH → Prop} (H : am_kd h a0 = 8 ∧ ((1 : Int32) ≤ (am_gi h a0 2) → am_kd h a0 = 8 ∧ am_kd h a0 = 8 ∧ ∀ h4, h4 = am_si h a0 2 ((am_gi h a0 2) - (1 : Int32)) → am_kd h4 a0 = 8 ∧ ∃ b6, am_gr h4 a0 1 = some b6 ∧ am_kd h4 a0 = 8 ∧ am_kd h4 b6 = 101 ∧ am_in (am_gi h4 a0 2) (am_ln h4 b6) ∧ Q (some (.long (am_gl h4 b6 (Int32.toNatClampNeg (am_gi h4 a0 2))))) h4) ∧ (¬ (1 : Int32) ≤ (am_gi h a0 2) → Q (some (.long (0 : Int64))) h)) : Cl d 74 [.ref a0] h Q := by
  show Ev d 74 0 [.ref a0] [] h Q
  refine ev_p (pc' := 1) (loc' := [.ref a0]) (st' := [.ref a0]) 1 am_q74 rfl ?_
  obtain ⟨g1, H⟩ := H
  refine ev_s (pc' := 4) (loc' := [.ref a0]) (st' := [.int (am_gi h a0 2)]) (h1 := h) am_q74 rfl rfl rfl (if_pos (e := none) g1) ?_
  refine ev_p (pc' := 5) (loc' := [.ref a0]) (st' := [.int (1 : Int32), .int (am_gi h a0 2)]) 1 am_q74 rfl ?_
  refine ev_jc (t := 10) am_q74 rfl rfl (fun hq => ?_) (fun hq => ?_)
  · replace H := H.1 hq
    refine ev_p (pc' := 12) (loc' := [.ref a0]) (st' := [.ref a0, .ref a0]) 2 am_q74 rfl ?_
    obtain ⟨g2, H⟩ := H
    refine ev_s (pc' := 15) (loc' := [.ref a0]) (st' := [.int (am_gi h a0 2), .ref a0]) (h1 := h) am_q74 rfl rfl rfl (if_pos (e := none) g2) ?_
    refine ev_p (pc' := 17) (loc' := [.ref a0]) (st' := [.int ((am_gi h a0 2) - (1 : Int32)), .ref a0]) 2 am_q74 rfl ?_
    obtain ⟨g3, H⟩ := H
    refine ev_s (pc' := 20) (loc' := [.ref a0]) (st' := []) (h1 := am_si h a0 2 ((am_gi h a0 2) - (1 : Int32))) am_q74 rfl rfl rfl (if_pos (e := none) g3) ?_
    replace H := H _ rfl
    generalize am_si h a0 2 ((am_gi h a0 2) - (1 : Int32)) = h4 at H ⊢
    refine ev_p (pc' := 21) (loc' := [.ref a0]) (st' := [.ref a0]) 1 am_q74 rfl ?_
    obtain ⟨g5, b6, e7, H⟩ := H
    refine ev_s (pc' := 24) (loc' := [.ref a0]) (st' := [.ref b6]) (h1 := h4) am_q74 rfl rfl rfl (am_gf2 g5 e7) ?_
    refine ev_p (pc' := 25) (loc' := [.ref a0]) (st' := [.ref a0, .ref b6]) 1 am_q74 rfl ?_
    obtain ⟨g8, H⟩ := H
    refine ev_s (pc' := 28) (loc' := [.ref a0]) (st' := [.int (am_gi h4 a0 2), .ref b6]) (h1 := h4) am_q74 rfl rfl rfl (if_pos (e := none) g8) ?_
    obtain ⟨g9, g10, H⟩ := H
    refine ev_s (pc' := 29) (loc' := [.ref a0]) (st' := [.long (am_gl h4 b6 (Int32.toNatClampNeg (am_gi h4 a0 2)))]) (h1 := h4) am_q74 rfl rfl rfl (am_xx g9 g10) ?_
    exact ev_r (v := some (.long (am_gl h4 b6 (Int32.toNatClampNeg (am_gi h4 a0 2))))) am_q74 rfl rfl rfl rfl H
  · replace H := H.2 hq
    refine ev_p (pc' := 9) (loc' := [.ref a0]) (st' := [.long (0 : Int64)]) 1 am_q74 rfl ?_
    exact ev_r (v := some (.long (0 : Int64))) am_q74 rfl rfl rfl rfl H
/-! 75: X9_init -/
theorem am_q75 : (am_mt 75).2.2.2.2.2 = am_m75.2.2.2.2.2 := rfl
set_option maxRecDepth 20000 in
set_option maxHeartbeats 2000000 in
theorem wp75 {d : Nat} (a0 : Nat) {h : AH} {Q : Option Value → AH → Prop} (H : (¬ (0 : Int32) < (0 : Int32) ∧ (Int32.toNatClampNeg (0 : Int32)) ≤ 100000) ∧ ∀ b3, b3 = am_sz h → ∀ h2, h2 = am_nw h 102 (Int32.toNatClampNeg (0 : Int32)) (Int32.toNatClampNeg (0 : Int32)) → am_kd h2 a0 = 9 ∧ ∀ h6, h6 = am_sr h2 a0 0 (some b3) → (¬ (0 : Int32) < (0 : Int32) ∧ (Int32.toNatClampNeg (0 : Int32)) ≤ 100000) ∧ ∀ b8, b8 = am_sz h6 → ∀ h7, h7 = am_nw h6 100 (Int32.toNatClampNeg (0 : Int32)) (Int32.toNatClampNeg (0 : Int32)) → am_kd h7 a0 = 9 ∧ ∀ h11, h11 = am_sr h7 a0 1 (some b8) → (¬ (5 : Int32) < (0 : Int32) ∧ (Int32.toNatClampNeg (5 : Int32)) ≤ 100000) ∧ ∀ b13, b13 = am_sz h11 → ∀ h12, h12 = am_nw h11 100 (Int32.toNatClampNeg (5 : Int32)) (Int32.toNatClampNeg (5 : Int32)) → am_kd h12 a0 = 9 ∧ ∀ h16, h16 = am_sr h12 a0 2 (some b13) → am_kd h16 a0 = 9 ∧ ∀ h18, h18 = am_si h16 a0 6 (-1 : Int32) → am_kd h18 a0 = 9 ∧ ∀ h20, h20 = am_si h18 a0 7 (-1 : Int32) → am_kd h20 a0 = 9 ∧ ∀ h22, h22 = am_si h20 a0 8 (-1 : Int32) → Q none h22) : Cl d 75 [.ref a0] h Q := by
  show Ev d 75 0 [.ref a0] [] h Q
  refine ev_p (pc' := 1) (loc' := [.ref a0]) (st' := [.ref a0]) 1 am_q75 rfl ?_
  refine ev_b (st' := []) (h1 := h) am_q75 rfl rfl rfl rfl (rfl) rfl ?_
  refine ev_p (pc' := 6) (loc' := [.ref a0]) (st' := [.int (0 : Int32), .ref a0]) 2 am_q75 rfl ?_
  obtain ⟨g4, H⟩ := H
  refine ev_s (pc' := 8) (loc' := [.ref a0]) (st' := [.ref (am_sz h), .ref a0]) (h1 := am_nw h 102 (Int32.toNatClampNeg (0 : Int32)) (Int32.toNatClampNeg (0 : Int32))) am_q75 rfl rfl rfl (if_pos (e := none) g4) ?_
  replace H := H _ rfl _ rfl
  generalize am_nw h 102 (Int32.toNatClampNeg (0 : Int32)) (Int32.toNatClampNeg (0 : Int32)) = h2 at H ⊢
  generalize am_sz h = b3 at H ⊢
  obtain ⟨g5, H⟩ := H
  refine ev_s (pc' := 11) (loc' := [.ref a0]) (st' := []) (h1 := am_sr h2 a0 0 (some b3)) am_q75 rfl rfl rfl (if_pos (e := none) g5) ?_
  replace H := H _ rfl
  generalize am_sr h2 a0 0 (some b3) = h6 at H ⊢
  refine ev_p (pc' := 13) (loc' := [.ref a0]) (st' := [.int (0 : Int32), .ref a0]) 2 am_q75 rfl ?_
  obtain ⟨g9, H⟩ := H
  refine ev_s (pc' := 15) (loc' := [.ref a0]) (st' := [.ref (am_sz h6), .ref a0]) (h1 := am_nw h6 100 (Int32.toNatClampNeg (0 : Int32)) (Int32.toNatClampNeg (0 : Int32))) am_q75 rfl rfl rfl (if_pos (e := none) g9) ?_
  replace H := H _ rfl _ rfl
  generalize am_nw h6 100 (Int32.toNatClampNeg (0 : Int32)) (Int32.toNatClampNeg (0 : Int32)) = h7 at H ⊢
  generalize am_sz h6 = b8 at H ⊢
  obtain ⟨g10, H⟩ := H
  refine ev_s (pc' := 18) (loc' := [.ref a0]) (st' := []) (h1 := am_sr h7 a0 1 (some b8)) am_q75 rfl rfl rfl (if_pos (e := none) g10) ?_
  replace H := H _ rfl
  generalize am_sr h7 a0 1 (some b8) = h11 at H ⊢
  refine ev_p (pc' := 20) (loc' := [.ref a0]) (st' := [.int (5 : Int32), .ref a0]) 2 am_q75 rfl ?_
  obtain ⟨g14, H⟩ := H
  refine ev_s (pc' := 22) (loc' := [.ref a0]) (st' := [.ref (am_sz h11), .ref a0]) (h1 := am_nw h11 100 (Int32.toNatClampNeg (5 : Int32)) (Int32.toNatClampNeg (5 : Int32))) am_q75 rfl rfl rfl (if_pos (e := none) g14) ?_
  replace H := H _ rfl _ rfl
  generalize am_nw h11 100 (Int32.toNatClampNeg (5 : Int32)) (Int32.toNatClampNeg (5 : Int32)) = h12 at H ⊢
  generalize am_sz h11 = b13 at H ⊢
  obtain ⟨g15, H⟩ := H
  refine ev_s (pc' := 25) (loc' := [.ref a0]) (st' := []) (h1 := am_sr h12 a0 2 (some b13)) am_q75 rfl rfl rfl (if_pos (e := none) g15) ?_
  replace H := H _ rfl
  generalize am_sr h12 a0 2 (some b13) = h16 at H ⊢
  refine ev_p (pc' := 27) (loc' := [.ref a0]) (st' := [.int (-1 : Int32), .ref a0]) 2 am_q75 rfl ?_
  obtain ⟨g17, H⟩ := H
  refine ev_s (pc' := 30) (loc' := [.ref a0]) (st' := []) (h1 := am_si h16 a0 6 (-1 : Int32)) am_q75 rfl rfl rfl (if_pos (e := none) g17) ?_
  replace H := H _ rfl
  generalize am_si h16 a0 6 (-1 : Int32) = h18 at H ⊢
  refine ev_p (pc' := 32) (loc' := [.ref a0]) (st' := [.int (-1 : Int32), .ref a0]) 2 am_q75 rfl ?_
  obtain ⟨g19, H⟩ := H
  refine ev_s (pc' := 35) (loc' := [.ref a0]) (st' := []) (h1 := am_si h18 a0 7 (-1 : Int32)) am_q75 rfl rfl rfl (if_pos (e := none) g19) ?_
  replace H := H _ rfl
  generalize am_si h18 a0 7 (-1 : Int32) = h20 at H ⊢
  refine ev_p (pc' := 37) (loc' := [.ref a0]) (st' := [.int (-1 : Int32), .ref a0]) 2 am_q75 rfl ?_
  obtain ⟨g21, H⟩ := H
  refine ev_s (pc' := 40) (loc' := [.ref a0]) (st' := []) (h1 := am_si h20 a0 8 (-1 : Int32)) am_q75 rfl rfl rfl (if_pos (e := none) g21) ?_
  replace H := H _ rfl
  generalize am_si h20 a0 8 (-1 : Int32) = h22 at H ⊢
  exact ev_r (v := none) am_q75 rfl rfl rfl rfl H
/-! 76: X9_copyFrom -/
theorem am_q76 : (am_mt 76).2.2.2.2.2 = am_m76.2.2.2.2.2 := rfl
set_option maxRecDepth 20000 in
set_option maxHeartbeats 2000000 in
theorem wp76 {d : Nat} (a0 : Nat) (a1 : Nat) {h : AH} {Q : Option Value → AH → Prop} (H : am_kd h a1 = 5 ∧ ∃ b2, am_gr h a1 0 = some b2 ∧ am_kd h a1 = 5 ∧ (am_kd h b2 = 102 ∧ ¬ (am_gi h a1 1) < (0 : Int32) ∧ (Int32.toNatClampNeg (am_gi h a1 1)) ≤ am_ln h b2 ∧ am_ln h b2 ≤ 100000 ∧ (∀ j, j < am_ln h b2 → (-128 : Int32) ≤ am_gi h b2 j ∧ am_gi h b2 j ≤ 127)) ∧ ∀ b7, b7 = am_sz h → ∀ h6, h6 = am_sw (am_nw h 102 (Int32.toNatClampNeg (am_gi h a1 1)) (Int32.toNatClampNeg (am_gi h a1 1))) (am_sz h) (am_gi h b2) → am_kd h6 a0 = 9 ∧ ∀ h9, h9 = am_sr h6 a0 0 (some b7) → am_kd h9 a1 = 5 ∧ ∃ b11, am_gr h9 a1 2 = some b11 ∧ am_kd h9 a1 = 5 ∧ ((am_kd h9 b11 = 100 ∧ 6 ≤ b11) ∧ ¬ (am_gi h9 a1 3) < (0 : Int32) ∧ (Int32.toNatClampNeg (am_gi h9 a1 3)) ≤ am_ln h9 b11 ∧ am_ln h9 b11 ≤ 100000) ∧ ∀ b16, b16 = am_sz h9 → ∀ h15, h15 = am_sw (am_nw h9 100 (Int32.toNatClampNeg (am_gi h9 a1 3)) (Int32.toNatClampNeg (am_gi h9 a1 3))) (am_sz h9) (am_gi h9 b11) → am_kd h15 a0 = 9 ∧ ∀ h18, h18 = am_sr h15 a0 1 (some b16) → am_kd h18 a1 = 5 ∧ ∃ b20, am_gr h18 a1 4 = some b20 ∧ am_kd h18 a0 = 9 ∧ ∃ b23, am_gr h18 a0 2 = some b23 ∧ ((am_kd h18 b20 = 100 ∧ 6 ≤ b20) ∧ (am_kd h18 b23 = 100 ∧ 6 ≤ b23) ∧ b20 ≠ b23 ∧ (0 : Int32) = (0 : Int32) ∧ (0 : Int32) = (0 : Int32) ∧ ¬ (5 : Int32) < (0 : Int32) ∧ (Int32.toNatClampNeg (5 : Int32)) ≤ am_ln h18 b20 ∧ (Int32.toNatClampNeg (5 : Int32)) ≤ am_ln h18 b23) ∧ ∀ h26, h26 = am_sw h18 b23 (fun j => if j < (Int32.toNatClampNeg (5 : Int32)) then am_gi h18 b20 j else am_gi h18 b23 j) → Q none h26) : Cl d 76 [.ref a0, .ref a1] h Q := by
  show Ev d 76 0 [.ref a0, .ref a1] [] h Q
  refine ev_p (pc' := 2) (loc' := [.ref a0, .ref a1]) (st' := [.ref a1, .ref a0]) 2 am_q76 rfl ?_
  obtain ⟨g1, b2, e3, H⟩ := H
  refine ev_s (pc' := 5) (loc' := [.ref a0, .ref a1]) (st' := [.ref b2, .ref a0]) (h1 := h) am_q76 rfl rfl rfl (am_gf2 g1 e3) ?_
  refine ev_p (pc' := 6) (loc' := [.ref a0, .ref a1]) (st' := [.ref a1, .ref b2, .ref a0]) 1 am_q76 rfl ?_
  obtain ⟨g4, H⟩ := H
  refine ev_s (pc' := 9) (loc' := [.ref a0, .ref a1]) (st' := [.int (am_gi h a1 1), .ref b2, .ref a0]) (h1 := h) am_q76 rfl rfl rfl (if_pos (e := none) g4) ?_
  obtain ⟨g5, H⟩ := H
  refine ev_b (st' := [.ref (am_sz h), .ref a0]) (h1 := am_sw (am_nw h 102 (Int32.toNatClampNeg (am_gi h a1 1)) (Int32.toNatClampNeg (am_gi h a1 1))) (am_sz h) (am_gi h b2)) am_q76 rfl rfl rfl rfl (if_pos (e := none) g5) rfl ?_
  replace H := H _ rfl _ rfl
  generalize am_sw (am_nw h 102 (Int32.toNatClampNeg (am_gi h a1 1)) (Int32.toNatClampNeg (am_gi h a1 1))) (am_sz h) (am_gi h b2) = h6 at H ⊢
  generalize am_sz h = b7 at H ⊢
  obtain ⟨g8, H⟩ := H
  refine ev_s (pc' := 15) (loc' := [.ref a0, .ref a1]) (st' := []) (h1 := am_sr h6 a0 0 (some b7)) am_q76 rfl rfl rfl (if_pos (e := none) g8) ?_
  replace H := H _ rfl
  generalize am_sr h6 a0 0 (some b7) = h9 at H ⊢
  refine ev_p (pc' := 17) (loc' := [.ref a0, .ref a1]) (st' := [.ref a1, .ref a0]) 2 am_q76 rfl ?_
  obtain ⟨g10, b11, e12, H⟩ := H
  refine ev_s (pc' := 20) (loc' := [.ref a0, .ref a1]) (st' := [.ref b11, .ref a0]) (h1 := h9) am_q76 rfl rfl rfl (am_gf2 g10 e12) ?_
  refine ev_p (pc' := 21) (loc' := [.ref a0, .ref a1]) (st' := [.ref a1, .ref b11, .ref a0]) 1 am_q76 rfl ?_
  obtain ⟨g13, H⟩ := H
  refine ev_s (pc' := 24) (loc' := [.ref a0, .ref a1]) (st' := [.int (am_gi h9 a1 3), .ref b11, .ref a0]) (h1 := h9) am_q76 rfl rfl rfl (if_pos (e := none) g13) ?_
  obtain ⟨g14, H⟩ := H
  refine ev_b (st' := [.ref (am_sz h9), .ref a0]) (h1 := am_sw (am_nw h9 100 (Int32.toNatClampNeg (am_gi h9 a1 3)) (Int32.toNatClampNeg (am_gi h9 a1 3))) (am_sz h9) (am_gi h9 b11)) am_q76 rfl rfl rfl rfl (if_pos (e := none) g14) rfl ?_
  replace H := H _ rfl _ rfl
  generalize am_sw (am_nw h9 100 (Int32.toNatClampNeg (am_gi h9 a1 3)) (Int32.toNatClampNeg (am_gi h9 a1 3))) (am_sz h9) (am_gi h9 b11) = h15 at H ⊢
  generalize am_sz h9 = b16 at H ⊢
  obtain ⟨g17, H⟩ := H
  refine ev_s (pc' := 30) (loc' := [.ref a0, .ref a1]) (st' := []) (h1 := am_sr h15 a0 1 (some b16)) am_q76 rfl rfl rfl (if_pos (e := none) g17) ?_
  replace H := H _ rfl
  generalize am_sr h15 a0 1 (some b16) = h18 at H ⊢
  refine ev_p (pc' := 31) (loc' := [.ref a0, .ref a1]) (st' := [.ref a1]) 1 am_q76 rfl ?_
  obtain ⟨g19, b20, e21, H⟩ := H
  refine ev_s (pc' := 34) (loc' := [.ref a0, .ref a1]) (st' := [.ref b20]) (h1 := h18) am_q76 rfl rfl rfl (am_gf2 g19 e21) ?_
  refine ev_p (pc' := 36) (loc' := [.ref a0, .ref a1]) (st' := [.ref a0, .int (0 : Int32), .ref b20]) 2 am_q76 rfl ?_
  obtain ⟨g22, b23, e24, H⟩ := H
  refine ev_s (pc' := 39) (loc' := [.ref a0, .ref a1]) (st' := [.ref b23, .int (0 : Int32), .ref b20]) (h1 := h18) am_q76 rfl rfl rfl (am_gf2 g22 e24) ?_
  refine ev_p (pc' := 41) (loc' := [.ref a0, .ref a1]) (st' := [.int (5 : Int32), .int (0 : Int32), .ref b23, .int (0 : Int32), .ref b20]) 2 am_q76 rfl ?_
  obtain ⟨g25, H⟩ := H
  refine ev_b (st' := []) (h1 := am_sw h18 b23 (fun j => if j < (Int32.toNatClampNeg (5 : Int32)) then am_gi h18 b20 j else am_gi h18 b23 j)) am_q76 rfl rfl rfl rfl (if_pos (e := none) g25) rfl ?_
  replace H := H _ rfl
  generalize am_sw h18 b23 (fun j => if j < (Int32.toNatClampNeg (5 : Int32)) then am_gi h18 b20 j else am_gi h18 b23 j) = h26 at H ⊢
  exact ev_r (v := none) am_q76 rfl rfl rfl rfl H
/-! 77: X9_isCarried -/
theorem am_q77 : (am_mt 77).2.2.2.2.2 = am_m77.2.2.2.2.2 := rfl
set_option maxRecDepth 20000 in
set_option maxHeartbeats 2000000 in
theorem wp77 {d : Nat} (a0 : Nat) {h : AH} {Q : Option Value → AH → Prop} (H : am_kd h a0 = 9 ∧ ((am_gi h a0 6) = (-1 : Int32) → Q (some (.int (0 : Int32))) h) ∧ (¬ (am_gi h a0 6) = (-1 : Int32) → Q (some (.int (1 : Int32))) h)) : Cl d 77 [.ref a0] h Q := by
  show Ev d 77 0 [.ref a0] [] h Q
  refine ev_p (pc' := 1) (loc' := [.ref a0]) (st' := [.ref a0]) 1 am_q77 rfl ?_
  obtain ⟨g1, H⟩ := H
  refine ev_s (pc' := 4) (loc' := [.ref a0]) (st' := [.int (am_gi h a0 6)]) (h1 := h) am_q77 rfl rfl rfl (if_pos (e := none) g1) ?_
  refine ev_p (pc' := 5) (loc' := [.ref a0]) (st' := [.int (-1 : Int32), .int (am_gi h a0 6)]) 1 am_q77 rfl ?_
  refine ev_jc (t := 12) am_q77 rfl rfl (fun hq => ?_) (fun hq => ?_)
  · replace H := H.1 hq
    refine ev_p (pc' := 13) (loc' := [.ref a0]) (st' := [.int (0 : Int32)]) 1 am_q77 rfl ?_
    exact ev_r (v := some (.int (0 : Int32))) am_q77 rfl rfl rfl rfl H
  · replace H := H.2 hq
    refine ev_p (pc' := 13) (loc' := [.ref a0]) (st' := [.int (1 : Int32)]) 2 am_q77 rfl ?_
    exact ev_r (v := some (.int (1 : Int32))) am_q77 rfl rfl rfl rfl H
/-! 78: X9_isLaw -/
theorem am_q78 : (am_mt 78).2.2.2.2.2 = am_m78.2.2.2.2.2 := rfl
set_option maxRecDepth 20000 in
set_option maxHeartbeats 2000000 in
theorem wp78 {d : Nat} (a0 : Nat) (i1 : Int32) {h : AH} {Q : Option Value → AH → Prop} (H : am_kd h a0 = 9 ∧ Cl d 77 [.ref a0] h (fun r2 h1 => ∃ x4, r2 = some (.int x4) ∧ (x4 = (0 : Int32) → Q (some (.int (0 : Int32))) h1) ∧ (¬ x4 = (0 : Int32) → am_kd h1 a0 = 9 ∧ ((¬ (am_gi h1 a0 5) = (0 : Int32)) → Q (some (.int (0 : Int32))) h1) ∧ (¬ (¬ (am_gi h1 a0 5) = (0 : Int32)) → am_kd h1 a0 = 9 ∧ (i1 < (am_gi h1 a0 7) → Q (some (.int (0 : Int32))) h1) ∧ (¬ i1 < (am_gi h1 a0 7) → Q (some (.int (1 : Int32))) h1))))) : Cl (d + 1) 78 [.ref a0, .int i1] h Q := by
  show Ev (d + 1) 78 0 [.ref a0, .int i1] [] h Q
  refine ev_p (pc' := 1) (loc' := [.ref a0, .int i1]) (st' := [.ref a0]) 1 am_q78 rfl ?_
  obtain ⟨g3, H⟩ := H
  refine ev_c (vs := [.ref a0]) (rest := []) 77 am_q78 rfl rfl rfl rfl rfl rfl rfl rfl rfl rfl rfl rfl (Or.inr (congrArg some g3)) (Cl.mono H (Nat.le_refl _) (fun r2 h1 H => ?_))
  obtain ⟨x4, rfl, H⟩ := H
  refine ev_jz (t := 26) am_q78 rfl rfl (fun hq => ?_) (fun hq => ?_)
  · replace H := H.1 hq
    refine ev_p (pc' := 27) (loc' := [.null, .null]) (st' := [.int (0 : Int32)]) 1 am_q78 rfl ?_
    exact ev_r (v := some (.int (0 : Int32))) am_q78 rfl rfl rfl rfl H
  · replace H := H.2 hq
    refine ev_p (pc' := 8) (loc' := [.ref a0, .int i1]) (st' := [.ref a0]) 1 am_q78 rfl ?_
    obtain ⟨g5, H⟩ := H
    refine ev_s (pc' := 11) (loc' := [.ref a0, .int i1]) (st' := [.int (am_gi h1 a0 5)]) (h1 := h1) am_q78 rfl rfl rfl (if_pos (e := none) g5) ?_
    refine ev_jz (t := 26) am_q78 rfl rfl (fun hq => ?_) (fun hq => ?_)
    · replace H := H.1 hq
      refine ev_p (pc' := 27) (loc' := [.null, .null]) (st' := [.int (0 : Int32)]) 1 am_q78 rfl ?_
      exact ev_r (v := some (.int (0 : Int32))) am_q78 rfl rfl rfl rfl H
    · replace H := H.2 hq
      refine ev_p (pc' := 15) (loc' := [.ref a0, .int i1]) (st' := [.ref a0]) 1 am_q78 rfl ?_
      obtain ⟨g6, H⟩ := H
      refine ev_s (pc' := 18) (loc' := [.ref a0, .int i1]) (st' := [.int (am_gi h1 a0 7)]) (h1 := h1) am_q78 rfl rfl rfl (if_pos (e := none) g6) ?_
      refine ev_p (pc' := 19) (loc' := [.ref a0, .int i1]) (st' := [.int i1, .int (am_gi h1 a0 7)]) 1 am_q78 rfl ?_
      refine ev_jc (t := 26) am_q78 rfl rfl (fun hq => ?_) (fun hq => ?_)
      · replace H := H.1 hq
        refine ev_p (pc' := 27) (loc' := [.null, .null]) (st' := [.int (0 : Int32)]) 1 am_q78 rfl ?_
        exact ev_r (v := some (.int (0 : Int32))) am_q78 rfl rfl rfl rfl H
      · replace H := H.2 hq
        refine ev_p (pc' := 27) (loc' := [.ref a0, .int i1]) (st' := [.int (1 : Int32)]) 2 am_q78 rfl ?_
        exact ev_r (v := some (.int (1 : Int32))) am_q78 rfl rfl rfl rfl H
/-! 79: X9_hasVoteOf -/
theorem am_q79 : (am_mt 79).2.2.2.2.2 = am_m79.2.2.2.2.2 := rfl
set_option maxRecDepth 20000 in
set_option maxHeartbeats 2000000 in
theorem wp79 {d : Nat} (a0 : Nat) (i1 : Int32) {h : AH} {Q : Option Value → AH → Prop} (H : am_kd h a0 = 9 ∧ am_kd h a0 = 9 ∧ (((((am_gi h a0 3) ||| (am_gi h a0 4)) >>> (i1 &&& 31)) &&& (1 : Int32)) = (0 : Int32) → Q (some (.int (0 : Int32))) h) ∧ (¬ ((((am_gi h a0 3) ||| (am_gi h a0 4)) >>> (i1 &&& 31)) &&& (1 : Int32)) = (0 : Int32) → Q (some (.int (1 : Int32))) h)) : Cl d 79 [.ref a0, .int i1] h Q := by
  show Ev d 79 0 [.ref a0, .int i1] [] h Q
  refine ev_p (pc' := 1) (loc' := [.ref a0, .int i1]) (st' := [.ref a0]) 1 am_q79 rfl ?_
  obtain ⟨g1, H⟩ := H
  refine ev_s (pc' := 4) (loc' := [.ref a0, .int i1]) (st' := [.int (am_gi h a0 3)]) (h1 := h) am_q79 rfl rfl rfl (if_pos (e := none) g1) ?_
  refine ev_p (pc' := 5) (loc' := [.ref a0, .int i1]) (st' := [.ref a0, .int (am_gi h a0 3)]) 1 am_q79 rfl ?_
  obtain ⟨g2, H⟩ := H
  refine ev_s (pc' := 8) (loc' := [.ref a0, .int i1]) (st' := [.int (am_gi h a0 4), .int (am_gi h a0 3)]) (h1 := h) am_q79 rfl rfl rfl (if_pos (e := none) g2) ?_
  refine ev_p (pc' := 13) (loc' := [.ref a0, .int i1]) (st' := [.int ((((am_gi h a0 3) ||| (am_gi h a0 4)) >>> (i1 &&& 31)) &&& (1 : Int32))]) 5 am_q79 rfl ?_
  refine ev_jz (t := 20) am_q79 rfl rfl (fun hq => ?_) (fun hq => ?_)
  · replace H := H.1 hq
    refine ev_p (pc' := 21) (loc' := [.ref a0, .int i1]) (st' := [.int (0 : Int32)]) 1 am_q79 rfl ?_
    exact ev_r (v := some (.int (0 : Int32))) am_q79 rfl rfl rfl rfl H
  · replace H := H.2 hq
    refine ev_p (pc' := 21) (loc' := [.ref a0, .int i1]) (st' := [.int (1 : Int32)]) 2 am_q79 rfl ?_
    exact ev_r (v := some (.int (1 : Int32))) am_q79 rfl rfl rfl rfl H
/-! 80: X9_countVote -/
theorem am_q80 : (am_mt 80).2.2.2.2.2 = am_m80.2.2.2.2.2 := rfl
set_option maxRecDepth 20000 in
set_option maxHeartbeats 2000000 in
theorem wp80 {d : Nat} (a0 : Nat) (i1 : Int32) (i2 : Int32) {h : AH} {Q : Option Value → AH → Prop} (H : (i2 = (0 : Int32) → am_kd h a0 = 9 ∧ am_kd h a0 = 9 ∧ ∀ h3, h3 = am_si h a0 4 ((am_gi h a0 4) ||| ((1 : Int32) <<< (i1 &&& 31))) → Q none h3) ∧ (¬ i2 = (0 : Int32) → am_kd h a0 = 9 ∧ am_kd h a0 = 9 ∧ ∀ h6, h6 = am_si h a0 3 ((am_gi h a0 3) ||| ((1 : Int32) <<< (i1 &&& 31))) → Q none h6)) : Cl d 80 [.ref a0, .int i1, .int i2] h Q := by
  show Ev d 80 0 [.ref a0, .int i1, .int i2] [] h Q
  refine ev_p (pc' := 1) (loc' := [.ref a0, .int i1, .int i2]) (st' := [.int i2]) 1 am_q80 rfl ?_
  refine ev_jz (t := 19) am_q80 rfl rfl (fun hq => ?_) (fun hq => ?_)
  · replace H := H.1 hq
    refine ev_p (pc' := 21) (loc' := [.ref a0, .int i1, .int i2]) (st' := [.ref a0, .ref a0]) 2 am_q80 rfl ?_
    obtain ⟨g1, H⟩ := H
    refine ev_s (pc' := 24) (loc' := [.ref a0, .int i1, .int i2]) (st' := [.int (am_gi h a0 4), .ref a0]) (h1 := h) am_q80 rfl rfl rfl (if_pos (e := none) g1) ?_
    refine ev_p (pc' := 28) (loc' := [.ref a0, .int i1, .int i2]) (st' := [.int ((am_gi h a0 4) ||| ((1 : Int32) <<< (i1 &&& 31))), .ref a0]) 4 am_q80 rfl ?_
    obtain ⟨g2, H⟩ := H
    refine ev_s (pc' := 31) (loc' := [.ref a0, .int i1, .int i2]) (st' := []) (h1 := am_si h a0 4 ((am_gi h a0 4) ||| ((1 : Int32) <<< (i1 &&& 31)))) am_q80 rfl rfl rfl (if_pos (e := none) g2) ?_
    replace H := H _ rfl
    generalize am_si h a0 4 ((am_gi h a0 4) ||| ((1 : Int32) <<< (i1 &&& 31))) = h3 at H ⊢
    exact ev_r (v := none) am_q80 rfl rfl rfl rfl H
  · replace H := H.2 hq
    refine ev_p (pc' := 6) (loc' := [.ref a0, .int i1, .int i2]) (st' := [.ref a0, .ref a0]) 2 am_q80 rfl ?_
    obtain ⟨g4, H⟩ := H
    refine ev_s (pc' := 9) (loc' := [.ref a0, .int i1, .int i2]) (st' := [.int (am_gi h a0 3), .ref a0]) (h1 := h) am_q80 rfl rfl rfl (if_pos (e := none) g4) ?_
    refine ev_p (pc' := 13) (loc' := [.ref a0, .int i1, .int i2]) (st' := [.int ((am_gi h a0 3) ||| ((1 : Int32) <<< (i1 &&& 31))), .ref a0]) 4 am_q80 rfl ?_
    obtain ⟨g5, H⟩ := H
    refine ev_s (pc' := 16) (loc' := [.ref a0, .int i1, .int i2]) (st' := []) (h1 := am_si h a0 3 ((am_gi h a0 3) ||| ((1 : Int32) <<< (i1 &&& 31)))) am_q80 rfl rfl rfl (if_pos (e := none) g5) ?_
    replace H := H _ rfl
    generalize am_si h a0 3 ((am_gi h a0 3) ||| ((1 : Int32) <<< (i1 &&& 31))) = h6 at H ⊢
    refine ev_p (pc' := 31) (loc' := [.ref a0, .int i1, .int i2]) (st' := []) 1 am_q80 rfl ?_
    exact ev_r (v := none) am_q80 rfl rfl rfl rfl H
/-! 81: X9_enact -/
theorem am_q81 : (am_mt 81).2.2.2.2.2 = am_m81.2.2.2.2.2 := rfl
set_option maxRecDepth 20000 in
set_option maxHeartbeats 2000000 in
theorem wp81 {d : Nat} (a0 : Nat) (i1 : Int32) (i2 : Int32) (i3 : Int32) {h : AH} {Q : Option Value → AH → Prop} (H : am_kd h a0 = 9 ∧ ∀ h2, h2 = am_si h a0 6 i1 → am_kd h2 a0 = 9 ∧ ∀ h4, h4 = am_si h2 a0 7 i2 → am_kd h4 a0 = 9 ∧ ∀ h6, h6 = am_si h4 a0 8 i3 → Q none h6) : Cl d 81 [.ref a0, .int i1, .int i2, .int i3] h Q := by
  show Ev d 81 0 [.ref a0, .int i1, .int i2, .int i3] [] h Q
  refine ev_p (pc' := 2) (loc' := [.ref a0, .int i1, .int i2, .int i3]) (st' := [.int i1, .ref a0]) 2 am_q81 rfl ?_
  obtain ⟨g1, H⟩ := H
  refine ev_s (pc' := 5) (loc' := [.ref a0, .int i1, .int i2, .int i3]) (st' := []) (h1 := am_si h a0 6 i1) am_q81 rfl rfl rfl (if_pos (e := none) g1) ?_
  replace H := H _ rfl
  generalize am_si h a0 6 i1 = h2 at H ⊢
  refine ev_p (pc' := 7) (loc' := [.ref a0, .int i1, .int i2, .int i3]) (st' := [.int i2, .ref a0]) 2 am_q81 rfl ?_
  obtain ⟨g3, H⟩ := H
  refine ev_s (pc' := 10) (loc' := [.ref a0, .int i1, .int i2, .int i3]) (st' := []) (h1 := am_si h2 a0 7 i2) am_q81 rfl rfl rfl (if_pos (e := none) g3) ?_
  replace H := H _ rfl
  generalize am_si h2 a0 7 i2 = h4 at H ⊢
  refine ev_p (pc' := 12) (loc' := [.ref a0, .int i1, .int i2, .int i3]) (st' := [.int i3, .ref a0]) 2 am_q81 rfl ?_
  obtain ⟨g5, H⟩ := H
  refine ev_s (pc' := 15) (loc' := [.ref a0, .int i1, .int i2, .int i3]) (st' := []) (h1 := am_si h4 a0 8 i3) am_q81 rfl rfl rfl (if_pos (e := none) g5) ?_
  replace H := H _ rfl
  generalize am_si h4 a0 8 i3 = h6 at H ⊢
  exact ev_r (v := none) am_q81 rfl rfl rfl rfl H
/-! 82: X10_init -/
theorem am_q82 : (am_mt 82).2.2.2.2.2 = am_m82.2.2.2.2.2 := rfl
set_option maxRecDepth 20000 in
set_option maxHeartbeats 2000000 in
theorem wp82 {d : Nat} (a0 : Nat) {h : AH} {Q : Option Value → AH → Prop} (H : (¬ (0 : Int32) < (0 : Int32) ∧ (Int32.toNatClampNeg (0 : Int32)) ≤ 100000) ∧ ∀ b3, b3 = am_sz h → ∀ h2, h2 = am_nw h 102 (Int32.toNatClampNeg (0 : Int32)) (Int32.toNatClampNeg (0 : Int32)) → am_kd h2 a0 = 10 ∧ ∀ h6, h6 = am_sr h2 a0 3 (some b3) → (¬ (24 : Int32) < (0 : Int32) ∧ (Int32.toNatClampNeg (24 : Int32)) ≤ 100000) ∧ ∀ b8, b8 = am_sz h6 → ∀ h7, h7 = am_nw h6 101 (Int32.toNatClampNeg (24 : Int32)) (Int32.toNatClampNeg (24 : Int32)) → am_kd h7 a0 = 10 ∧ ∀ h11, h11 = am_sr h7 a0 4 (some b8) → Q none h11) : Cl d 82 [.ref a0] h Q := by
  show Ev d 82 0 [.ref a0] [] h Q
  refine ev_p (pc' := 1) (loc' := [.ref a0]) (st' := [.ref a0]) 1 am_q82 rfl ?_
  refine ev_b (st' := []) (h1 := h) am_q82 rfl rfl rfl rfl (rfl) rfl ?_
  refine ev_p (pc' := 6) (loc' := [.ref a0]) (st' := [.int (0 : Int32), .ref a0]) 2 am_q82 rfl ?_
  obtain ⟨g4, H⟩ := H
  refine ev_s (pc' := 8) (loc' := [.ref a0]) (st' := [.ref (am_sz h), .ref a0]) (h1 := am_nw h 102 (Int32.toNatClampNeg (0 : Int32)) (Int32.toNatClampNeg (0 : Int32))) am_q82 rfl rfl rfl (if_pos (e := none) g4) ?_
  replace H := H _ rfl _ rfl
  generalize am_nw h 102 (Int32.toNatClampNeg (0 : Int32)) (Int32.toNatClampNeg (0 : Int32)) = h2 at H ⊢
  generalize am_sz h = b3 at H ⊢
  obtain ⟨g5, H⟩ := H
  refine ev_s (pc' := 11) (loc' := [.ref a0]) (st' := []) (h1 := am_sr h2 a0 3 (some b3)) am_q82 rfl rfl rfl (if_pos (e := none) g5) ?_
  replace H := H _ rfl
  generalize am_sr h2 a0 3 (some b3) = h6 at H ⊢
  refine ev_p (pc' := 14) (loc' := [.ref a0]) (st' := [.int (24 : Int32), .ref a0]) 2 am_q82 rfl ?_
  obtain ⟨g9, H⟩ := H
  refine ev_s (pc' := 16) (loc' := [.ref a0]) (st' := [.ref (am_sz h6), .ref a0]) (h1 := am_nw h6 101 (Int32.toNatClampNeg (24 : Int32)) (Int32.toNatClampNeg (24 : Int32))) am_q82 rfl rfl rfl (if_pos (e := none) g9) ?_
  replace H := H _ rfl _ rfl
  generalize am_nw h6 101 (Int32.toNatClampNeg (24 : Int32)) (Int32.toNatClampNeg (24 : Int32)) = h7 at H ⊢
  generalize am_sz h6 = b8 at H ⊢
  obtain ⟨g10, H⟩ := H
  refine ev_s (pc' := 19) (loc' := [.ref a0]) (st' := []) (h1 := am_sr h7 a0 4 (some b8)) am_q82 rfl rfl rfl (if_pos (e := none) g10) ?_
  replace H := H _ rfl
  generalize am_sr h7 a0 4 (some b8) = h11 at H ⊢
  exact ev_r (v := none) am_q82 rfl rfl rfl rfl H
/-! 83: X10_holdNothing -/
theorem am_q83 : (am_mt 83).2.2.2.2.2 = am_m83.2.2.2.2.2 := rfl
set_option maxRecDepth 20000 in
set_option maxHeartbeats 2000000 in
theorem wp83 {d : Nat} (a0 : Nat) {h : AH} {Q : Option Value → AH → Prop} (H : am_kd h a0 = 10 ∧ ∀ h2, h2 = am_si h a0 0 (0 : Int32) → Q none h2) : Cl d 83 [.ref a0] h Q := by
  show Ev d 83 0 [.ref a0] [] h Q
  refine ev_p (pc' := 2) (loc' := [.ref a0]) (st' := [.int (0 : Int32), .ref a0]) 2 am_q83 rfl ?_
  obtain ⟨g1, H⟩ := H
  refine ev_s (pc' := 5) (loc' := [.ref a0]) (st' := []) (h1 := am_si h a0 0 (0 : Int32)) am_q83 rfl rfl rfl (if_pos (e := none) g1) ?_
  replace H := H _ rfl
  generalize am_si h a0 0 (0 : Int32) = h2 at H ⊢
  exact ev_r (v := none) am_q83 rfl rfl rfl rfl H
/-! 84: X10_holdRight -/
theorem am_q84 : (am_mt 84).2.2.2.2.2 = am_m84.2.2.2.2.2 := rfl
set_option maxRecDepth 20000 in
set_option maxHeartbeats 2000000 in
theorem wp84 {d : Nat} (a0 : Nat) (a1 : Nat) {h : AH} {Q : Option Value → AH → Prop} (H : am_kd h a0 = 10 ∧ ∀ h2, h2 = am_si h a0 0 (1 : Int32) → am_kd h2 a1 = 7 ∧ am_kd h2 a0 = 10 ∧ ∀ h5, h5 = am_si h2 a0 1 (am_gi h2 a1 0) → am_kd h5 a1 = 7 ∧ am_kd h5 a0 = 10 ∧ ∀ h8, h8 = am_si h5 a0 2 (am_gi h5 a1 1) → Q none h8) : Cl d 84 [.ref a0, .ref a1] h Q := by
  show Ev d 84 0 [.ref a0, .ref a1] [] h Q
  refine ev_p (pc' := 2) (loc' := [.ref a0, .ref a1]) (st' := [.int (1 : Int32), .ref a0]) 2 am_q84 rfl ?_
  obtain ⟨g1, H⟩ := H
  refine ev_s (pc' := 5) (loc' := [.ref a0, .ref a1]) (st' := []) (h1 := am_si h a0 0 (1 : Int32)) am_q84 rfl rfl rfl (if_pos (e := none) g1) ?_
  replace H := H _ rfl
  generalize am_si h a0 0 (1 : Int32) = h2 at H ⊢
  refine ev_p (pc' := 7) (loc' := [.ref a0, .ref a1]) (st' := [.ref a1, .ref a0]) 2 am_q84 rfl ?_
  obtain ⟨g3, H⟩ := H
  refine ev_s (pc' := 10) (loc' := [.ref a0, .ref a1]) (st' := [.int (am_gi h2 a1 0), .ref a0]) (h1 := h2) am_q84 rfl rfl rfl (if_pos (e := none) g3) ?_
  obtain ⟨g4, H⟩ := H
  refine ev_s (pc' := 13) (loc' := [.ref a0, .ref a1]) (st' := []) (h1 := am_si h2 a0 1 (am_gi h2 a1 0)) am_q84 rfl rfl rfl (if_pos (e := none) g4) ?_
  replace H := H _ rfl
  generalize am_si h2 a0 1 (am_gi h2 a1 0) = h5 at H ⊢
  refine ev_p (pc' := 15) (loc' := [.ref a0, .ref a1]) (st' := [.ref a1, .ref a0]) 2 am_q84 rfl ?_
  obtain ⟨g6, H⟩ := H
  refine ev_s (pc' := 18) (loc' := [.ref a0, .ref a1]) (st' := [.int (am_gi h5 a1 1), .ref a0]) (h1 := h5) am_q84 rfl rfl rfl (if_pos (e := none) g6) ?_
  obtain ⟨g7, H⟩ := H
  refine ev_s (pc' := 21) (loc' := [.ref a0, .ref a1]) (st' := []) (h1 := am_si h5 a0 2 (am_gi h5 a1 1)) am_q84 rfl rfl rfl (if_pos (e := none) g7) ?_
  replace H := H _ rfl
  generalize am_si h5 a0 2 (am_gi h5 a1 1) = h8 at H ⊢
  exact ev_r (v := none) am_q84 rfl rfl rfl rfl H
/-! 85: X10_holdBytes -/
theorem am_q85 : (am_mt 85).2.2.2.2.2 = am_m85.2.2.2.2.2 := rfl
set_option maxRecDepth 20000 in
set_option maxHeartbeats 2000000 in
theorem wp85 {d : Nat} (a0 : Nat) (a1 : Nat) {h : AH} {Q : Option Value → AH → Prop} (H : am_kd h a0 = 10 ∧ ∀ h2, h2 = am_si h a0 0 (2 : Int32) → am_kd h2 a1 = 9 ∧ ∃ b4, am_gr h2 a1 0 = some b4 ∧ am_kd h2 a0 = 10 ∧ ∀ h7, h7 = am_sr h2 a0 3 (some b4) → am_kd h7 a0 = 10 ∧ ∃ b9, am_gr h7 a0 3 = some b9 ∧ (100 ≤ am_kd h7 b9 ∧ am_kd h7 b9 ≤ 109) ∧ am_kd h7 a0 = 10 ∧ ∀ h13, h13 = am_si h7 a0 6 (Int32.ofNat (am_ln h7 b9)) → Q none h13) : Cl d 85 [.ref a0, .ref a1] h Q := by
  show Ev d 85 0 [.ref a0, .ref a1] [] h Q
  refine ev_p (pc' := 2) (loc' := [.ref a0, .ref a1]) (st' := [.int (2 : Int32), .ref a0]) 2 am_q85 rfl ?_
  obtain ⟨g1, H⟩ := H
  refine ev_s (pc' := 5) (loc' := [.ref a0, .ref a1]) (st' := []) (h1 := am_si h a0 0 (2 : Int32)) am_q85 rfl rfl rfl (if_pos (e := none) g1) ?_
  replace H := H _ rfl
  generalize am_si h a0 0 (2 : Int32) = h2 at H ⊢
  refine ev_p (pc' := 7) (loc' := [.ref a0, .ref a1]) (st' := [.ref a1, .ref a0]) 2 am_q85 rfl ?_
  obtain ⟨g3, b4, e5, H⟩ := H
  refine ev_s (pc' := 10) (loc' := [.ref a0, .ref a1]) (st' := [.ref b4, .ref a0]) (h1 := h2) am_q85 rfl rfl rfl (am_gf2 g3 e5) ?_
  obtain ⟨g6, H⟩ := H
  refine ev_s (pc' := 13) (loc' := [.ref a0, .ref a1]) (st' := []) (h1 := am_sr h2 a0 3 (some b4)) am_q85 rfl rfl rfl (if_pos (e := none) g6) ?_
  replace H := H _ rfl
  generalize am_sr h2 a0 3 (some b4) = h7 at H ⊢
  refine ev_p (pc' := 15) (loc' := [.ref a0, .ref a1]) (st' := [.ref a0, .ref a0]) 2 am_q85 rfl ?_
  obtain ⟨g8, b9, e10, H⟩ := H
  refine ev_s (pc' := 18) (loc' := [.ref a0, .ref a1]) (st' := [.ref b9, .ref a0]) (h1 := h7) am_q85 rfl rfl rfl (am_gf2 g8 e10) ?_
  obtain ⟨g11, H⟩ := H
  refine ev_s (pc' := 19) (loc' := [.ref a0, .ref a1]) (st' := [.int (Int32.ofNat (am_ln h7 b9)), .ref a0]) (h1 := h7) am_q85 rfl rfl rfl (if_pos (e := none) g11) ?_
  obtain ⟨g12, H⟩ := H
  refine ev_s (pc' := 22) (loc' := [.ref a0, .ref a1]) (st' := []) (h1 := am_si h7 a0 6 (Int32.ofNat (am_ln h7 b9))) am_q85 rfl rfl rfl (if_pos (e := none) g12) ?_
  replace H := H _ rfl
  generalize am_si h7 a0 6 (Int32.ofNat (am_ln h7 b9)) = h13 at H ⊢
  exact ev_r (v := none) am_q85 rfl rfl rfl rfl H
/-! 86: X10_holdDebts -/
theorem am_q86 : (am_mt 86).2.2.2.2.2 = am_m86.2.2.2.2.2 := rfl
set_option maxRecDepth 20000 in
set_option maxHeartbeats 2000000 in
theorem wp86 {d : Nat} (a0 : Nat) (a1 : Nat) (i2 : Int32) {h : AH} {Q : Option Value → AH → Prop} (H : am_kd h a0 = 10 ∧ ∀ h2, h2 = am_si h a0 0 (3 : Int32) → Cl d 265 [.int i2, .int (24 : Int32)] h2 (fun r4 h3 => ∃ x5, r4 = some (.int x5) ∧ am_kd h3 a0 = 10 ∧ ∀ h7, h7 = am_si h3 a0 6 x5 → Ev (d + 1) 86 17 [.ref a0, .ref a1, .null, .int (0 : Int32)] [] h7 Q)) : Cl (d + 1) 86 [.ref a0, .ref a1, .int i2] h Q := by
  show Ev (d + 1) 86 0 [.ref a0, .ref a1, .int i2, .null] [] h Q
  refine ev_p (pc' := 2) (loc' := [.ref a0, .ref a1, .int i2, .null]) (st' := [.int (3 : Int32), .ref a0]) 2 am_q86 rfl ?_
  obtain ⟨g1, H⟩ := H
  refine ev_s (pc' := 5) (loc' := [.ref a0, .ref a1, .int i2, .null]) (st' := []) (h1 := am_si h a0 0 (3 : Int32)) am_q86 rfl rfl rfl (if_pos (e := none) g1) ?_
  replace H := H _ rfl
  generalize am_si h a0 0 (3 : Int32) = h2 at H ⊢
  refine ev_p (pc' := 9) (loc' := [.ref a0, .ref a1, .int i2, .null]) (st' := [.int (24 : Int32), .int i2, .ref a0]) 3 am_q86 rfl ?_
  refine ev_c (vs := [.int i2, .int (24 : Int32)]) (rest := [.ref a0]) 265 am_q86 rfl rfl rfl rfl rfl rfl rfl rfl rfl rfl rfl rfl (Or.inl rfl) (Cl.mono H (Nat.le_refl _) (fun r4 h3 H => ?_))
  obtain ⟨x5, rfl, H⟩ := H
  obtain ⟨g6, H⟩ := H
  refine ev_s (pc' := 15) (loc' := [.ref a0, .ref a1, .int i2, .null]) (st' := []) (h1 := am_si h3 a0 6 x5) am_q86 rfl rfl rfl (if_pos (e := none) g6) ?_
  replace H := H _ rfl
  generalize am_si h3 a0 6 x5 = h7 at H ⊢
  refine ev_p (pc' := 17) (loc' := [.ref a0, .ref a1, .int i2, .int (0 : Int32)]) (st' := []) 2 am_q86 rfl ?_
  exact ev_m (loc' := [.ref a0, .ref a1, .null, .int (0 : Int32)]) am_q86 rfl rfl H
set_option maxRecDepth 20000 in
set_option maxHeartbeats 2000000 in
theorem wp86_17 {d : Nat} (a0 : Nat) (a1 : Nat) (i3 : Int32) {h : AH} {Q : Option Value → AH → Prop} (H : am_kd h a0 = 10 ∧ ((am_gi h a0 6) ≤ i3 → Q none h) ∧ (¬ (am_gi h a0 6) ≤ i3 → am_kd h a0 = 10 ∧ ∃ b3, am_gr h a0 4 = some b3 ∧ (104 ≤ am_kd h a1 ∧ am_kd h a1 ≤ 109) ∧ am_in i3 (am_ln h a1) ∧ ∃ b7, am_gr h a1 (Int32.toNatClampNeg i3) = some b7 ∧ am_kd h b7 = 3 ∧ am_kd h b3 = 101 ∧ am_in i3 (am_ln h b3) ∧ ∀ h12, h12 = am_sl h b3 (Int32.toNatClampNeg i3) (am_gl h b7 5) → Ev (d + 1) 86 17 [.ref a0, .ref a1, .null, .int (i3 + (1 : Int32))] [] h12 Q)) : Ev (d + 1) 86 17 [.ref a0, .ref a1, .null, .int i3] [] h Q := by
  refine ev_p (pc' := 19) (loc' := [.ref a0, .ref a1, .null, .int i3]) (st' := [.ref a0, .int i3]) 2 am_q86 rfl ?_
  obtain ⟨g1, H⟩ := H
  refine ev_s (pc' := 22) (loc' := [.ref a0, .ref a1, .null, .int i3]) (st' := [.int (am_gi h a0 6), .int i3]) (h1 := h) am_q86 rfl rfl rfl (if_pos (e := none) g1) ?_
  refine ev_jc (t := 43) am_q86 rfl rfl (fun hq => ?_) (fun hq => ?_)
  · replace H := H.1 hq
    exact ev_r (v := none) am_q86 rfl rfl rfl rfl H
  · replace H := H.2 hq
    refine ev_p (pc' := 26) (loc' := [.ref a0, .ref a1, .null, .int i3]) (st' := [.ref a0]) 1 am_q86 rfl ?_
    obtain ⟨g2, b3, e4, H⟩ := H
    refine ev_s (pc' := 29) (loc' := [.ref a0, .ref a1, .null, .int i3]) (st' := [.ref b3]) (h1 := h) am_q86 rfl rfl rfl (am_gf2 g2 e4) ?_
    refine ev_p (pc' := 32) (loc' := [.ref a0, .ref a1, .null, .int i3]) (st' := [.int i3, .ref a1, .int i3, .ref b3]) 3 am_q86 rfl ?_
    obtain ⟨g5, g6, b7, e8, H⟩ := H
    refine ev_s (pc' := 33) (loc' := [.ref a0, .ref a1, .null, .int i3]) (st' := [.ref b7, .int i3, .ref b3]) (h1 := h) am_q86 rfl rfl rfl (am_xa g5 g6 e8) ?_
    obtain ⟨g9, H⟩ := H
    refine ev_s (pc' := 36) (loc' := [.ref a0, .ref a1, .null, .int i3]) (st' := [.long (am_gl h b7 5), .int i3, .ref b3]) (h1 := h) am_q86 rfl rfl rfl (if_pos (e := none) g9) ?_
    obtain ⟨g10, g11, H⟩ := H
    refine ev_s (pc' := 37) (loc' := [.ref a0, .ref a1, .null, .int i3]) (st' := []) (h1 := am_sl h b3 (Int32.toNatClampNeg i3) (am_gl h b7 5)) am_q86 rfl rfl rfl (am_xx g10 g11) ?_
    replace H := H _ rfl
    generalize am_sl h b3 (Int32.toNatClampNeg i3) (am_gl h b7 5) = h12 at H ⊢
    refine ev_p (pc' := 17) (loc' := [.ref a0, .ref a1, .null, .int (i3 + (1 : Int32))]) (st' := []) 2 am_q86 rfl ?_
    exact ev_m (loc' := [.ref a0, .ref a1, .null, .int (i3 + (1 : Int32))]) am_q86 rfl rfl H
/-! 87: X10_holdTruths -/
theorem am_q87 : (am_mt 87).2.2.2.2.2 = am_m87.2.2.2.2.2 := rfl
set_option maxRecDepth 20000 in
set_option maxHeartbeats 2000000 in
theorem wp87 {d : Nat} (a0 : Nat) (i1 : Int32) (i2 : Int32) {h : AH} {Q : Option Value → AH → Prop} (H : am_kd h a0 = 10 ∧ ∀ h2, h2 = am_si h a0 0 (4 : Int32) → am_kd h2 a0 = 10 ∧ ∀ h4, h4 = am_si h2 a0 5 i1 → am_kd h4 a0 = 10 ∧ ∀ h6, h6 = am_si h4 a0 6 i2 → Q none h6) : Cl d 87 [.ref a0, .int i1, .int i2] h Q := by
  show Ev d 87 0 [.ref a0, .int i1, .int i2] [] h Q
  refine ev_p (pc' := 2) (loc' := [.ref a0, .int i1, .int i2]) (st' := [.int (4 : Int32), .ref a0]) 2 am_q87 rfl ?_
  obtain ⟨g1, H⟩ := H
  refine ev_s (pc' := 5) (loc' := [.ref a0, .int i1, .int i2]) (st' := []) (h1 := am_si h a0 0 (4 : Int32)) am_q87 rfl rfl rfl (if_pos (e := none) g1) ?_
  replace H := H _ rfl
  generalize am_si h a0 0 (4 : Int32) = h2 at H ⊢
  refine ev_p (pc' := 7) (loc' := [.ref a0, .int i1, .int i2]) (st' := [.int i1, .ref a0]) 2 am_q87 rfl ?_
  obtain ⟨g3, H⟩ := H
  refine ev_s (pc' := 10) (loc' := [.ref a0, .int i1, .int i2]) (st' := []) (h1 := am_si h2 a0 5 i1) am_q87 rfl rfl rfl (if_pos (e := none) g3) ?_
  replace H := H _ rfl
  generalize am_si h2 a0 5 i1 = h4 at H ⊢
  refine ev_p (pc' := 12) (loc' := [.ref a0, .int i1, .int i2]) (st' := [.int i2, .ref a0]) 2 am_q87 rfl ?_
  obtain ⟨g5, H⟩ := H
  refine ev_s (pc' := 15) (loc' := [.ref a0, .int i1, .int i2]) (st' := []) (h1 := am_si h4 a0 6 i2) am_q87 rfl rfl rfl (if_pos (e := none) g5) ?_
  replace H := H _ rfl
  generalize am_si h4 a0 6 i2 = h6 at H ⊢
  exact ev_r (v := none) am_q87 rfl rfl rfl rfl H
/-! 88: X10_work -/
theorem am_q88 : (am_mt 88).2.2.2.2.2 = am_m88.2.2.2.2.2 := rfl
set_option maxRecDepth 20000 in
set_option maxHeartbeats 2000000 in
theorem wp88 {d : Nat} (a0 : Nat) (i1 : Int32) (i2 : Int32) {h : AH} {Q : Option Value → AH → Prop} (H : (i1 = (0 : Int32) → Cl d 263 [.int i2, .int (5 : Int32)] h (fun r2 h1 => ∃ x3, r2 = some (.int x3) ∧ am_kd h1 a0 = 10 ∧ Cl d 91 [.ref a0, .int x3] h1 (fun r5 h4 => ∃ x7, r5 = some (.int x7) ∧ Q (some (.int x7)) h4))) ∧ (i1 = (1 : Int32) → am_kd h a0 = 10 ∧ Cl d 94 [.ref a0, .int (2 : Int32), .int i2] h (fun r10 h9 => ∃ x12, r10 = some (.int x12) ∧ Q (some (.int x12)) h9)) ∧ (i1 = (2 : Int32) → am_kd h a0 = 10 ∧ Cl d 94 [.ref a0, .int (3 : Int32), .int i2] h (fun r15 h14 => ∃ x17, r15 = some (.int x17) ∧ Q (some (.int x17)) h14)) ∧ (i1 = (3 : Int32) → am_kd h a0 = 10 ∧ Cl d 94 [.ref a0, .int (4 : Int32), .int i2] h (fun r20 h19 => ∃ x22, r20 = some (.int x22) ∧ Q (some (.int x22)) h19)) ∧ (i1 = (4 : Int32) → ((0 : Int32) ≤ i2 → am_kd h a0 = 10 ∧ Cl d 90 [.ref a0, .int i2] h (fun r25 h24 => ∃ x27, r25 = some (.int x27) ∧ Q (some (.int x27)) h24)) ∧ (¬ (0 : Int32) ≤ i2 → am_kd h a0 = 10 ∧ Cl d 89 [.ref a0, .int (13 : Int32)] h (fun r29 h28 => ∃ x31, r29 = some (.int x31) ∧ Q (some (.int x31)) h28))) ∧ (i1 = (5 : Int32) → am_kd h a0 = 10 ∧ Cl d 95 [.ref a0, .int i2] h (fun r34 h33 => ∃ x36, r34 = some (.int x36) ∧ Q (some (.int x36)) h33)) ∧ (i1 = (6 : Int32) → am_kd h a0 = 10 ∧ Cl d 92 [.ref a0] h (fun r39 h38 => ∃ x41, r39 = some (.int x41) ∧ Q (some (.int x41)) h38)) ∧ (i1 = (7 : Int32) → ((¬ i2 = (0 : Int32)) → ¬ i2 = (0 : Int32) ∧ am_kd h a0 = 10 ∧ Cl d 90 [.ref a0, .int ((1000 : Int32) / i2)] h (fun r45 h44 => ∃ x47, r45 = some (.int x47) ∧ Q (some (.int x47)) h44)) ∧ (¬ (¬ i2 = (0 : Int32)) → am_kd h a0 = 10 ∧ Cl d 89 [.ref a0, .int (15 : Int32)] h (fun r49 h48 => ∃ x51, r49 = some (.int x51) ∧ Q (some (.int x51)) h48))) ∧ (i1 = (8 : Int32) → am_kd h a0 = 10 ∧ Cl d 89 [.ref a0, .int (10 : Int32)] h (fun r54 h53 => ∃ x56, r54 = some (.int x56) ∧ Q (some (.int x56)) h53)) ∧ (¬ i1 = (0 : Int32) ∧ ¬ i1 = (1 : Int32) ∧ ¬ i1 = (2 : Int32) ∧ ¬ i1 = (3 : Int32) ∧ ¬ i1 = (4 : Int32) ∧ ¬ i1 = (5 : Int32) ∧ ¬ i1 = (6 : Int32) ∧ ¬ i1 = (7 : Int32) ∧ ¬ i1 = (8 : Int32) → am_kd h a0 = 10 ∧ Cl d 89 [.ref a0, .int (1 : Int32)] h (fun r59 h58 => ∃ x61, r59 = some (.int x61) ∧ Q (some (.int x61)) h58))) : Cl (d + 1) 88 [.ref a0, .int i1, .int i2] h Q := by
  show Ev (d + 1) 88 0 [.ref a0, .int i1, .int i2] [] h Q
  refine ev_p (pc' := 1) (loc' := [.ref a0, .int i1, .int i2]) (st' := [.int i1]) 1 am_q88 rfl ?_
  by_cases k8 : i1 = (0 : Int32)
  · replace H := H.1 k8
    refine ev_s (pc' := 52) (loc' := [.ref a0, .int i1, .int i2]) (st' := []) (h1 := h) am_q88 rfl rfl rfl (by rw [k8]; rfl) ?_
    refine ev_p (pc' := 55) (loc' := [.ref a0, .int i1, .int i2]) (st' := [.int (5 : Int32), .int i2, .ref a0]) 3 am_q88 rfl ?_
    refine ev_c (vs := [.int i2, .int (5 : Int32)]) (rest := [.ref a0]) 263 am_q88 rfl rfl rfl rfl rfl rfl rfl rfl rfl rfl rfl rfl (Or.inl rfl) (Cl.mono H (Nat.le_refl _) (fun r2 h1 H => ?_))
    obtain ⟨x3, rfl, H⟩ := H
    obtain ⟨g6, H⟩ := H
    refine ev_c (vs := [.ref a0, .int x3]) (rest := []) 91 am_q88 rfl rfl rfl rfl rfl rfl rfl rfl rfl rfl rfl rfl (Or.inr (congrArg some g6)) (Cl.mono H (Nat.le_refl _) (fun r5 h4 H => ?_))
    obtain ⟨x7, rfl, H⟩ := H
    exact ev_r (v := some (.int x7)) am_q88 rfl rfl rfl rfl H
  replace H := H.2
  by_cases k13 : i1 = (1 : Int32)
  · replace H := H.1 k13
    refine ev_s (pc' := 62) (loc' := [.ref a0, .int i1, .int i2]) (st' := []) (h1 := h) am_q88 rfl rfl rfl (by rw [k13]; rfl) ?_
    refine ev_p (pc' := 65) (loc' := [.ref a0, .int i1, .int i2]) (st' := [.int i2, .int (2 : Int32), .ref a0]) 3 am_q88 rfl ?_
    obtain ⟨g11, H⟩ := H
    refine ev_c (vs := [.ref a0, .int (2 : Int32), .int i2]) (rest := []) 94 am_q88 rfl rfl rfl rfl rfl rfl rfl rfl rfl rfl rfl rfl (Or.inr (congrArg some g11)) (Cl.mono H (Nat.le_refl _) (fun r10 h9 H => ?_))
    obtain ⟨x12, rfl, H⟩ := H
    exact ev_r (v := some (.int x12)) am_q88 rfl rfl rfl rfl H
  replace H := H.2
  by_cases k18 : i1 = (2 : Int32)
  · replace H := H.1 k18
    refine ev_s (pc' := 69) (loc' := [.ref a0, .int i1, .int i2]) (st' := []) (h1 := h) am_q88 rfl rfl rfl (by rw [k18]; rfl) ?_
    refine ev_p (pc' := 72) (loc' := [.ref a0, .int i1, .int i2]) (st' := [.int i2, .int (3 : Int32), .ref a0]) 3 am_q88 rfl ?_
    obtain ⟨g16, H⟩ := H
    refine ev_c (vs := [.ref a0, .int (3 : Int32), .int i2]) (rest := []) 94 am_q88 rfl rfl rfl rfl rfl rfl rfl rfl rfl rfl rfl rfl (Or.inr (congrArg some g16)) (Cl.mono H (Nat.le_refl _) (fun r15 h14 H => ?_))
    obtain ⟨x17, rfl, H⟩ := H
    exact ev_r (v := some (.int x17)) am_q88 rfl rfl rfl rfl H
  replace H := H.2
  by_cases k23 : i1 = (3 : Int32)
  · replace H := H.1 k23
    refine ev_s (pc' := 76) (loc' := [.ref a0, .int i1, .int i2]) (st' := []) (h1 := h) am_q88 rfl rfl rfl (by rw [k23]; rfl) ?_
    refine ev_p (pc' := 79) (loc' := [.ref a0, .int i1, .int i2]) (st' := [.int i2, .int (4 : Int32), .ref a0]) 3 am_q88 rfl ?_
    obtain ⟨g21, H⟩ := H
    refine ev_c (vs := [.ref a0, .int (4 : Int32), .int i2]) (rest := []) 94 am_q88 rfl rfl rfl rfl rfl rfl rfl rfl rfl rfl rfl rfl (Or.inr (congrArg some g21)) (Cl.mono H (Nat.le_refl _) (fun r20 h19 H => ?_))
    obtain ⟨x22, rfl, H⟩ := H
    exact ev_r (v := some (.int x22)) am_q88 rfl rfl rfl rfl H
  replace H := H.2
  by_cases k32 : i1 = (4 : Int32)
  · replace H := H.1 k32
    refine ev_s (pc' := 83) (loc' := [.ref a0, .int i1, .int i2]) (st' := []) (h1 := h) am_q88 rfl rfl rfl (by rw [k32]; rfl) ?_
    refine ev_p (pc' := 84) (loc' := [.ref a0, .int i1, .int i2]) (st' := [.int i2]) 1 am_q88 rfl ?_
    refine ev_jz (t := 96) am_q88 rfl rfl (fun hq => ?_) (fun hq => ?_)
    · replace H := H.1 hq
      refine ev_p (pc' := 98) (loc' := [.ref a0, .int i1, .int i2]) (st' := [.int i2, .ref a0]) 2 am_q88 rfl ?_
      obtain ⟨g26, H⟩ := H
      refine ev_c (vs := [.ref a0, .int i2]) (rest := []) 90 am_q88 rfl rfl rfl rfl rfl rfl rfl rfl rfl rfl rfl rfl (Or.inr (congrArg some g26)) (Cl.mono H (Nat.le_refl _) (fun r25 h24 H => ?_))
      obtain ⟨x27, rfl, H⟩ := H
      exact ev_r (v := some (.int x27)) am_q88 rfl rfl rfl rfl H
    · replace H := H.2 hq
      refine ev_p (pc' := 90) (loc' := [.ref a0, .int i1, .int i2]) (st' := [.int (13 : Int32), .ref a0]) 2 am_q88 rfl ?_
      obtain ⟨g30, H⟩ := H
      refine ev_c (vs := [.ref a0, .int (13 : Int32)]) (rest := []) 89 am_q88 rfl rfl rfl rfl rfl rfl rfl rfl rfl rfl rfl rfl (Or.inr (congrArg some g30)) (Cl.mono H (Nat.le_refl _) (fun r29 h28 H => ?_))
      obtain ⟨x31, rfl, H⟩ := H
      refine ev_p (pc' := 101) (loc' := [.ref a0, .int i1, .int i2]) (st' := [.int x31]) 1 am_q88 rfl ?_
      exact ev_r (v := some (.int x31)) am_q88 rfl rfl rfl rfl H
  replace H := H.2
  by_cases k37 : i1 = (5 : Int32)
  · replace H := H.1 k37
    refine ev_s (pc' := 102) (loc' := [.ref a0, .int i1, .int i2]) (st' := []) (h1 := h) am_q88 rfl rfl rfl (by rw [k37]; rfl) ?_
    refine ev_p (pc' := 104) (loc' := [.ref a0, .int i1, .int i2]) (st' := [.int i2, .ref a0]) 2 am_q88 rfl ?_
    obtain ⟨g35, H⟩ := H
    refine ev_c (vs := [.ref a0, .int i2]) (rest := []) 95 am_q88 rfl rfl rfl rfl rfl rfl rfl rfl rfl rfl rfl rfl (Or.inr (congrArg some g35)) (Cl.mono H (Nat.le_refl _) (fun r34 h33 H => ?_))
    obtain ⟨x36, rfl, H⟩ := H
    exact ev_r (v := some (.int x36)) am_q88 rfl rfl rfl rfl H
  replace H := H.2
  by_cases k42 : i1 = (6 : Int32)
  · replace H := H.1 k42
    refine ev_s (pc' := 108) (loc' := [.ref a0, .int i1, .int i2]) (st' := []) (h1 := h) am_q88 rfl rfl rfl (by rw [k42]; rfl) ?_
    refine ev_p (pc' := 109) (loc' := [.ref a0, .int i1, .int i2]) (st' := [.ref a0]) 1 am_q88 rfl ?_
    obtain ⟨g40, H⟩ := H
    refine ev_c (vs := [.ref a0]) (rest := []) 92 am_q88 rfl rfl rfl rfl rfl rfl rfl rfl rfl rfl rfl rfl (Or.inr (congrArg some g40)) (Cl.mono H (Nat.le_refl _) (fun r39 h38 H => ?_))
    obtain ⟨x41, rfl, H⟩ := H
    exact ev_r (v := some (.int x41)) am_q88 rfl rfl rfl rfl H
  replace H := H.2
  by_cases k52 : i1 = (7 : Int32)
  · replace H := H.1 k52
    refine ev_s (pc' := 113) (loc' := [.ref a0, .int i1, .int i2]) (st' := []) (h1 := h) am_q88 rfl rfl rfl (by rw [k52]; rfl) ?_
    refine ev_p (pc' := 114) (loc' := [.ref a0, .int i1, .int i2]) (st' := [.int i2]) 1 am_q88 rfl ?_
    refine ev_jz (t := 126) am_q88 rfl rfl (fun hq => ?_) (fun hq => ?_)
    · replace H := H.1 hq
      refine ev_p (pc' := 131) (loc' := [.ref a0, .int i1, .int i2]) (st' := [.int i2, .int (1000 : Int32), .ref a0]) 3 am_q88 rfl ?_
      obtain ⟨g43, H⟩ := H
      refine ev_s (pc' := 132) (loc' := [.ref a0, .int i1, .int i2]) (st' := [.int ((1000 : Int32) / i2), .ref a0]) (h1 := h) am_q88 rfl rfl rfl (if_neg (t := none) g43) ?_
      obtain ⟨g46, H⟩ := H
      refine ev_c (vs := [.ref a0, .int ((1000 : Int32) / i2)]) (rest := []) 90 am_q88 rfl rfl rfl rfl rfl rfl rfl rfl rfl rfl rfl rfl (Or.inr (congrArg some g46)) (Cl.mono H (Nat.le_refl _) (fun r45 h44 H => ?_))
      obtain ⟨x47, rfl, H⟩ := H
      exact ev_r (v := some (.int x47)) am_q88 rfl rfl rfl rfl H
    · replace H := H.2 hq
      refine ev_p (pc' := 120) (loc' := [.ref a0, .int i1, .int i2]) (st' := [.int (15 : Int32), .ref a0]) 2 am_q88 rfl ?_
      obtain ⟨g50, H⟩ := H
      refine ev_c (vs := [.ref a0, .int (15 : Int32)]) (rest := []) 89 am_q88 rfl rfl rfl rfl rfl rfl rfl rfl rfl rfl rfl rfl (Or.inr (congrArg some g50)) (Cl.mono H (Nat.le_refl _) (fun r49 h48 H => ?_))
      obtain ⟨x51, rfl, H⟩ := H
      refine ev_p (pc' := 135) (loc' := [.ref a0, .int i1, .int i2]) (st' := [.int x51]) 1 am_q88 rfl ?_
      exact ev_r (v := some (.int x51)) am_q88 rfl rfl rfl rfl H
  replace H := H.2
  by_cases k57 : i1 = (8 : Int32)
  · replace H := H.1 k57
    refine ev_s (pc' := 136) (loc' := [.ref a0, .int i1, .int i2]) (st' := []) (h1 := h) am_q88 rfl rfl rfl (by rw [k57]; rfl) ?_
    refine ev_p (pc' := 139) (loc' := [.ref a0, .int i1, .int i2]) (st' := [.int (10 : Int32), .ref a0]) 2 am_q88 rfl ?_
    obtain ⟨g55, H⟩ := H
    refine ev_c (vs := [.ref a0, .int (10 : Int32)]) (rest := []) 89 am_q88 rfl rfl rfl rfl rfl rfl rfl rfl rfl rfl rfl rfl (Or.inr (congrArg some g55)) (Cl.mono H (Nat.le_refl _) (fun r54 h53 H => ?_))
    obtain ⟨x56, rfl, H⟩ := H
    exact ev_r (v := some (.int x56)) am_q88 rfl rfl rfl rfl H
  replace H := H.2
  replace H := H ⟨k8, k13, k18, k23, k32, k37, k42, k52, k57⟩
  refine ev_s (pc' := 143) (loc' := [.ref a0, .int i1, .int i2]) (st' := []) (h1 := h) am_q88 rfl rfl rfl (am_tso (x := (i1).toInt) (by have z0 : (i1).toInt ≠ 0 := am_tn k8 (by decide); have z1 : (i1).toInt ≠ 1 := am_tn k13 (by decide); have z2 : (i1).toInt ≠ 2 := am_tn k18 (by decide); have z3 : (i1).toInt ≠ 3 := am_tn k23 (by decide); have z4 : (i1).toInt ≠ 4 := am_tn k32 (by decide); have z5 : (i1).toInt ≠ 5 := am_tn k37 (by decide); have z6 : (i1).toInt ≠ 6 := am_tn k42 (by decide); have z7 : (i1).toInt ≠ 7 := am_tn k52 (by decide); have z8 : (i1).toInt ≠ 8 := am_tn k57 (by decide); omega)) ?_
  refine ev_p (pc' := 145) (loc' := [.ref a0, .int i1, .int i2]) (st' := [.int (1 : Int32), .ref a0]) 2 am_q88 rfl ?_
  obtain ⟨g60, H⟩ := H
  refine ev_c (vs := [.ref a0, .int (1 : Int32)]) (rest := []) 89 am_q88 rfl rfl rfl rfl rfl rfl rfl rfl rfl rfl rfl rfl (Or.inr (congrArg some g60)) (Cl.mono H (Nat.le_refl _) (fun r59 h58 H => ?_))
  obtain ⟨x61, rfl, H⟩ := H
  exact ev_r (v := some (.int x61)) am_q88 rfl rfl rfl rfl H
/-! 89: X10_refuse -/
theorem am_q89 : (am_mt 89).2.2.2.2.2 = am_m89.2.2.2.2.2 := rfl
set_option maxRecDepth 20000 in
set_option maxHeartbeats 2000000 in
theorem wp89 {d : Nat} (a0 : Nat) (i1 : Int32) {h : AH} {Q : Option Value → AH → Prop} (H : am_kd h a0 = 10 ∧ ∀ h2, h2 = am_si h a0 7 i1 → Q (some (.int (-1 : Int32))) h2) : Cl d 89 [.ref a0, .int i1] h Q := by
  show Ev d 89 0 [.ref a0, .int i1] [] h Q
  refine ev_p (pc' := 2) (loc' := [.ref a0, .int i1]) (st' := [.int i1, .ref a0]) 2 am_q89 rfl ?_
  obtain ⟨g1, H⟩ := H
  refine ev_s (pc' := 5) (loc' := [.ref a0, .int i1]) (st' := []) (h1 := am_si h a0 7 i1) am_q89 rfl rfl rfl (if_pos (e := none) g1) ?_
  replace H := H _ rfl
  generalize am_si h a0 7 i1 = h2 at H ⊢
  refine ev_p (pc' := 6) (loc' := [.ref a0, .int i1]) (st' := [.int (-1 : Int32)]) 1 am_q89 rfl ?_
  exact ev_r (v := some (.int (-1 : Int32))) am_q89 rfl rfl rfl rfl H
/-! 90: X10_answer -/
theorem am_q90 : (am_mt 90).2.2.2.2.2 = am_m90.2.2.2.2.2 := rfl
set_option maxRecDepth 20000 in
set_option maxHeartbeats 2000000 in
theorem wp90 {d : Nat} (a0 : Nat) (i1 : Int32) {h : AH} {Q : Option Value → AH → Prop} (H : am_kd h a0 = 10 ∧ ∀ h2, h2 = am_si h a0 7 (0 : Int32) → Q (some (.int i1)) h2) : Cl d 90 [.ref a0, .int i1] h Q := by
  show Ev d 90 0 [.ref a0, .int i1] [] h Q
  refine ev_p (pc' := 2) (loc' := [.ref a0, .int i1]) (st' := [.int (0 : Int32), .ref a0]) 2 am_q90 rfl ?_
  obtain ⟨g1, H⟩ := H
  refine ev_s (pc' := 5) (loc' := [.ref a0, .int i1]) (st' := []) (h1 := am_si h a0 7 (0 : Int32)) am_q90 rfl rfl rfl (if_pos (e := none) g1) ?_
  replace H := H _ rfl
  generalize am_si h a0 7 (0 : Int32) = h2 at H ⊢
  refine ev_p (pc' := 6) (loc' := [.ref a0, .int i1]) (st' := [.int i1]) 1 am_q90 rfl ?_
  exact ev_r (v := some (.int i1)) am_q90 rfl rfl rfl rfl H
/-! 91: X10_homeOfRight -/
theorem am_q91 : (am_mt 91).2.2.2.2.2 = am_m91.2.2.2.2.2 := rfl
set_option maxRecDepth 20000 in
set_option maxHeartbeats 2000000 in
theorem wp91 {d : Nat} (a0 : Nat) (i1 : Int32) {h : AH} {Q : Option Value → AH → Prop} (H : am_kd h a0 = 10 ∧ ((¬ (am_gi h a0 0) = (0 : Int32)) → am_kd h a0 = 10 ∧ Cl d 93 [.ref a0, .int i1] h (fun r3 h2 => ∃ x5, r3 = some (.int x5) ∧ (x5 = (0 : Int32) → am_kd h2 a0 = 10 ∧ Cl d 89 [.ref a0, .int (11 : Int32)] h2 (fun r7 h6 => ∃ x9, r7 = some (.int x9) ∧ Q (some (.int x9)) h6)) ∧ (¬ x5 = (0 : Int32) → am_kd h2 a0 = 10 ∧ am_kd h2 a0 = 10 ∧ Cl d 90 [.ref a0, .int (am_gi h2 a0 2)] h2 (fun r12 h11 => ∃ x14, r12 = some (.int x14) ∧ Q (some (.int x14)) h11)))) ∧ (¬ (¬ (am_gi h a0 0) = (0 : Int32)) → am_kd h a0 = 10 ∧ Cl d 89 [.ref a0, .int (10 : Int32)] h (fun r16 h15 => ∃ x18, r16 = some (.int x18) ∧ Q (some (.int x18)) h15))) : Cl (d + 1) 91 [.ref a0, .int i1] h Q := by
  show Ev (d + 1) 91 0 [.ref a0, .int i1] [] h Q
  refine ev_p (pc' := 1) (loc' := [.ref a0, .int i1]) (st' := [.ref a0]) 1 am_q91 rfl ?_
  obtain ⟨g1, H⟩ := H
  refine ev_s (pc' := 4) (loc' := [.ref a0, .int i1]) (st' := [.int (am_gi h a0 0)]) (h1 := h) am_q91 rfl rfl rfl (if_pos (e := none) g1) ?_
  refine ev_jz (t := 14) am_q91 rfl rfl (fun hq => ?_) (fun hq => ?_)
  · replace H := H.1 hq
    refine ev_p (pc' := 16) (loc' := [.ref a0, .int i1]) (st' := [.int i1, .ref a0]) 2 am_q91 rfl ?_
    obtain ⟨g4, H⟩ := H
    refine ev_c (vs := [.ref a0, .int i1]) (rest := []) 93 am_q91 rfl rfl rfl rfl rfl rfl rfl rfl rfl rfl rfl rfl (Or.inr (congrArg some g4)) (Cl.mono H (Nat.le_refl _) (fun r3 h2 H => ?_))
    obtain ⟨x5, rfl, H⟩ := H
    refine ev_jz (t := 33) am_q91 rfl rfl (fun hq => ?_) (fun hq => ?_)
    · replace H := H.1 hq
      refine ev_p (pc' := 36) (loc' := [.ref a0, .int i1]) (st' := [.int (11 : Int32), .ref a0]) 2 am_q91 rfl ?_
      obtain ⟨g8, H⟩ := H
      refine ev_c (vs := [.ref a0, .int (11 : Int32)]) (rest := []) 89 am_q91 rfl rfl rfl rfl rfl rfl rfl rfl rfl rfl rfl rfl (Or.inr (congrArg some g8)) (Cl.mono H (Nat.le_refl _) (fun r7 h6 H => ?_))
      obtain ⟨x9, rfl, H⟩ := H
      exact ev_r (v := some (.int x9)) am_q91 rfl rfl rfl rfl H
    · replace H := H.2 hq
      refine ev_p (pc' := 24) (loc' := [.ref a0, .int i1]) (st' := [.ref a0, .ref a0]) 2 am_q91 rfl ?_
      obtain ⟨g10, H⟩ := H
      refine ev_s (pc' := 27) (loc' := [.ref a0, .int i1]) (st' := [.int (am_gi h2 a0 2), .ref a0]) (h1 := h2) am_q91 rfl rfl rfl (if_pos (e := none) g10) ?_
      obtain ⟨g13, H⟩ := H
      refine ev_c (vs := [.ref a0, .int (am_gi h2 a0 2)]) (rest := []) 90 am_q91 rfl rfl rfl rfl rfl rfl rfl rfl rfl rfl rfl rfl (Or.inr (congrArg some g13)) (Cl.mono H (Nat.le_refl _) (fun r12 h11 H => ?_))
      obtain ⟨x14, rfl, H⟩ := H
      refine ev_p (pc' := 39) (loc' := [.ref a0, .int i1]) (st' := [.int x14]) 1 am_q91 rfl ?_
      exact ev_r (v := some (.int x14)) am_q91 rfl rfl rfl rfl H
  · replace H := H.2 hq
    refine ev_p (pc' := 10) (loc' := [.ref a0, .int i1]) (st' := [.int (10 : Int32), .ref a0]) 2 am_q91 rfl ?_
    obtain ⟨g17, H⟩ := H
    refine ev_c (vs := [.ref a0, .int (10 : Int32)]) (rest := []) 89 am_q91 rfl rfl rfl rfl rfl rfl rfl rfl rfl rfl rfl rfl (Or.inr (congrArg some g17)) (Cl.mono H (Nat.le_refl _) (fun r16 h15 H => ?_))
    obtain ⟨x18, rfl, H⟩ := H
    exact ev_r (v := some (.int x18)) am_q91 rfl rfl rfl rfl H
/-! 92: X10_homeOfLet -/
theorem am_q92 : (am_mt 92).2.2.2.2.2 = am_m92.2.2.2.2.2 := rfl
set_option maxRecDepth 20000 in
set_option maxHeartbeats 2000000 in
theorem wp92 {d : Nat} (a0 : Nat) {h : AH} {Q : Option Value → AH → Prop} (H : am_kd h a0 = 10 ∧ ((¬ (am_gi h a0 0) = (0 : Int32)) → am_kd h a0 = 10 ∧ Cl d 93 [.ref a0, .int (1 : Int32)] h (fun r3 h2 => ∃ x5, r3 = some (.int x5) ∧ (x5 = (0 : Int32) → am_kd h2 a0 = 10 ∧ Cl d 89 [.ref a0, .int (14 : Int32)] h2 (fun r7 h6 => ∃ x9, r7 = some (.int x9) ∧ Q (some (.int x9)) h6)) ∧ (¬ x5 = (0 : Int32) → am_kd h2 a0 = 10 ∧ am_kd h2 a0 = 10 ∧ Cl d 90 [.ref a0, .int (am_gi h2 a0 2)] h2 (fun r12 h11 => ∃ x14, r12 = some (.int x14) ∧ Q (some (.int x14)) h11)))) ∧ (¬ (¬ (am_gi h a0 0) = (0 : Int32)) → am_kd h a0 = 10 ∧ Cl d 90 [.ref a0, .int (0 : Int32)] h (fun r16 h15 => ∃ x18, r16 = some (.int x18) ∧ Q (some (.int x18)) h15))) : Cl (d + 1) 92 [.ref a0] h Q := by
  show Ev (d + 1) 92 0 [.ref a0] [] h Q
  refine ev_p (pc' := 1) (loc' := [.ref a0]) (st' := [.ref a0]) 1 am_q92 rfl ?_
  obtain ⟨g1, H⟩ := H
  refine ev_s (pc' := 4) (loc' := [.ref a0]) (st' := [.int (am_gi h a0 0)]) (h1 := h) am_q92 rfl rfl rfl (if_pos (e := none) g1) ?_
  refine ev_jz (t := 13) am_q92 rfl rfl (fun hq => ?_) (fun hq => ?_)
  · replace H := H.1 hq
    refine ev_p (pc' := 15) (loc' := [.ref a0]) (st' := [.int (1 : Int32), .ref a0]) 2 am_q92 rfl ?_
    obtain ⟨g4, H⟩ := H
    refine ev_c (vs := [.ref a0, .int (1 : Int32)]) (rest := []) 93 am_q92 rfl rfl rfl rfl rfl rfl rfl rfl rfl rfl rfl rfl (Or.inr (congrArg some g4)) (Cl.mono H (Nat.le_refl _) (fun r3 h2 H => ?_))
    obtain ⟨x5, rfl, H⟩ := H
    refine ev_jz (t := 32) am_q92 rfl rfl (fun hq => ?_) (fun hq => ?_)
    · replace H := H.1 hq
      refine ev_p (pc' := 35) (loc' := [.ref a0]) (st' := [.int (14 : Int32), .ref a0]) 2 am_q92 rfl ?_
      obtain ⟨g8, H⟩ := H
      refine ev_c (vs := [.ref a0, .int (14 : Int32)]) (rest := []) 89 am_q92 rfl rfl rfl rfl rfl rfl rfl rfl rfl rfl rfl rfl (Or.inr (congrArg some g8)) (Cl.mono H (Nat.le_refl _) (fun r7 h6 H => ?_))
      obtain ⟨x9, rfl, H⟩ := H
      exact ev_r (v := some (.int x9)) am_q92 rfl rfl rfl rfl H
    · replace H := H.2 hq
      refine ev_p (pc' := 23) (loc' := [.ref a0]) (st' := [.ref a0, .ref a0]) 2 am_q92 rfl ?_
      obtain ⟨g10, H⟩ := H
      refine ev_s (pc' := 26) (loc' := [.ref a0]) (st' := [.int (am_gi h2 a0 2), .ref a0]) (h1 := h2) am_q92 rfl rfl rfl (if_pos (e := none) g10) ?_
      obtain ⟨g13, H⟩ := H
      refine ev_c (vs := [.ref a0, .int (am_gi h2 a0 2)]) (rest := []) 90 am_q92 rfl rfl rfl rfl rfl rfl rfl rfl rfl rfl rfl rfl (Or.inr (congrArg some g13)) (Cl.mono H (Nat.le_refl _) (fun r12 h11 H => ?_))
      obtain ⟨x14, rfl, H⟩ := H
      refine ev_p (pc' := 38) (loc' := [.ref a0]) (st' := [.int x14]) 1 am_q92 rfl ?_
      exact ev_r (v := some (.int x14)) am_q92 rfl rfl rfl rfl H
  · replace H := H.2 hq
    refine ev_p (pc' := 9) (loc' := [.ref a0]) (st' := [.int (0 : Int32), .ref a0]) 2 am_q92 rfl ?_
    obtain ⟨g17, H⟩ := H
    refine ev_c (vs := [.ref a0, .int (0 : Int32)]) (rest := []) 90 am_q92 rfl rfl rfl rfl rfl rfl rfl rfl rfl rfl rfl rfl (Or.inr (congrArg some g17)) (Cl.mono H (Nat.le_refl _) (fun r16 h15 H => ?_))
    obtain ⟨x18, rfl, H⟩ := H
    exact ev_r (v := some (.int x18)) am_q92 rfl rfl rfl rfl H
/-! 93: X10_isRightUnder -/
theorem am_q93 : (am_mt 93).2.2.2.2.2 = am_m93.2.2.2.2.2 := rfl
set_option maxRecDepth 20000 in
set_option maxHeartbeats 2000000 in
theorem wp93 {d : Nat} (a0 : Nat) (i1 : Int32) {h : AH} {Q : Option Value → AH → Prop} (H : am_kd h a0 = 10 ∧ ((¬ (am_gi h a0 0) = (1 : Int32)) → Q (some (.int (0 : Int32))) h) ∧ (¬ (¬ (am_gi h a0 0) = (1 : Int32)) → am_kd h a0 = 10 ∧ ((am_gi h a0 1) = i1 → Q (some (.int (1 : Int32))) h) ∧ (¬ (am_gi h a0 1) = i1 → (i1 = (0 : Int32) → Q (some (.int (1 : Int32))) h) ∧ (¬ i1 = (0 : Int32) → ((¬ i1 = (1 : Int32)) → Q (some (.int (0 : Int32))) h) ∧ (¬ (¬ i1 = (1 : Int32)) → am_kd h a0 = 10 ∧ ((¬ (am_gi h a0 1) = (2 : Int32)) → Q (some (.int (0 : Int32))) h) ∧ (¬ (¬ (am_gi h a0 1) = (2 : Int32)) → Q (some (.int (1 : Int32))) h)))))) : Cl d 93 [.ref a0, .int i1] h Q := by
  show Ev d 93 0 [.ref a0, .int i1] [] h Q
  refine ev_p (pc' := 1) (loc' := [.ref a0, .int i1]) (st' := [.ref a0]) 1 am_q93 rfl ?_
  obtain ⟨g1, H⟩ := H
  refine ev_s (pc' := 4) (loc' := [.ref a0, .int i1]) (st' := [.int (am_gi h a0 0)]) (h1 := h) am_q93 rfl rfl rfl (if_pos (e := none) g1) ?_
  refine ev_p (pc' := 5) (loc' := [.ref a0, .int i1]) (st' := [.int (1 : Int32), .int (am_gi h a0 0)]) 1 am_q93 rfl ?_
  refine ev_jc (t := 37) am_q93 rfl rfl (fun hq => ?_) (fun hq => ?_)
  · replace H := H.1 hq
    refine ev_p (pc' := 38) (loc' := [.null, .null]) (st' := [.int (0 : Int32)]) 1 am_q93 rfl ?_
    exact ev_r (v := some (.int (0 : Int32))) am_q93 rfl rfl rfl rfl H
  · replace H := H.2 hq
    refine ev_p (pc' := 9) (loc' := [.ref a0, .int i1]) (st' := [.ref a0]) 1 am_q93 rfl ?_
    obtain ⟨g2, H⟩ := H
    refine ev_s (pc' := 12) (loc' := [.ref a0, .int i1]) (st' := [.int (am_gi h a0 1)]) (h1 := h) am_q93 rfl rfl rfl (if_pos (e := none) g2) ?_
    refine ev_p (pc' := 13) (loc' := [.ref a0, .int i1]) (st' := [.int i1, .int (am_gi h a0 1)]) 1 am_q93 rfl ?_
    refine ev_jc (t := 33) am_q93 rfl rfl (fun hq => ?_) (fun hq => ?_)
    · replace H := H.1 hq
      refine ev_p (pc' := 38) (loc' := [.null, .null]) (st' := [.int (1 : Int32)]) 2 am_q93 rfl ?_
      exact ev_r (v := some (.int (1 : Int32))) am_q93 rfl rfl rfl rfl H
    · replace H := H.2 hq
      refine ev_p (pc' := 17) (loc' := [.ref a0, .int i1]) (st' := [.int i1]) 1 am_q93 rfl ?_
      refine ev_jz (t := 33) am_q93 rfl rfl (fun hq => ?_) (fun hq => ?_)
      · replace H := H.1 hq
        refine ev_p (pc' := 38) (loc' := [.null, .null]) (st' := [.int (1 : Int32)]) 2 am_q93 rfl ?_
        exact ev_r (v := some (.int (1 : Int32))) am_q93 rfl rfl rfl rfl H
      · replace H := H.2 hq
        refine ev_p (pc' := 22) (loc' := [.ref a0, .int i1]) (st' := [.int (1 : Int32), .int i1]) 2 am_q93 rfl ?_
        refine ev_jc (t := 37) am_q93 rfl rfl (fun hq => ?_) (fun hq => ?_)
        · replace H := H.1 hq
          refine ev_p (pc' := 38) (loc' := [.null, .null]) (st' := [.int (0 : Int32)]) 1 am_q93 rfl ?_
          exact ev_r (v := some (.int (0 : Int32))) am_q93 rfl rfl rfl rfl H
        · replace H := H.2 hq
          refine ev_p (pc' := 26) (loc' := [.ref a0, .int i1]) (st' := [.ref a0]) 1 am_q93 rfl ?_
          obtain ⟨g3, H⟩ := H
          refine ev_s (pc' := 29) (loc' := [.ref a0, .int i1]) (st' := [.int (am_gi h a0 1)]) (h1 := h) am_q93 rfl rfl rfl (if_pos (e := none) g3) ?_
          refine ev_p (pc' := 30) (loc' := [.ref a0, .int i1]) (st' := [.int (2 : Int32), .int (am_gi h a0 1)]) 1 am_q93 rfl ?_
          refine ev_jc (t := 37) am_q93 rfl rfl (fun hq => ?_) (fun hq => ?_)
          · replace H := H.1 hq
            refine ev_p (pc' := 38) (loc' := [.null, .null]) (st' := [.int (0 : Int32)]) 1 am_q93 rfl ?_
            exact ev_r (v := some (.int (0 : Int32))) am_q93 rfl rfl rfl rfl H
          · replace H := H.2 hq
            refine ev_p (pc' := 38) (loc' := [.null, .null]) (st' := [.int (1 : Int32)]) 2 am_q93 rfl ?_
            exact ev_r (v := some (.int (1 : Int32))) am_q93 rfl rfl rfl rfl H
/-! 94: X10_placeOf -/
theorem am_q94 : (am_mt 94).2.2.2.2.2 = am_m94.2.2.2.2.2 := rfl
set_option maxRecDepth 20000 in
set_option maxHeartbeats 2000000 in
theorem wp94 {d : Nat} (a0 : Nat) (i1 : Int32) (i2 : Int32) {h : AH} {Q : Option Value → AH → Prop} (H : am_kd h a0 = 10 ∧ ((¬ (am_gi h a0 0) = (0 : Int32)) → am_kd h a0 = 10 ∧ ((am_gi h a0 0) = i1 → (i2 < (0 : Int32) → am_kd h a0 = 10 ∧ Cl d 89 [.ref a0, .int (12 : Int32)] h (fun r4 h3 => ∃ x6, r4 = some (.int x6) ∧ Q (some (.int x6)) h3)) ∧ (¬ i2 < (0 : Int32) → am_kd h a0 = 10 ∧ (i2 < (am_gi h a0 6) → (i1 = (2 : Int32) → am_kd h a0 = 10 ∧ ∃ b9, am_gr h a0 3 = some b9 ∧ (am_kd h b9 = 102 ∨ am_kd h b9 = 103) ∧ am_in i2 (am_ln h b9) ∧ am_kd h a0 = 10 ∧ Cl d 90 [.ref a0, .int (am_gi h b9 (Int32.toNatClampNeg i2))] h (fun r14 h13 => ∃ x16, r14 = some (.int x16) ∧ Q (some (.int x16)) h13)) ∧ (i1 = (3 : Int32) → am_kd h a0 = 10 ∧ ∃ b19, am_gr h a0 4 = some b19 ∧ am_kd h b19 = 101 ∧ am_in i2 (am_ln h b19) ∧ am_kd h a0 = 10 ∧ Cl d 90 [.ref a0, .int (Int64.toInt32 (am_gl h b19 (Int32.toNatClampNeg i2)))] h (fun r24 h23 => ∃ x26, r24 = some (.int x26) ∧ Q (some (.int x26)) h23)) ∧ (¬ i1 = (2 : Int32) ∧ ¬ i1 = (3 : Int32) → am_kd h a0 = 10 ∧ am_kd h a0 = 10 ∧ Cl d 90 [.ref a0, .int (((am_gi h a0 5) >>> (i2 &&& 31)) &&& (1 : Int32))] h (fun r30 h29 => ∃ x32, r30 = some (.int x32) ∧ Q (some (.int x32)) h29))) ∧ (¬ i2 < (am_gi h a0 6) → am_kd h a0 = 10 ∧ Cl d 89 [.ref a0, .int (12 : Int32)] h (fun r34 h33 => ∃ x36, r34 = some (.int x36) ∧ Q (some (.int x36)) h33)))) ∧ (¬ (am_gi h a0 0) = i1 → am_kd h a0 = 10 ∧ Cl d 89 [.ref a0, .int (11 : Int32)] h (fun r38 h37 => ∃ x40, r38 = some (.int x40) ∧ Q (some (.int x40)) h37))) ∧ (¬ (¬ (am_gi h a0 0) = (0 : Int32)) → am_kd h a0 = 10 ∧ Cl d 89 [.ref a0, .int (10 : Int32)] h (fun r42 h41 => ∃ x44, r42 = some (.int x44) ∧ Q (some (.int x44)) h41))) : Cl (d + 1) 94 [.ref a0, .int i1, .int i2] h Q := by
  show Ev (d + 1) 94 0 [.ref a0, .int i1, .int i2] [] h Q
  refine ev_p (pc' := 1) (loc' := [.ref a0, .int i1, .int i2]) (st' := [.ref a0]) 1 am_q94 rfl ?_
  obtain ⟨g1, H⟩ := H
  refine ev_s (pc' := 4) (loc' := [.ref a0, .int i1, .int i2]) (st' := [.int (am_gi h a0 0)]) (h1 := h) am_q94 rfl rfl rfl (if_pos (e := none) g1) ?_
  refine ev_jz (t := 14) am_q94 rfl rfl (fun hq => ?_) (fun hq => ?_)
  · replace H := H.1 hq
    refine ev_p (pc' := 15) (loc' := [.ref a0, .int i1, .int i2]) (st' := [.ref a0]) 1 am_q94 rfl ?_
    obtain ⟨g2, H⟩ := H
    refine ev_s (pc' := 18) (loc' := [.ref a0, .int i1, .int i2]) (st' := [.int (am_gi h a0 0)]) (h1 := h) am_q94 rfl rfl rfl (if_pos (e := none) g2) ?_
    refine ev_p (pc' := 19) (loc' := [.ref a0, .int i1, .int i2]) (st' := [.int i1, .int (am_gi h a0 0)]) 1 am_q94 rfl ?_
    refine ev_jc (t := 29) am_q94 rfl rfl (fun hq => ?_) (fun hq => ?_)
    · replace H := H.1 hq
      refine ev_p (pc' := 30) (loc' := [.ref a0, .int i1, .int i2]) (st' := [.int i2]) 1 am_q94 rfl ?_
      refine ev_jz (t := 41) am_q94 rfl rfl (fun hq => ?_) (fun hq => ?_)
      · replace H := H.1 hq
        refine ev_p (pc' := 44) (loc' := [.ref a0, .null, .null]) (st' := [.int (12 : Int32), .ref a0]) 2 am_q94 rfl ?_
        obtain ⟨g5, H⟩ := H
        refine ev_c (vs := [.ref a0, .int (12 : Int32)]) (rest := []) 89 am_q94 rfl rfl rfl rfl rfl rfl rfl rfl rfl rfl rfl rfl (Or.inr (congrArg some g5)) (Cl.mono H (Nat.le_refl _) (fun r4 h3 H => ?_))
        obtain ⟨x6, rfl, H⟩ := H
        exact ev_r (v := some (.int x6)) am_q94 rfl rfl rfl rfl H
      · replace H := H.2 hq
        refine ev_p (pc' := 35) (loc' := [.ref a0, .int i1, .int i2]) (st' := [.ref a0, .int i2]) 2 am_q94 rfl ?_
        obtain ⟨g7, H⟩ := H
        refine ev_s (pc' := 38) (loc' := [.ref a0, .int i1, .int i2]) (st' := [.int (am_gi h a0 6), .int i2]) (h1 := h) am_q94 rfl rfl rfl (if_pos (e := none) g7) ?_
        refine ev_jc (t := 48) am_q94 rfl rfl (fun hq => ?_) (fun hq => ?_)
        · replace H := H.1 hq
          refine ev_p (pc' := 49) (loc' := [.ref a0, .int i1, .int i2]) (st' := [.int i1]) 1 am_q94 rfl ?_
          by_cases k17 : i1 = (2 : Int32)
          · replace H := H.1 k17
            refine ev_s (pc' := 76) (loc' := [.ref a0, .int i1, .int i2]) (st' := []) (h1 := h) am_q94 rfl rfl rfl (by rw [k17]; rfl) ?_
            refine ev_p (pc' := 78) (loc' := [.ref a0, .int i1, .int i2]) (st' := [.ref a0, .ref a0]) 2 am_q94 rfl ?_
            obtain ⟨g8, b9, e10, H⟩ := H
            refine ev_s (pc' := 81) (loc' := [.ref a0, .int i1, .int i2]) (st' := [.ref b9, .ref a0]) (h1 := h) am_q94 rfl rfl rfl (am_gf2 g8 e10) ?_
            refine ev_p (pc' := 82) (loc' := [.ref a0, .int i1, .int i2]) (st' := [.int i2, .ref b9, .ref a0]) 1 am_q94 rfl ?_
            obtain ⟨g11, g12, H⟩ := H
            refine ev_s (pc' := 83) (loc' := [.ref a0, .int i1, .int i2]) (st' := [.int (am_gi h b9 (Int32.toNatClampNeg i2)), .ref a0]) (h1 := h) am_q94 rfl rfl rfl (am_xx g11 g12) ?_
            obtain ⟨g15, H⟩ := H
            refine ev_c (vs := [.ref a0, .int (am_gi h b9 (Int32.toNatClampNeg i2))]) (rest := []) 90 am_q94 rfl rfl rfl rfl rfl rfl rfl rfl rfl rfl rfl rfl (Or.inr (congrArg some g15)) (Cl.mono H (Nat.le_refl _) (fun r14 h13 H => ?_))
            obtain ⟨x16, rfl, H⟩ := H
            exact ev_r (v := some (.int x16)) am_q94 rfl rfl rfl rfl H
          replace H := H.2
          by_cases k27 : i1 = (3 : Int32)
          · replace H := H.1 k27
            refine ev_s (pc' := 87) (loc' := [.ref a0, .int i1, .int i2]) (st' := []) (h1 := h) am_q94 rfl rfl rfl (by rw [k27]; rfl) ?_
            refine ev_p (pc' := 89) (loc' := [.ref a0, .int i1, .int i2]) (st' := [.ref a0, .ref a0]) 2 am_q94 rfl ?_
            obtain ⟨g18, b19, e20, H⟩ := H
            refine ev_s (pc' := 92) (loc' := [.ref a0, .int i1, .int i2]) (st' := [.ref b19, .ref a0]) (h1 := h) am_q94 rfl rfl rfl (am_gf2 g18 e20) ?_
            refine ev_p (pc' := 93) (loc' := [.ref a0, .int i1, .int i2]) (st' := [.int i2, .ref b19, .ref a0]) 1 am_q94 rfl ?_
            obtain ⟨g21, g22, H⟩ := H
            refine ev_s (pc' := 94) (loc' := [.ref a0, .int i1, .int i2]) (st' := [.long (am_gl h b19 (Int32.toNatClampNeg i2)), .ref a0]) (h1 := h) am_q94 rfl rfl rfl (am_xx g21 g22) ?_
            refine ev_p (pc' := 95) (loc' := [.ref a0, .int i1, .int i2]) (st' := [.int (Int64.toInt32 (am_gl h b19 (Int32.toNatClampNeg i2))), .ref a0]) 1 am_q94 rfl ?_
            obtain ⟨g25, H⟩ := H
            refine ev_c (vs := [.ref a0, .int (Int64.toInt32 (am_gl h b19 (Int32.toNatClampNeg i2)))]) (rest := []) 90 am_q94 rfl rfl rfl rfl rfl rfl rfl rfl rfl rfl rfl rfl (Or.inr (congrArg some g25)) (Cl.mono H (Nat.le_refl _) (fun r24 h23 H => ?_))
            obtain ⟨x26, rfl, H⟩ := H
            exact ev_r (v := some (.int x26)) am_q94 rfl rfl rfl rfl H
          replace H := H.2
          replace H := H ⟨k17, k27⟩
          refine ev_s (pc' := 99) (loc' := [.ref a0, .int i1, .int i2]) (st' := []) (h1 := h) am_q94 rfl rfl rfl (by have z0 : (i1).toInt ≠ 2 := am_tn k17 (by decide); have z1 : (i1).toInt ≠ 3 := am_tn k27 (by decide); show some (am_tgt 49 (Op.lookupswitch.offset [(2, 27), (3, 38)] 50 (i1).toInt), _, _, _) = _; rw [show Op.lookupswitch.offset [(2, 27), (3, 38)] 50 (i1).toInt = 50 by simp [Op.lookupswitch.offset, Ne.symm z0, z0, Ne.symm z1, z1]]; rfl) ?_
          refine ev_p (pc' := 101) (loc' := [.ref a0, .int i1, .int i2]) (st' := [.ref a0, .ref a0]) 2 am_q94 rfl ?_
          obtain ⟨g28, H⟩ := H
          refine ev_s (pc' := 104) (loc' := [.ref a0, .int i1, .int i2]) (st' := [.int (am_gi h a0 5), .ref a0]) (h1 := h) am_q94 rfl rfl rfl (if_pos (e := none) g28) ?_
          refine ev_p (pc' := 108) (loc' := [.ref a0, .int i1, .int i2]) (st' := [.int (((am_gi h a0 5) >>> (i2 &&& 31)) &&& (1 : Int32)), .ref a0]) 4 am_q94 rfl ?_
          obtain ⟨g31, H⟩ := H
          refine ev_c (vs := [.ref a0, .int (((am_gi h a0 5) >>> (i2 &&& 31)) &&& (1 : Int32))]) (rest := []) 90 am_q94 rfl rfl rfl rfl rfl rfl rfl rfl rfl rfl rfl rfl (Or.inr (congrArg some g31)) (Cl.mono H (Nat.le_refl _) (fun r30 h29 H => ?_))
          obtain ⟨x32, rfl, H⟩ := H
          exact ev_r (v := some (.int x32)) am_q94 rfl rfl rfl rfl H
        · replace H := H.2 hq
          refine ev_p (pc' := 44) (loc' := [.ref a0, .null, .null]) (st' := [.int (12 : Int32), .ref a0]) 2 am_q94 rfl ?_
          obtain ⟨g35, H⟩ := H
          refine ev_c (vs := [.ref a0, .int (12 : Int32)]) (rest := []) 89 am_q94 rfl rfl rfl rfl rfl rfl rfl rfl rfl rfl rfl rfl (Or.inr (congrArg some g35)) (Cl.mono H (Nat.le_refl _) (fun r34 h33 H => ?_))
          obtain ⟨x36, rfl, H⟩ := H
          exact ev_r (v := some (.int x36)) am_q94 rfl rfl rfl rfl H
    · replace H := H.2 hq
      refine ev_p (pc' := 25) (loc' := [.ref a0, .int i1, .int i2]) (st' := [.int (11 : Int32), .ref a0]) 2 am_q94 rfl ?_
      obtain ⟨g39, H⟩ := H
      refine ev_c (vs := [.ref a0, .int (11 : Int32)]) (rest := []) 89 am_q94 rfl rfl rfl rfl rfl rfl rfl rfl rfl rfl rfl rfl (Or.inr (congrArg some g39)) (Cl.mono H (Nat.le_refl _) (fun r38 h37 H => ?_))
      obtain ⟨x40, rfl, H⟩ := H
      exact ev_r (v := some (.int x40)) am_q94 rfl rfl rfl rfl H
  · replace H := H.2 hq
    refine ev_p (pc' := 10) (loc' := [.ref a0, .int i1, .int i2]) (st' := [.int (10 : Int32), .ref a0]) 2 am_q94 rfl ?_
    obtain ⟨g43, H⟩ := H
    refine ev_c (vs := [.ref a0, .int (10 : Int32)]) (rest := []) 89 am_q94 rfl rfl rfl rfl rfl rfl rfl rfl rfl rfl rfl rfl (Or.inr (congrArg some g43)) (Cl.mono H (Nat.le_refl _) (fun r42 h41 H => ?_))
    obtain ⟨x44, rfl, H⟩ := H
    exact ev_r (v := some (.int x44)) am_q94 rfl rfl rfl rfl H
/-! 95: X10_sumOfCopy -/
theorem am_q95 : (am_mt 95).2.2.2.2.2 = am_m95.2.2.2.2.2 := rfl
set_option maxRecDepth 20000 in
set_option maxHeartbeats 2000000 in
theorem wp95 {d : Nat} (a0 : Nat) (i1 : Int32) {h : AH} {Q : Option Value → AH → Prop} (H : am_kd h a0 = 10 ∧ ((¬ (am_gi h a0 0) = (0 : Int32)) → am_kd h a0 = 10 ∧ ((am_gi h a0 0) = (2 : Int32) → (i1 < (0 : Int32) → am_kd h a0 = 10 ∧ Cl d 89 [.ref a0, .int (12 : Int32)] h (fun r4 h3 => ∃ x6, r4 = some (.int x6) ∧ Q (some (.int x6)) h3)) ∧ (¬ i1 < (0 : Int32) → am_kd h a0 = 10 ∧ ((am_gi h a0 6) < ((1 : Int32) + i1) → am_kd h a0 = 10 ∧ Cl d 89 [.ref a0, .int (12 : Int32)] h (fun r9 h8 => ∃ x11, r9 = some (.int x11) ∧ Q (some (.int x11)) h8)) ∧ (¬ (am_gi h a0 6) < ((1 : Int32) + i1) → ((i1 + i1) ≤ (9 : Int32) → Ev (d + 1) 95 62 [.ref a0, .int i1, .int (0 : Int32), .int (1 : Int32)] [] h Q) ∧ (¬ (i1 + i1) ≤ (9 : Int32) → am_kd h a0 = 10 ∧ Cl d 89 [.ref a0, .int (12 : Int32)] h (fun r13 h12 => ∃ x15, r13 = some (.int x15) ∧ Q (some (.int x15)) h12))))) ∧ (¬ (am_gi h a0 0) = (2 : Int32) → am_kd h a0 = 10 ∧ Cl d 89 [.ref a0, .int (11 : Int32)] h (fun r17 h16 => ∃ x19, r17 = some (.int x19) ∧ Q (some (.int x19)) h16))) ∧ (¬ (¬ (am_gi h a0 0) = (0 : Int32)) → am_kd h a0 = 10 ∧ Cl d 89 [.ref a0, .int (10 : Int32)] h (fun r21 h20 => ∃ x23, r21 = some (.int x23) ∧ Q (some (.int x23)) h20))) : Cl (d + 1) 95 [.ref a0, .int i1] h Q := by
  show Ev (d + 1) 95 0 [.ref a0, .int i1, .null, .null] [] h Q
  refine ev_p (pc' := 1) (loc' := [.ref a0, .int i1, .null, .null]) (st' := [.ref a0]) 1 am_q95 rfl ?_
  obtain ⟨g1, H⟩ := H
  refine ev_s (pc' := 4) (loc' := [.ref a0, .int i1, .null, .null]) (st' := [.int (am_gi h a0 0)]) (h1 := h) am_q95 rfl rfl rfl (if_pos (e := none) g1) ?_
  refine ev_jz (t := 14) am_q95 rfl rfl (fun hq => ?_) (fun hq => ?_)
  · replace H := H.1 hq
    refine ev_p (pc' := 15) (loc' := [.ref a0, .int i1, .null, .null]) (st' := [.ref a0]) 1 am_q95 rfl ?_
    obtain ⟨g2, H⟩ := H
    refine ev_s (pc' := 18) (loc' := [.ref a0, .int i1, .null, .null]) (st' := [.int (am_gi h a0 0)]) (h1 := h) am_q95 rfl rfl rfl (if_pos (e := none) g2) ?_
    refine ev_p (pc' := 19) (loc' := [.ref a0, .int i1, .null, .null]) (st' := [.int (2 : Int32), .int (am_gi h a0 0)]) 1 am_q95 rfl ?_
    refine ev_jc (t := 29) am_q95 rfl rfl (fun hq => ?_) (fun hq => ?_)
    · replace H := H.1 hq
      refine ev_p (pc' := 30) (loc' := [.ref a0, .int i1, .null, .null]) (st' := [.int i1]) 1 am_q95 rfl ?_
      refine ev_jz (t := 51) am_q95 rfl rfl (fun hq => ?_) (fun hq => ?_)
      · replace H := H.1 hq
        refine ev_p (pc' := 54) (loc' := [.ref a0, .null, .null, .null]) (st' := [.int (12 : Int32), .ref a0]) 2 am_q95 rfl ?_
        obtain ⟨g5, H⟩ := H
        refine ev_c (vs := [.ref a0, .int (12 : Int32)]) (rest := []) 89 am_q95 rfl rfl rfl rfl rfl rfl rfl rfl rfl rfl rfl rfl (Or.inr (congrArg some g5)) (Cl.mono H (Nat.le_refl _) (fun r4 h3 H => ?_))
        obtain ⟨x6, rfl, H⟩ := H
        exact ev_r (v := some (.int x6)) am_q95 rfl rfl rfl rfl H
      · replace H := H.2 hq
        refine ev_p (pc' := 37) (loc' := [.ref a0, .int i1, .null, .null]) (st' := [.ref a0, .int ((1 : Int32) + i1)]) 4 am_q95 rfl ?_
        obtain ⟨g7, H⟩ := H
        refine ev_s (pc' := 40) (loc' := [.ref a0, .int i1, .null, .null]) (st' := [.int (am_gi h a0 6), .int ((1 : Int32) + i1)]) (h1 := h) am_q95 rfl rfl rfl (if_pos (e := none) g7) ?_
        refine ev_jc (t := 51) am_q95 rfl rfl (fun hq => ?_) (fun hq => ?_)
        · replace H := H.1 hq
          refine ev_p (pc' := 54) (loc' := [.ref a0, .null, .null, .null]) (st' := [.int (12 : Int32), .ref a0]) 2 am_q95 rfl ?_
          obtain ⟨g10, H⟩ := H
          refine ev_c (vs := [.ref a0, .int (12 : Int32)]) (rest := []) 89 am_q95 rfl rfl rfl rfl rfl rfl rfl rfl rfl rfl rfl rfl (Or.inr (congrArg some g10)) (Cl.mono H (Nat.le_refl _) (fun r9 h8 H => ?_))
          obtain ⟨x11, rfl, H⟩ := H
          exact ev_r (v := some (.int x11)) am_q95 rfl rfl rfl rfl H
        · replace H := H.2 hq
          refine ev_p (pc' := 48) (loc' := [.ref a0, .int i1, .null, .null]) (st' := [.int (9 : Int32), .int (i1 + i1)]) 4 am_q95 rfl ?_
          refine ev_jc (t := 58) am_q95 rfl rfl (fun hq => ?_) (fun hq => ?_)
          · replace H := H.1 hq
            refine ev_p (pc' := 62) (loc' := [.ref a0, .int i1, .int (0 : Int32), .int (1 : Int32)]) (st' := []) 4 am_q95 rfl ?_
            exact ev_m (loc' := [.ref a0, .int i1, .int (0 : Int32), .int (1 : Int32)]) am_q95 rfl rfl H
          · replace H := H.2 hq
            refine ev_p (pc' := 54) (loc' := [.ref a0, .null, .null, .null]) (st' := [.int (12 : Int32), .ref a0]) 2 am_q95 rfl ?_
            obtain ⟨g14, H⟩ := H
            refine ev_c (vs := [.ref a0, .int (12 : Int32)]) (rest := []) 89 am_q95 rfl rfl rfl rfl rfl rfl rfl rfl rfl rfl rfl rfl (Or.inr (congrArg some g14)) (Cl.mono H (Nat.le_refl _) (fun r13 h12 H => ?_))
            obtain ⟨x15, rfl, H⟩ := H
            exact ev_r (v := some (.int x15)) am_q95 rfl rfl rfl rfl H
    · replace H := H.2 hq
      refine ev_p (pc' := 25) (loc' := [.ref a0, .int i1, .null, .null]) (st' := [.int (11 : Int32), .ref a0]) 2 am_q95 rfl ?_
      obtain ⟨g18, H⟩ := H
      refine ev_c (vs := [.ref a0, .int (11 : Int32)]) (rest := []) 89 am_q95 rfl rfl rfl rfl rfl rfl rfl rfl rfl rfl rfl rfl (Or.inr (congrArg some g18)) (Cl.mono H (Nat.le_refl _) (fun r17 h16 H => ?_))
      obtain ⟨x19, rfl, H⟩ := H
      exact ev_r (v := some (.int x19)) am_q95 rfl rfl rfl rfl H
  · replace H := H.2 hq
    refine ev_p (pc' := 10) (loc' := [.ref a0, .int i1, .null, .null]) (st' := [.int (10 : Int32), .ref a0]) 2 am_q95 rfl ?_
    obtain ⟨g22, H⟩ := H
    refine ev_c (vs := [.ref a0, .int (10 : Int32)]) (rest := []) 89 am_q95 rfl rfl rfl rfl rfl rfl rfl rfl rfl rfl rfl rfl (Or.inr (congrArg some g22)) (Cl.mono H (Nat.le_refl _) (fun r21 h20 H => ?_))
    obtain ⟨x23, rfl, H⟩ := H
    exact ev_r (v := some (.int x23)) am_q95 rfl rfl rfl rfl H
set_option maxRecDepth 20000 in
set_option maxHeartbeats 2000000 in
theorem wp95_62 {d : Nat} (a0 : Nat) (i1 : Int32) (i2 : Int32) (i3 : Int32) {h : AH} {Q : Option Value → AH → Prop} (H : (i1 < i3 → am_kd h a0 = 10 ∧ Cl d 90 [.ref a0, .int i2] h (fun r2 h1 => ∃ x4, r2 = some (.int x4) ∧ Q (some (.int x4)) h1)) ∧ (¬ i1 < i3 → am_kd h a0 = 10 ∧ ∃ b6, am_gr h a0 3 = some b6 ∧ (am_kd h b6 = 102 ∨ am_kd h b6 = 103) ∧ am_in i3 (am_ln h b6) ∧ Ev (d + 1) 95 62 [.ref a0, .int i1, .int (i2 + (am_gi h b6 (Int32.toNatClampNeg i3))), .int (i3 + (1 : Int32))] [] h Q)) : Ev (d + 1) 95 62 [.ref a0, .int i1, .int i2, .int i3] [] h Q := by
  refine ev_p (pc' := 64) (loc' := [.ref a0, .int i1, .int i2, .int i3]) (st' := [.int i1, .int i3]) 2 am_q95 rfl ?_
  refine ev_jc (t := 82) am_q95 rfl rfl (fun hq => ?_) (fun hq => ?_)
  · replace H := H.1 hq
    refine ev_p (pc' := 84) (loc' := [.ref a0, .int i1, .int i2, .int i3]) (st' := [.int i2, .ref a0]) 2 am_q95 rfl ?_
    obtain ⟨g3, H⟩ := H
    refine ev_c (vs := [.ref a0, .int i2]) (rest := []) 90 am_q95 rfl rfl rfl rfl rfl rfl rfl rfl rfl rfl rfl rfl (Or.inr (congrArg some g3)) (Cl.mono H (Nat.le_refl _) (fun r2 h1 H => ?_))
    obtain ⟨x4, rfl, H⟩ := H
    exact ev_r (v := some (.int x4)) am_q95 rfl rfl rfl rfl H
  · replace H := H.2 hq
    refine ev_p (pc' := 69) (loc' := [.ref a0, .int i1, .int i2, .int i3]) (st' := [.ref a0, .int i2]) 2 am_q95 rfl ?_
    obtain ⟨g5, b6, e7, H⟩ := H
    refine ev_s (pc' := 72) (loc' := [.ref a0, .int i1, .int i2, .int i3]) (st' := [.ref b6, .int i2]) (h1 := h) am_q95 rfl rfl rfl (am_gf2 g5 e7) ?_
    refine ev_p (pc' := 73) (loc' := [.ref a0, .int i1, .int i2, .int i3]) (st' := [.int i3, .ref b6, .int i2]) 1 am_q95 rfl ?_
    obtain ⟨g8, g9, H⟩ := H
    refine ev_s (pc' := 74) (loc' := [.ref a0, .int i1, .int i2, .int i3]) (st' := [.int (am_gi h b6 (Int32.toNatClampNeg i3)), .int i2]) (h1 := h) am_q95 rfl rfl rfl (am_xx g8 g9) ?_
    refine ev_p (pc' := 62) (loc' := [.ref a0, .int i1, .int (i2 + (am_gi h b6 (Int32.toNatClampNeg i3))), .int (i3 + (1 : Int32))]) (st' := []) 4 am_q95 rfl ?_
    exact ev_m (loc' := [.ref a0, .int i1, .int (i2 + (am_gi h b6 (Int32.toNatClampNeg i3))), .int (i3 + (1 : Int32))]) am_q95 rfl rfl H
