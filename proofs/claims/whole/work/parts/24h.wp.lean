/-! 216: X12_feed -/
theorem am_q216 : (am_mt 216).2.2.2.2.2 = am_m216.2.2.2.2.2 := rfl
set_option maxRecDepth 20000 in
set_option maxHeartbeats 2000000 in
theorem wp216 {d : Nat} (a0 : Nat) (i1 : Int32) (l2 : Int64) {h : AH} {Q : Option Value → AH → Prop} (H : Cl d 167 [.int i1, .int (1 : Int32), .int (8 : Int32)] h (fun r2 h1 => ∃ x3, r2 = some (.int x3) ∧ ((¬ x3 = (0 : Int32)) → am_kd h1 a0 = 12 ∧ (((am_gi h1 a0 22) + i1) ≤ (400 : Int32) → Ev (d + 1) 216 31 [.ref a0, .int i1, .long l2, .null, .int (0 : Int32)] [] h1 Q) ∧ (¬ ((am_gi h1 a0 22) + i1) ≤ (400 : Int32) → Q (some (.int (-4 : Int32))) h1)) ∧ (¬ (¬ x3 = (0 : Int32)) → Q (some (.int (-2 : Int32))) h1))) : Cl (d + 1) 216 [.ref a0, .int i1, .long l2] h Q := by
  show Ev (d + 1) 216 0 [.ref a0, .int i1, .long l2, .null, .null] [] h Q
  refine ev_p (pc' := 4) (loc' := [.ref a0, .int i1, .long l2, .null, .null]) (st' := [.int (8 : Int32), .int (1 : Int32), .int i1]) 3 am_q216 rfl ?_
  refine ev_c (vs := [.int i1, .int (1 : Int32), .int (8 : Int32)]) (rest := []) 167 am_q216 rfl rfl rfl rfl rfl rfl rfl rfl rfl rfl rfl rfl (Or.inl rfl) (Cl.mono H (Nat.le_refl _) (fun r2 h1 H => ?_))
  obtain ⟨x3, rfl, H⟩ := H
  refine ev_jz (t := 13) am_q216 rfl rfl (fun hq => ?_) (fun hq => ?_)
  · replace H := H.1 hq
    refine ev_p (pc' := 14) (loc' := [.ref a0, .int i1, .long l2, .null, .null]) (st' := [.ref a0]) 1 am_q216 rfl ?_
    obtain ⟨g4, H⟩ := H
    refine ev_s (pc' := 17) (loc' := [.ref a0, .int i1, .long l2, .null, .null]) (st' := [.int (am_gi h1 a0 22)]) (h1 := h1) am_q216 rfl rfl rfl (if_pos (e := none) g4) ?_
    refine ev_p (pc' := 22) (loc' := [.ref a0, .int i1, .long l2, .null, .null]) (st' := [.int (400 : Int32), .int ((am_gi h1 a0 22) + i1)]) 3 am_q216 rfl ?_
    refine ev_jc (t := 28) am_q216 rfl rfl (fun hq => ?_) (fun hq => ?_)
    · replace H := H.1 hq
      refine ev_p (pc' := 31) (loc' := [.ref a0, .int i1, .long l2, .null, .int (0 : Int32)]) (st' := []) 2 am_q216 rfl ?_
      exact ev_m (loc' := [.ref a0, .int i1, .long l2, .null, .int (0 : Int32)]) am_q216 rfl rfl H
    · replace H := H.2 hq
      refine ev_p (pc' := 27) (loc' := [.ref a0, .int i1, .long l2, .null, .null]) (st' := [.int (-4 : Int32)]) 1 am_q216 rfl ?_
      exact ev_r (v := some (.int (-4 : Int32))) am_q216 rfl rfl rfl rfl H
  · replace H := H.2 hq
    refine ev_p (pc' := 12) (loc' := [.ref a0, .int i1, .long l2, .null, .null]) (st' := [.int (-2 : Int32)]) 1 am_q216 rfl ?_
    exact ev_r (v := some (.int (-2 : Int32))) am_q216 rfl rfl rfl rfl H
set_option maxRecDepth 20000 in
set_option maxHeartbeats 2000000 in
theorem wp216_31 {d : Nat} (a0 : Nat) (i1 : Int32) (l2 : Int64) (i4 : Int32) {h : AH} {Q : Option Value → AH → Prop} (H : (i1 ≤ i4 → am_kd h a0 = 12 ∧ Q (some (.int (am_gi h a0 22))) h) ∧ (¬ i1 ≤ i4 → am_kd h a0 = 12 ∧ ∃ b3, am_gr h a0 21 = some b3 ∧ am_kd h a0 = 12 ∧ (am_kd h b3 = 100 ∧ 6 ≤ b3) ∧ am_in (am_gi h a0 22) (am_ln h b3) ∧ ∀ h8, h8 = am_si h b3 (Int32.toNatClampNeg (am_gi h a0 22)) (Int64.toInt32 ((l2 >>> (Int32.toInt64 ((8 : Int32) * i4) &&& 63)) &&& (255 : Int64))) → am_kd h8 a0 = 12 ∧ am_kd h8 a0 = 12 ∧ ∀ h11, h11 = am_si h8 a0 22 ((am_gi h8 a0 22) + (1 : Int32)) → Ev (d + 1) 216 31 [.ref a0, .int i1, .long l2, .null, .int (i4 + (1 : Int32))] [] h11 Q)) : Ev (d + 1) 216 31 [.ref a0, .int i1, .long l2, .null, .int i4] [] h Q := by
  refine ev_p (pc' := 34) (loc' := [.ref a0, .int i1, .long l2, .null, .int i4]) (st' := [.int i1, .int i4]) 2 am_q216 rfl ?_
  refine ev_jc (t := 74) am_q216 rfl rfl (fun hq => ?_) (fun hq => ?_)
  · replace H := H.1 hq
    refine ev_p (pc' := 75) (loc' := [.ref a0, .int i1, .long l2, .null, .int i4]) (st' := [.ref a0]) 1 am_q216 rfl ?_
    obtain ⟨g1, H⟩ := H
    refine ev_s (pc' := 78) (loc' := [.ref a0, .int i1, .long l2, .null, .int i4]) (st' := [.int (am_gi h a0 22)]) (h1 := h) am_q216 rfl rfl rfl (if_pos (e := none) g1) ?_
    exact ev_r (v := some (.int (am_gi h a0 22))) am_q216 rfl rfl rfl rfl H
  · replace H := H.2 hq
    refine ev_p (pc' := 38) (loc' := [.ref a0, .int i1, .long l2, .null, .int i4]) (st' := [.ref a0]) 1 am_q216 rfl ?_
    obtain ⟨g2, b3, e4, H⟩ := H
    refine ev_s (pc' := 41) (loc' := [.ref a0, .int i1, .long l2, .null, .int i4]) (st' := [.ref b3]) (h1 := h) am_q216 rfl rfl rfl (am_gf2 g2 e4) ?_
    refine ev_p (pc' := 42) (loc' := [.ref a0, .int i1, .long l2, .null, .int i4]) (st' := [.ref a0, .ref b3]) 1 am_q216 rfl ?_
    obtain ⟨g5, H⟩ := H
    refine ev_s (pc' := 45) (loc' := [.ref a0, .int i1, .long l2, .null, .int i4]) (st' := [.int (am_gi h a0 22), .ref b3]) (h1 := h) am_q216 rfl rfl rfl (if_pos (e := none) g5) ?_
    refine ev_p (pc' := 57) (loc' := [.ref a0, .int i1, .long l2, .null, .int i4]) (st' := [.int (Int64.toInt32 ((l2 >>> (Int32.toInt64 ((8 : Int32) * i4) &&& 63)) &&& (255 : Int64))), .int (am_gi h a0 22), .ref b3]) 8 am_q216 rfl ?_
    obtain ⟨g6, g7, H⟩ := H
    refine ev_s (pc' := 58) (loc' := [.ref a0, .int i1, .long l2, .null, .int i4]) (st' := []) (h1 := am_si h b3 (Int32.toNatClampNeg (am_gi h a0 22)) (Int64.toInt32 ((l2 >>> (Int32.toInt64 ((8 : Int32) * i4) &&& 63)) &&& (255 : Int64)))) am_q216 rfl rfl rfl (am_xx g6 g7) ?_
    replace H := H _ rfl
    generalize am_si h b3 (Int32.toNatClampNeg (am_gi h a0 22)) (Int64.toInt32 ((l2 >>> (Int32.toInt64 ((8 : Int32) * i4) &&& 63)) &&& (255 : Int64))) = h8 at H ⊢
    refine ev_p (pc' := 60) (loc' := [.ref a0, .int i1, .long l2, .null, .int i4]) (st' := [.ref a0, .ref a0]) 2 am_q216 rfl ?_
    obtain ⟨g9, H⟩ := H
    refine ev_s (pc' := 63) (loc' := [.ref a0, .int i1, .long l2, .null, .int i4]) (st' := [.int (am_gi h8 a0 22), .ref a0]) (h1 := h8) am_q216 rfl rfl rfl (if_pos (e := none) g9) ?_
    refine ev_p (pc' := 65) (loc' := [.ref a0, .int i1, .long l2, .null, .int i4]) (st' := [.int ((am_gi h8 a0 22) + (1 : Int32)), .ref a0]) 2 am_q216 rfl ?_
    obtain ⟨g10, H⟩ := H
    refine ev_s (pc' := 68) (loc' := [.ref a0, .int i1, .long l2, .null, .int i4]) (st' := []) (h1 := am_si h8 a0 22 ((am_gi h8 a0 22) + (1 : Int32))) am_q216 rfl rfl rfl (if_pos (e := none) g10) ?_
    replace H := H _ rfl
    generalize am_si h8 a0 22 ((am_gi h8 a0 22) + (1 : Int32)) = h11 at H ⊢
    refine ev_p (pc' := 31) (loc' := [.ref a0, .int i1, .long l2, .null, .int (i4 + (1 : Int32))]) (st' := []) 2 am_q216 rfl ?_
    exact ev_m (loc' := [.ref a0, .int i1, .long l2, .null, .int (i4 + (1 : Int32))]) am_q216 rfl rfl H
/-! 217: X12_propose -/
theorem am_q217 : (am_mt 217).2.2.2.2.2 = am_m217.2.2.2.2.2 := rfl
set_option maxRecDepth 20000 in
set_option maxHeartbeats 2000000 in
theorem wp217 {d : Nat} (a0 : Nat) {h : AH} {Q : Option Value → AH → Prop} (H : am_kd h a0 = 12 ∧ ((¬ (am_gi h a0 23) = (12 : Int32)) → am_kd h a0 = 12 ∧ Ev (d + 1) 217 19 [.ref a0, .int (am_gi h a0 23), .int (0 : Int32)] [] h Q) ∧ (¬ (¬ (am_gi h a0 23) = (12 : Int32)) → Q (some (.int (-4 : Int32))) h)) : Cl (d + 1) 217 [.ref a0] h Q := by
  show Ev (d + 1) 217 0 [.ref a0, .null, .null] [] h Q
  refine ev_p (pc' := 1) (loc' := [.ref a0, .null, .null]) (st' := [.ref a0]) 1 am_q217 rfl ?_
  obtain ⟨g1, H⟩ := H
  refine ev_s (pc' := 4) (loc' := [.ref a0, .null, .null]) (st' := [.int (am_gi h a0 23)]) (h1 := h) am_q217 rfl rfl rfl (if_pos (e := none) g1) ?_
  refine ev_p (pc' := 6) (loc' := [.ref a0, .null, .null]) (st' := [.int (12 : Int32), .int (am_gi h a0 23)]) 1 am_q217 rfl ?_
  refine ev_jc (t := 12) am_q217 rfl rfl (fun hq => ?_) (fun hq => ?_)
  · replace H := H.1 hq
    refine ev_p (pc' := 13) (loc' := [.ref a0, .null, .null]) (st' := [.ref a0]) 1 am_q217 rfl ?_
    obtain ⟨g2, H⟩ := H
    refine ev_s (pc' := 16) (loc' := [.ref a0, .null, .null]) (st' := [.int (am_gi h a0 23)]) (h1 := h) am_q217 rfl rfl rfl (if_pos (e := none) g2) ?_
    refine ev_p (pc' := 19) (loc' := [.ref a0, .int (am_gi h a0 23), .int (0 : Int32)]) (st' := []) 3 am_q217 rfl ?_
    exact ev_m (loc' := [.ref a0, .int (am_gi h a0 23), .int (0 : Int32)]) am_q217 rfl rfl H
  · replace H := H.2 hq
    refine ev_p (pc' := 11) (loc' := [.ref a0, .null, .null]) (st' := [.int (-4 : Int32)]) 1 am_q217 rfl ?_
    exact ev_r (v := some (.int (-4 : Int32))) am_q217 rfl rfl rfl rfl H
set_option maxRecDepth 20000 in
set_option maxHeartbeats 2000000 in
theorem wp217_19 {d : Nat} (a0 : Nat) (i1 : Int32) (i2 : Int32) {h : AH} {Q : Option Value → AH → Prop} (H : am_kd h a0 = 12 ∧ ((am_gi h a0 22) ≤ i2 → am_kd h a0 = 12 ∧ ∃ b3, am_gr h a0 24 = some b3 ∧ am_kd h a0 = 12 ∧ (am_kd h b3 = 100 ∧ 6 ≤ b3) ∧ am_in i1 (am_ln h b3) ∧ ∀ h8, h8 = am_si h b3 (Int32.toNatClampNeg i1) (am_gi h a0 22) → am_kd h8 a0 = 12 ∧ ∀ h10, h10 = am_si h8 a0 22 (0 : Int32) → am_kd h10 a0 = 12 ∧ Cl d 203 [.ref a0, .int i1] h10 (fun r12 h11 => r12 = none ∧ am_kd h11 a0 = 12 ∧ ((am_gi h11 a0 55) = (-1 : Int32) → am_kd h11 a0 = 12 ∧ ((am_gi h11 a0 56) = (-1 : Int32) → Ev (d + 1) 217 97 [.ref a0, .int i1, .null] [.int (0 : Int32), .ref a0] h11 Q) ∧ (¬ (am_gi h11 a0 56) = (-1 : Int32) → Ev (d + 1) 217 97 [.ref a0, .int i1, .null] [.int (2 : Int32), .ref a0] h11 Q)) ∧ (¬ (am_gi h11 a0 55) = (-1 : Int32) → Ev (d + 1) 217 97 [.ref a0, .int i1, .null] [.int (1 : Int32), .ref a0] h11 Q))) ∧ (¬ (am_gi h a0 22) ≤ i2 → am_kd h a0 = 12 ∧ ∃ b17, am_gr h a0 25 = some b17 ∧ am_kd h a0 = 12 ∧ ∃ b20, am_gr h a0 21 = some b20 ∧ am_kd h b20 = 100 ∧ am_in i2 (am_ln h b20) ∧ (am_kd h b17 = 100 ∧ 6 ≤ b17) ∧ am_in (((400 : Int32) * i1) + i2) (am_ln h b17) ∧ ∀ h26, h26 = am_si h b17 (Int32.toNatClampNeg (((400 : Int32) * i1) + i2)) (am_gi h b20 (Int32.toNatClampNeg i2)) → Ev (d + 1) 217 19 [.ref a0, .int i1, .int (i2 + (1 : Int32))] [] h26 Q)) : Ev (d + 1) 217 19 [.ref a0, .int i1, .int i2] [] h Q := by
  refine ev_p (pc' := 21) (loc' := [.ref a0, .int i1, .int i2]) (st' := [.ref a0, .int i2]) 2 am_q217 rfl ?_
  obtain ⟨g1, H⟩ := H
  refine ev_s (pc' := 24) (loc' := [.ref a0, .int i1, .int i2]) (st' := [.int (am_gi h a0 22), .int i2]) (h1 := h) am_q217 rfl rfl rfl (if_pos (e := none) g1) ?_
  refine ev_jc (t := 51) am_q217 rfl rfl (fun hq => ?_) (fun hq => ?_)
  · replace H := H.1 hq
    refine ev_p (pc' := 52) (loc' := [.ref a0, .int i1, .int i2]) (st' := [.ref a0]) 1 am_q217 rfl ?_
    obtain ⟨g2, b3, e4, H⟩ := H
    refine ev_s (pc' := 55) (loc' := [.ref a0, .int i1, .int i2]) (st' := [.ref b3]) (h1 := h) am_q217 rfl rfl rfl (am_gf2 g2 e4) ?_
    refine ev_p (pc' := 57) (loc' := [.ref a0, .int i1, .int i2]) (st' := [.ref a0, .int i1, .ref b3]) 2 am_q217 rfl ?_
    obtain ⟨g5, H⟩ := H
    refine ev_s (pc' := 60) (loc' := [.ref a0, .int i1, .int i2]) (st' := [.int (am_gi h a0 22), .int i1, .ref b3]) (h1 := h) am_q217 rfl rfl rfl (if_pos (e := none) g5) ?_
    obtain ⟨g6, g7, H⟩ := H
    refine ev_s (pc' := 61) (loc' := [.ref a0, .int i1, .int i2]) (st' := []) (h1 := am_si h b3 (Int32.toNatClampNeg i1) (am_gi h a0 22)) am_q217 rfl rfl rfl (am_xx g6 g7) ?_
    replace H := H _ rfl
    generalize am_si h b3 (Int32.toNatClampNeg i1) (am_gi h a0 22) = h8 at H ⊢
    refine ev_p (pc' := 63) (loc' := [.ref a0, .int i1, .int i2]) (st' := [.int (0 : Int32), .ref a0]) 2 am_q217 rfl ?_
    obtain ⟨g9, H⟩ := H
    refine ev_s (pc' := 66) (loc' := [.ref a0, .int i1, .int i2]) (st' := []) (h1 := am_si h8 a0 22 (0 : Int32)) am_q217 rfl rfl rfl (if_pos (e := none) g9) ?_
    replace H := H _ rfl
    generalize am_si h8 a0 22 (0 : Int32) = h10 at H ⊢
    refine ev_p (pc' := 68) (loc' := [.ref a0, .int i1, .int i2]) (st' := [.int i1, .ref a0]) 2 am_q217 rfl ?_
    obtain ⟨g13, H⟩ := H
    refine ev_c (vs := [.ref a0, .int i1]) (rest := []) 203 am_q217 rfl rfl rfl rfl rfl rfl rfl rfl rfl rfl rfl rfl (Or.inr (congrArg some g13)) (Cl.mono H (Nat.le_refl _) (fun r12 h11 H => ?_))
    obtain ⟨rfl, H⟩ := H
    refine ev_p (pc' := 73) (loc' := [.ref a0, .int i1, .int i2]) (st' := [.ref a0, .ref a0]) 2 am_q217 rfl ?_
    obtain ⟨g14, H⟩ := H
    refine ev_s (pc' := 76) (loc' := [.ref a0, .int i1, .int i2]) (st' := [.int (am_gi h11 a0 55), .ref a0]) (h1 := h11) am_q217 rfl rfl rfl (if_pos (e := none) g14) ?_
    refine ev_p (pc' := 77) (loc' := [.ref a0, .int i1, .int i2]) (st' := [.int (-1 : Int32), .int (am_gi h11 a0 55), .ref a0]) 1 am_q217 rfl ?_
    refine ev_jc (t := 84) am_q217 rfl rfl (fun hq => ?_) (fun hq => ?_)
    · replace H := H.1 hq
      refine ev_p (pc' := 85) (loc' := [.ref a0, .int i1, .int i2]) (st' := [.ref a0, .ref a0]) 1 am_q217 rfl ?_
      obtain ⟨g15, H⟩ := H
      refine ev_s (pc' := 88) (loc' := [.ref a0, .int i1, .int i2]) (st' := [.int (am_gi h11 a0 56), .ref a0]) (h1 := h11) am_q217 rfl rfl rfl (if_pos (e := none) g15) ?_
      refine ev_p (pc' := 89) (loc' := [.ref a0, .int i1, .int i2]) (st' := [.int (-1 : Int32), .int (am_gi h11 a0 56), .ref a0]) 1 am_q217 rfl ?_
      refine ev_jc (t := 96) am_q217 rfl rfl (fun hq => ?_) (fun hq => ?_)
      · replace H := H.1 hq
        refine ev_p (pc' := 97) (loc' := [.ref a0, .int i1, .int i2]) (st' := [.int (0 : Int32), .ref a0]) 1 am_q217 rfl ?_
        exact ev_m (loc' := [.ref a0, .int i1, .null]) am_q217 rfl rfl H
      · replace H := H.2 hq
        refine ev_p (pc' := 97) (loc' := [.ref a0, .int i1, .int i2]) (st' := [.int (2 : Int32), .ref a0]) 2 am_q217 rfl ?_
        exact ev_m (loc' := [.ref a0, .int i1, .null]) am_q217 rfl rfl H
    · replace H := H.2 hq
      refine ev_p (pc' := 97) (loc' := [.ref a0, .int i1, .int i2]) (st' := [.int (1 : Int32), .ref a0]) 2 am_q217 rfl ?_
      exact ev_m (loc' := [.ref a0, .int i1, .null]) am_q217 rfl rfl H
  · replace H := H.2 hq
    refine ev_p (pc' := 28) (loc' := [.ref a0, .int i1, .int i2]) (st' := [.ref a0]) 1 am_q217 rfl ?_
    obtain ⟨g16, b17, e18, H⟩ := H
    refine ev_s (pc' := 31) (loc' := [.ref a0, .int i1, .int i2]) (st' := [.ref b17]) (h1 := h) am_q217 rfl rfl rfl (am_gf2 g16 e18) ?_
    refine ev_p (pc' := 39) (loc' := [.ref a0, .int i1, .int i2]) (st' := [.ref a0, .int (((400 : Int32) * i1) + i2), .ref b17]) 6 am_q217 rfl ?_
    obtain ⟨g19, b20, e21, H⟩ := H
    refine ev_s (pc' := 42) (loc' := [.ref a0, .int i1, .int i2]) (st' := [.ref b20, .int (((400 : Int32) * i1) + i2), .ref b17]) (h1 := h) am_q217 rfl rfl rfl (am_gf2 g19 e21) ?_
    refine ev_p (pc' := 43) (loc' := [.ref a0, .int i1, .int i2]) (st' := [.int i2, .ref b20, .int (((400 : Int32) * i1) + i2), .ref b17]) 1 am_q217 rfl ?_
    obtain ⟨g22, g23, H⟩ := H
    refine ev_s (pc' := 44) (loc' := [.ref a0, .int i1, .int i2]) (st' := [.int (am_gi h b20 (Int32.toNatClampNeg i2)), .int (((400 : Int32) * i1) + i2), .ref b17]) (h1 := h) am_q217 rfl rfl rfl (am_xx g22 g23) ?_
    obtain ⟨g24, g25, H⟩ := H
    refine ev_s (pc' := 45) (loc' := [.ref a0, .int i1, .int i2]) (st' := []) (h1 := am_si h b17 (Int32.toNatClampNeg (((400 : Int32) * i1) + i2)) (am_gi h b20 (Int32.toNatClampNeg i2))) am_q217 rfl rfl rfl (am_xx g24 g25) ?_
    replace H := H _ rfl
    generalize am_si h b17 (Int32.toNatClampNeg (((400 : Int32) * i1) + i2)) (am_gi h b20 (Int32.toNatClampNeg i2)) = h26 at H ⊢
    refine ev_p (pc' := 19) (loc' := [.ref a0, .int i1, .int (i2 + (1 : Int32))]) (st' := []) 2 am_q217 rfl ?_
    exact ev_m (loc' := [.ref a0, .int i1, .int (i2 + (1 : Int32))]) am_q217 rfl rfl H
set_option maxRecDepth 20000 in
set_option maxHeartbeats 2000000 in
theorem wp217_97 {d : Nat} (a0 : Nat) (i1 : Int32) (s0 : Nat) (s1 : Int32) {h : AH} {Q : Option Value → AH → Prop} (H : am_kd h s0 = 12 ∧ ∀ h2, h2 = am_si h s0 37 s1 → am_kd h2 a0 = 12 ∧ ((am_gi h2 a0 55) = (-1 : Int32) → am_kd h2 a0 = 12 ∧ Ev (d + 1) 217 120 [.ref a0, .int i1, .null] [.int (am_gi h2 a0 56), .ref a0] h2 Q) ∧ (¬ (am_gi h2 a0 55) = (-1 : Int32) → am_kd h2 a0 = 12 ∧ Ev (d + 1) 217 120 [.ref a0, .int i1, .null] [.int (am_gi h2 a0 55), .ref a0] h2 Q)) : Ev (d + 1) 217 97 [.ref a0, .int i1, .null] [.int s1, .ref s0] h Q := by
  obtain ⟨g1, H⟩ := H
  refine ev_s (pc' := 100) (loc' := [.ref a0, .int i1, .null]) (st' := []) (h1 := am_si h s0 37 s1) am_q217 rfl rfl rfl (if_pos (e := none) g1) ?_
  replace H := H _ rfl
  generalize am_si h s0 37 s1 = h2 at H ⊢
  refine ev_p (pc' := 102) (loc' := [.ref a0, .int i1, .null]) (st' := [.ref a0, .ref a0]) 2 am_q217 rfl ?_
  obtain ⟨g3, H⟩ := H
  refine ev_s (pc' := 105) (loc' := [.ref a0, .int i1, .null]) (st' := [.int (am_gi h2 a0 55), .ref a0]) (h1 := h2) am_q217 rfl rfl rfl (if_pos (e := none) g3) ?_
  refine ev_p (pc' := 106) (loc' := [.ref a0, .int i1, .null]) (st' := [.int (-1 : Int32), .int (am_gi h2 a0 55), .ref a0]) 1 am_q217 rfl ?_
  refine ev_jc (t := 116) am_q217 rfl rfl (fun hq => ?_) (fun hq => ?_)
  · replace H := H.1 hq
    refine ev_p (pc' := 117) (loc' := [.ref a0, .int i1, .null]) (st' := [.ref a0, .ref a0]) 1 am_q217 rfl ?_
    obtain ⟨g4, H⟩ := H
    refine ev_s (pc' := 120) (loc' := [.ref a0, .int i1, .null]) (st' := [.int (am_gi h2 a0 56), .ref a0]) (h1 := h2) am_q217 rfl rfl rfl (if_pos (e := none) g4) ?_
    exact ev_m (loc' := [.ref a0, .int i1, .null]) am_q217 rfl rfl H
  · replace H := H.2 hq
    refine ev_p (pc' := 110) (loc' := [.ref a0, .int i1, .null]) (st' := [.ref a0, .ref a0]) 1 am_q217 rfl ?_
    obtain ⟨g5, H⟩ := H
    refine ev_s (pc' := 113) (loc' := [.ref a0, .int i1, .null]) (st' := [.int (am_gi h2 a0 55), .ref a0]) (h1 := h2) am_q217 rfl rfl rfl (if_pos (e := none) g5) ?_
    refine ev_p (pc' := 120) (loc' := [.ref a0, .int i1, .null]) (st' := [.int (am_gi h2 a0 55), .ref a0]) 1 am_q217 rfl ?_
    exact ev_m (loc' := [.ref a0, .int i1, .null]) am_q217 rfl rfl H
set_option maxRecDepth 20000 in
set_option maxHeartbeats 2000000 in
theorem wp217_120 {d : Nat} (a0 : Nat) (i1 : Int32) (s0 : Nat) (s1 : Int32) {h : AH} {Q : Option Value → AH → Prop} (H : am_kd h s0 = 12 ∧ ∀ h2, h2 = am_si h s0 38 s1 → am_kd h2 a0 = 12 ∧ ((am_gi h2 a0 37) = (0 : Int32) → am_kd h2 a0 = 12 ∧ ∃ b5, am_gr h2 a0 29 = some b5 ∧ (am_kd h2 b5 = 103 ∧ ((0 : Int32) = (0 : Int32) ∨ (0 : Int32) = (1 : Int32))) ∧ am_in i1 (am_ln h2 b5) ∧ ∀ h9, h9 = am_si h2 b5 (Int32.toNatClampNeg i1) (0 : Int32) → am_kd h9 a0 = 12 ∧ ∃ b11, am_gr h9 a0 30 = some b11 ∧ (am_kd h9 b11 = 103 ∧ ((0 : Int32) = (0 : Int32) ∨ (0 : Int32) = (1 : Int32))) ∧ am_in i1 (am_ln h9 b11) ∧ ∀ h15, h15 = am_si h9 b11 (Int32.toNatClampNeg i1) (0 : Int32) → am_kd h15 a0 = 12 ∧ ∃ b17, am_gr h15 a0 31 = some b17 ∧ (am_kd h15 b17 = 100 ∧ 6 ≤ b17) ∧ am_in i1 (am_ln h15 b17) ∧ ∀ h21, h21 = am_si h15 b17 (Int32.toNatClampNeg i1) (-1 : Int32) → am_kd h21 a0 = 12 ∧ ∃ b23, am_gr h21 a0 32 = some b23 ∧ (am_kd h21 b23 = 100 ∧ 6 ≤ b23) ∧ am_in i1 (am_ln h21 b23) ∧ ∀ h27, h27 = am_si h21 b23 (Int32.toNatClampNeg i1) (0 : Int32) → am_kd h27 a0 = 12 ∧ ∃ b29, am_gr h27 a0 33 = some b29 ∧ (am_kd h27 b29 = 100 ∧ 6 ≤ b29) ∧ am_in i1 (am_ln h27 b29) ∧ ∀ h33, h33 = am_si h27 b29 (Int32.toNatClampNeg i1) (-1 : Int32) → am_kd h33 a0 = 12 ∧ ∃ b35, am_gr h33 a0 34 = some b35 ∧ (am_kd h33 b35 = 100 ∧ 6 ≤ b35) ∧ am_in i1 (am_ln h33 b35) ∧ ∀ h39, h39 = am_si h33 b35 (Int32.toNatClampNeg i1) (0 : Int32) → am_kd h39 a0 = 12 ∧ ∃ b41, am_gr h39 a0 35 = some b41 ∧ (am_kd h39 b41 = 100 ∧ 6 ≤ b41) ∧ am_in i1 (am_ln h39 b41) ∧ ∀ h45, h45 = am_si h39 b41 (Int32.toNatClampNeg i1) (0 : Int32) → am_kd h45 a0 = 12 ∧ am_kd h45 a0 = 12 ∧ ∀ h48, h48 = am_si h45 a0 23 ((am_gi h45 a0 23) + (1 : Int32)) → Q (some (.int i1)) h48) ∧ (¬ (am_gi h2 a0 37) = (0 : Int32) → am_kd h2 a0 = 12 ∧ Q (some (.int ((-10 : Int32) - (am_gi h2 a0 37)))) h2)) : Ev (d + 1) 217 120 [.ref a0, .int i1, .null] [.int s1, .ref s0] h Q := by
  obtain ⟨g1, H⟩ := H
  refine ev_s (pc' := 123) (loc' := [.ref a0, .int i1, .null]) (st' := []) (h1 := am_si h s0 38 s1) am_q217 rfl rfl rfl (if_pos (e := none) g1) ?_
  replace H := H _ rfl
  generalize am_si h s0 38 s1 = h2 at H ⊢
  refine ev_p (pc' := 124) (loc' := [.ref a0, .int i1, .null]) (st' := [.ref a0]) 1 am_q217 rfl ?_
  obtain ⟨g3, H⟩ := H
  refine ev_s (pc' := 127) (loc' := [.ref a0, .int i1, .null]) (st' := [.int (am_gi h2 a0 37)]) (h1 := h2) am_q217 rfl rfl rfl (if_pos (e := none) g3) ?_
  refine ev_jz (t := 138) am_q217 rfl rfl (fun hq => ?_) (fun hq => ?_)
  · replace H := H.1 hq
    refine ev_p (pc' := 139) (loc' := [.ref a0, .int i1, .null]) (st' := [.ref a0]) 1 am_q217 rfl ?_
    obtain ⟨g4, b5, e6, H⟩ := H
    refine ev_s (pc' := 142) (loc' := [.ref a0, .int i1, .null]) (st' := [.ref b5]) (h1 := h2) am_q217 rfl rfl rfl (am_gf2 g4 e6) ?_
    refine ev_p (pc' := 144) (loc' := [.ref a0, .int i1, .null]) (st' := [.int (0 : Int32), .int i1, .ref b5]) 2 am_q217 rfl ?_
    obtain ⟨g7, g8, H⟩ := H
    refine ev_s (pc' := 145) (loc' := [.ref a0, .int i1, .null]) (st' := []) (h1 := am_si h2 b5 (Int32.toNatClampNeg i1) (0 : Int32)) am_q217 rfl rfl rfl (am_yz g7 g8) ?_
    replace H := H _ rfl
    generalize am_si h2 b5 (Int32.toNatClampNeg i1) (0 : Int32) = h9 at H ⊢
    refine ev_p (pc' := 146) (loc' := [.ref a0, .int i1, .null]) (st' := [.ref a0]) 1 am_q217 rfl ?_
    obtain ⟨g10, b11, e12, H⟩ := H
    refine ev_s (pc' := 149) (loc' := [.ref a0, .int i1, .null]) (st' := [.ref b11]) (h1 := h9) am_q217 rfl rfl rfl (am_gf2 g10 e12) ?_
    refine ev_p (pc' := 151) (loc' := [.ref a0, .int i1, .null]) (st' := [.int (0 : Int32), .int i1, .ref b11]) 2 am_q217 rfl ?_
    obtain ⟨g13, g14, H⟩ := H
    refine ev_s (pc' := 152) (loc' := [.ref a0, .int i1, .null]) (st' := []) (h1 := am_si h9 b11 (Int32.toNatClampNeg i1) (0 : Int32)) am_q217 rfl rfl rfl (am_yz g13 g14) ?_
    replace H := H _ rfl
    generalize am_si h9 b11 (Int32.toNatClampNeg i1) (0 : Int32) = h15 at H ⊢
    refine ev_p (pc' := 153) (loc' := [.ref a0, .int i1, .null]) (st' := [.ref a0]) 1 am_q217 rfl ?_
    obtain ⟨g16, b17, e18, H⟩ := H
    refine ev_s (pc' := 156) (loc' := [.ref a0, .int i1, .null]) (st' := [.ref b17]) (h1 := h15) am_q217 rfl rfl rfl (am_gf2 g16 e18) ?_
    refine ev_p (pc' := 158) (loc' := [.ref a0, .int i1, .null]) (st' := [.int (-1 : Int32), .int i1, .ref b17]) 2 am_q217 rfl ?_
    obtain ⟨g19, g20, H⟩ := H
    refine ev_s (pc' := 159) (loc' := [.ref a0, .int i1, .null]) (st' := []) (h1 := am_si h15 b17 (Int32.toNatClampNeg i1) (-1 : Int32)) am_q217 rfl rfl rfl (am_xx g19 g20) ?_
    replace H := H _ rfl
    generalize am_si h15 b17 (Int32.toNatClampNeg i1) (-1 : Int32) = h21 at H ⊢
    refine ev_p (pc' := 160) (loc' := [.ref a0, .int i1, .null]) (st' := [.ref a0]) 1 am_q217 rfl ?_
    obtain ⟨g22, b23, e24, H⟩ := H
    refine ev_s (pc' := 163) (loc' := [.ref a0, .int i1, .null]) (st' := [.ref b23]) (h1 := h21) am_q217 rfl rfl rfl (am_gf2 g22 e24) ?_
    refine ev_p (pc' := 165) (loc' := [.ref a0, .int i1, .null]) (st' := [.int (0 : Int32), .int i1, .ref b23]) 2 am_q217 rfl ?_
    obtain ⟨g25, g26, H⟩ := H
    refine ev_s (pc' := 166) (loc' := [.ref a0, .int i1, .null]) (st' := []) (h1 := am_si h21 b23 (Int32.toNatClampNeg i1) (0 : Int32)) am_q217 rfl rfl rfl (am_xx g25 g26) ?_
    replace H := H _ rfl
    generalize am_si h21 b23 (Int32.toNatClampNeg i1) (0 : Int32) = h27 at H ⊢
    refine ev_p (pc' := 167) (loc' := [.ref a0, .int i1, .null]) (st' := [.ref a0]) 1 am_q217 rfl ?_
    obtain ⟨g28, b29, e30, H⟩ := H
    refine ev_s (pc' := 170) (loc' := [.ref a0, .int i1, .null]) (st' := [.ref b29]) (h1 := h27) am_q217 rfl rfl rfl (am_gf2 g28 e30) ?_
    refine ev_p (pc' := 172) (loc' := [.ref a0, .int i1, .null]) (st' := [.int (-1 : Int32), .int i1, .ref b29]) 2 am_q217 rfl ?_
    obtain ⟨g31, g32, H⟩ := H
    refine ev_s (pc' := 173) (loc' := [.ref a0, .int i1, .null]) (st' := []) (h1 := am_si h27 b29 (Int32.toNatClampNeg i1) (-1 : Int32)) am_q217 rfl rfl rfl (am_xx g31 g32) ?_
    replace H := H _ rfl
    generalize am_si h27 b29 (Int32.toNatClampNeg i1) (-1 : Int32) = h33 at H ⊢
    refine ev_p (pc' := 174) (loc' := [.ref a0, .int i1, .null]) (st' := [.ref a0]) 1 am_q217 rfl ?_
    obtain ⟨g34, b35, e36, H⟩ := H
    refine ev_s (pc' := 177) (loc' := [.ref a0, .int i1, .null]) (st' := [.ref b35]) (h1 := h33) am_q217 rfl rfl rfl (am_gf2 g34 e36) ?_
    refine ev_p (pc' := 179) (loc' := [.ref a0, .int i1, .null]) (st' := [.int (0 : Int32), .int i1, .ref b35]) 2 am_q217 rfl ?_
    obtain ⟨g37, g38, H⟩ := H
    refine ev_s (pc' := 180) (loc' := [.ref a0, .int i1, .null]) (st' := []) (h1 := am_si h33 b35 (Int32.toNatClampNeg i1) (0 : Int32)) am_q217 rfl rfl rfl (am_xx g37 g38) ?_
    replace H := H _ rfl
    generalize am_si h33 b35 (Int32.toNatClampNeg i1) (0 : Int32) = h39 at H ⊢
    refine ev_p (pc' := 181) (loc' := [.ref a0, .int i1, .null]) (st' := [.ref a0]) 1 am_q217 rfl ?_
    obtain ⟨g40, b41, e42, H⟩ := H
    refine ev_s (pc' := 184) (loc' := [.ref a0, .int i1, .null]) (st' := [.ref b41]) (h1 := h39) am_q217 rfl rfl rfl (am_gf2 g40 e42) ?_
    refine ev_p (pc' := 186) (loc' := [.ref a0, .int i1, .null]) (st' := [.int (0 : Int32), .int i1, .ref b41]) 2 am_q217 rfl ?_
    obtain ⟨g43, g44, H⟩ := H
    refine ev_s (pc' := 187) (loc' := [.ref a0, .int i1, .null]) (st' := []) (h1 := am_si h39 b41 (Int32.toNatClampNeg i1) (0 : Int32)) am_q217 rfl rfl rfl (am_xx g43 g44) ?_
    replace H := H _ rfl
    generalize am_si h39 b41 (Int32.toNatClampNeg i1) (0 : Int32) = h45 at H ⊢
    refine ev_p (pc' := 189) (loc' := [.ref a0, .int i1, .null]) (st' := [.ref a0, .ref a0]) 2 am_q217 rfl ?_
    obtain ⟨g46, H⟩ := H
    refine ev_s (pc' := 192) (loc' := [.ref a0, .int i1, .null]) (st' := [.int (am_gi h45 a0 23), .ref a0]) (h1 := h45) am_q217 rfl rfl rfl (if_pos (e := none) g46) ?_
    refine ev_p (pc' := 194) (loc' := [.ref a0, .int i1, .null]) (st' := [.int ((am_gi h45 a0 23) + (1 : Int32)), .ref a0]) 2 am_q217 rfl ?_
    obtain ⟨g47, H⟩ := H
    refine ev_s (pc' := 197) (loc' := [.ref a0, .int i1, .null]) (st' := []) (h1 := am_si h45 a0 23 ((am_gi h45 a0 23) + (1 : Int32))) am_q217 rfl rfl rfl (if_pos (e := none) g47) ?_
    replace H := H _ rfl
    generalize am_si h45 a0 23 ((am_gi h45 a0 23) + (1 : Int32)) = h48 at H ⊢
    refine ev_p (pc' := 198) (loc' := [.ref a0, .int i1, .null]) (st' := [.int i1]) 1 am_q217 rfl ?_
    exact ev_r (v := some (.int i1)) am_q217 rfl rfl rfl rfl H
  · replace H := H.2 hq
    refine ev_p (pc' := 133) (loc' := [.ref a0, .int i1, .null]) (st' := [.ref a0, .int (-10 : Int32)]) 2 am_q217 rfl ?_
    obtain ⟨g49, H⟩ := H
    refine ev_s (pc' := 136) (loc' := [.ref a0, .int i1, .null]) (st' := [.int (am_gi h2 a0 37), .int (-10 : Int32)]) (h1 := h2) am_q217 rfl rfl rfl (if_pos (e := none) g49) ?_
    refine ev_p (pc' := 137) (loc' := [.ref a0, .int i1, .null]) (st' := [.int ((-10 : Int32) - (am_gi h2 a0 37))]) 1 am_q217 rfl ?_
    exact ev_r (v := some (.int ((-10 : Int32) - (am_gi h2 a0 37)))) am_q217 rfl rfl rfl rfl H
/-! 218: X12_fault -/
theorem am_q218 : (am_mt 218).2.2.2.2.2 = am_m218.2.2.2.2.2 := rfl
set_option maxRecDepth 20000 in
set_option maxHeartbeats 2000000 in
theorem wp218 {d : Nat} (a0 : Nat) (i1 : Int32) {h : AH} {Q : Option Value → AH → Prop} (H : ((¬ i1 = (0 : Int32)) → ((¬ i1 = (1 : Int32)) → Q (some (.int (-2 : Int32))) h) ∧ (¬ (¬ i1 = (1 : Int32)) → am_kd h a0 = 12 ∧ Q (some (.int (am_gi h a0 38))) h)) ∧ (¬ (¬ i1 = (0 : Int32)) → am_kd h a0 = 12 ∧ Q (some (.int (am_gi h a0 37))) h)) : Cl d 218 [.ref a0, .int i1] h Q := by
  show Ev d 218 0 [.ref a0, .int i1] [] h Q
  refine ev_p (pc' := 1) (loc' := [.ref a0, .int i1]) (st' := [.int i1]) 1 am_q218 rfl ?_
  refine ev_jz (t := 11) am_q218 rfl rfl (fun hq => ?_) (fun hq => ?_)
  · replace H := H.1 hq
    refine ev_p (pc' := 13) (loc' := [.ref a0, .int i1]) (st' := [.int (1 : Int32), .int i1]) 2 am_q218 rfl ?_
    refine ev_jc (t := 23) am_q218 rfl rfl (fun hq => ?_) (fun hq => ?_)
    · replace H := H.1 hq
      refine ev_p (pc' := 25) (loc' := [.ref a0, .int i1]) (st' := [.int (-2 : Int32)]) 1 am_q218 rfl ?_
      exact ev_r (v := some (.int (-2 : Int32))) am_q218 rfl rfl rfl rfl H
    · replace H := H.2 hq
      refine ev_p (pc' := 17) (loc' := [.ref a0, .int i1]) (st' := [.ref a0]) 1 am_q218 rfl ?_
      obtain ⟨g1, H⟩ := H
      refine ev_s (pc' := 20) (loc' := [.ref a0, .int i1]) (st' := [.int (am_gi h a0 38)]) (h1 := h) am_q218 rfl rfl rfl (if_pos (e := none) g1) ?_
      refine ev_p (pc' := 25) (loc' := [.ref a0, .int i1]) (st' := [.int (am_gi h a0 38)]) 1 am_q218 rfl ?_
      exact ev_r (v := some (.int (am_gi h a0 38))) am_q218 rfl rfl rfl rfl H
  · replace H := H.2 hq
    refine ev_p (pc' := 5) (loc' := [.ref a0, .int i1]) (st' := [.ref a0]) 1 am_q218 rfl ?_
    obtain ⟨g2, H⟩ := H
    refine ev_s (pc' := 8) (loc' := [.ref a0, .int i1]) (st' := [.int (am_gi h a0 37)]) (h1 := h) am_q218 rfl rfl rfl (if_pos (e := none) g2) ?_
    refine ev_p (pc' := 25) (loc' := [.ref a0, .int i1]) (st' := [.int (am_gi h a0 37)]) 1 am_q218 rfl ?_
    exact ev_r (v := some (.int (am_gi h a0 37))) am_q218 rfl rfl rfl rfl H
/-! 219: X12_isText -/
theorem am_q219 : (am_mt 219).2.2.2.2.2 = am_m219.2.2.2.2.2 := rfl
set_option maxRecDepth 20000 in
set_option maxHeartbeats 2000000 in
theorem wp219 {d : Nat} (a0 : Nat) (i1 : Int32) {h : AH} {Q : Option Value → AH → Prop} (H : am_kd h a0 = 12 ∧ Cl d 167 [.int i1, .int (0 : Int32), .int ((am_gi h a0 23) - (1 : Int32))] h (fun r3 h2 => ∃ x4, r3 = some (.int x4) ∧ (x4 = (0 : Int32) ∨ x4 = (1 : Int32)) ∧ Q (some (.int x4)) h2)) : Cl (d + 1) 219 [.ref a0, .int i1] h Q := by
  show Ev (d + 1) 219 0 [.ref a0, .int i1] [] h Q
  refine ev_p (pc' := 3) (loc' := [.ref a0, .int i1]) (st' := [.ref a0, .int (0 : Int32), .int i1]) 3 am_q219 rfl ?_
  obtain ⟨g1, H⟩ := H
  refine ev_s (pc' := 6) (loc' := [.ref a0, .int i1]) (st' := [.int (am_gi h a0 23), .int (0 : Int32), .int i1]) (h1 := h) am_q219 rfl rfl rfl (if_pos (e := none) g1) ?_
  refine ev_p (pc' := 8) (loc' := [.ref a0, .int i1]) (st' := [.int ((am_gi h a0 23) - (1 : Int32)), .int (0 : Int32), .int i1]) 2 am_q219 rfl ?_
  refine ev_c (vs := [.int i1, .int (0 : Int32), .int ((am_gi h a0 23) - (1 : Int32))]) (rest := []) 167 am_q219 rfl rfl rfl rfl rfl rfl rfl rfl rfl rfl rfl rfl (Or.inl rfl) (Cl.mono H (Nat.le_refl _) (fun r3 h2 H => ?_))
  obtain ⟨x4, rfl, H⟩ := H
  exact ev_r (v := some (.int x4)) am_q219 rfl rfl rfl (decide_eq_true H.1) H.2
/-! 220: X12_vote -/
theorem am_q220 : (am_mt 220).2.2.2.2.2 = am_m220.2.2.2.2.2 := rfl
set_option maxRecDepth 20000 in
set_option maxHeartbeats 2000000 in
theorem wp220 {d : Nat} (a0 : Nat) (i1 : Int32) (i2 : Int32) (i3 : Int32) {h : AH} {Q : Option Value → AH → Prop} (H : am_kd h a0 = 12 ∧ Cl d 169 [.ref a0, .int i1] h (fun r2 h1 => ∃ x4, r2 = some (.int x4) ∧ (x4 = (0 : Int32) → Q (some (.int (-2 : Int32))) h1) ∧ (¬ x4 = (0 : Int32) → am_kd h1 a0 = 12 ∧ Cl d 219 [.ref a0, .int i2] h1 (fun r6 h5 => ∃ x8, r6 = some (.int x8) ∧ ((¬ x8 = (0 : Int32)) → am_kd h5 a0 = 12 ∧ ∃ b10, am_gr h5 a0 29 = some b10 ∧ (am_kd h5 b10 = 102 ∨ am_kd h5 b10 = 103) ∧ am_in i2 (am_ln h5 b10) ∧ ((¬ (am_gi h5 b10 (Int32.toNatClampNeg i2)) = (0 : Int32)) → Q (some (.int (-3 : Int32))) h5) ∧ (¬ (¬ (am_gi h5 b10 (Int32.toNatClampNeg i2)) = (0 : Int32)) → am_kd h5 a0 = 12 ∧ ∃ b15, am_gr h5 a0 30 = some b15 ∧ (am_kd h5 b15 = 102 ∨ am_kd h5 b15 = 103) ∧ am_in i2 (am_ln h5 b15) ∧ ((¬ (am_gi h5 b15 (Int32.toNatClampNeg i2)) = (0 : Int32)) → Q (some (.int (-3 : Int32))) h5) ∧ (¬ (¬ (am_gi h5 b15 (Int32.toNatClampNeg i2)) = (0 : Int32)) → am_kd h5 a0 = 12 ∧ Cl d 170 [.ref a0, .int i1] h5 (fun r20 h19 => ∃ x22, r20 = some (.int x22) ∧ (x22 = (0 : Int32) → Q (some (.int (-3 : Int32))) h19) ∧ (¬ x22 = (0 : Int32) → am_kd h19 a0 = 12 ∧ ∃ b24, am_gr h19 a0 34 = some b24 ∧ am_kd h19 b24 = 100 ∧ am_in i2 (am_ln h19 b24) ∧ am_kd h19 a0 = 12 ∧ ∃ b29, am_gr h19 a0 35 = some b29 ∧ am_kd h19 b29 = 100 ∧ am_in i2 (am_ln h19 b29) ∧ ((((am_gi h19 b24 (Int32.toNatClampNeg i2)) ||| (am_gi h19 b29 (Int32.toNatClampNeg i2))) &&& ((1 : Int32) <<< (i1 &&& 31))) = (0 : Int32) → am_kd h19 a0 = 12 ∧ ∃ b34, am_gr h19 a0 34 = some b34 ∧ am_kd h19 b34 = 100 ∧ am_in i2 (am_ln h19 b34) ∧ (i3 = (0 : Int32) → Ev (d + 1) 220 89 [.ref a0, .null, .int i2, .int i3, .int ((1 : Int32) <<< (i1 &&& 31))] [.int (0 : Int32), .int (am_gi h19 b34 (Int32.toNatClampNeg i2)), .int i2, .ref b34] h19 Q) ∧ (¬ i3 = (0 : Int32) → Ev (d + 1) 220 89 [.ref a0, .null, .int i2, .int i3, .int ((1 : Int32) <<< (i1 &&& 31))] [.int ((1 : Int32) <<< (i1 &&& 31)), .int (am_gi h19 b34 (Int32.toNatClampNeg i2)), .int i2, .ref b34] h19 Q)) ∧ (¬ (((am_gi h19 b24 (Int32.toNatClampNeg i2)) ||| (am_gi h19 b29 (Int32.toNatClampNeg i2))) &&& ((1 : Int32) <<< (i1 &&& 31))) = (0 : Int32) → Q (some (.int (-3 : Int32))) h19)))))) ∧ (¬ (¬ x8 = (0 : Int32)) → Q (some (.int (-2 : Int32))) h5))))) : Cl (d + 1) 220 [.ref a0, .int i1, .int i2, .int i3] h Q := by
  show Ev (d + 1) 220 0 [.ref a0, .int i1, .int i2, .int i3, .null] [] h Q
  refine ev_p (pc' := 2) (loc' := [.ref a0, .int i1, .int i2, .int i3, .null]) (st' := [.int i1, .ref a0]) 2 am_q220 rfl ?_
  obtain ⟨g3, H⟩ := H
  refine ev_c (vs := [.ref a0, .int i1]) (rest := []) 169 am_q220 rfl rfl rfl rfl rfl rfl rfl rfl rfl rfl rfl rfl (Or.inr (congrArg some g3)) (Cl.mono H (Nat.le_refl _) (fun r2 h1 H => ?_))
  obtain ⟨x4, rfl, H⟩ := H
  refine ev_jz (t := 16) am_q220 rfl rfl (fun hq => ?_) (fun hq => ?_)
  · replace H := H.1 hq
    refine ev_p (pc' := 18) (loc' := [.null, .null, .null, .null, .null]) (st' := [.int (-2 : Int32)]) 1 am_q220 rfl ?_
    exact ev_r (v := some (.int (-2 : Int32))) am_q220 rfl rfl rfl rfl H
  · replace H := H.2 hq
    refine ev_p (pc' := 10) (loc' := [.ref a0, .int i1, .int i2, .int i3, .null]) (st' := [.int i2, .ref a0]) 2 am_q220 rfl ?_
    obtain ⟨g7, H⟩ := H
    refine ev_c (vs := [.ref a0, .int i2]) (rest := []) 219 am_q220 rfl rfl rfl rfl rfl rfl rfl rfl rfl rfl rfl rfl (Or.inr (congrArg some g7)) (Cl.mono H (Nat.le_refl _) (fun r6 h5 H => ?_))
    obtain ⟨x8, rfl, H⟩ := H
    refine ev_jz (t := 19) am_q220 rfl rfl (fun hq => ?_) (fun hq => ?_)
    · replace H := H.1 hq
      refine ev_p (pc' := 25) (loc' := [.ref a0, .int i1, .int i2, .int i3, .int ((1 : Int32) <<< (i1 &&& 31))]) (st' := [.ref a0]) 5 am_q220 rfl ?_
      obtain ⟨g9, b10, e11, H⟩ := H
      refine ev_s (pc' := 28) (loc' := [.ref a0, .int i1, .int i2, .int i3, .int ((1 : Int32) <<< (i1 &&& 31))]) (st' := [.ref b10]) (h1 := h5) am_q220 rfl rfl rfl (am_gf2 g9 e11) ?_
      refine ev_p (pc' := 29) (loc' := [.ref a0, .int i1, .int i2, .int i3, .int ((1 : Int32) <<< (i1 &&& 31))]) (st' := [.int i2, .ref b10]) 1 am_q220 rfl ?_
      obtain ⟨g12, g13, H⟩ := H
      refine ev_s (pc' := 30) (loc' := [.ref a0, .int i1, .int i2, .int i3, .int ((1 : Int32) <<< (i1 &&& 31))]) (st' := [.int (am_gi h5 b10 (Int32.toNatClampNeg i2))]) (h1 := h5) am_q220 rfl rfl rfl (am_xx g12 g13) ?_
      refine ev_jz (t := 69) am_q220 rfl rfl (fun hq => ?_) (fun hq => ?_)
      · replace H := H.1 hq
        refine ev_p (pc' := 71) (loc' := [.null, .null, .null, .null, .null]) (st' := [.int (-3 : Int32)]) 1 am_q220 rfl ?_
        exact ev_r (v := some (.int (-3 : Int32))) am_q220 rfl rfl rfl rfl H
      · replace H := H.2 hq
        refine ev_p (pc' := 34) (loc' := [.ref a0, .int i1, .int i2, .int i3, .int ((1 : Int32) <<< (i1 &&& 31))]) (st' := [.ref a0]) 1 am_q220 rfl ?_
        obtain ⟨g14, b15, e16, H⟩ := H
        refine ev_s (pc' := 37) (loc' := [.ref a0, .int i1, .int i2, .int i3, .int ((1 : Int32) <<< (i1 &&& 31))]) (st' := [.ref b15]) (h1 := h5) am_q220 rfl rfl rfl (am_gf2 g14 e16) ?_
        refine ev_p (pc' := 38) (loc' := [.ref a0, .int i1, .int i2, .int i3, .int ((1 : Int32) <<< (i1 &&& 31))]) (st' := [.int i2, .ref b15]) 1 am_q220 rfl ?_
        obtain ⟨g17, g18, H⟩ := H
        refine ev_s (pc' := 39) (loc' := [.ref a0, .int i1, .int i2, .int i3, .int ((1 : Int32) <<< (i1 &&& 31))]) (st' := [.int (am_gi h5 b15 (Int32.toNatClampNeg i2))]) (h1 := h5) am_q220 rfl rfl rfl (am_xx g17 g18) ?_
        refine ev_jz (t := 69) am_q220 rfl rfl (fun hq => ?_) (fun hq => ?_)
        · replace H := H.1 hq
          refine ev_p (pc' := 71) (loc' := [.null, .null, .null, .null, .null]) (st' := [.int (-3 : Int32)]) 1 am_q220 rfl ?_
          exact ev_r (v := some (.int (-3 : Int32))) am_q220 rfl rfl rfl rfl H
        · replace H := H.2 hq
          refine ev_p (pc' := 44) (loc' := [.ref a0, .int i1, .int i2, .int i3, .int ((1 : Int32) <<< (i1 &&& 31))]) (st' := [.int i1, .ref a0]) 2 am_q220 rfl ?_
          obtain ⟨g21, H⟩ := H
          refine ev_c (vs := [.ref a0, .int i1]) (rest := []) 170 am_q220 rfl rfl rfl rfl rfl rfl rfl rfl rfl rfl rfl rfl (Or.inr (congrArg some g21)) (Cl.mono H (Nat.le_refl _) (fun r20 h19 H => ?_))
          obtain ⟨x22, rfl, H⟩ := H
          refine ev_jz (t := 69) am_q220 rfl rfl (fun hq => ?_) (fun hq => ?_)
          · replace H := H.1 hq
            refine ev_p (pc' := 71) (loc' := [.null, .null, .null, .null, .null]) (st' := [.int (-3 : Int32)]) 1 am_q220 rfl ?_
            exact ev_r (v := some (.int (-3 : Int32))) am_q220 rfl rfl rfl rfl H
          · replace H := H.2 hq
            refine ev_p (pc' := 51) (loc' := [.ref a0, .int i1, .int i2, .int i3, .int ((1 : Int32) <<< (i1 &&& 31))]) (st' := [.ref a0]) 1 am_q220 rfl ?_
            obtain ⟨g23, b24, e25, H⟩ := H
            refine ev_s (pc' := 54) (loc' := [.ref a0, .int i1, .int i2, .int i3, .int ((1 : Int32) <<< (i1 &&& 31))]) (st' := [.ref b24]) (h1 := h19) am_q220 rfl rfl rfl (am_gf2 g23 e25) ?_
            refine ev_p (pc' := 55) (loc' := [.ref a0, .int i1, .int i2, .int i3, .int ((1 : Int32) <<< (i1 &&& 31))]) (st' := [.int i2, .ref b24]) 1 am_q220 rfl ?_
            obtain ⟨g26, g27, H⟩ := H
            refine ev_s (pc' := 56) (loc' := [.ref a0, .int i1, .int i2, .int i3, .int ((1 : Int32) <<< (i1 &&& 31))]) (st' := [.int (am_gi h19 b24 (Int32.toNatClampNeg i2))]) (h1 := h19) am_q220 rfl rfl rfl (am_xx g26 g27) ?_
            refine ev_p (pc' := 57) (loc' := [.ref a0, .int i1, .int i2, .int i3, .int ((1 : Int32) <<< (i1 &&& 31))]) (st' := [.ref a0, .int (am_gi h19 b24 (Int32.toNatClampNeg i2))]) 1 am_q220 rfl ?_
            obtain ⟨g28, b29, e30, H⟩ := H
            refine ev_s (pc' := 60) (loc' := [.ref a0, .int i1, .int i2, .int i3, .int ((1 : Int32) <<< (i1 &&& 31))]) (st' := [.ref b29, .int (am_gi h19 b24 (Int32.toNatClampNeg i2))]) (h1 := h19) am_q220 rfl rfl rfl (am_gf2 g28 e30) ?_
            refine ev_p (pc' := 61) (loc' := [.ref a0, .int i1, .int i2, .int i3, .int ((1 : Int32) <<< (i1 &&& 31))]) (st' := [.int i2, .ref b29, .int (am_gi h19 b24 (Int32.toNatClampNeg i2))]) 1 am_q220 rfl ?_
            obtain ⟨g31, g32, H⟩ := H
            refine ev_s (pc' := 62) (loc' := [.ref a0, .int i1, .int i2, .int i3, .int ((1 : Int32) <<< (i1 &&& 31))]) (st' := [.int (am_gi h19 b29 (Int32.toNatClampNeg i2)), .int (am_gi h19 b24 (Int32.toNatClampNeg i2))]) (h1 := h19) am_q220 rfl rfl rfl (am_xx g31 g32) ?_
            refine ev_p (pc' := 66) (loc' := [.ref a0, .int i1, .int i2, .int i3, .int ((1 : Int32) <<< (i1 &&& 31))]) (st' := [.int (((am_gi h19 b24 (Int32.toNatClampNeg i2)) ||| (am_gi h19 b29 (Int32.toNatClampNeg i2))) &&& ((1 : Int32) <<< (i1 &&& 31)))]) 3 am_q220 rfl ?_
            refine ev_jz (t := 72) am_q220 rfl rfl (fun hq => ?_) (fun hq => ?_)
            · replace H := H.1 hq
              refine ev_p (pc' := 73) (loc' := [.ref a0, .int i1, .int i2, .int i3, .int ((1 : Int32) <<< (i1 &&& 31))]) (st' := [.ref a0]) 1 am_q220 rfl ?_
              obtain ⟨g33, b34, e35, H⟩ := H
              refine ev_s (pc' := 76) (loc' := [.ref a0, .int i1, .int i2, .int i3, .int ((1 : Int32) <<< (i1 &&& 31))]) (st' := [.ref b34]) (h1 := h19) am_q220 rfl rfl rfl (am_gf2 g33 e35) ?_
              refine ev_p (pc' := 78) (loc' := [.ref a0, .int i1, .int i2, .int i3, .int ((1 : Int32) <<< (i1 &&& 31))]) (st' := [.int i2, .ref b34, .int i2, .ref b34]) 2 am_q220 rfl ?_
              obtain ⟨g36, g37, H⟩ := H
              refine ev_s (pc' := 79) (loc' := [.ref a0, .int i1, .int i2, .int i3, .int ((1 : Int32) <<< (i1 &&& 31))]) (st' := [.int (am_gi h19 b34 (Int32.toNatClampNeg i2)), .int i2, .ref b34]) (h1 := h19) am_q220 rfl rfl rfl (am_xx g36 g37) ?_
              refine ev_p (pc' := 80) (loc' := [.ref a0, .int i1, .int i2, .int i3, .int ((1 : Int32) <<< (i1 &&& 31))]) (st' := [.int i3, .int (am_gi h19 b34 (Int32.toNatClampNeg i2)), .int i2, .ref b34]) 1 am_q220 rfl ?_
              refine ev_jz (t := 88) am_q220 rfl rfl (fun hq => ?_) (fun hq => ?_)
              · replace H := H.1 hq
                refine ev_p (pc' := 89) (loc' := [.ref a0, .int i1, .int i2, .int i3, .int ((1 : Int32) <<< (i1 &&& 31))]) (st' := [.int (0 : Int32), .int (am_gi h19 b34 (Int32.toNatClampNeg i2)), .int i2, .ref b34]) 1 am_q220 rfl ?_
                exact ev_m (loc' := [.ref a0, .null, .int i2, .int i3, .int ((1 : Int32) <<< (i1 &&& 31))]) am_q220 rfl rfl H
              · replace H := H.2 hq
                refine ev_p (pc' := 89) (loc' := [.ref a0, .int i1, .int i2, .int i3, .int ((1 : Int32) <<< (i1 &&& 31))]) (st' := [.int ((1 : Int32) <<< (i1 &&& 31)), .int (am_gi h19 b34 (Int32.toNatClampNeg i2)), .int i2, .ref b34]) 2 am_q220 rfl ?_
                exact ev_m (loc' := [.ref a0, .null, .int i2, .int i3, .int ((1 : Int32) <<< (i1 &&& 31))]) am_q220 rfl rfl H
            · replace H := H.2 hq
              refine ev_p (pc' := 71) (loc' := [.null, .null, .null, .null, .null]) (st' := [.int (-3 : Int32)]) 1 am_q220 rfl ?_
              exact ev_r (v := some (.int (-3 : Int32))) am_q220 rfl rfl rfl rfl H
    · replace H := H.2 hq
      refine ev_p (pc' := 18) (loc' := [.null, .null, .null, .null, .null]) (st' := [.int (-2 : Int32)]) 1 am_q220 rfl ?_
      exact ev_r (v := some (.int (-2 : Int32))) am_q220 rfl rfl rfl rfl H
set_option maxRecDepth 20000 in
set_option maxHeartbeats 2000000 in
theorem wp220_89 {d : Nat} (a0 : Nat) (i2 : Int32) (i3 : Int32) (i4 : Int32) (s0 : Nat) (s1 : Int32) (s2 : Int32) (s3 : Int32) {h : AH} {Q : Option Value → AH → Prop} (H : (am_kd h s0 = 100 ∧ 6 ≤ s0) ∧ am_in s1 (am_ln h s0) ∧ ∀ h3, h3 = am_si h s0 (Int32.toNatClampNeg s1) (s2 ||| s3) → am_kd h3 a0 = 12 ∧ ∃ b5, am_gr h3 a0 35 = some b5 ∧ am_kd h3 b5 = 100 ∧ am_in i2 (am_ln h3 b5) ∧ (i3 = (0 : Int32) → (am_kd h3 b5 = 100 ∧ 6 ≤ b5) ∧ am_in i2 (am_ln h3 b5) ∧ ∀ h11, h11 = am_si h3 b5 (Int32.toNatClampNeg i2) ((am_gi h3 b5 (Int32.toNatClampNeg i2)) ||| i4) → am_kd h11 a0 = 12 ∧ ∃ b13, am_gr h11 a0 34 = some b13 ∧ am_kd h11 b13 = 100 ∧ am_in i2 (am_ln h11 b13) ∧ Cl d 190 [.int (am_gi h11 b13 (Int32.toNatClampNeg i2))] h11 (fun r18 h17 => ∃ x19, r18 = some (.int x19) ∧ Q (some (.int x19)) h17)) ∧ (¬ i3 = (0 : Int32) → (am_kd h3 b5 = 100 ∧ 6 ≤ b5) ∧ am_in i2 (am_ln h3 b5) ∧ ∀ h22, h22 = am_si h3 b5 (Int32.toNatClampNeg i2) ((am_gi h3 b5 (Int32.toNatClampNeg i2)) ||| (0 : Int32)) → am_kd h22 a0 = 12 ∧ ∃ b24, am_gr h22 a0 34 = some b24 ∧ am_kd h22 b24 = 100 ∧ am_in i2 (am_ln h22 b24) ∧ Cl d 190 [.int (am_gi h22 b24 (Int32.toNatClampNeg i2))] h22 (fun r29 h28 => ∃ x30, r29 = some (.int x30) ∧ Q (some (.int x30)) h28))) : Ev (d + 1) 220 89 [.ref a0, .null, .int i2, .int i3, .int i4] [.int s3, .int s2, .int s1, .ref s0] h Q := by
  refine ev_p (pc' := 90) (loc' := [.ref a0, .null, .int i2, .int i3, .int i4]) (st' := [.int (s2 ||| s3), .int s1, .ref s0]) 1 am_q220 rfl ?_
  obtain ⟨g1, g2, H⟩ := H
  refine ev_s (pc' := 91) (loc' := [.ref a0, .null, .int i2, .int i3, .int i4]) (st' := []) (h1 := am_si h s0 (Int32.toNatClampNeg s1) (s2 ||| s3)) am_q220 rfl rfl rfl (am_xx g1 g2) ?_
  replace H := H _ rfl
  generalize am_si h s0 (Int32.toNatClampNeg s1) (s2 ||| s3) = h3 at H ⊢
  refine ev_p (pc' := 92) (loc' := [.ref a0, .null, .int i2, .int i3, .int i4]) (st' := [.ref a0]) 1 am_q220 rfl ?_
  obtain ⟨g4, b5, e6, H⟩ := H
  refine ev_s (pc' := 95) (loc' := [.ref a0, .null, .int i2, .int i3, .int i4]) (st' := [.ref b5]) (h1 := h3) am_q220 rfl rfl rfl (am_gf2 g4 e6) ?_
  refine ev_p (pc' := 97) (loc' := [.ref a0, .null, .int i2, .int i3, .int i4]) (st' := [.int i2, .ref b5, .int i2, .ref b5]) 2 am_q220 rfl ?_
  obtain ⟨g7, g8, H⟩ := H
  refine ev_s (pc' := 98) (loc' := [.ref a0, .null, .int i2, .int i3, .int i4]) (st' := [.int (am_gi h3 b5 (Int32.toNatClampNeg i2)), .int i2, .ref b5]) (h1 := h3) am_q220 rfl rfl rfl (am_xx g7 g8) ?_
  refine ev_p (pc' := 99) (loc' := [.ref a0, .null, .int i2, .int i3, .int i4]) (st' := [.int i3, .int (am_gi h3 b5 (Int32.toNatClampNeg i2)), .int i2, .ref b5]) 1 am_q220 rfl ?_
  refine ev_jz (t := 106) am_q220 rfl rfl (fun hq => ?_) (fun hq => ?_)
  · replace H := H.1 hq
    refine ev_p (pc' := 109) (loc' := [.ref a0, .null, .int i2, .null, .null]) (st' := [.int ((am_gi h3 b5 (Int32.toNatClampNeg i2)) ||| i4), .int i2, .ref b5]) 2 am_q220 rfl ?_
    obtain ⟨g9, g10, H⟩ := H
    refine ev_s (pc' := 110) (loc' := [.ref a0, .null, .int i2, .null, .null]) (st' := []) (h1 := am_si h3 b5 (Int32.toNatClampNeg i2) ((am_gi h3 b5 (Int32.toNatClampNeg i2)) ||| i4)) am_q220 rfl rfl rfl (am_xx g9 g10) ?_
    replace H := H _ rfl
    generalize am_si h3 b5 (Int32.toNatClampNeg i2) ((am_gi h3 b5 (Int32.toNatClampNeg i2)) ||| i4) = h11 at H ⊢
    refine ev_p (pc' := 111) (loc' := [.ref a0, .null, .int i2, .null, .null]) (st' := [.ref a0]) 1 am_q220 rfl ?_
    obtain ⟨g12, b13, e14, H⟩ := H
    refine ev_s (pc' := 114) (loc' := [.ref a0, .null, .int i2, .null, .null]) (st' := [.ref b13]) (h1 := h11) am_q220 rfl rfl rfl (am_gf2 g12 e14) ?_
    refine ev_p (pc' := 115) (loc' := [.ref a0, .null, .int i2, .null, .null]) (st' := [.int i2, .ref b13]) 1 am_q220 rfl ?_
    obtain ⟨g15, g16, H⟩ := H
    refine ev_s (pc' := 116) (loc' := [.ref a0, .null, .int i2, .null, .null]) (st' := [.int (am_gi h11 b13 (Int32.toNatClampNeg i2))]) (h1 := h11) am_q220 rfl rfl rfl (am_xx g15 g16) ?_
    refine ev_c (vs := [.int (am_gi h11 b13 (Int32.toNatClampNeg i2))]) (rest := []) 190 am_q220 rfl rfl rfl rfl rfl rfl rfl rfl rfl rfl rfl rfl (Or.inl rfl) (Cl.mono H (Nat.le_refl _) (fun r18 h17 H => ?_))
    obtain ⟨x19, rfl, H⟩ := H
    exact ev_r (v := some (.int x19)) am_q220 rfl rfl rfl rfl H
  · replace H := H.2 hq
    refine ev_p (pc' := 109) (loc' := [.ref a0, .null, .int i2, .null, .null]) (st' := [.int ((am_gi h3 b5 (Int32.toNatClampNeg i2)) ||| (0 : Int32)), .int i2, .ref b5]) 3 am_q220 rfl ?_
    obtain ⟨g20, g21, H⟩ := H
    refine ev_s (pc' := 110) (loc' := [.ref a0, .null, .int i2, .null, .null]) (st' := []) (h1 := am_si h3 b5 (Int32.toNatClampNeg i2) ((am_gi h3 b5 (Int32.toNatClampNeg i2)) ||| (0 : Int32))) am_q220 rfl rfl rfl (am_xx g20 g21) ?_
    replace H := H _ rfl
    generalize am_si h3 b5 (Int32.toNatClampNeg i2) ((am_gi h3 b5 (Int32.toNatClampNeg i2)) ||| (0 : Int32)) = h22 at H ⊢
    refine ev_p (pc' := 111) (loc' := [.ref a0, .null, .int i2, .null, .null]) (st' := [.ref a0]) 1 am_q220 rfl ?_
    obtain ⟨g23, b24, e25, H⟩ := H
    refine ev_s (pc' := 114) (loc' := [.ref a0, .null, .int i2, .null, .null]) (st' := [.ref b24]) (h1 := h22) am_q220 rfl rfl rfl (am_gf2 g23 e25) ?_
    refine ev_p (pc' := 115) (loc' := [.ref a0, .null, .int i2, .null, .null]) (st' := [.int i2, .ref b24]) 1 am_q220 rfl ?_
    obtain ⟨g26, g27, H⟩ := H
    refine ev_s (pc' := 116) (loc' := [.ref a0, .null, .int i2, .null, .null]) (st' := [.int (am_gi h22 b24 (Int32.toNatClampNeg i2))]) (h1 := h22) am_q220 rfl rfl rfl (am_xx g26 g27) ?_
    refine ev_c (vs := [.int (am_gi h22 b24 (Int32.toNatClampNeg i2))]) (rest := []) 190 am_q220 rfl rfl rfl rfl rfl rfl rfl rfl rfl rfl rfl rfl (Or.inl rfl) (Cl.mono H (Nat.le_refl _) (fun r29 h28 H => ?_))
    obtain ⟨x30, rfl, H⟩ := H
    exact ev_r (v := some (.int x30)) am_q220 rfl rfl rfl rfl H
/-! 221: X12_carry -/
theorem am_q221 : (am_mt 221).2.2.2.2.2 = am_m221.2.2.2.2.2 := rfl
set_option maxRecDepth 20000 in
set_option maxHeartbeats 2000000 in
theorem wp221 {d : Nat} (a0 : Nat) (i1 : Int32) (i2 : Int32) {h : AH} {Q : Option Value → AH → Prop} (H : am_kd h a0 = 12 ∧ Cl d 219 [.ref a0, .int i1] h (fun r2 h1 => ∃ x4, r2 = some (.int x4) ∧ (x4 = (0 : Int32) → Q (some (.int (-2 : Int32))) h1) ∧ (¬ x4 = (0 : Int32) → am_kd h1 a0 = 12 ∧ Cl d 167 [.int i2, .int (am_gi h1 a0 0), .int (2000000 : Int32)] h1 (fun r7 h6 => ∃ x8, r7 = some (.int x8) ∧ ((¬ x8 = (0 : Int32)) → am_kd h6 a0 = 12 ∧ ∃ b10, am_gr h6 a0 29 = some b10 ∧ (am_kd h6 b10 = 102 ∨ am_kd h6 b10 = 103) ∧ am_in i1 (am_ln h6 b10) ∧ ((¬ (am_gi h6 b10 (Int32.toNatClampNeg i1)) = (0 : Int32)) → Q (some (.int (-3 : Int32))) h6) ∧ (¬ (¬ (am_gi h6 b10 (Int32.toNatClampNeg i1)) = (0 : Int32)) → am_kd h6 a0 = 12 ∧ ∃ b15, am_gr h6 a0 30 = some b15 ∧ (am_kd h6 b15 = 102 ∨ am_kd h6 b15 = 103) ∧ am_in i1 (am_ln h6 b15) ∧ ((am_gi h6 b15 (Int32.toNatClampNeg i1)) = (0 : Int32) → am_kd h6 a0 = 12 ∧ ∃ b20, am_gr h6 a0 34 = some b20 ∧ am_kd h6 b20 = 100 ∧ am_in i1 (am_ln h6 b20) ∧ Cl d 190 [.int (am_gi h6 b20 (Int32.toNatClampNeg i1))] h6 (fun r25 h24 => ∃ x26, r25 = some (.int x26) ∧ am_kd h24 a0 = 12 ∧ Cl d 213 [.ref a0, .int (2 : Int32), .int (-1 : Int32), .int (-1 : Int32)] h24 (fun r28 h27 => ∃ y30, r28 = some (.long y30) ∧ ((0 : Int32) ≤ (lg_cmp (Int32.toInt64 x26) y30) → am_kd h27 a0 = 12 ∧ ∃ b32, am_gr h27 a0 33 = some b32 ∧ am_kd h27 a0 = 12 ∧ am_kd h27 a0 = 12 ∧ Cl d 215 [.ref a0, .int (am_gi h27 a0 0)] h27 (fun r36 h35 => ∃ x38, r36 = some (.int x38) ∧ (am_kd h35 b32 = 100 ∧ 6 ≤ b32) ∧ am_in i1 (am_ln h35 b32) ∧ ∀ h41, h41 = am_si h35 b32 (Int32.toNatClampNeg i1) x38 → am_kd h41 a0 = 12 ∧ ∃ b43, am_gr h41 a0 29 = some b43 ∧ (am_kd h41 b43 = 103 ∧ ((1 : Int32) = (0 : Int32) ∨ (1 : Int32) = (1 : Int32))) ∧ am_in i1 (am_ln h41 b43) ∧ ∀ h47, h47 = am_si h41 b43 (Int32.toNatClampNeg i1) (1 : Int32) → am_kd h47 a0 = 12 ∧ ∃ b49, am_gr h47 a0 31 = some b49 ∧ (am_kd h47 b49 = 100 ∧ 6 ≤ b49) ∧ am_in i1 (am_ln h47 b49) ∧ ∀ h53, h53 = am_si h47 b49 (Int32.toNatClampNeg i1) i2 → am_kd h53 a0 = 12 ∧ ∃ b55, am_gr h53 a0 32 = some b55 ∧ am_kd h53 a0 = 12 ∧ (am_kd h53 b55 = 100 ∧ 6 ≤ b55) ∧ am_in i1 (am_ln h53 b55) ∧ ∀ h60, h60 = am_si h53 b55 (Int32.toNatClampNeg i1) (am_gi h53 a0 36) → am_kd h60 a0 = 12 ∧ am_kd h60 a0 = 12 ∧ ∀ h63, h63 = am_si h60 a0 36 ((am_gi h60 a0 36) + (1 : Int32)) → Q (some (.int (1 : Int32))) h63)) ∧ (¬ (0 : Int32) ≤ (lg_cmp (Int32.toInt64 x26) y30) → Q (some (.int (0 : Int32))) h27)))) ∧ (¬ (am_gi h6 b15 (Int32.toNatClampNeg i1)) = (0 : Int32) → Q (some (.int (-3 : Int32))) h6))) ∧ (¬ (¬ x8 = (0 : Int32)) → Q (some (.int (-2 : Int32))) h6))))) : Cl (d + 1) 221 [.ref a0, .int i1, .int i2] h Q := by
  show Ev (d + 1) 221 0 [.ref a0, .int i1, .int i2] [] h Q
  refine ev_p (pc' := 2) (loc' := [.ref a0, .int i1, .int i2]) (st' := [.int i1, .ref a0]) 2 am_q221 rfl ?_
  obtain ⟨g3, H⟩ := H
  refine ev_c (vs := [.ref a0, .int i1]) (rest := []) 219 am_q221 rfl rfl rfl rfl rfl rfl rfl rfl rfl rfl rfl rfl (Or.inr (congrArg some g3)) (Cl.mono H (Nat.le_refl _) (fun r2 h1 H => ?_))
  obtain ⟨x4, rfl, H⟩ := H
  refine ev_jz (t := 21) am_q221 rfl rfl (fun hq => ?_) (fun hq => ?_)
  · replace H := H.1 hq
    refine ev_p (pc' := 23) (loc' := [.null, .null, .null]) (st' := [.int (-2 : Int32)]) 1 am_q221 rfl ?_
    exact ev_r (v := some (.int (-2 : Int32))) am_q221 rfl rfl rfl rfl H
  · replace H := H.2 hq
    refine ev_p (pc' := 10) (loc' := [.ref a0, .int i1, .int i2]) (st' := [.ref a0, .int i2]) 2 am_q221 rfl ?_
    obtain ⟨g5, H⟩ := H
    refine ev_s (pc' := 13) (loc' := [.ref a0, .int i1, .int i2]) (st' := [.int (am_gi h1 a0 0), .int i2]) (h1 := h1) am_q221 rfl rfl rfl (if_pos (e := none) g5) ?_
    refine ev_p (pc' := 15) (loc' := [.ref a0, .int i1, .int i2]) (st' := [.int (2000000 : Int32), .int (am_gi h1 a0 0), .int i2]) 1 am_q221 rfl ?_
    refine ev_c (vs := [.int i2, .int (am_gi h1 a0 0), .int (2000000 : Int32)]) (rest := []) 167 am_q221 rfl rfl rfl rfl rfl rfl rfl rfl rfl rfl rfl rfl (Or.inl rfl) (Cl.mono H (Nat.le_refl _) (fun r7 h6 H => ?_))
    obtain ⟨x8, rfl, H⟩ := H
    refine ev_jz (t := 24) am_q221 rfl rfl (fun hq => ?_) (fun hq => ?_)
    · replace H := H.1 hq
      refine ev_p (pc' := 25) (loc' := [.ref a0, .int i1, .int i2]) (st' := [.ref a0]) 1 am_q221 rfl ?_
      obtain ⟨g9, b10, e11, H⟩ := H
      refine ev_s (pc' := 28) (loc' := [.ref a0, .int i1, .int i2]) (st' := [.ref b10]) (h1 := h6) am_q221 rfl rfl rfl (am_gf2 g9 e11) ?_
      refine ev_p (pc' := 29) (loc' := [.ref a0, .int i1, .int i2]) (st' := [.int i1, .ref b10]) 1 am_q221 rfl ?_
      obtain ⟨g12, g13, H⟩ := H
      refine ev_s (pc' := 30) (loc' := [.ref a0, .int i1, .int i2]) (st' := [.int (am_gi h6 b10 (Int32.toNatClampNeg i1))]) (h1 := h6) am_q221 rfl rfl rfl (am_xx g12 g13) ?_
      refine ev_jz (t := 42) am_q221 rfl rfl (fun hq => ?_) (fun hq => ?_)
      · replace H := H.1 hq
        refine ev_p (pc' := 44) (loc' := [.null, .null, .null]) (st' := [.int (-3 : Int32)]) 1 am_q221 rfl ?_
        exact ev_r (v := some (.int (-3 : Int32))) am_q221 rfl rfl rfl rfl H
      · replace H := H.2 hq
        refine ev_p (pc' := 34) (loc' := [.ref a0, .int i1, .int i2]) (st' := [.ref a0]) 1 am_q221 rfl ?_
        obtain ⟨g14, b15, e16, H⟩ := H
        refine ev_s (pc' := 37) (loc' := [.ref a0, .int i1, .int i2]) (st' := [.ref b15]) (h1 := h6) am_q221 rfl rfl rfl (am_gf2 g14 e16) ?_
        refine ev_p (pc' := 38) (loc' := [.ref a0, .int i1, .int i2]) (st' := [.int i1, .ref b15]) 1 am_q221 rfl ?_
        obtain ⟨g17, g18, H⟩ := H
        refine ev_s (pc' := 39) (loc' := [.ref a0, .int i1, .int i2]) (st' := [.int (am_gi h6 b15 (Int32.toNatClampNeg i1))]) (h1 := h6) am_q221 rfl rfl rfl (am_xx g17 g18) ?_
        refine ev_jz (t := 45) am_q221 rfl rfl (fun hq => ?_) (fun hq => ?_)
        · replace H := H.1 hq
          refine ev_p (pc' := 46) (loc' := [.ref a0, .int i1, .int i2]) (st' := [.ref a0]) 1 am_q221 rfl ?_
          obtain ⟨g19, b20, e21, H⟩ := H
          refine ev_s (pc' := 49) (loc' := [.ref a0, .int i1, .int i2]) (st' := [.ref b20]) (h1 := h6) am_q221 rfl rfl rfl (am_gf2 g19 e21) ?_
          refine ev_p (pc' := 50) (loc' := [.ref a0, .int i1, .int i2]) (st' := [.int i1, .ref b20]) 1 am_q221 rfl ?_
          obtain ⟨g22, g23, H⟩ := H
          refine ev_s (pc' := 51) (loc' := [.ref a0, .int i1, .int i2]) (st' := [.int (am_gi h6 b20 (Int32.toNatClampNeg i1))]) (h1 := h6) am_q221 rfl rfl rfl (am_xx g22 g23) ?_
          refine ev_c (vs := [.int (am_gi h6 b20 (Int32.toNatClampNeg i1))]) (rest := []) 190 am_q221 rfl rfl rfl rfl rfl rfl rfl rfl rfl rfl rfl rfl (Or.inl rfl) (Cl.mono H (Nat.le_refl _) (fun r25 h24 H => ?_))
          obtain ⟨x26, rfl, H⟩ := H
          refine ev_p (pc' := 59) (loc' := [.ref a0, .int i1, .int i2]) (st' := [.int (-1 : Int32), .int (-1 : Int32), .int (2 : Int32), .ref a0, .long (Int32.toInt64 x26)]) 5 am_q221 rfl ?_
          obtain ⟨g29, H⟩ := H
          refine ev_c (vs := [.ref a0, .int (2 : Int32), .int (-1 : Int32), .int (-1 : Int32)]) (rest := [.long (Int32.toInt64 x26)]) 213 am_q221 rfl rfl rfl rfl rfl rfl rfl rfl rfl rfl rfl rfl (Or.inr (congrArg some g29)) (Cl.mono H (Nat.le_refl _) (fun r28 h27 H => ?_))
          obtain ⟨y30, rfl, H⟩ := H
          refine ev_p (pc' := 63) (loc' := [.ref a0, .int i1, .int i2]) (st' := [.int (lg_cmp (Int32.toInt64 x26) y30)]) 1 am_q221 rfl ?_
          refine ev_jz (t := 68) am_q221 rfl rfl (fun hq => ?_) (fun hq => ?_)
          · replace H := H.1 hq
            refine ev_p (pc' := 69) (loc' := [.ref a0, .int i1, .int i2]) (st' := [.ref a0]) 1 am_q221 rfl ?_
            obtain ⟨g31, b32, e33, H⟩ := H
            refine ev_s (pc' := 72) (loc' := [.ref a0, .int i1, .int i2]) (st' := [.ref b32]) (h1 := h27) am_q221 rfl rfl rfl (am_gf2 g31 e33) ?_
            refine ev_p (pc' := 75) (loc' := [.ref a0, .int i1, .int i2]) (st' := [.ref a0, .ref a0, .int i1, .ref b32]) 3 am_q221 rfl ?_
            obtain ⟨g34, H⟩ := H
            refine ev_s (pc' := 78) (loc' := [.ref a0, .int i1, .int i2]) (st' := [.int (am_gi h27 a0 0), .ref a0, .int i1, .ref b32]) (h1 := h27) am_q221 rfl rfl rfl (if_pos (e := none) g34) ?_
            obtain ⟨g37, H⟩ := H
            refine ev_c (vs := [.ref a0, .int (am_gi h27 a0 0)]) (rest := [.int i1, .ref b32]) 215 am_q221 rfl rfl rfl rfl rfl rfl rfl rfl rfl rfl rfl rfl (Or.inr (congrArg some g37)) (Cl.mono H (Nat.le_refl _) (fun r36 h35 H => ?_))
            obtain ⟨x38, rfl, H⟩ := H
            obtain ⟨g39, g40, H⟩ := H
            refine ev_s (pc' := 82) (loc' := [.ref a0, .int i1, .int i2]) (st' := []) (h1 := am_si h35 b32 (Int32.toNatClampNeg i1) x38) am_q221 rfl rfl rfl (am_xx g39 g40) ?_
            replace H := H _ rfl
            generalize am_si h35 b32 (Int32.toNatClampNeg i1) x38 = h41 at H ⊢
            refine ev_p (pc' := 83) (loc' := [.ref a0, .int i1, .int i2]) (st' := [.ref a0]) 1 am_q221 rfl ?_
            obtain ⟨g42, b43, e44, H⟩ := H
            refine ev_s (pc' := 86) (loc' := [.ref a0, .int i1, .int i2]) (st' := [.ref b43]) (h1 := h41) am_q221 rfl rfl rfl (am_gf2 g42 e44) ?_
            refine ev_p (pc' := 88) (loc' := [.ref a0, .int i1, .int i2]) (st' := [.int (1 : Int32), .int i1, .ref b43]) 2 am_q221 rfl ?_
            obtain ⟨g45, g46, H⟩ := H
            refine ev_s (pc' := 89) (loc' := [.ref a0, .int i1, .int i2]) (st' := []) (h1 := am_si h41 b43 (Int32.toNatClampNeg i1) (1 : Int32)) am_q221 rfl rfl rfl (am_yz g45 g46) ?_
            replace H := H _ rfl
            generalize am_si h41 b43 (Int32.toNatClampNeg i1) (1 : Int32) = h47 at H ⊢
            refine ev_p (pc' := 90) (loc' := [.ref a0, .int i1, .int i2]) (st' := [.ref a0]) 1 am_q221 rfl ?_
            obtain ⟨g48, b49, e50, H⟩ := H
            refine ev_s (pc' := 93) (loc' := [.ref a0, .int i1, .int i2]) (st' := [.ref b49]) (h1 := h47) am_q221 rfl rfl rfl (am_gf2 g48 e50) ?_
            refine ev_p (pc' := 95) (loc' := [.ref a0, .int i1, .int i2]) (st' := [.int i2, .int i1, .ref b49]) 2 am_q221 rfl ?_
            obtain ⟨g51, g52, H⟩ := H
            refine ev_s (pc' := 96) (loc' := [.ref a0, .int i1, .int i2]) (st' := []) (h1 := am_si h47 b49 (Int32.toNatClampNeg i1) i2) am_q221 rfl rfl rfl (am_xx g51 g52) ?_
            replace H := H _ rfl
            generalize am_si h47 b49 (Int32.toNatClampNeg i1) i2 = h53 at H ⊢
            refine ev_p (pc' := 97) (loc' := [.ref a0, .int i1, .int i2]) (st' := [.ref a0]) 1 am_q221 rfl ?_
            obtain ⟨g54, b55, e56, H⟩ := H
            refine ev_s (pc' := 100) (loc' := [.ref a0, .int i1, .int i2]) (st' := [.ref b55]) (h1 := h53) am_q221 rfl rfl rfl (am_gf2 g54 e56) ?_
            refine ev_p (pc' := 102) (loc' := [.ref a0, .int i1, .int i2]) (st' := [.ref a0, .int i1, .ref b55]) 2 am_q221 rfl ?_
            obtain ⟨g57, H⟩ := H
            refine ev_s (pc' := 105) (loc' := [.ref a0, .int i1, .int i2]) (st' := [.int (am_gi h53 a0 36), .int i1, .ref b55]) (h1 := h53) am_q221 rfl rfl rfl (if_pos (e := none) g57) ?_
            obtain ⟨g58, g59, H⟩ := H
            refine ev_s (pc' := 106) (loc' := [.ref a0, .int i1, .int i2]) (st' := []) (h1 := am_si h53 b55 (Int32.toNatClampNeg i1) (am_gi h53 a0 36)) am_q221 rfl rfl rfl (am_xx g58 g59) ?_
            replace H := H _ rfl
            generalize am_si h53 b55 (Int32.toNatClampNeg i1) (am_gi h53 a0 36) = h60 at H ⊢
            refine ev_p (pc' := 108) (loc' := [.ref a0, .int i1, .int i2]) (st' := [.ref a0, .ref a0]) 2 am_q221 rfl ?_
            obtain ⟨g61, H⟩ := H
            refine ev_s (pc' := 111) (loc' := [.ref a0, .int i1, .int i2]) (st' := [.int (am_gi h60 a0 36), .ref a0]) (h1 := h60) am_q221 rfl rfl rfl (if_pos (e := none) g61) ?_
            refine ev_p (pc' := 113) (loc' := [.ref a0, .int i1, .int i2]) (st' := [.int ((am_gi h60 a0 36) + (1 : Int32)), .ref a0]) 2 am_q221 rfl ?_
            obtain ⟨g62, H⟩ := H
            refine ev_s (pc' := 116) (loc' := [.ref a0, .int i1, .int i2]) (st' := []) (h1 := am_si h60 a0 36 ((am_gi h60 a0 36) + (1 : Int32))) am_q221 rfl rfl rfl (if_pos (e := none) g62) ?_
            replace H := H _ rfl
            generalize am_si h60 a0 36 ((am_gi h60 a0 36) + (1 : Int32)) = h63 at H ⊢
            refine ev_p (pc' := 117) (loc' := [.ref a0, .int i1, .int i2]) (st' := [.int (1 : Int32)]) 1 am_q221 rfl ?_
            exact ev_r (v := some (.int (1 : Int32))) am_q221 rfl rfl rfl rfl H
          · replace H := H.2 hq
            refine ev_p (pc' := 67) (loc' := [.ref a0, .int i1, .int i2]) (st' := [.int (0 : Int32)]) 1 am_q221 rfl ?_
            exact ev_r (v := some (.int (0 : Int32))) am_q221 rfl rfl rfl rfl H
        · replace H := H.2 hq
          refine ev_p (pc' := 44) (loc' := [.null, .null, .null]) (st' := [.int (-3 : Int32)]) 1 am_q221 rfl ?_
          exact ev_r (v := some (.int (-3 : Int32))) am_q221 rfl rfl rfl rfl H
    · replace H := H.2 hq
      refine ev_p (pc' := 23) (loc' := [.null, .null, .null]) (st' := [.int (-2 : Int32)]) 1 am_q221 rfl ?_
      exact ev_r (v := some (.int (-2 : Int32))) am_q221 rfl rfl rfl rfl H
/-! 222: X12_tear -/
theorem am_q222 : (am_mt 222).2.2.2.2.2 = am_m222.2.2.2.2.2 := rfl
set_option maxRecDepth 20000 in
set_option maxHeartbeats 2000000 in
theorem wp222 {d : Nat} (a0 : Nat) (i1 : Int32) {h : AH} {Q : Option Value → AH → Prop} (H : am_kd h a0 = 12 ∧ Cl d 219 [.ref a0, .int i1] h (fun r2 h1 => ∃ x4, r2 = some (.int x4) ∧ (x4 = (0 : Int32) → Q (some (.int (-2 : Int32))) h1) ∧ (¬ x4 = (0 : Int32) → ((¬ i1 = (0 : Int32)) → am_kd h1 a0 = 12 ∧ ∃ b6, am_gr h1 a0 30 = some b6 ∧ (am_kd h1 b6 = 102 ∨ am_kd h1 b6 = 103) ∧ am_in i1 (am_ln h1 b6) ∧ ((am_gi h1 b6 (Int32.toNatClampNeg i1)) = (0 : Int32) → am_kd h1 a0 = 12 ∧ ∃ b11, am_gr h1 a0 30 = some b11 ∧ (am_kd h1 b11 = 103 ∧ ((1 : Int32) = (0 : Int32) ∨ (1 : Int32) = (1 : Int32))) ∧ am_in i1 (am_ln h1 b11) ∧ ∀ h15, h15 = am_si h1 b11 (Int32.toNatClampNeg i1) (1 : Int32) → Ev (d + 1) 222 38 [.ref a0, .null, .int (1 : Int32), .int (1 : Int32), .null] [] h15 Q) ∧ (¬ (am_gi h1 b6 (Int32.toNatClampNeg i1)) = (0 : Int32) → Q (some (.int (-3 : Int32))) h1)) ∧ (¬ (¬ i1 = (0 : Int32)) → Q (some (.int (-2 : Int32))) h1)))) : Cl (d + 1) 222 [.ref a0, .int i1] h Q := by
  show Ev (d + 1) 222 0 [.ref a0, .int i1, .null, .null, .null] [] h Q
  refine ev_p (pc' := 2) (loc' := [.ref a0, .int i1, .null, .null, .null]) (st' := [.int i1, .ref a0]) 2 am_q222 rfl ?_
  obtain ⟨g3, H⟩ := H
  refine ev_c (vs := [.ref a0, .int i1]) (rest := []) 219 am_q222 rfl rfl rfl rfl rfl rfl rfl rfl rfl rfl rfl rfl (Or.inr (congrArg some g3)) (Cl.mono H (Nat.le_refl _) (fun r2 h1 H => ?_))
  obtain ⟨x4, rfl, H⟩ := H
  refine ev_jz (t := 12) am_q222 rfl rfl (fun hq => ?_) (fun hq => ?_)
  · replace H := H.1 hq
    refine ev_p (pc' := 14) (loc' := [.null, .null, .null, .null, .null]) (st' := [.int (-2 : Int32)]) 1 am_q222 rfl ?_
    exact ev_r (v := some (.int (-2 : Int32))) am_q222 rfl rfl rfl rfl H
  · replace H := H.2 hq
    refine ev_p (pc' := 9) (loc' := [.ref a0, .int i1, .null, .null, .null]) (st' := [.int i1]) 1 am_q222 rfl ?_
    refine ev_jz (t := 15) am_q222 rfl rfl (fun hq => ?_) (fun hq => ?_)
    · replace H := H.1 hq
      refine ev_p (pc' := 16) (loc' := [.ref a0, .int i1, .null, .null, .null]) (st' := [.ref a0]) 1 am_q222 rfl ?_
      obtain ⟨g5, b6, e7, H⟩ := H
      refine ev_s (pc' := 19) (loc' := [.ref a0, .int i1, .null, .null, .null]) (st' := [.ref b6]) (h1 := h1) am_q222 rfl rfl rfl (am_gf2 g5 e7) ?_
      refine ev_p (pc' := 20) (loc' := [.ref a0, .int i1, .null, .null, .null]) (st' := [.int i1, .ref b6]) 1 am_q222 rfl ?_
      obtain ⟨g8, g9, H⟩ := H
      refine ev_s (pc' := 21) (loc' := [.ref a0, .int i1, .null, .null, .null]) (st' := [.int (am_gi h1 b6 (Int32.toNatClampNeg i1))]) (h1 := h1) am_q222 rfl rfl rfl (am_xx g8 g9) ?_
      refine ev_jz (t := 27) am_q222 rfl rfl (fun hq => ?_) (fun hq => ?_)
      · replace H := H.1 hq
        refine ev_p (pc' := 28) (loc' := [.ref a0, .int i1, .null, .null, .null]) (st' := [.ref a0]) 1 am_q222 rfl ?_
        obtain ⟨g10, b11, e12, H⟩ := H
        refine ev_s (pc' := 31) (loc' := [.ref a0, .int i1, .null, .null, .null]) (st' := [.ref b11]) (h1 := h1) am_q222 rfl rfl rfl (am_gf2 g10 e12) ?_
        refine ev_p (pc' := 33) (loc' := [.ref a0, .int i1, .null, .null, .null]) (st' := [.int (1 : Int32), .int i1, .ref b11]) 2 am_q222 rfl ?_
        obtain ⟨g13, g14, H⟩ := H
        refine ev_s (pc' := 34) (loc' := [.ref a0, .int i1, .null, .null, .null]) (st' := []) (h1 := am_si h1 b11 (Int32.toNatClampNeg i1) (1 : Int32)) am_q222 rfl rfl rfl (am_yz g13 g14) ?_
        replace H := H _ rfl
        generalize am_si h1 b11 (Int32.toNatClampNeg i1) (1 : Int32) = h15 at H ⊢
        refine ev_p (pc' := 38) (loc' := [.ref a0, .int i1, .int (1 : Int32), .int (1 : Int32), .null]) (st' := []) 4 am_q222 rfl ?_
        exact ev_m (loc' := [.ref a0, .null, .int (1 : Int32), .int (1 : Int32), .null]) am_q222 rfl rfl H
      · replace H := H.2 hq
        refine ev_p (pc' := 26) (loc' := [.ref a0, .int i1, .null, .null, .null]) (st' := [.int (-3 : Int32)]) 1 am_q222 rfl ?_
        exact ev_r (v := some (.int (-3 : Int32))) am_q222 rfl rfl rfl rfl H
    · replace H := H.2 hq
      refine ev_p (pc' := 14) (loc' := [.null, .null, .null, .null, .null]) (st' := [.int (-2 : Int32)]) 1 am_q222 rfl ?_
      exact ev_r (v := some (.int (-2 : Int32))) am_q222 rfl rfl rfl rfl H
set_option maxRecDepth 20000 in
set_option maxHeartbeats 2000000 in
theorem wp222_38 {d : Nat} (a0 : Nat) (i2 : Int32) (i3 : Int32) {h : AH} {Q : Option Value → AH → Prop} (H : (i3 = (0 : Int32) → Q (some (.int i2)) h) ∧ (¬ i3 = (0 : Int32) → Ev (d + 1) 222 47 [.ref a0, .null, .int i2, .int (0 : Int32), .int (0 : Int32)] [] h Q)) : Ev (d + 1) 222 38 [.ref a0, .null, .int i2, .int i3, .null] [] h Q := by
  refine ev_p (pc' := 39) (loc' := [.ref a0, .null, .int i2, .int i3, .null]) (st' := [.int i3]) 1 am_q222 rfl ?_
  refine ev_jz (t := 114) am_q222 rfl rfl (fun hq => ?_) (fun hq => ?_)
  · replace H := H.1 hq
    refine ev_p (pc' := 115) (loc' := [.ref a0, .null, .int i2, .int i3, .null]) (st' := [.int i2]) 1 am_q222 rfl ?_
    exact ev_r (v := some (.int i2)) am_q222 rfl rfl rfl rfl H
  · replace H := H.2 hq
    refine ev_p (pc' := 47) (loc' := [.ref a0, .null, .int i2, .int (0 : Int32), .int (0 : Int32)]) (st' := []) 4 am_q222 rfl ?_
    exact ev_m (loc' := [.ref a0, .null, .int i2, .int (0 : Int32), .int (0 : Int32)]) am_q222 rfl rfl H
set_option maxRecDepth 20000 in
set_option maxHeartbeats 2000000 in
theorem wp222_47 {d : Nat} (a0 : Nat) (i2 : Int32) (i3 : Int32) (i4 : Int32) {h : AH} {Q : Option Value → AH → Prop} (H : am_kd h a0 = 12 ∧ ((am_gi h a0 23) ≤ i4 → Ev (d + 1) 222 38 [.ref a0, .null, .int i2, .int i3, .null] [] h Q) ∧ (¬ (am_gi h a0 23) ≤ i4 → am_kd h a0 = 12 ∧ ∃ b3, am_gr h a0 30 = some b3 ∧ (am_kd h b3 = 102 ∨ am_kd h b3 = 103) ∧ am_in i4 (am_ln h b3) ∧ ((¬ (am_gi h b3 (Int32.toNatClampNeg i4)) = (0 : Int32)) → Ev (d + 1) 222 47 [.ref a0, .null, .int i2, .int i3, .int (i4 + (1 : Int32))] [] h Q) ∧ (¬ (¬ (am_gi h b3 (Int32.toNatClampNeg i4)) = (0 : Int32)) → am_kd h a0 = 12 ∧ ∃ b8, am_gr h a0 33 = some b8 ∧ am_kd h b8 = 100 ∧ am_in i4 (am_ln h b8) ∧ ((am_gi h b8 (Int32.toNatClampNeg i4)) = (-1 : Int32) → Ev (d + 1) 222 47 [.ref a0, .null, .int i2, .int i3, .int (i4 + (1 : Int32))] [] h Q) ∧ (¬ (am_gi h b8 (Int32.toNatClampNeg i4)) = (-1 : Int32) → am_kd h a0 = 12 ∧ ∃ b13, am_gr h a0 30 = some b13 ∧ am_kd h a0 = 12 ∧ ∃ b16, am_gr h a0 33 = some b16 ∧ am_kd h b16 = 100 ∧ am_in i4 (am_ln h b16) ∧ (am_kd h b13 = 102 ∨ am_kd h b13 = 103) ∧ am_in (am_gi h b16 (Int32.toNatClampNeg i4)) (am_ln h b13) ∧ ((am_gi h b13 (Int32.toNatClampNeg (am_gi h b16 (Int32.toNatClampNeg i4)))) = (0 : Int32) → Ev (d + 1) 222 47 [.ref a0, .null, .int i2, .int i3, .int (i4 + (1 : Int32))] [] h Q) ∧ (¬ (am_gi h b13 (Int32.toNatClampNeg (am_gi h b16 (Int32.toNatClampNeg i4)))) = (0 : Int32) → am_kd h a0 = 12 ∧ ∃ b23, am_gr h a0 30 = some b23 ∧ (am_kd h b23 = 103 ∧ ((1 : Int32) = (0 : Int32) ∨ (1 : Int32) = (1 : Int32))) ∧ am_in i4 (am_ln h b23) ∧ ∀ h27, h27 = am_si h b23 (Int32.toNatClampNeg i4) (1 : Int32) → Ev (d + 1) 222 47 [.ref a0, .null, .int (i2 + (1 : Int32)), .int (1 : Int32), .int (i4 + (1 : Int32))] [] h27 Q))))) : Ev (d + 1) 222 47 [.ref a0, .null, .int i2, .int i3, .int i4] [] h Q := by
  refine ev_p (pc' := 50) (loc' := [.ref a0, .null, .int i2, .int i3, .int i4]) (st' := [.ref a0, .int i4]) 2 am_q222 rfl ?_
  obtain ⟨g1, H⟩ := H
  refine ev_s (pc' := 53) (loc' := [.ref a0, .null, .int i2, .int i3, .int i4]) (st' := [.int (am_gi h a0 23), .int i4]) (h1 := h) am_q222 rfl rfl rfl (if_pos (e := none) g1) ?_
  refine ev_jc (t := 111) am_q222 rfl rfl (fun hq => ?_) (fun hq => ?_)
  · replace H := H.1 hq
    refine ev_p (pc' := 38) (loc' := [.ref a0, .null, .int i2, .int i3, .int i4]) (st' := []) 1 am_q222 rfl ?_
    exact ev_m (loc' := [.ref a0, .null, .int i2, .int i3, .null]) am_q222 rfl rfl H
  · replace H := H.2 hq
    refine ev_p (pc' := 57) (loc' := [.ref a0, .null, .int i2, .int i3, .int i4]) (st' := [.ref a0]) 1 am_q222 rfl ?_
    obtain ⟨g2, b3, e4, H⟩ := H
    refine ev_s (pc' := 60) (loc' := [.ref a0, .null, .int i2, .int i3, .int i4]) (st' := [.ref b3]) (h1 := h) am_q222 rfl rfl rfl (am_gf2 g2 e4) ?_
    refine ev_p (pc' := 62) (loc' := [.ref a0, .null, .int i2, .int i3, .int i4]) (st' := [.int i4, .ref b3]) 1 am_q222 rfl ?_
    obtain ⟨g5, g6, H⟩ := H
    refine ev_s (pc' := 63) (loc' := [.ref a0, .null, .int i2, .int i3, .int i4]) (st' := [.int (am_gi h b3 (Int32.toNatClampNeg i4))]) (h1 := h) am_q222 rfl rfl rfl (am_xx g5 g6) ?_
    refine ev_jz (t := 105) am_q222 rfl rfl (fun hq => ?_) (fun hq => ?_)
    · replace H := H.1 hq
      refine ev_p (pc' := 47) (loc' := [.ref a0, .null, .int i2, .int i3, .int (i4 + (1 : Int32))]) (st' := []) 2 am_q222 rfl ?_
      exact ev_m (loc' := [.ref a0, .null, .int i2, .int i3, .int (i4 + (1 : Int32))]) am_q222 rfl rfl H
    · replace H := H.2 hq
      refine ev_p (pc' := 67) (loc' := [.ref a0, .null, .int i2, .int i3, .int i4]) (st' := [.ref a0]) 1 am_q222 rfl ?_
      obtain ⟨g7, b8, e9, H⟩ := H
      refine ev_s (pc' := 70) (loc' := [.ref a0, .null, .int i2, .int i3, .int i4]) (st' := [.ref b8]) (h1 := h) am_q222 rfl rfl rfl (am_gf2 g7 e9) ?_
      refine ev_p (pc' := 72) (loc' := [.ref a0, .null, .int i2, .int i3, .int i4]) (st' := [.int i4, .ref b8]) 1 am_q222 rfl ?_
      obtain ⟨g10, g11, H⟩ := H
      refine ev_s (pc' := 73) (loc' := [.ref a0, .null, .int i2, .int i3, .int i4]) (st' := [.int (am_gi h b8 (Int32.toNatClampNeg i4))]) (h1 := h) am_q222 rfl rfl rfl (am_xx g10 g11) ?_
      refine ev_p (pc' := 74) (loc' := [.ref a0, .null, .int i2, .int i3, .int i4]) (st' := [.int (-1 : Int32), .int (am_gi h b8 (Int32.toNatClampNeg i4))]) 1 am_q222 rfl ?_
      refine ev_jc (t := 105) am_q222 rfl rfl (fun hq => ?_) (fun hq => ?_)
      · replace H := H.1 hq
        refine ev_p (pc' := 47) (loc' := [.ref a0, .null, .int i2, .int i3, .int (i4 + (1 : Int32))]) (st' := []) 2 am_q222 rfl ?_
        exact ev_m (loc' := [.ref a0, .null, .int i2, .int i3, .int (i4 + (1 : Int32))]) am_q222 rfl rfl H
      · replace H := H.2 hq
        refine ev_p (pc' := 78) (loc' := [.ref a0, .null, .int i2, .int i3, .int i4]) (st' := [.ref a0]) 1 am_q222 rfl ?_
        obtain ⟨g12, b13, e14, H⟩ := H
        refine ev_s (pc' := 81) (loc' := [.ref a0, .null, .int i2, .int i3, .int i4]) (st' := [.ref b13]) (h1 := h) am_q222 rfl rfl rfl (am_gf2 g12 e14) ?_
        refine ev_p (pc' := 82) (loc' := [.ref a0, .null, .int i2, .int i3, .int i4]) (st' := [.ref a0, .ref b13]) 1 am_q222 rfl ?_
        obtain ⟨g15, b16, e17, H⟩ := H
        refine ev_s (pc' := 85) (loc' := [.ref a0, .null, .int i2, .int i3, .int i4]) (st' := [.ref b16, .ref b13]) (h1 := h) am_q222 rfl rfl rfl (am_gf2 g15 e17) ?_
        refine ev_p (pc' := 87) (loc' := [.ref a0, .null, .int i2, .int i3, .int i4]) (st' := [.int i4, .ref b16, .ref b13]) 1 am_q222 rfl ?_
        obtain ⟨g18, g19, H⟩ := H
        refine ev_s (pc' := 88) (loc' := [.ref a0, .null, .int i2, .int i3, .int i4]) (st' := [.int (am_gi h b16 (Int32.toNatClampNeg i4)), .ref b13]) (h1 := h) am_q222 rfl rfl rfl (am_xx g18 g19) ?_
        obtain ⟨g20, g21, H⟩ := H
        refine ev_s (pc' := 89) (loc' := [.ref a0, .null, .int i2, .int i3, .int i4]) (st' := [.int (am_gi h b13 (Int32.toNatClampNeg (am_gi h b16 (Int32.toNatClampNeg i4))))]) (h1 := h) am_q222 rfl rfl rfl (am_xx g20 g21) ?_
        refine ev_jz (t := 105) am_q222 rfl rfl (fun hq => ?_) (fun hq => ?_)
        · replace H := H.1 hq
          refine ev_p (pc' := 47) (loc' := [.ref a0, .null, .int i2, .int i3, .int (i4 + (1 : Int32))]) (st' := []) 2 am_q222 rfl ?_
          exact ev_m (loc' := [.ref a0, .null, .int i2, .int i3, .int (i4 + (1 : Int32))]) am_q222 rfl rfl H
        · replace H := H.2 hq
          refine ev_p (pc' := 93) (loc' := [.ref a0, .null, .int i2, .int i3, .int i4]) (st' := [.ref a0]) 1 am_q222 rfl ?_
          obtain ⟨g22, b23, e24, H⟩ := H
          refine ev_s (pc' := 96) (loc' := [.ref a0, .null, .int i2, .int i3, .int i4]) (st' := [.ref b23]) (h1 := h) am_q222 rfl rfl rfl (am_gf2 g22 e24) ?_
          refine ev_p (pc' := 99) (loc' := [.ref a0, .null, .int i2, .int i3, .int i4]) (st' := [.int (1 : Int32), .int i4, .ref b23]) 2 am_q222 rfl ?_
          obtain ⟨g25, g26, H⟩ := H
          refine ev_s (pc' := 100) (loc' := [.ref a0, .null, .int i2, .int i3, .int i4]) (st' := []) (h1 := am_si h b23 (Int32.toNatClampNeg i4) (1 : Int32)) am_q222 rfl rfl rfl (am_yz g25 g26) ?_
          replace H := H _ rfl
          generalize am_si h b23 (Int32.toNatClampNeg i4) (1 : Int32) = h27 at H ⊢
          refine ev_p (pc' := 47) (loc' := [.ref a0, .null, .int (i2 + (1 : Int32)), .int (1 : Int32), .int (i4 + (1 : Int32))]) (st' := []) 5 am_q222 rfl ?_
          exact ev_m (loc' := [.ref a0, .null, .int (i2 + (1 : Int32)), .int (1 : Int32), .int (i4 + (1 : Int32))]) am_q222 rfl rfl H
/-! 223: X12_textTold -/
theorem am_q223 : (am_mt 223).2.2.2.2.2 = am_m223.2.2.2.2.2 := rfl
set_option maxRecDepth 20000 in
set_option maxHeartbeats 2000000 in
theorem wp223 {d : Nat} (a0 : Nat) (i1 : Int32) (i2 : Int32) {h : AH} {Q : Option Value → AH → Prop} (H : am_kd h a0 = 12 ∧ Cl d 219 [.ref a0, .int i1] h (fun r2 h1 => ∃ x4, r2 = some (.int x4) ∧ (x4 = (0 : Int32) → Q (some (.int (-2 : Int32))) h1) ∧ (¬ x4 = (0 : Int32) → Cl d 167 [.int i2, .int (0 : Int32), .int (6 : Int32)] h1 (fun r6 h5 => ∃ x7, r6 = some (.int x7) ∧ ((¬ x7 = (0 : Int32)) → (i2 = (0 : Int32) → am_kd h5 a0 = 12 ∧ ∃ b9, am_gr h5 a0 29 = some b9 ∧ (am_kd h5 b9 = 102 ∨ am_kd h5 b9 = 103) ∧ am_in i1 (am_ln h5 b9) ∧ ((am_gi h5 b9 (Int32.toNatClampNeg i1)) = (0 : Int32) → Q (some (.int (0 : Int32))) h5) ∧ (¬ (am_gi h5 b9 (Int32.toNatClampNeg i1)) = (0 : Int32) → Q (some (.int (1 : Int32))) h5)) ∧ (i2 = (1 : Int32) → am_kd h5 a0 = 12 ∧ ∃ b15, am_gr h5 a0 30 = some b15 ∧ (am_kd h5 b15 = 102 ∨ am_kd h5 b15 = 103) ∧ am_in i1 (am_ln h5 b15) ∧ ((am_gi h5 b15 (Int32.toNatClampNeg i1)) = (0 : Int32) → Q (some (.int (0 : Int32))) h5) ∧ (¬ (am_gi h5 b15 (Int32.toNatClampNeg i1)) = (0 : Int32) → Q (some (.int (1 : Int32))) h5)) ∧ (i2 = (2 : Int32) → am_kd h5 a0 = 12 ∧ ∃ b21, am_gr h5 a0 31 = some b21 ∧ am_kd h5 b21 = 100 ∧ am_in i1 (am_ln h5 b21) ∧ Q (some (.int (am_gi h5 b21 (Int32.toNatClampNeg i1)))) h5) ∧ (i2 = (3 : Int32) → am_kd h5 a0 = 12 ∧ ∃ b27, am_gr h5 a0 34 = some b27 ∧ am_kd h5 b27 = 100 ∧ am_in i1 (am_ln h5 b27) ∧ Cl d 190 [.int (am_gi h5 b27 (Int32.toNatClampNeg i1))] h5 (fun r32 h31 => ∃ x33, r32 = some (.int x33) ∧ Q (some (.int x33)) h31)) ∧ (i2 = (4 : Int32) → am_kd h5 a0 = 12 ∧ ∃ b36, am_gr h5 a0 35 = some b36 ∧ am_kd h5 b36 = 100 ∧ am_in i1 (am_ln h5 b36) ∧ Cl d 190 [.int (am_gi h5 b36 (Int32.toNatClampNeg i1))] h5 (fun r41 h40 => ∃ x42, r41 = some (.int x42) ∧ Q (some (.int x42)) h40)) ∧ (i2 = (5 : Int32) → am_kd h5 a0 = 12 ∧ ∃ b45, am_gr h5 a0 33 = some b45 ∧ am_kd h5 b45 = 100 ∧ am_in i1 (am_ln h5 b45) ∧ Q (some (.int (am_gi h5 b45 (Int32.toNatClampNeg i1)))) h5) ∧ (¬ i2 = (0 : Int32) ∧ ¬ i2 = (1 : Int32) ∧ ¬ i2 = (2 : Int32) ∧ ¬ i2 = (3 : Int32) ∧ ¬ i2 = (4 : Int32) ∧ ¬ i2 = (5 : Int32) → am_kd h5 a0 = 12 ∧ ∃ b51, am_gr h5 a0 24 = some b51 ∧ am_kd h5 b51 = 100 ∧ am_in i1 (am_ln h5 b51) ∧ Q (some (.int (am_gi h5 b51 (Int32.toNatClampNeg i1)))) h5)) ∧ (¬ (¬ x7 = (0 : Int32)) → Q (some (.int (-2 : Int32))) h5))))) : Cl (d + 1) 223 [.ref a0, .int i1, .int i2] h Q := by
  show Ev (d + 1) 223 0 [.ref a0, .int i1, .int i2] [] h Q
  refine ev_p (pc' := 2) (loc' := [.ref a0, .int i1, .int i2]) (st' := [.int i1, .ref a0]) 2 am_q223 rfl ?_
  obtain ⟨g3, H⟩ := H
  refine ev_c (vs := [.ref a0, .int i1]) (rest := []) 219 am_q223 rfl rfl rfl rfl rfl rfl rfl rfl rfl rfl rfl rfl (Or.inr (congrArg some g3)) (Cl.mono H (Nat.le_refl _) (fun r2 h1 H => ?_))
  obtain ⟨x4, rfl, H⟩ := H
  refine ev_jz (t := 18) am_q223 rfl rfl (fun hq => ?_) (fun hq => ?_)
  · replace H := H.1 hq
    refine ev_p (pc' := 20) (loc' := [.null, .null, .null]) (st' := [.int (-2 : Int32)]) 1 am_q223 rfl ?_
    exact ev_r (v := some (.int (-2 : Int32))) am_q223 rfl rfl rfl rfl H
  · replace H := H.2 hq
    refine ev_p (pc' := 12) (loc' := [.ref a0, .int i1, .int i2]) (st' := [.int (6 : Int32), .int (0 : Int32), .int i2]) 3 am_q223 rfl ?_
    refine ev_c (vs := [.int i2, .int (0 : Int32), .int (6 : Int32)]) (rest := []) 167 am_q223 rfl rfl rfl rfl rfl rfl rfl rfl rfl rfl rfl rfl (Or.inl rfl) (Cl.mono H (Nat.le_refl _) (fun r6 h5 H => ?_))
    obtain ⟨x7, rfl, H⟩ := H
    refine ev_jz (t := 21) am_q223 rfl rfl (fun hq => ?_) (fun hq => ?_)
    · replace H := H.1 hq
      refine ev_p (pc' := 22) (loc' := [.ref a0, .int i1, .int i2]) (st' := [.int i2]) 1 am_q223 rfl ?_
      by_cases k13 : i2 = (0 : Int32)
      · replace H := H.1 k13
        refine ev_s (pc' := 60) (loc' := [.ref a0, .int i1, .int i2]) (st' := []) (h1 := h5) am_q223 rfl rfl rfl (by rw [k13]; rfl) ?_
        refine ev_p (pc' := 61) (loc' := [.ref a0, .int i1, .int i2]) (st' := [.ref a0]) 1 am_q223 rfl ?_
        obtain ⟨g8, b9, e10, H⟩ := H
        refine ev_s (pc' := 64) (loc' := [.ref a0, .int i1, .int i2]) (st' := [.ref b9]) (h1 := h5) am_q223 rfl rfl rfl (am_gf2 g8 e10) ?_
        refine ev_p (pc' := 65) (loc' := [.ref a0, .int i1, .int i2]) (st' := [.int i1, .ref b9]) 1 am_q223 rfl ?_
        obtain ⟨g11, g12, H⟩ := H
        refine ev_s (pc' := 66) (loc' := [.ref a0, .int i1, .int i2]) (st' := [.int (am_gi h5 b9 (Int32.toNatClampNeg i1))]) (h1 := h5) am_q223 rfl rfl rfl (am_xx g11 g12) ?_
        refine ev_jz (t := 73) am_q223 rfl rfl (fun hq => ?_) (fun hq => ?_)
        · replace H := H.1 hq
          refine ev_p (pc' := 74) (loc' := [.ref a0, .int i1, .int i2]) (st' := [.int (0 : Int32)]) 1 am_q223 rfl ?_
          exact ev_r (v := some (.int (0 : Int32))) am_q223 rfl rfl rfl rfl H
        · replace H := H.2 hq
          refine ev_p (pc' := 74) (loc' := [.ref a0, .int i1, .int i2]) (st' := [.int (1 : Int32)]) 2 am_q223 rfl ?_
          exact ev_r (v := some (.int (1 : Int32))) am_q223 rfl rfl rfl rfl H
      replace H := H.2
      by_cases k19 : i2 = (1 : Int32)
      · replace H := H.1 k19
        refine ev_s (pc' := 75) (loc' := [.ref a0, .int i1, .int i2]) (st' := []) (h1 := h5) am_q223 rfl rfl rfl (by rw [k19]; rfl) ?_
        refine ev_p (pc' := 76) (loc' := [.ref a0, .int i1, .int i2]) (st' := [.ref a0]) 1 am_q223 rfl ?_
        obtain ⟨g14, b15, e16, H⟩ := H
        refine ev_s (pc' := 79) (loc' := [.ref a0, .int i1, .int i2]) (st' := [.ref b15]) (h1 := h5) am_q223 rfl rfl rfl (am_gf2 g14 e16) ?_
        refine ev_p (pc' := 80) (loc' := [.ref a0, .int i1, .int i2]) (st' := [.int i1, .ref b15]) 1 am_q223 rfl ?_
        obtain ⟨g17, g18, H⟩ := H
        refine ev_s (pc' := 81) (loc' := [.ref a0, .int i1, .int i2]) (st' := [.int (am_gi h5 b15 (Int32.toNatClampNeg i1))]) (h1 := h5) am_q223 rfl rfl rfl (am_xx g17 g18) ?_
        refine ev_jz (t := 88) am_q223 rfl rfl (fun hq => ?_) (fun hq => ?_)
        · replace H := H.1 hq
          refine ev_p (pc' := 89) (loc' := [.ref a0, .int i1, .int i2]) (st' := [.int (0 : Int32)]) 1 am_q223 rfl ?_
          exact ev_r (v := some (.int (0 : Int32))) am_q223 rfl rfl rfl rfl H
        · replace H := H.2 hq
          refine ev_p (pc' := 89) (loc' := [.ref a0, .int i1, .int i2]) (st' := [.int (1 : Int32)]) 2 am_q223 rfl ?_
          exact ev_r (v := some (.int (1 : Int32))) am_q223 rfl rfl rfl rfl H
      replace H := H.2
      by_cases k25 : i2 = (2 : Int32)
      · replace H := H.1 k25
        refine ev_s (pc' := 90) (loc' := [.ref a0, .int i1, .int i2]) (st' := []) (h1 := h5) am_q223 rfl rfl rfl (by rw [k25]; rfl) ?_
        refine ev_p (pc' := 91) (loc' := [.ref a0, .int i1, .int i2]) (st' := [.ref a0]) 1 am_q223 rfl ?_
        obtain ⟨g20, b21, e22, H⟩ := H
        refine ev_s (pc' := 94) (loc' := [.ref a0, .int i1, .int i2]) (st' := [.ref b21]) (h1 := h5) am_q223 rfl rfl rfl (am_gf2 g20 e22) ?_
        refine ev_p (pc' := 95) (loc' := [.ref a0, .int i1, .int i2]) (st' := [.int i1, .ref b21]) 1 am_q223 rfl ?_
        obtain ⟨g23, g24, H⟩ := H
        refine ev_s (pc' := 96) (loc' := [.ref a0, .int i1, .int i2]) (st' := [.int (am_gi h5 b21 (Int32.toNatClampNeg i1))]) (h1 := h5) am_q223 rfl rfl rfl (am_xx g23 g24) ?_
        exact ev_r (v := some (.int (am_gi h5 b21 (Int32.toNatClampNeg i1)))) am_q223 rfl rfl rfl rfl H
      replace H := H.2
      by_cases k34 : i2 = (3 : Int32)
      · replace H := H.1 k34
        refine ev_s (pc' := 97) (loc' := [.ref a0, .int i1, .int i2]) (st' := []) (h1 := h5) am_q223 rfl rfl rfl (by rw [k34]; rfl) ?_
        refine ev_p (pc' := 98) (loc' := [.ref a0, .int i1, .int i2]) (st' := [.ref a0]) 1 am_q223 rfl ?_
        obtain ⟨g26, b27, e28, H⟩ := H
        refine ev_s (pc' := 101) (loc' := [.ref a0, .int i1, .int i2]) (st' := [.ref b27]) (h1 := h5) am_q223 rfl rfl rfl (am_gf2 g26 e28) ?_
        refine ev_p (pc' := 102) (loc' := [.ref a0, .int i1, .int i2]) (st' := [.int i1, .ref b27]) 1 am_q223 rfl ?_
        obtain ⟨g29, g30, H⟩ := H
        refine ev_s (pc' := 103) (loc' := [.ref a0, .int i1, .int i2]) (st' := [.int (am_gi h5 b27 (Int32.toNatClampNeg i1))]) (h1 := h5) am_q223 rfl rfl rfl (am_xx g29 g30) ?_
        refine ev_c (vs := [.int (am_gi h5 b27 (Int32.toNatClampNeg i1))]) (rest := []) 190 am_q223 rfl rfl rfl rfl rfl rfl rfl rfl rfl rfl rfl rfl (Or.inl rfl) (Cl.mono H (Nat.le_refl _) (fun r32 h31 H => ?_))
        obtain ⟨x33, rfl, H⟩ := H
        exact ev_r (v := some (.int x33)) am_q223 rfl rfl rfl rfl H
      replace H := H.2
      by_cases k43 : i2 = (4 : Int32)
      · replace H := H.1 k43
        refine ev_s (pc' := 107) (loc' := [.ref a0, .int i1, .int i2]) (st' := []) (h1 := h5) am_q223 rfl rfl rfl (by rw [k43]; rfl) ?_
        refine ev_p (pc' := 108) (loc' := [.ref a0, .int i1, .int i2]) (st' := [.ref a0]) 1 am_q223 rfl ?_
        obtain ⟨g35, b36, e37, H⟩ := H
        refine ev_s (pc' := 111) (loc' := [.ref a0, .int i1, .int i2]) (st' := [.ref b36]) (h1 := h5) am_q223 rfl rfl rfl (am_gf2 g35 e37) ?_
        refine ev_p (pc' := 112) (loc' := [.ref a0, .int i1, .int i2]) (st' := [.int i1, .ref b36]) 1 am_q223 rfl ?_
        obtain ⟨g38, g39, H⟩ := H
        refine ev_s (pc' := 113) (loc' := [.ref a0, .int i1, .int i2]) (st' := [.int (am_gi h5 b36 (Int32.toNatClampNeg i1))]) (h1 := h5) am_q223 rfl rfl rfl (am_xx g38 g39) ?_
        refine ev_c (vs := [.int (am_gi h5 b36 (Int32.toNatClampNeg i1))]) (rest := []) 190 am_q223 rfl rfl rfl rfl rfl rfl rfl rfl rfl rfl rfl rfl (Or.inl rfl) (Cl.mono H (Nat.le_refl _) (fun r41 h40 H => ?_))
        obtain ⟨x42, rfl, H⟩ := H
        exact ev_r (v := some (.int x42)) am_q223 rfl rfl rfl rfl H
      replace H := H.2
      by_cases k49 : i2 = (5 : Int32)
      · replace H := H.1 k49
        refine ev_s (pc' := 117) (loc' := [.ref a0, .int i1, .int i2]) (st' := []) (h1 := h5) am_q223 rfl rfl rfl (by rw [k49]; rfl) ?_
        refine ev_p (pc' := 118) (loc' := [.ref a0, .int i1, .int i2]) (st' := [.ref a0]) 1 am_q223 rfl ?_
        obtain ⟨g44, b45, e46, H⟩ := H
        refine ev_s (pc' := 121) (loc' := [.ref a0, .int i1, .int i2]) (st' := [.ref b45]) (h1 := h5) am_q223 rfl rfl rfl (am_gf2 g44 e46) ?_
        refine ev_p (pc' := 122) (loc' := [.ref a0, .int i1, .int i2]) (st' := [.int i1, .ref b45]) 1 am_q223 rfl ?_
        obtain ⟨g47, g48, H⟩ := H
        refine ev_s (pc' := 123) (loc' := [.ref a0, .int i1, .int i2]) (st' := [.int (am_gi h5 b45 (Int32.toNatClampNeg i1))]) (h1 := h5) am_q223 rfl rfl rfl (am_xx g47 g48) ?_
        exact ev_r (v := some (.int (am_gi h5 b45 (Int32.toNatClampNeg i1)))) am_q223 rfl rfl rfl rfl H
      replace H := H.2
      replace H := H ⟨k13, k19, k25, k34, k43, k49⟩
      refine ev_s (pc' := 124) (loc' := [.ref a0, .int i1, .int i2]) (st' := []) (h1 := h5) am_q223 rfl rfl rfl (am_tso (x := (i2).toInt) (by have z0 : (i2).toInt ≠ 0 := am_tn k13 (by decide); have z1 : (i2).toInt ≠ 1 := am_tn k19 (by decide); have z2 : (i2).toInt ≠ 2 := am_tn k25 (by decide); have z3 : (i2).toInt ≠ 3 := am_tn k34 (by decide); have z4 : (i2).toInt ≠ 4 := am_tn k43 (by decide); have z5 : (i2).toInt ≠ 5 := am_tn k49 (by decide); omega)) ?_
      refine ev_p (pc' := 125) (loc' := [.ref a0, .int i1, .int i2]) (st' := [.ref a0]) 1 am_q223 rfl ?_
      obtain ⟨g50, b51, e52, H⟩ := H
      refine ev_s (pc' := 128) (loc' := [.ref a0, .int i1, .int i2]) (st' := [.ref b51]) (h1 := h5) am_q223 rfl rfl rfl (am_gf2 g50 e52) ?_
      refine ev_p (pc' := 129) (loc' := [.ref a0, .int i1, .int i2]) (st' := [.int i1, .ref b51]) 1 am_q223 rfl ?_
      obtain ⟨g53, g54, H⟩ := H
      refine ev_s (pc' := 130) (loc' := [.ref a0, .int i1, .int i2]) (st' := [.int (am_gi h5 b51 (Int32.toNatClampNeg i1))]) (h1 := h5) am_q223 rfl rfl rfl (am_xx g53 g54) ?_
      exact ev_r (v := some (.int (am_gi h5 b51 (Int32.toNatClampNeg i1)))) am_q223 rfl rfl rfl rfl H
    · replace H := H.2 hq
      refine ev_p (pc' := 20) (loc' := [.null, .null, .null]) (st' := [.int (-2 : Int32)]) 1 am_q223 rfl ?_
      exact ev_r (v := some (.int (-2 : Int32))) am_q223 rfl rfl rfl rfl H
/-! 224: X12_text -/
theorem am_q224 : (am_mt 224).2.2.2.2.2 = am_m224.2.2.2.2.2 := rfl
set_option maxRecDepth 20000 in
set_option maxHeartbeats 2000000 in
theorem wp224 {d : Nat} (a0 : Nat) (i1 : Int32) {h : AH} {Q : Option Value → AH → Prop} (H : Cl d 167 [.int i1, .int (0 : Int32), .int (2000000 : Int32)] h (fun r2 h1 => ∃ x3, r2 = some (.int x3) ∧ (x3 = (0 : Int32) → Q (some (.int (-2 : Int32))) h1) ∧ (¬ x3 = (0 : Int32) → am_kd h1 a0 = 12 ∧ Cl d 215 [.ref a0, .int i1] h1 (fun r5 h4 => ∃ x7, r5 = some (.int x7) ∧ Q (some (.int x7)) h4)))) : Cl (d + 1) 224 [.ref a0, .int i1] h Q := by
  show Ev (d + 1) 224 0 [.ref a0, .int i1] [] h Q
  refine ev_p (pc' := 4) (loc' := [.ref a0, .int i1]) (st' := [.int (2000000 : Int32), .int (0 : Int32), .int i1]) 3 am_q224 rfl ?_
  refine ev_c (vs := [.int i1, .int (0 : Int32), .int (2000000 : Int32)]) (rest := []) 167 am_q224 rfl rfl rfl rfl rfl rfl rfl rfl rfl rfl rfl rfl (Or.inl rfl) (Cl.mono H (Nat.le_refl _) (fun r2 h1 H => ?_))
  obtain ⟨x3, rfl, H⟩ := H
  refine ev_jz (t := 18) am_q224 rfl rfl (fun hq => ?_) (fun hq => ?_)
  · replace H := H.1 hq
    refine ev_p (pc' := 20) (loc' := [.ref a0, .int i1]) (st' := [.int (-2 : Int32)]) 1 am_q224 rfl ?_
    exact ev_r (v := some (.int (-2 : Int32))) am_q224 rfl rfl rfl rfl H
  · replace H := H.2 hq
    refine ev_p (pc' := 12) (loc' := [.ref a0, .int i1]) (st' := [.int i1, .ref a0]) 2 am_q224 rfl ?_
    obtain ⟨g6, H⟩ := H
    refine ev_c (vs := [.ref a0, .int i1]) (rest := []) 215 am_q224 rfl rfl rfl rfl rfl rfl rfl rfl rfl rfl rfl rfl (Or.inr (congrArg some g6)) (Cl.mono H (Nat.le_refl _) (fun r5 h4 H => ?_))
    obtain ⟨x7, rfl, H⟩ := H
    refine ev_p (pc' := 20) (loc' := [.ref a0, .int i1]) (st' := [.int x7]) 1 am_q224 rfl ?_
    exact ev_r (v := some (.int x7)) am_q224 rfl rfl rfl rfl H
/-! 225: X12_wait -/
theorem am_q225 : (am_mt 225).2.2.2.2.2 = am_m225.2.2.2.2.2 := rfl
set_option maxRecDepth 20000 in
set_option maxHeartbeats 2000000 in
theorem wp225 {d : Nat} (a0 : Nat) (i1 : Int32) {h : AH} {Q : Option Value → AH → Prop} (H : am_kd h a0 = 12 ∧ Cl d 169 [.ref a0, .int i1] h (fun r2 h1 => ∃ x4, r2 = some (.int x4) ∧ ((¬ x4 = (0 : Int32)) → am_kd h1 a0 = 12 ∧ Cl d 170 [.ref a0, .int i1] h1 (fun r6 h5 => ∃ x8, r6 = some (.int x8) ∧ ((¬ x8 = (0 : Int32)) → am_kd h5 a0 = 12 ∧ ∃ b10, am_gr h5 a0 11 = some b10 ∧ am_kd h5 b10 = 100 ∧ am_in i1 (am_ln h5 b10) ∧ ((am_gi h5 b10 (Int32.toNatClampNeg i1)) = (-1 : Int32) → am_kd h5 a0 = 12 ∧ ∃ b15, am_gr h5 a0 11 = some b15 ∧ am_kd h5 a0 = 12 ∧ (am_kd h5 b15 = 100 ∧ 6 ≤ b15) ∧ am_in i1 (am_ln h5 b15) ∧ ∀ h20, h20 = am_si h5 b15 (Int32.toNatClampNeg i1) (am_gi h5 a0 0) → Q (some (.int (1 : Int32))) h20) ∧ (¬ (am_gi h5 b10 (Int32.toNatClampNeg i1)) = (-1 : Int32) → Q (some (.int (0 : Int32))) h5)) ∧ (¬ (¬ x8 = (0 : Int32)) → Q (some (.int (-3 : Int32))) h5))) ∧ (¬ (¬ x4 = (0 : Int32)) → Q (some (.int (-2 : Int32))) h1))) : Cl (d + 1) 225 [.ref a0, .int i1] h Q := by
  show Ev (d + 1) 225 0 [.ref a0, .int i1] [] h Q
  refine ev_p (pc' := 2) (loc' := [.ref a0, .int i1]) (st' := [.int i1, .ref a0]) 2 am_q225 rfl ?_
  obtain ⟨g3, H⟩ := H
  refine ev_c (vs := [.ref a0, .int i1]) (rest := []) 169 am_q225 rfl rfl rfl rfl rfl rfl rfl rfl rfl rfl rfl rfl (Or.inr (congrArg some g3)) (Cl.mono H (Nat.le_refl _) (fun r2 h1 H => ?_))
  obtain ⟨x4, rfl, H⟩ := H
  refine ev_jz (t := 11) am_q225 rfl rfl (fun hq => ?_) (fun hq => ?_)
  · replace H := H.1 hq
    refine ev_p (pc' := 13) (loc' := [.ref a0, .int i1]) (st' := [.int i1, .ref a0]) 2 am_q225 rfl ?_
    obtain ⟨g7, H⟩ := H
    refine ev_c (vs := [.ref a0, .int i1]) (rest := []) 170 am_q225 rfl rfl rfl rfl rfl rfl rfl rfl rfl rfl rfl rfl (Or.inr (congrArg some g7)) (Cl.mono H (Nat.le_refl _) (fun r6 h5 H => ?_))
    obtain ⟨x8, rfl, H⟩ := H
    refine ev_jz (t := 22) am_q225 rfl rfl (fun hq => ?_) (fun hq => ?_)
    · replace H := H.1 hq
      refine ev_p (pc' := 23) (loc' := [.ref a0, .int i1]) (st' := [.ref a0]) 1 am_q225 rfl ?_
      obtain ⟨g9, b10, e11, H⟩ := H
      refine ev_s (pc' := 26) (loc' := [.ref a0, .int i1]) (st' := [.ref b10]) (h1 := h5) am_q225 rfl rfl rfl (am_gf2 g9 e11) ?_
      refine ev_p (pc' := 27) (loc' := [.ref a0, .int i1]) (st' := [.int i1, .ref b10]) 1 am_q225 rfl ?_
      obtain ⟨g12, g13, H⟩ := H
      refine ev_s (pc' := 28) (loc' := [.ref a0, .int i1]) (st' := [.int (am_gi h5 b10 (Int32.toNatClampNeg i1))]) (h1 := h5) am_q225 rfl rfl rfl (am_xx g12 g13) ?_
      refine ev_p (pc' := 29) (loc' := [.ref a0, .int i1]) (st' := [.int (-1 : Int32), .int (am_gi h5 b10 (Int32.toNatClampNeg i1))]) 1 am_q225 rfl ?_
      refine ev_jc (t := 34) am_q225 rfl rfl (fun hq => ?_) (fun hq => ?_)
      · replace H := H.1 hq
        refine ev_p (pc' := 35) (loc' := [.ref a0, .int i1]) (st' := [.ref a0]) 1 am_q225 rfl ?_
        obtain ⟨g14, b15, e16, H⟩ := H
        refine ev_s (pc' := 38) (loc' := [.ref a0, .int i1]) (st' := [.ref b15]) (h1 := h5) am_q225 rfl rfl rfl (am_gf2 g14 e16) ?_
        refine ev_p (pc' := 40) (loc' := [.ref a0, .int i1]) (st' := [.ref a0, .int i1, .ref b15]) 2 am_q225 rfl ?_
        obtain ⟨g17, H⟩ := H
        refine ev_s (pc' := 43) (loc' := [.ref a0, .int i1]) (st' := [.int (am_gi h5 a0 0), .int i1, .ref b15]) (h1 := h5) am_q225 rfl rfl rfl (if_pos (e := none) g17) ?_
        obtain ⟨g18, g19, H⟩ := H
        refine ev_s (pc' := 44) (loc' := [.ref a0, .int i1]) (st' := []) (h1 := am_si h5 b15 (Int32.toNatClampNeg i1) (am_gi h5 a0 0)) am_q225 rfl rfl rfl (am_xx g18 g19) ?_
        replace H := H _ rfl
        generalize am_si h5 b15 (Int32.toNatClampNeg i1) (am_gi h5 a0 0) = h20 at H ⊢
        refine ev_p (pc' := 45) (loc' := [.ref a0, .int i1]) (st' := [.int (1 : Int32)]) 1 am_q225 rfl ?_
        exact ev_r (v := some (.int (1 : Int32))) am_q225 rfl rfl rfl rfl H
      · replace H := H.2 hq
        refine ev_p (pc' := 33) (loc' := [.ref a0, .int i1]) (st' := [.int (0 : Int32)]) 1 am_q225 rfl ?_
        exact ev_r (v := some (.int (0 : Int32))) am_q225 rfl rfl rfl rfl H
    · replace H := H.2 hq
      refine ev_p (pc' := 21) (loc' := [.ref a0, .int i1]) (st' := [.int (-3 : Int32)]) 1 am_q225 rfl ?_
      exact ev_r (v := some (.int (-3 : Int32))) am_q225 rfl rfl rfl rfl H
  · replace H := H.2 hq
    refine ev_p (pc' := 10) (loc' := [.ref a0, .int i1]) (st' := [.int (-2 : Int32)]) 1 am_q225 rfl ?_
    exact ev_r (v := some (.int (-2 : Int32))) am_q225 rfl rfl rfl rfl H
/-! 226: X12_points -/
theorem am_q226 : (am_mt 226).2.2.2.2.2 = am_m226.2.2.2.2.2 := rfl
set_option maxRecDepth 20000 in
set_option maxHeartbeats 2000000 in
theorem wp226 {d : Nat} (a0 : Nat) (i1 : Int32) (i2 : Int32) (i3 : Int32) {h : AH} {Q : Option Value → AH → Prop} (H : am_kd h a0 = 12 ∧ Cl d 169 [.ref a0, .int i1] h (fun r2 h1 => ∃ x4, r2 = some (.int x4) ∧ (x4 = (0 : Int32) → Q (some (.long (-4611686018427387904 : Int64))) h1) ∧ (¬ x4 = (0 : Int32) → am_kd h1 a0 = 12 ∧ Cl d 168 [.ref a0, .int i2] h1 (fun r6 h5 => ∃ x8, r6 = some (.int x8) ∧ (x8 = (0 : Int32) → Q (some (.long (-4611686018427387904 : Int64))) h5) ∧ (¬ x8 = (0 : Int32) → Cl d 167 [.int i3, .int (0 : Int32), .int (1 : Int32)] h5 (fun r10 h9 => ∃ x11, r10 = some (.int x11) ∧ (x11 = (0 : Int32) → Q (some (.long (-4611686018427387904 : Int64))) h9) ∧ (¬ x11 = (0 : Int32) → am_kd h9 a0 = 12 ∧ Cl d 213 [.ref a0, .int i3, .int i1, .int i2] h9 (fun r13 h12 => ∃ y15, r13 = some (.long y15) ∧ Q (some (.long y15)) h12)))))))) : Cl (d + 1) 226 [.ref a0, .int i1, .int i2, .int i3] h Q := by
  show Ev (d + 1) 226 0 [.ref a0, .int i1, .int i2, .int i3] [] h Q
  refine ev_p (pc' := 2) (loc' := [.ref a0, .int i1, .int i2, .int i3]) (st' := [.int i1, .ref a0]) 2 am_q226 rfl ?_
  obtain ⟨g3, H⟩ := H
  refine ev_c (vs := [.ref a0, .int i1]) (rest := []) 169 am_q226 rfl rfl rfl rfl rfl rfl rfl rfl rfl rfl rfl rfl (Or.inr (congrArg some g3)) (Cl.mono H (Nat.le_refl _) (fun r2 h1 H => ?_))
  obtain ⟨x4, rfl, H⟩ := H
  refine ev_jz (t := 35) am_q226 rfl rfl (fun hq => ?_) (fun hq => ?_)
  · replace H := H.1 hq
    refine ev_p (pc' := 38) (loc' := [.null, .null, .null, .null]) (st' := [.long (-4611686018427387904 : Int64)]) 1 am_q226 rfl ?_
    exact ev_r (v := some (.long (-4611686018427387904 : Int64))) am_q226 rfl rfl rfl rfl H
  · replace H := H.2 hq
    refine ev_p (pc' := 10) (loc' := [.ref a0, .int i1, .int i2, .int i3]) (st' := [.int i2, .ref a0]) 2 am_q226 rfl ?_
    obtain ⟨g7, H⟩ := H
    refine ev_c (vs := [.ref a0, .int i2]) (rest := []) 168 am_q226 rfl rfl rfl rfl rfl rfl rfl rfl rfl rfl rfl rfl (Or.inr (congrArg some g7)) (Cl.mono H (Nat.le_refl _) (fun r6 h5 H => ?_))
    obtain ⟨x8, rfl, H⟩ := H
    refine ev_jz (t := 35) am_q226 rfl rfl (fun hq => ?_) (fun hq => ?_)
    · replace H := H.1 hq
      refine ev_p (pc' := 38) (loc' := [.null, .null, .null, .null]) (st' := [.long (-4611686018427387904 : Int64)]) 1 am_q226 rfl ?_
      exact ev_r (v := some (.long (-4611686018427387904 : Int64))) am_q226 rfl rfl rfl rfl H
    · replace H := H.2 hq
      refine ev_p (pc' := 19) (loc' := [.ref a0, .int i1, .int i2, .int i3]) (st' := [.int (1 : Int32), .int (0 : Int32), .int i3]) 3 am_q226 rfl ?_
      refine ev_c (vs := [.int i3, .int (0 : Int32), .int (1 : Int32)]) (rest := []) 167 am_q226 rfl rfl rfl rfl rfl rfl rfl rfl rfl rfl rfl rfl (Or.inl rfl) (Cl.mono H (Nat.le_refl _) (fun r10 h9 H => ?_))
      obtain ⟨x11, rfl, H⟩ := H
      refine ev_jz (t := 35) am_q226 rfl rfl (fun hq => ?_) (fun hq => ?_)
      · replace H := H.1 hq
        refine ev_p (pc' := 38) (loc' := [.null, .null, .null, .null]) (st' := [.long (-4611686018427387904 : Int64)]) 1 am_q226 rfl ?_
        exact ev_r (v := some (.long (-4611686018427387904 : Int64))) am_q226 rfl rfl rfl rfl H
      · replace H := H.2 hq
        refine ev_p (pc' := 29) (loc' := [.ref a0, .int i1, .int i2, .int i3]) (st' := [.int i2, .int i1, .int i3, .ref a0]) 4 am_q226 rfl ?_
        obtain ⟨g14, H⟩ := H
        refine ev_c (vs := [.ref a0, .int i3, .int i1, .int i2]) (rest := []) 213 am_q226 rfl rfl rfl rfl rfl rfl rfl rfl rfl rfl rfl rfl (Or.inr (congrArg some g14)) (Cl.mono H (Nat.le_refl _) (fun r13 h12 H => ?_))
        obtain ⟨y15, rfl, H⟩ := H
        refine ev_p (pc' := 38) (loc' := [.ref a0, .int i1, .int i2, .int i3]) (st' := [.long y15]) 1 am_q226 rfl ?_
        exact ev_r (v := some (.long y15)) am_q226 rfl rfl rfl rfl H
/-! 227: X12_isIn -/
theorem am_q227 : (am_mt 227).2.2.2.2.2 = am_m227.2.2.2.2.2 := rfl
set_option maxRecDepth 20000 in
set_option maxHeartbeats 2000000 in
theorem wp227 {d : Nat} (a0 : Nat) (i1 : Int32) (i2 : Int32) {h : AH} {Q : Option Value → AH → Prop} (H : am_kd h a0 = 12 ∧ ∃ b2, am_gr h a0 11 = some b2 ∧ am_kd h b2 = 100 ∧ am_in i1 (am_ln h b2) ∧ ((am_gi h b2 (Int32.toNatClampNeg i1)) = (-1 : Int32) → Q (some (.int (0 : Int32))) h) ∧ (¬ (am_gi h b2 (Int32.toNatClampNeg i1)) = (-1 : Int32) → am_kd h a0 = 12 ∧ Cl d 213 [.ref a0, .int (1 : Int32), .int i1, .int i2] h (fun r7 h6 => ∃ y9, r7 = some (.long y9) ∧ ((lg_cmp y9 (0 : Int64)) = (0 : Int32) → Q (some (.int (0 : Int32))) h6) ∧ (¬ (lg_cmp y9 (0 : Int64)) = (0 : Int32) → Q (some (.int (1 : Int32))) h6)))) : Cl (d + 1) 227 [.ref a0, .int i1, .int i2] h Q := by
  show Ev (d + 1) 227 0 [.ref a0, .int i1, .int i2] [] h Q
  refine ev_p (pc' := 1) (loc' := [.ref a0, .int i1, .int i2]) (st' := [.ref a0]) 1 am_q227 rfl ?_
  obtain ⟨g1, b2, e3, H⟩ := H
  refine ev_s (pc' := 4) (loc' := [.ref a0, .int i1, .int i2]) (st' := [.ref b2]) (h1 := h) am_q227 rfl rfl rfl (am_gf2 g1 e3) ?_
  refine ev_p (pc' := 5) (loc' := [.ref a0, .int i1, .int i2]) (st' := [.int i1, .ref b2]) 1 am_q227 rfl ?_
  obtain ⟨g4, g5, H⟩ := H
  refine ev_s (pc' := 6) (loc' := [.ref a0, .int i1, .int i2]) (st' := [.int (am_gi h b2 (Int32.toNatClampNeg i1))]) (h1 := h) am_q227 rfl rfl rfl (am_xx g4 g5) ?_
  refine ev_p (pc' := 7) (loc' := [.ref a0, .int i1, .int i2]) (st' := [.int (-1 : Int32), .int (am_gi h b2 (Int32.toNatClampNeg i1))]) 1 am_q227 rfl ?_
  refine ev_jc (t := 26) am_q227 rfl rfl (fun hq => ?_) (fun hq => ?_)
  · replace H := H.1 hq
    refine ev_p (pc' := 27) (loc' := [.null, .null, .null]) (st' := [.int (0 : Int32)]) 1 am_q227 rfl ?_
    exact ev_r (v := some (.int (0 : Int32))) am_q227 rfl rfl rfl rfl H
  · replace H := H.2 hq
    refine ev_p (pc' := 14) (loc' := [.ref a0, .int i1, .int i2]) (st' := [.int i2, .int i1, .int (1 : Int32), .ref a0]) 4 am_q227 rfl ?_
    obtain ⟨g8, H⟩ := H
    refine ev_c (vs := [.ref a0, .int (1 : Int32), .int i1, .int i2]) (rest := []) 213 am_q227 rfl rfl rfl rfl rfl rfl rfl rfl rfl rfl rfl rfl (Or.inr (congrArg some g8)) (Cl.mono H (Nat.le_refl _) (fun r7 h6 H => ?_))
    obtain ⟨y9, rfl, H⟩ := H
    refine ev_p (pc' := 19) (loc' := [.ref a0, .int i1, .int i2]) (st' := [.int (lg_cmp y9 (0 : Int64))]) 2 am_q227 rfl ?_
    refine ev_jz (t := 26) am_q227 rfl rfl (fun hq => ?_) (fun hq => ?_)
    · replace H := H.1 hq
      refine ev_p (pc' := 27) (loc' := [.null, .null, .null]) (st' := [.int (0 : Int32)]) 1 am_q227 rfl ?_
      exact ev_r (v := some (.int (0 : Int32))) am_q227 rfl rfl rfl rfl H
    · replace H := H.2 hq
      refine ev_p (pc' := 27) (loc' := [.ref a0, .int i1, .int i2]) (st' := [.int (1 : Int32)]) 2 am_q227 rfl ?_
      exact ev_r (v := some (.int (1 : Int32))) am_q227 rfl rfl rfl rfl H
/-! 228: X12_isAhead -/
theorem am_q228 : (am_mt 228).2.2.2.2.2 = am_m228.2.2.2.2.2 := rfl
set_option maxRecDepth 20000 in
set_option maxHeartbeats 2000000 in
theorem wp228 {d : Nat} (a0 : Nat) (i1 : Int32) (i2 : Int32) (i3 : Int32) {h : AH} {Q : Option Value → AH → Prop} (H : am_kd h a0 = 12 ∧ Cl d 213 [.ref a0, .int (0 : Int32), .int i1, .int i3] h (fun r2 h1 => ∃ y4, r2 = some (.long y4) ∧ am_kd h1 a0 = 12 ∧ Cl d 213 [.ref a0, .int (0 : Int32), .int i2, .int i3] h1 (fun r6 h5 => ∃ y8, r6 = some (.long y8) ∧ ((lg_cmp y4 y8) = (0 : Int32) → am_kd h5 a0 = 12 ∧ ∃ b10, am_gr h5 a0 11 = some b10 ∧ am_kd h5 b10 = 100 ∧ am_in i1 (am_ln h5 b10) ∧ am_kd h5 a0 = 12 ∧ ∃ b15, am_gr h5 a0 11 = some b15 ∧ am_kd h5 b15 = 100 ∧ am_in i2 (am_ln h5 b15) ∧ ((am_gi h5 b10 (Int32.toNatClampNeg i1)) = (am_gi h5 b15 (Int32.toNatClampNeg i2)) → (i2 ≤ i1 → Q (some (.int (0 : Int32))) h5) ∧ (¬ i2 ≤ i1 → Q (some (.int (1 : Int32))) h5)) ∧ (¬ (am_gi h5 b10 (Int32.toNatClampNeg i1)) = (am_gi h5 b15 (Int32.toNatClampNeg i2)) → am_kd h5 a0 = 12 ∧ ∃ b20, am_gr h5 a0 11 = some b20 ∧ am_kd h5 b20 = 100 ∧ am_in i1 (am_ln h5 b20) ∧ am_kd h5 a0 = 12 ∧ ∃ b25, am_gr h5 a0 11 = some b25 ∧ am_kd h5 b25 = 100 ∧ am_in i2 (am_ln h5 b25) ∧ ((am_gi h5 b25 (Int32.toNatClampNeg i2)) ≤ (am_gi h5 b20 (Int32.toNatClampNeg i1)) → Q (some (.int (0 : Int32))) h5) ∧ (¬ (am_gi h5 b25 (Int32.toNatClampNeg i2)) ≤ (am_gi h5 b20 (Int32.toNatClampNeg i1)) → Q (some (.int (1 : Int32))) h5))) ∧ (¬ (lg_cmp y4 y8) = (0 : Int32) → ((lg_cmp y4 y8) ≤ (0 : Int32) → Q (some (.int (0 : Int32))) h5) ∧ (¬ (lg_cmp y4 y8) ≤ (0 : Int32) → Q (some (.int (1 : Int32))) h5))))) : Cl (d + 1) 228 [.ref a0, .int i1, .int i2, .int i3] h Q := by
  show Ev (d + 1) 228 0 [.ref a0, .int i1, .int i2, .int i3, .null, .null, .null, .null] [] h Q
  refine ev_p (pc' := 4) (loc' := [.ref a0, .int i1, .int i2, .int i3, .null, .null, .null, .null]) (st' := [.int i3, .int i1, .int (0 : Int32), .ref a0]) 4 am_q228 rfl ?_
  obtain ⟨g3, H⟩ := H
  refine ev_c (vs := [.ref a0, .int (0 : Int32), .int i1, .int i3]) (rest := []) 213 am_q228 rfl rfl rfl rfl rfl rfl rfl rfl rfl rfl rfl rfl (Or.inr (congrArg some g3)) (Cl.mono H (Nat.le_refl _) (fun r2 h1 H => ?_))
  obtain ⟨y4, rfl, H⟩ := H
  refine ev_p (pc' := 13) (loc' := [.ref a0, .int i1, .int i2, .int i3, .long y4, .null, .null, .null]) (st' := [.int i3, .int i2, .int (0 : Int32), .ref a0]) 5 am_q228 rfl ?_
  obtain ⟨g7, H⟩ := H
  refine ev_c (vs := [.ref a0, .int (0 : Int32), .int i2, .int i3]) (rest := []) 213 am_q228 rfl rfl rfl rfl rfl rfl rfl rfl rfl rfl rfl rfl (Or.inr (congrArg some g7)) (Cl.mono H (Nat.le_refl _) (fun r6 h5 H => ?_))
  obtain ⟨y8, rfl, H⟩ := H
  refine ev_p (pc' := 23) (loc' := [.ref a0, .int i1, .int i2, .int i3, .long y4, .null, .long y8, .null]) (st' := [.int (lg_cmp y4 y8)]) 4 am_q228 rfl ?_
  refine ev_jz (t := 42) am_q228 rfl rfl (fun hq => ?_) (fun hq => ?_)
  · replace H := H.1 hq
    refine ev_p (pc' := 43) (loc' := [.ref a0, .int i1, .int i2, .int i3, .long y4, .null, .long y8, .null]) (st' := [.ref a0]) 1 am_q228 rfl ?_
    obtain ⟨g9, b10, e11, H⟩ := H
    refine ev_s (pc' := 46) (loc' := [.ref a0, .int i1, .int i2, .int i3, .long y4, .null, .long y8, .null]) (st' := [.ref b10]) (h1 := h5) am_q228 rfl rfl rfl (am_gf2 g9 e11) ?_
    refine ev_p (pc' := 47) (loc' := [.ref a0, .int i1, .int i2, .int i3, .long y4, .null, .long y8, .null]) (st' := [.int i1, .ref b10]) 1 am_q228 rfl ?_
    obtain ⟨g12, g13, H⟩ := H
    refine ev_s (pc' := 48) (loc' := [.ref a0, .int i1, .int i2, .int i3, .long y4, .null, .long y8, .null]) (st' := [.int (am_gi h5 b10 (Int32.toNatClampNeg i1))]) (h1 := h5) am_q228 rfl rfl rfl (am_xx g12 g13) ?_
    refine ev_p (pc' := 49) (loc' := [.ref a0, .int i1, .int i2, .int i3, .long y4, .null, .long y8, .null]) (st' := [.ref a0, .int (am_gi h5 b10 (Int32.toNatClampNeg i1))]) 1 am_q228 rfl ?_
    obtain ⟨g14, b15, e16, H⟩ := H
    refine ev_s (pc' := 52) (loc' := [.ref a0, .int i1, .int i2, .int i3, .long y4, .null, .long y8, .null]) (st' := [.ref b15, .int (am_gi h5 b10 (Int32.toNatClampNeg i1))]) (h1 := h5) am_q228 rfl rfl rfl (am_gf2 g14 e16) ?_
    refine ev_p (pc' := 53) (loc' := [.ref a0, .int i1, .int i2, .int i3, .long y4, .null, .long y8, .null]) (st' := [.int i2, .ref b15, .int (am_gi h5 b10 (Int32.toNatClampNeg i1))]) 1 am_q228 rfl ?_
    obtain ⟨g17, g18, H⟩ := H
    refine ev_s (pc' := 54) (loc' := [.ref a0, .int i1, .int i2, .int i3, .long y4, .null, .long y8, .null]) (st' := [.int (am_gi h5 b15 (Int32.toNatClampNeg i2)), .int (am_gi h5 b10 (Int32.toNatClampNeg i1))]) (h1 := h5) am_q228 rfl rfl rfl (am_xx g17 g18) ?_
    refine ev_jc (t := 80) am_q228 rfl rfl (fun hq => ?_) (fun hq => ?_)
    · replace H := H.1 hq
      refine ev_p (pc' := 82) (loc' := [.ref a0, .int i1, .int i2, .int i3, .long y4, .null, .long y8, .null]) (st' := [.int i2, .int i1]) 2 am_q228 rfl ?_
      refine ev_jc (t := 89) am_q228 rfl rfl (fun hq => ?_) (fun hq => ?_)
      · replace H := H.1 hq
        refine ev_p (pc' := 90) (loc' := [.ref a0, .int i1, .int i2, .int i3, .long y4, .null, .long y8, .null]) (st' := [.int (0 : Int32)]) 1 am_q228 rfl ?_
        exact ev_r (v := some (.int (0 : Int32))) am_q228 rfl rfl rfl rfl H
      · replace H := H.2 hq
        refine ev_p (pc' := 90) (loc' := [.ref a0, .int i1, .int i2, .int i3, .long y4, .null, .long y8, .null]) (st' := [.int (1 : Int32)]) 2 am_q228 rfl ?_
        exact ev_r (v := some (.int (1 : Int32))) am_q228 rfl rfl rfl rfl H
    · replace H := H.2 hq
      refine ev_p (pc' := 58) (loc' := [.ref a0, .int i1, .int i2, .int i3, .long y4, .null, .long y8, .null]) (st' := [.ref a0]) 1 am_q228 rfl ?_
      obtain ⟨g19, b20, e21, H⟩ := H
      refine ev_s (pc' := 61) (loc' := [.ref a0, .int i1, .int i2, .int i3, .long y4, .null, .long y8, .null]) (st' := [.ref b20]) (h1 := h5) am_q228 rfl rfl rfl (am_gf2 g19 e21) ?_
      refine ev_p (pc' := 62) (loc' := [.ref a0, .int i1, .int i2, .int i3, .long y4, .null, .long y8, .null]) (st' := [.int i1, .ref b20]) 1 am_q228 rfl ?_
      obtain ⟨g22, g23, H⟩ := H
      refine ev_s (pc' := 63) (loc' := [.ref a0, .int i1, .int i2, .int i3, .long y4, .null, .long y8, .null]) (st' := [.int (am_gi h5 b20 (Int32.toNatClampNeg i1))]) (h1 := h5) am_q228 rfl rfl rfl (am_xx g22 g23) ?_
      refine ev_p (pc' := 64) (loc' := [.ref a0, .int i1, .int i2, .int i3, .long y4, .null, .long y8, .null]) (st' := [.ref a0, .int (am_gi h5 b20 (Int32.toNatClampNeg i1))]) 1 am_q228 rfl ?_
      obtain ⟨g24, b25, e26, H⟩ := H
      refine ev_s (pc' := 67) (loc' := [.ref a0, .int i1, .int i2, .int i3, .long y4, .null, .long y8, .null]) (st' := [.ref b25, .int (am_gi h5 b20 (Int32.toNatClampNeg i1))]) (h1 := h5) am_q228 rfl rfl rfl (am_gf2 g24 e26) ?_
      refine ev_p (pc' := 68) (loc' := [.ref a0, .int i1, .int i2, .int i3, .long y4, .null, .long y8, .null]) (st' := [.int i2, .ref b25, .int (am_gi h5 b20 (Int32.toNatClampNeg i1))]) 1 am_q228 rfl ?_
      obtain ⟨g27, g28, H⟩ := H
      refine ev_s (pc' := 69) (loc' := [.ref a0, .int i1, .int i2, .int i3, .long y4, .null, .long y8, .null]) (st' := [.int (am_gi h5 b25 (Int32.toNatClampNeg i2)), .int (am_gi h5 b20 (Int32.toNatClampNeg i1))]) (h1 := h5) am_q228 rfl rfl rfl (am_xx g27 g28) ?_
      refine ev_jc (t := 76) am_q228 rfl rfl (fun hq => ?_) (fun hq => ?_)
      · replace H := H.1 hq
        refine ev_p (pc' := 90) (loc' := [.ref a0, .int i1, .int i2, .int i3, .long y4, .null, .long y8, .null]) (st' := [.int (0 : Int32)]) 2 am_q228 rfl ?_
        exact ev_r (v := some (.int (0 : Int32))) am_q228 rfl rfl rfl rfl H
      · replace H := H.2 hq
        refine ev_p (pc' := 90) (loc' := [.ref a0, .int i1, .int i2, .int i3, .long y4, .null, .long y8, .null]) (st' := [.int (1 : Int32)]) 2 am_q228 rfl ?_
        exact ev_r (v := some (.int (1 : Int32))) am_q228 rfl rfl rfl rfl H
  · replace H := H.2 hq
    refine ev_p (pc' := 31) (loc' := [.ref a0, .int i1, .int i2, .int i3, .long y4, .null, .long y8, .null]) (st' := [.int (lg_cmp y4 y8)]) 3 am_q228 rfl ?_
    refine ev_jz (t := 38) am_q228 rfl rfl (fun hq => ?_) (fun hq => ?_)
    · replace H := H.1 hq
      refine ev_p (pc' := 90) (loc' := [.ref a0, .int i1, .int i2, .int i3, .long y4, .null, .long y8, .null]) (st' := [.int (0 : Int32)]) 2 am_q228 rfl ?_
      exact ev_r (v := some (.int (0 : Int32))) am_q228 rfl rfl rfl rfl H
    · replace H := H.2 hq
      refine ev_p (pc' := 90) (loc' := [.ref a0, .int i1, .int i2, .int i3, .long y4, .null, .long y8, .null]) (st' := [.int (1 : Int32)]) 2 am_q228 rfl ?_
      exact ev_r (v := some (.int (1 : Int32))) am_q228 rfl rfl rfl rfl H
/-! 229: X12_aheadOf -/
theorem am_q229 : (am_mt 229).2.2.2.2.2 = am_m229.2.2.2.2.2 := rfl
set_option maxRecDepth 20000 in
set_option maxHeartbeats 2000000 in
theorem wp229 {d : Nat} (a0 : Nat) (i1 : Int32) (i2 : Int32) {h : AH} {Q : Option Value → AH → Prop} (H : Ev (d + 1) 229 5 [.ref a0, .int i1, .int i2, .int (0 : Int32), .int (0 : Int32)] [] h Q) : Cl (d + 1) 229 [.ref a0, .int i1, .int i2] h Q := by
  show Ev (d + 1) 229 0 [.ref a0, .int i1, .int i2, .null, .null] [] h Q
  refine ev_p (pc' := 5) (loc' := [.ref a0, .int i1, .int i2, .int (0 : Int32), .int (0 : Int32)]) (st' := []) 4 am_q229 rfl ?_
  exact ev_m (loc' := [.ref a0, .int i1, .int i2, .int (0 : Int32), .int (0 : Int32)]) am_q229 rfl rfl H
set_option maxRecDepth 20000 in
set_option maxHeartbeats 2000000 in
theorem wp229_5 {d : Nat} (a0 : Nat) (i1 : Int32) (i2 : Int32) (i3 : Int32) (i4 : Int32) {h : AH} {Q : Option Value → AH → Prop} (H : am_kd h a0 = 12 ∧ ((am_gi h a0 7) ≤ i4 → Q (some (.int i3)) h) ∧ (¬ (am_gi h a0 7) ≤ i4 → (i4 = i1 → Ev (d + 1) 229 5 [.ref a0, .int i1, .int i2, .int (i3 + (0 : Int32)), .int (i4 + (1 : Int32))] [] h Q) ∧ (¬ i4 = i1 → am_kd h a0 = 12 ∧ Cl d 227 [.ref a0, .int i4, .int i2] h (fun r3 h2 => ∃ x5, r3 = some (.int x5) ∧ (x5 = (0 : Int32) → Ev (d + 1) 229 5 [.ref a0, .int i1, .int i2, .int (i3 + (0 : Int32)), .int (i4 + (1 : Int32))] [] h2 Q) ∧ (¬ x5 = (0 : Int32) → am_kd h2 a0 = 12 ∧ Cl d 228 [.ref a0, .int i4, .int i1, .int i2] h2 (fun r7 h6 => ∃ x9, r7 = some (.int x9) ∧ (x9 = (0 : Int32) → Ev (d + 1) 229 5 [.ref a0, .int i1, .int i2, .int (i3 + (0 : Int32)), .int (i4 + (1 : Int32))] [] h6 Q) ∧ (¬ x9 = (0 : Int32) → Ev (d + 1) 229 5 [.ref a0, .int i1, .int i2, .int (i3 + (1 : Int32)), .int (i4 + (1 : Int32))] [] h6 Q))))))) : Ev (d + 1) 229 5 [.ref a0, .int i1, .int i2, .int i3, .int i4] [] h Q := by
  refine ev_p (pc' := 8) (loc' := [.ref a0, .int i1, .int i2, .int i3, .int i4]) (st' := [.ref a0, .int i4]) 2 am_q229 rfl ?_
  obtain ⟨g1, H⟩ := H
  refine ev_s (pc' := 11) (loc' := [.ref a0, .int i1, .int i2, .int i3, .int i4]) (st' := [.int (am_gi h a0 7), .int i4]) (h1 := h) am_q229 rfl rfl rfl (if_pos (e := none) g1) ?_
  refine ev_jc (t := 55) am_q229 rfl rfl (fun hq => ?_) (fun hq => ?_)
  · replace H := H.1 hq
    refine ev_p (pc' := 56) (loc' := [.ref a0, .int i1, .int i2, .int i3, .int i4]) (st' := [.int i3]) 1 am_q229 rfl ?_
    exact ev_r (v := some (.int i3)) am_q229 rfl rfl rfl rfl H
  · replace H := H.2 hq
    refine ev_p (pc' := 18) (loc' := [.ref a0, .int i1, .int i2, .int i3, .int i4]) (st' := [.int i1, .int i4, .int i3]) 3 am_q229 rfl ?_
    refine ev_jc (t := 46) am_q229 rfl rfl (fun hq => ?_) (fun hq => ?_)
    · replace H := H.1 hq
      refine ev_p (pc' := 5) (loc' := [.ref a0, .int i1, .int i2, .int (i3 + (0 : Int32)), .int (i4 + (1 : Int32))]) (st' := []) 5 am_q229 rfl ?_
      exact ev_m (loc' := [.ref a0, .int i1, .int i2, .int (i3 + (0 : Int32)), .int (i4 + (1 : Int32))]) am_q229 rfl rfl H
    · replace H := H.2 hq
      refine ev_p (pc' := 25) (loc' := [.ref a0, .int i1, .int i2, .int i3, .int i4]) (st' := [.int i2, .int i4, .ref a0, .int i3]) 3 am_q229 rfl ?_
      obtain ⟨g4, H⟩ := H
      refine ev_c (vs := [.ref a0, .int i4, .int i2]) (rest := [.int i3]) 227 am_q229 rfl rfl rfl rfl rfl rfl rfl rfl rfl rfl rfl rfl (Or.inr (congrArg some g4)) (Cl.mono H (Nat.le_refl _) (fun r3 h2 H => ?_))
      obtain ⟨x5, rfl, H⟩ := H
      refine ev_jz (t := 46) am_q229 rfl rfl (fun hq => ?_) (fun hq => ?_)
      · replace H := H.1 hq
        refine ev_p (pc' := 5) (loc' := [.ref a0, .int i1, .int i2, .int (i3 + (0 : Int32)), .int (i4 + (1 : Int32))]) (st' := []) 5 am_q229 rfl ?_
        exact ev_m (loc' := [.ref a0, .int i1, .int i2, .int (i3 + (0 : Int32)), .int (i4 + (1 : Int32))]) am_q229 rfl rfl H
      · replace H := H.2 hq
        refine ev_p (pc' := 36) (loc' := [.ref a0, .int i1, .int i2, .int i3, .int i4]) (st' := [.int i2, .int i1, .int i4, .ref a0, .int i3]) 4 am_q229 rfl ?_
        obtain ⟨g8, H⟩ := H
        refine ev_c (vs := [.ref a0, .int i4, .int i1, .int i2]) (rest := [.int i3]) 228 am_q229 rfl rfl rfl rfl rfl rfl rfl rfl rfl rfl rfl rfl (Or.inr (congrArg some g8)) (Cl.mono H (Nat.le_refl _) (fun r7 h6 H => ?_))
        obtain ⟨x9, rfl, H⟩ := H
        refine ev_jz (t := 46) am_q229 rfl rfl (fun hq => ?_) (fun hq => ?_)
        · replace H := H.1 hq
          refine ev_p (pc' := 5) (loc' := [.ref a0, .int i1, .int i2, .int (i3 + (0 : Int32)), .int (i4 + (1 : Int32))]) (st' := []) 5 am_q229 rfl ?_
          exact ev_m (loc' := [.ref a0, .int i1, .int i2, .int (i3 + (0 : Int32)), .int (i4 + (1 : Int32))]) am_q229 rfl rfl H
        · replace H := H.2 hq
          refine ev_p (pc' := 5) (loc' := [.ref a0, .int i1, .int i2, .int (i3 + (1 : Int32)), .int (i4 + (1 : Int32))]) (st' := []) 6 am_q229 rfl ?_
          exact ev_m (loc' := [.ref a0, .int i1, .int i2, .int (i3 + (1 : Int32)), .int (i4 + (1 : Int32))]) am_q229 rfl rfl H
/-! 230: X12_order -/
theorem am_q230 : (am_mt 230).2.2.2.2.2 = am_m230.2.2.2.2.2 := rfl
set_option maxRecDepth 20000 in
set_option maxHeartbeats 2000000 in
theorem wp230 {d : Nat} (a0 : Nat) (i1 : Int32) (i2 : Int32) {h : AH} {Q : Option Value → AH → Prop} (H : am_kd h a0 = 12 ∧ Cl d 168 [.ref a0, .int i1] h (fun r2 h1 => ∃ x4, r2 = some (.int x4) ∧ ((¬ x4 = (0 : Int32)) → Ev (d + 1) 230 13 [.ref a0, .int i1, .int i2, .int (0 : Int32)] [] h1 Q) ∧ (¬ (¬ x4 = (0 : Int32)) → Q (some (.int (-2 : Int32))) h1))) : Cl (d + 1) 230 [.ref a0, .int i1, .int i2] h Q := by
  show Ev (d + 1) 230 0 [.ref a0, .int i1, .int i2, .null] [] h Q
  refine ev_p (pc' := 2) (loc' := [.ref a0, .int i1, .int i2, .null]) (st' := [.int i1, .ref a0]) 2 am_q230 rfl ?_
  obtain ⟨g3, H⟩ := H
  refine ev_c (vs := [.ref a0, .int i1]) (rest := []) 168 am_q230 rfl rfl rfl rfl rfl rfl rfl rfl rfl rfl rfl rfl (Or.inr (congrArg some g3)) (Cl.mono H (Nat.le_refl _) (fun r2 h1 H => ?_))
  obtain ⟨x4, rfl, H⟩ := H
  refine ev_jz (t := 11) am_q230 rfl rfl (fun hq => ?_) (fun hq => ?_)
  · replace H := H.1 hq
    refine ev_p (pc' := 13) (loc' := [.ref a0, .int i1, .int i2, .int (0 : Int32)]) (st' := []) 2 am_q230 rfl ?_
    exact ev_m (loc' := [.ref a0, .int i1, .int i2, .int (0 : Int32)]) am_q230 rfl rfl H
  · replace H := H.2 hq
    refine ev_p (pc' := 10) (loc' := [.ref a0, .int i1, .int i2, .null]) (st' := [.int (-2 : Int32)]) 1 am_q230 rfl ?_
    exact ev_r (v := some (.int (-2 : Int32))) am_q230 rfl rfl rfl rfl H
set_option maxRecDepth 20000 in
set_option maxHeartbeats 2000000 in
theorem wp230_13 {d : Nat} (a0 : Nat) (i1 : Int32) (i2 : Int32) (i3 : Int32) {h : AH} {Q : Option Value → AH → Prop} (H : am_kd h a0 = 12 ∧ ((am_gi h a0 7) ≤ i3 → Q (some (.int (-1 : Int32))) h) ∧ (¬ (am_gi h a0 7) ≤ i3 → am_kd h a0 = 12 ∧ Cl d 227 [.ref a0, .int i3, .int i1] h (fun r3 h2 => ∃ x5, r3 = some (.int x5) ∧ (x5 = (0 : Int32) → Ev (d + 1) 230 13 [.ref a0, .int i1, .int i2, .int (i3 + (1 : Int32))] [] h2 Q) ∧ (¬ x5 = (0 : Int32) → am_kd h2 a0 = 12 ∧ Cl d 229 [.ref a0, .int i3, .int i1] h2 (fun r7 h6 => ∃ x9, r7 = some (.int x9) ∧ ((¬ x9 = i2) → Ev (d + 1) 230 13 [.ref a0, .int i1, .int i2, .int (i3 + (1 : Int32))] [] h6 Q) ∧ (¬ (¬ x9 = i2) → Q (some (.int i3)) h6)))))) : Ev (d + 1) 230 13 [.ref a0, .int i1, .int i2, .int i3] [] h Q := by
  refine ev_p (pc' := 15) (loc' := [.ref a0, .int i1, .int i2, .int i3]) (st' := [.ref a0, .int i3]) 2 am_q230 rfl ?_
  obtain ⟨g1, H⟩ := H
  refine ev_s (pc' := 18) (loc' := [.ref a0, .int i1, .int i2, .int i3]) (st' := [.int (am_gi h a0 7), .int i3]) (h1 := h) am_q230 rfl rfl rfl (if_pos (e := none) g1) ?_
  refine ev_jc (t := 48) am_q230 rfl rfl (fun hq => ?_) (fun hq => ?_)
  · replace H := H.1 hq
    refine ev_p (pc' := 49) (loc' := [.ref a0, .int i1, .int i2, .int i3]) (st' := [.int (-1 : Int32)]) 1 am_q230 rfl ?_
    exact ev_r (v := some (.int (-1 : Int32))) am_q230 rfl rfl rfl rfl H
  · replace H := H.2 hq
    refine ev_p (pc' := 24) (loc' := [.ref a0, .int i1, .int i2, .int i3]) (st' := [.int i1, .int i3, .ref a0]) 3 am_q230 rfl ?_
    obtain ⟨g4, H⟩ := H
    refine ev_c (vs := [.ref a0, .int i3, .int i1]) (rest := []) 227 am_q230 rfl rfl rfl rfl rfl rfl rfl rfl rfl rfl rfl rfl (Or.inr (congrArg some g4)) (Cl.mono H (Nat.le_refl _) (fun r3 h2 H => ?_))
    obtain ⟨x5, rfl, H⟩ := H
    refine ev_jz (t := 42) am_q230 rfl rfl (fun hq => ?_) (fun hq => ?_)
    · replace H := H.1 hq
      refine ev_p (pc' := 13) (loc' := [.ref a0, .int i1, .int i2, .int (i3 + (1 : Int32))]) (st' := []) 2 am_q230 rfl ?_
      exact ev_m (loc' := [.ref a0, .int i1, .int i2, .int (i3 + (1 : Int32))]) am_q230 rfl rfl H
    · replace H := H.2 hq
      refine ev_p (pc' := 33) (loc' := [.ref a0, .int i1, .int i2, .int i3]) (st' := [.int i1, .int i3, .ref a0]) 3 am_q230 rfl ?_
      obtain ⟨g8, H⟩ := H
      refine ev_c (vs := [.ref a0, .int i3, .int i1]) (rest := []) 229 am_q230 rfl rfl rfl rfl rfl rfl rfl rfl rfl rfl rfl rfl (Or.inr (congrArg some g8)) (Cl.mono H (Nat.le_refl _) (fun r7 h6 H => ?_))
      obtain ⟨x9, rfl, H⟩ := H
      refine ev_p (pc' := 37) (loc' := [.ref a0, .int i1, .int i2, .int i3]) (st' := [.int i2, .int x9]) 1 am_q230 rfl ?_
      refine ev_jc (t := 42) am_q230 rfl rfl (fun hq => ?_) (fun hq => ?_)
      · replace H := H.1 hq
        refine ev_p (pc' := 13) (loc' := [.ref a0, .int i1, .int i2, .int (i3 + (1 : Int32))]) (st' := []) 2 am_q230 rfl ?_
        exact ev_m (loc' := [.ref a0, .int i1, .int i2, .int (i3 + (1 : Int32))]) am_q230 rfl rfl H
      · replace H := H.2 hq
        refine ev_p (pc' := 41) (loc' := [.ref a0, .int i1, .int i2, .int i3]) (st' := [.int i3]) 1 am_q230 rfl ?_
        exact ev_r (v := some (.int i3)) am_q230 rfl rfl rfl rfl H
/-! 231: X12_offeredTo -/
theorem am_q231 : (am_mt 231).2.2.2.2.2 = am_m231.2.2.2.2.2 := rfl
set_option maxRecDepth 20000 in
set_option maxHeartbeats 2000000 in
theorem wp231 {d : Nat} (a0 : Nat) (i1 : Int32) {h : AH} {Q : Option Value → AH → Prop} (H : Ev (d + 1) 231 4 [.ref a0, .int i1, .int (-1 : Int32), .int (0 : Int32), .null] [] h Q) : Cl (d + 1) 231 [.ref a0, .int i1] h Q := by
  show Ev (d + 1) 231 0 [.ref a0, .int i1, .null, .null, .null] [] h Q
  refine ev_p (pc' := 4) (loc' := [.ref a0, .int i1, .int (-1 : Int32), .int (0 : Int32), .null]) (st' := []) 4 am_q231 rfl ?_
  exact ev_m (loc' := [.ref a0, .int i1, .int (-1 : Int32), .int (0 : Int32), .null]) am_q231 rfl rfl H
set_option maxRecDepth 20000 in
set_option maxHeartbeats 2000000 in
theorem wp231_4 {d : Nat} (a0 : Nat) (i1 : Int32) (i2 : Int32) (i3 : Int32) {h : AH} {Q : Option Value → AH → Prop} (H : am_kd h a0 = 12 ∧ ((am_gi h a0 7) ≤ i3 → Q (some (.int i2)) h) ∧ (¬ (am_gi h a0 7) ≤ i3 → am_kd h a0 = 12 ∧ ∃ b3, am_gr h a0 5 = some b3 ∧ (am_kd h b3 = 102 ∨ am_kd h b3 = 103) ∧ am_in i1 (am_ln h b3) ∧ ((am_gi h b3 (Int32.toNatClampNeg i1)) = (0 : Int32) → Q (some (.int i2)) h) ∧ (¬ (am_gi h b3 (Int32.toNatClampNeg i1)) = (0 : Int32) → am_kd h a0 = 12 ∧ ∃ b8, am_gr h a0 6 = some b8 ∧ am_kd h b8 = 100 ∧ am_in i1 (am_ln h b8) ∧ ((¬ (((am_gi h b8 (Int32.toNatClampNeg i1)) >>> (i3 &&& 31)) &&& (1 : Int32)) = (0 : Int32)) → Ev (d + 1) 231 48 [.ref a0, .int i1, .int i2, .int i3, .null] [.int (0 : Int32)] h Q) ∧ (¬ (¬ (((am_gi h b8 (Int32.toNatClampNeg i1)) >>> (i3 &&& 31)) &&& (1 : Int32)) = (0 : Int32)) → am_kd h a0 = 12 ∧ Cl d 227 [.ref a0, .int i3, .int i1] h (fun r13 h12 => ∃ x15, r13 = some (.int x15) ∧ (x15 = (0 : Int32) → Ev (d + 1) 231 48 [.ref a0, .int i1, .int i2, .int i3, .null] [.int (0 : Int32)] h12 Q) ∧ (¬ x15 = (0 : Int32) → Ev (d + 1) 231 48 [.ref a0, .int i1, .int i2, .int i3, .null] [.int (1 : Int32)] h12 Q)))))) : Ev (d + 1) 231 4 [.ref a0, .int i1, .int i2, .int i3, .null] [] h Q := by
  refine ev_p (pc' := 6) (loc' := [.ref a0, .int i1, .int i2, .int i3, .null]) (st' := [.ref a0, .int i3]) 2 am_q231 rfl ?_
  obtain ⟨g1, H⟩ := H
  refine ev_s (pc' := 9) (loc' := [.ref a0, .int i1, .int i2, .int i3, .null]) (st' := [.int (am_gi h a0 7), .int i3]) (h1 := h) am_q231 rfl rfl rfl (if_pos (e := none) g1) ?_
  refine ev_jc (t := 82) am_q231 rfl rfl (fun hq => ?_) (fun hq => ?_)
  · replace H := H.1 hq
    refine ev_p (pc' := 83) (loc' := [.null, .null, .int i2, .null, .null]) (st' := [.int i2]) 1 am_q231 rfl ?_
    exact ev_r (v := some (.int i2)) am_q231 rfl rfl rfl rfl H
  · replace H := H.2 hq
    refine ev_p (pc' := 13) (loc' := [.ref a0, .int i1, .int i2, .int i3, .null]) (st' := [.ref a0]) 1 am_q231 rfl ?_
    obtain ⟨g2, b3, e4, H⟩ := H
    refine ev_s (pc' := 16) (loc' := [.ref a0, .int i1, .int i2, .int i3, .null]) (st' := [.ref b3]) (h1 := h) am_q231 rfl rfl rfl (am_gf2 g2 e4) ?_
    refine ev_p (pc' := 17) (loc' := [.ref a0, .int i1, .int i2, .int i3, .null]) (st' := [.int i1, .ref b3]) 1 am_q231 rfl ?_
    obtain ⟨g5, g6, H⟩ := H
    refine ev_s (pc' := 18) (loc' := [.ref a0, .int i1, .int i2, .int i3, .null]) (st' := [.int (am_gi h b3 (Int32.toNatClampNeg i1))]) (h1 := h) am_q231 rfl rfl rfl (am_xx g5 g6) ?_
    refine ev_jz (t := 82) am_q231 rfl rfl (fun hq => ?_) (fun hq => ?_)
    · replace H := H.1 hq
      refine ev_p (pc' := 83) (loc' := [.null, .null, .int i2, .null, .null]) (st' := [.int i2]) 1 am_q231 rfl ?_
      exact ev_r (v := some (.int i2)) am_q231 rfl rfl rfl rfl H
    · replace H := H.2 hq
      refine ev_p (pc' := 22) (loc' := [.ref a0, .int i1, .int i2, .int i3, .null]) (st' := [.ref a0]) 1 am_q231 rfl ?_
      obtain ⟨g7, b8, e9, H⟩ := H
      refine ev_s (pc' := 25) (loc' := [.ref a0, .int i1, .int i2, .int i3, .null]) (st' := [.ref b8]) (h1 := h) am_q231 rfl rfl rfl (am_gf2 g7 e9) ?_
      refine ev_p (pc' := 26) (loc' := [.ref a0, .int i1, .int i2, .int i3, .null]) (st' := [.int i1, .ref b8]) 1 am_q231 rfl ?_
      obtain ⟨g10, g11, H⟩ := H
      refine ev_s (pc' := 27) (loc' := [.ref a0, .int i1, .int i2, .int i3, .null]) (st' := [.int (am_gi h b8 (Int32.toNatClampNeg i1))]) (h1 := h) am_q231 rfl rfl rfl (am_xx g10 g11) ?_
      refine ev_p (pc' := 31) (loc' := [.ref a0, .int i1, .int i2, .int i3, .null]) (st' := [.int (((am_gi h b8 (Int32.toNatClampNeg i1)) >>> (i3 &&& 31)) &&& (1 : Int32))]) 4 am_q231 rfl ?_
      refine ev_jz (t := 47) am_q231 rfl rfl (fun hq => ?_) (fun hq => ?_)
      · replace H := H.1 hq
        refine ev_p (pc' := 48) (loc' := [.ref a0, .int i1, .int i2, .int i3, .null]) (st' := [.int (0 : Int32)]) 1 am_q231 rfl ?_
        exact ev_m (loc' := [.ref a0, .int i1, .int i2, .int i3, .null]) am_q231 rfl rfl H
      · replace H := H.2 hq
        refine ev_p (pc' := 37) (loc' := [.ref a0, .int i1, .int i2, .int i3, .null]) (st' := [.int i1, .int i3, .ref a0]) 3 am_q231 rfl ?_
        obtain ⟨g14, H⟩ := H
        refine ev_c (vs := [.ref a0, .int i3, .int i1]) (rest := []) 227 am_q231 rfl rfl rfl rfl rfl rfl rfl rfl rfl rfl rfl rfl (Or.inr (congrArg some g14)) (Cl.mono H (Nat.le_refl _) (fun r13 h12 H => ?_))
        obtain ⟨x15, rfl, H⟩ := H
        refine ev_jz (t := 47) am_q231 rfl rfl (fun hq => ?_) (fun hq => ?_)
        · replace H := H.1 hq
          refine ev_p (pc' := 48) (loc' := [.ref a0, .int i1, .int i2, .int i3, .null]) (st' := [.int (0 : Int32)]) 1 am_q231 rfl ?_
          exact ev_m (loc' := [.ref a0, .int i1, .int i2, .int i3, .null]) am_q231 rfl rfl H
        · replace H := H.2 hq
          refine ev_p (pc' := 48) (loc' := [.ref a0, .int i1, .int i2, .int i3, .null]) (st' := [.int (1 : Int32)]) 2 am_q231 rfl ?_
          exact ev_m (loc' := [.ref a0, .int i1, .int i2, .int i3, .null]) am_q231 rfl rfl H
set_option maxRecDepth 20000 in
set_option maxHeartbeats 2000000 in
theorem wp231_48 {d : Nat} (a0 : Nat) (i1 : Int32) (i2 : Int32) (i3 : Int32) (s0 : Int32) {h : AH} {Q : Option Value → AH → Prop} (H : (s0 = (0 : Int32) → Ev (d + 1) 231 4 [.ref a0, .int i1, .int i2, .int (i3 + (1 : Int32)), .null] [] h Q) ∧ (¬ s0 = (0 : Int32) → (i2 = (-1 : Int32) → Ev (d + 1) 231 4 [.ref a0, .int i1, .int i3, .int (i3 + (1 : Int32)), .null] [] h Q) ∧ (¬ i2 = (-1 : Int32) → am_kd h a0 = 12 ∧ Cl d 228 [.ref a0, .int i3, .int i2, .int i1] h (fun r2 h1 => ∃ x4, r2 = some (.int x4) ∧ (x4 = (0 : Int32) → Ev (d + 1) 231 4 [.ref a0, .int i1, .int i2, .int (i3 + (1 : Int32)), .null] [] h1 Q) ∧ (¬ x4 = (0 : Int32) → Ev (d + 1) 231 4 [.ref a0, .int i1, .int i3, .int (i3 + (1 : Int32)), .null] [] h1 Q))))) : Ev (d + 1) 231 48 [.ref a0, .int i1, .int i2, .int i3, .null] [.int s0] h Q := by
  refine ev_p (pc' := 52) (loc' := [.ref a0, .int i1, .int i2, .int i3, .int s0]) (st' := [.int s0]) 2 am_q231 rfl ?_
  refine ev_jz (t := 74) am_q231 rfl rfl (fun hq => ?_) (fun hq => ?_)
  · replace H := H.1 hq
    refine ev_p (pc' := 4) (loc' := [.ref a0, .int i1, .int i2, .int (i3 + (1 : Int32)), .null]) (st' := []) 4 am_q231 rfl ?_
    exact ev_m (loc' := [.ref a0, .int i1, .int i2, .int (i3 + (1 : Int32)), .null]) am_q231 rfl rfl H
  · replace H := H.2 hq
    refine ev_p (pc' := 57) (loc' := [.ref a0, .int i1, .int i2, .int i3, .int s0]) (st' := [.int (-1 : Int32), .int i2]) 2 am_q231 rfl ?_
    refine ev_jc (t := 70) am_q231 rfl rfl (fun hq => ?_) (fun hq => ?_)
    · replace H := H.1 hq
      refine ev_p (pc' := 4) (loc' := [.ref a0, .int i1, .int i3, .int (i3 + (1 : Int32)), .null]) (st' := []) 5 am_q231 rfl ?_
      exact ev_m (loc' := [.ref a0, .int i1, .int i3, .int (i3 + (1 : Int32)), .null]) am_q231 rfl rfl H
    · replace H := H.2 hq
      refine ev_p (pc' := 64) (loc' := [.ref a0, .int i1, .int i2, .int i3, .int s0]) (st' := [.int i1, .int i2, .int i3, .ref a0]) 4 am_q231 rfl ?_
      obtain ⟨g3, H⟩ := H
      refine ev_c (vs := [.ref a0, .int i3, .int i2, .int i1]) (rest := []) 228 am_q231 rfl rfl rfl rfl rfl rfl rfl rfl rfl rfl rfl rfl (Or.inr (congrArg some g3)) (Cl.mono H (Nat.le_refl _) (fun r2 h1 H => ?_))
      obtain ⟨x4, rfl, H⟩ := H
      refine ev_jz (t := 74) am_q231 rfl rfl (fun hq => ?_) (fun hq => ?_)
      · replace H := H.1 hq
        refine ev_p (pc' := 4) (loc' := [.ref a0, .int i1, .int i2, .int (i3 + (1 : Int32)), .null]) (st' := []) 4 am_q231 rfl ?_
        exact ev_m (loc' := [.ref a0, .int i1, .int i2, .int (i3 + (1 : Int32)), .null]) am_q231 rfl rfl H
      · replace H := H.2 hq
        refine ev_p (pc' := 4) (loc' := [.ref a0, .int i1, .int i3, .int (i3 + (1 : Int32)), .null]) (st' := []) 5 am_q231 rfl ?_
        exact ev_m (loc' := [.ref a0, .int i1, .int i3, .int (i3 + (1 : Int32)), .null]) am_q231 rfl rfl H
/-! 232: X12_offer -/
theorem am_q232 : (am_mt 232).2.2.2.2.2 = am_m232.2.2.2.2.2 := rfl
set_option maxRecDepth 20000 in
set_option maxHeartbeats 2000000 in
theorem wp232 {d : Nat} (a0 : Nat) (i1 : Int32) {h : AH} {Q : Option Value → AH → Prop} (H : am_kd h a0 = 12 ∧ Cl d 168 [.ref a0, .int i1] h (fun r2 h1 => ∃ x4, r2 = some (.int x4) ∧ ((¬ x4 = (0 : Int32)) → am_kd h1 a0 = 12 ∧ am_kd h1 a0 = 12 ∧ Cl d 173 [.ref a0, .int i1, .int (am_gi h1 a0 0)] h1 (fun r7 h6 => ∃ x9, r7 = some (.int x9) ∧ ((¬ x9 = (-1 : Int32)) → Q (some (.int (-3 : Int32))) h6) ∧ (¬ (¬ x9 = (-1 : Int32)) → am_kd h6 a0 = 12 ∧ ∃ b11, am_gr h6 a0 5 = some b11 ∧ (am_kd h6 b11 = 102 ∨ am_kd h6 b11 = 103) ∧ am_in i1 (am_ln h6 b11) ∧ ((am_gi h6 b11 (Int32.toNatClampNeg i1)) = (0 : Int32) → am_kd h6 a0 = 12 ∧ ∃ b16, am_gr h6 a0 5 = some b16 ∧ (am_kd h6 b16 = 103 ∧ ((1 : Int32) = (0 : Int32) ∨ (1 : Int32) = (1 : Int32))) ∧ am_in i1 (am_ln h6 b16) ∧ ∀ h20, h20 = am_si h6 b16 (Int32.toNatClampNeg i1) (1 : Int32) → am_kd h20 a0 = 12 ∧ ∃ b22, am_gr h20 a0 6 = some b22 ∧ (am_kd h20 b22 = 100 ∧ 6 ≤ b22) ∧ am_in i1 (am_ln h20 b22) ∧ ∀ h26, h26 = am_si h20 b22 (Int32.toNatClampNeg i1) (0 : Int32) → am_kd h26 a0 = 12 ∧ Cl d 231 [.ref a0, .int i1] h26 (fun r28 h27 => ∃ x30, r28 = some (.int x30) ∧ Q (some (.int x30)) h27)) ∧ (¬ (am_gi h6 b11 (Int32.toNatClampNeg i1)) = (0 : Int32) → Q (some (.int (-3 : Int32))) h6)))) ∧ (¬ (¬ x4 = (0 : Int32)) → Q (some (.int (-2 : Int32))) h1))) : Cl (d + 1) 232 [.ref a0, .int i1] h Q := by
  show Ev (d + 1) 232 0 [.ref a0, .int i1] [] h Q
  refine ev_p (pc' := 2) (loc' := [.ref a0, .int i1]) (st' := [.int i1, .ref a0]) 2 am_q232 rfl ?_
  obtain ⟨g3, H⟩ := H
  refine ev_c (vs := [.ref a0, .int i1]) (rest := []) 168 am_q232 rfl rfl rfl rfl rfl rfl rfl rfl rfl rfl rfl rfl (Or.inr (congrArg some g3)) (Cl.mono H (Nat.le_refl _) (fun r2 h1 H => ?_))
  obtain ⟨x4, rfl, H⟩ := H
  refine ev_jz (t := 11) am_q232 rfl rfl (fun hq => ?_) (fun hq => ?_)
  · replace H := H.1 hq
    refine ev_p (pc' := 14) (loc' := [.ref a0, .int i1]) (st' := [.ref a0, .int i1, .ref a0]) 3 am_q232 rfl ?_
    obtain ⟨g5, H⟩ := H
    refine ev_s (pc' := 17) (loc' := [.ref a0, .int i1]) (st' := [.int (am_gi h1 a0 0), .int i1, .ref a0]) (h1 := h1) am_q232 rfl rfl rfl (if_pos (e := none) g5) ?_
    obtain ⟨g8, H⟩ := H
    refine ev_c (vs := [.ref a0, .int i1, .int (am_gi h1 a0 0)]) (rest := []) 173 am_q232 rfl rfl rfl rfl rfl rfl rfl rfl rfl rfl rfl rfl (Or.inr (congrArg some g8)) (Cl.mono H (Nat.le_refl _) (fun r7 h6 H => ?_))
    obtain ⟨x9, rfl, H⟩ := H
    refine ev_p (pc' := 21) (loc' := [.ref a0, .int i1]) (st' := [.int (-1 : Int32), .int x9]) 1 am_q232 rfl ?_
    refine ev_jc (t := 33) am_q232 rfl rfl (fun hq => ?_) (fun hq => ?_)
    · replace H := H.1 hq
      refine ev_p (pc' := 35) (loc' := [.null, .null]) (st' := [.int (-3 : Int32)]) 1 am_q232 rfl ?_
      exact ev_r (v := some (.int (-3 : Int32))) am_q232 rfl rfl rfl rfl H
    · replace H := H.2 hq
      refine ev_p (pc' := 25) (loc' := [.ref a0, .int i1]) (st' := [.ref a0]) 1 am_q232 rfl ?_
      obtain ⟨g10, b11, e12, H⟩ := H
      refine ev_s (pc' := 28) (loc' := [.ref a0, .int i1]) (st' := [.ref b11]) (h1 := h6) am_q232 rfl rfl rfl (am_gf2 g10 e12) ?_
      refine ev_p (pc' := 29) (loc' := [.ref a0, .int i1]) (st' := [.int i1, .ref b11]) 1 am_q232 rfl ?_
      obtain ⟨g13, g14, H⟩ := H
      refine ev_s (pc' := 30) (loc' := [.ref a0, .int i1]) (st' := [.int (am_gi h6 b11 (Int32.toNatClampNeg i1))]) (h1 := h6) am_q232 rfl rfl rfl (am_xx g13 g14) ?_
      refine ev_jz (t := 36) am_q232 rfl rfl (fun hq => ?_) (fun hq => ?_)
      · replace H := H.1 hq
        refine ev_p (pc' := 37) (loc' := [.ref a0, .int i1]) (st' := [.ref a0]) 1 am_q232 rfl ?_
        obtain ⟨g15, b16, e17, H⟩ := H
        refine ev_s (pc' := 40) (loc' := [.ref a0, .int i1]) (st' := [.ref b16]) (h1 := h6) am_q232 rfl rfl rfl (am_gf2 g15 e17) ?_
        refine ev_p (pc' := 42) (loc' := [.ref a0, .int i1]) (st' := [.int (1 : Int32), .int i1, .ref b16]) 2 am_q232 rfl ?_
        obtain ⟨g18, g19, H⟩ := H
        refine ev_s (pc' := 43) (loc' := [.ref a0, .int i1]) (st' := []) (h1 := am_si h6 b16 (Int32.toNatClampNeg i1) (1 : Int32)) am_q232 rfl rfl rfl (am_yz g18 g19) ?_
        replace H := H _ rfl
        generalize am_si h6 b16 (Int32.toNatClampNeg i1) (1 : Int32) = h20 at H ⊢
        refine ev_p (pc' := 44) (loc' := [.ref a0, .int i1]) (st' := [.ref a0]) 1 am_q232 rfl ?_
        obtain ⟨g21, b22, e23, H⟩ := H
        refine ev_s (pc' := 47) (loc' := [.ref a0, .int i1]) (st' := [.ref b22]) (h1 := h20) am_q232 rfl rfl rfl (am_gf2 g21 e23) ?_
        refine ev_p (pc' := 49) (loc' := [.ref a0, .int i1]) (st' := [.int (0 : Int32), .int i1, .ref b22]) 2 am_q232 rfl ?_
        obtain ⟨g24, g25, H⟩ := H
        refine ev_s (pc' := 50) (loc' := [.ref a0, .int i1]) (st' := []) (h1 := am_si h20 b22 (Int32.toNatClampNeg i1) (0 : Int32)) am_q232 rfl rfl rfl (am_xx g24 g25) ?_
        replace H := H _ rfl
        generalize am_si h20 b22 (Int32.toNatClampNeg i1) (0 : Int32) = h26 at H ⊢
        refine ev_p (pc' := 52) (loc' := [.ref a0, .int i1]) (st' := [.int i1, .ref a0]) 2 am_q232 rfl ?_
        obtain ⟨g29, H⟩ := H
        refine ev_c (vs := [.ref a0, .int i1]) (rest := []) 231 am_q232 rfl rfl rfl rfl rfl rfl rfl rfl rfl rfl rfl rfl (Or.inr (congrArg some g29)) (Cl.mono H (Nat.le_refl _) (fun r28 h27 H => ?_))
        obtain ⟨x30, rfl, H⟩ := H
        exact ev_r (v := some (.int x30)) am_q232 rfl rfl rfl rfl H
      · replace H := H.2 hq
        refine ev_p (pc' := 35) (loc' := [.null, .null]) (st' := [.int (-3 : Int32)]) 1 am_q232 rfl ?_
        exact ev_r (v := some (.int (-3 : Int32))) am_q232 rfl rfl rfl rfl H
  · replace H := H.2 hq
    refine ev_p (pc' := 10) (loc' := [.ref a0, .int i1]) (st' := [.int (-2 : Int32)]) 1 am_q232 rfl ?_
    exact ev_r (v := some (.int (-2 : Int32))) am_q232 rfl rfl rfl rfl H
/-! 233: X12_take -/
theorem am_q233 : (am_mt 233).2.2.2.2.2 = am_m233.2.2.2.2.2 := rfl
set_option maxRecDepth 20000 in
set_option maxHeartbeats 2000000 in
theorem wp233 {d : Nat} (a0 : Nat) (i1 : Int32) (i2 : Int32) {h : AH} {Q : Option Value → AH → Prop} (H : am_kd h a0 = 12 ∧ Cl d 168 [.ref a0, .int i1] h (fun r2 h1 => ∃ x4, r2 = some (.int x4) ∧ ((¬ x4 = (0 : Int32)) → am_kd h1 a0 = 12 ∧ Cl d 231 [.ref a0, .int i1] h1 (fun r6 h5 => ∃ x8, r6 = some (.int x8) ∧ ((¬ x8 = (-1 : Int32)) → ((¬ i2 = (0 : Int32)) → am_kd h5 a0 = 12 ∧ am_kd h5 a0 = 12 ∧ Cl d 185 [.ref a0, .int x8] h5 (fun r11 h10 => ∃ x13, r11 = some (.int x13) ∧ (x13 = (0 : Int32) → Ev (d + 1) 233 64 [.ref a0, .int i1, .null, .int x8] [.int (1 : Int32), .int (am_gi h5 a0 14)] h10 Q) ∧ (¬ x13 = (0 : Int32) → Ev (d + 1) 233 64 [.ref a0, .int i1, .null, .int x8] [.int (2 : Int32), .int (am_gi h5 a0 14)] h10 Q))) ∧ (¬ (¬ i2 = (0 : Int32)) → am_kd h5 a0 = 12 ∧ ∃ b15, am_gr h5 a0 6 = some b15 ∧ am_kd h5 b15 = 100 ∧ am_in i1 (am_ln h5 b15) ∧ (am_kd h5 b15 = 100 ∧ 6 ≤ b15) ∧ am_in i1 (am_ln h5 b15) ∧ ∀ h21, h21 = am_si h5 b15 (Int32.toNatClampNeg i1) ((am_gi h5 b15 (Int32.toNatClampNeg i1)) ||| ((1 : Int32) <<< (x8 &&& 31))) → am_kd h21 a0 = 12 ∧ Cl d 231 [.ref a0, .int i1] h21 (fun r23 h22 => ∃ x25, r23 = some (.int x25) ∧ Q (some (.int x25)) h22))) ∧ (¬ (¬ x8 = (-1 : Int32)) → Q (some (.int (-3 : Int32))) h5))) ∧ (¬ (¬ x4 = (0 : Int32)) → Q (some (.int (-2 : Int32))) h1))) : Cl (d + 1) 233 [.ref a0, .int i1, .int i2] h Q := by
  show Ev (d + 1) 233 0 [.ref a0, .int i1, .int i2, .null] [] h Q
  refine ev_p (pc' := 2) (loc' := [.ref a0, .int i1, .int i2, .null]) (st' := [.int i1, .ref a0]) 2 am_q233 rfl ?_
  obtain ⟨g3, H⟩ := H
  refine ev_c (vs := [.ref a0, .int i1]) (rest := []) 168 am_q233 rfl rfl rfl rfl rfl rfl rfl rfl rfl rfl rfl rfl (Or.inr (congrArg some g3)) (Cl.mono H (Nat.le_refl _) (fun r2 h1 H => ?_))
  obtain ⟨x4, rfl, H⟩ := H
  refine ev_jz (t := 11) am_q233 rfl rfl (fun hq => ?_) (fun hq => ?_)
  · replace H := H.1 hq
    refine ev_p (pc' := 13) (loc' := [.ref a0, .int i1, .int i2, .null]) (st' := [.int i1, .ref a0]) 2 am_q233 rfl ?_
    obtain ⟨g7, H⟩ := H
    refine ev_c (vs := [.ref a0, .int i1]) (rest := []) 231 am_q233 rfl rfl rfl rfl rfl rfl rfl rfl rfl rfl rfl rfl (Or.inr (congrArg some g7)) (Cl.mono H (Nat.le_refl _) (fun r6 h5 H => ?_))
    obtain ⟨x8, rfl, H⟩ := H
    refine ev_p (pc' := 19) (loc' := [.ref a0, .int i1, .int i2, .int x8]) (st' := [.int (-1 : Int32), .int x8]) 3 am_q233 rfl ?_
    refine ev_jc (t := 25) am_q233 rfl rfl (fun hq => ?_) (fun hq => ?_)
    · replace H := H.1 hq
      refine ev_p (pc' := 26) (loc' := [.ref a0, .int i1, .int i2, .int x8]) (st' := [.int i2]) 1 am_q233 rfl ?_
      refine ev_jz (t := 47) am_q233 rfl rfl (fun hq => ?_) (fun hq => ?_)
      · replace H := H.1 hq
        refine ev_p (pc' := 48) (loc' := [.ref a0, .int i1, .int i2, .int x8]) (st' := [.ref a0]) 1 am_q233 rfl ?_
        obtain ⟨g9, H⟩ := H
        refine ev_s (pc' := 51) (loc' := [.ref a0, .int i1, .int i2, .int x8]) (st' := [.int (am_gi h5 a0 14)]) (h1 := h5) am_q233 rfl rfl rfl (if_pos (e := none) g9) ?_
        refine ev_p (pc' := 53) (loc' := [.ref a0, .int i1, .int i2, .int x8]) (st' := [.int x8, .ref a0, .int (am_gi h5 a0 14)]) 2 am_q233 rfl ?_
        obtain ⟨g12, H⟩ := H
        refine ev_c (vs := [.ref a0, .int x8]) (rest := [.int (am_gi h5 a0 14)]) 185 am_q233 rfl rfl rfl rfl rfl rfl rfl rfl rfl rfl rfl rfl (Or.inr (congrArg some g12)) (Cl.mono H (Nat.le_refl _) (fun r11 h10 H => ?_))
        obtain ⟨x13, rfl, H⟩ := H
        refine ev_jz (t := 63) am_q233 rfl rfl (fun hq => ?_) (fun hq => ?_)
        · replace H := H.1 hq
          refine ev_p (pc' := 64) (loc' := [.ref a0, .int i1, .int i2, .int x8]) (st' := [.int (1 : Int32), .int (am_gi h5 a0 14)]) 1 am_q233 rfl ?_
          exact ev_m (loc' := [.ref a0, .int i1, .null, .int x8]) am_q233 rfl rfl H
        · replace H := H.2 hq
          refine ev_p (pc' := 64) (loc' := [.ref a0, .int i1, .int i2, .int x8]) (st' := [.int (2 : Int32), .int (am_gi h5 a0 14)]) 2 am_q233 rfl ?_
          exact ev_m (loc' := [.ref a0, .int i1, .null, .int x8]) am_q233 rfl rfl H
      · replace H := H.2 hq
        refine ev_p (pc' := 30) (loc' := [.ref a0, .int i1, .int i2, .int x8]) (st' := [.ref a0]) 1 am_q233 rfl ?_
        obtain ⟨g14, b15, e16, H⟩ := H
        refine ev_s (pc' := 33) (loc' := [.ref a0, .int i1, .int i2, .int x8]) (st' := [.ref b15]) (h1 := h5) am_q233 rfl rfl rfl (am_gf2 g14 e16) ?_
        refine ev_p (pc' := 35) (loc' := [.ref a0, .int i1, .int i2, .int x8]) (st' := [.int i1, .ref b15, .int i1, .ref b15]) 2 am_q233 rfl ?_
        obtain ⟨g17, g18, H⟩ := H
        refine ev_s (pc' := 36) (loc' := [.ref a0, .int i1, .int i2, .int x8]) (st' := [.int (am_gi h5 b15 (Int32.toNatClampNeg i1)), .int i1, .ref b15]) (h1 := h5) am_q233 rfl rfl rfl (am_xx g17 g18) ?_
        refine ev_p (pc' := 40) (loc' := [.ref a0, .int i1, .int i2, .int x8]) (st' := [.int ((am_gi h5 b15 (Int32.toNatClampNeg i1)) ||| ((1 : Int32) <<< (x8 &&& 31))), .int i1, .ref b15]) 4 am_q233 rfl ?_
        obtain ⟨g19, g20, H⟩ := H
        refine ev_s (pc' := 41) (loc' := [.ref a0, .int i1, .int i2, .int x8]) (st' := []) (h1 := am_si h5 b15 (Int32.toNatClampNeg i1) ((am_gi h5 b15 (Int32.toNatClampNeg i1)) ||| ((1 : Int32) <<< (x8 &&& 31)))) am_q233 rfl rfl rfl (am_xx g19 g20) ?_
        replace H := H _ rfl
        generalize am_si h5 b15 (Int32.toNatClampNeg i1) ((am_gi h5 b15 (Int32.toNatClampNeg i1)) ||| ((1 : Int32) <<< (x8 &&& 31))) = h21 at H ⊢
        refine ev_p (pc' := 43) (loc' := [.ref a0, .int i1, .int i2, .int x8]) (st' := [.int i1, .ref a0]) 2 am_q233 rfl ?_
        obtain ⟨g24, H⟩ := H
        refine ev_c (vs := [.ref a0, .int i1]) (rest := []) 231 am_q233 rfl rfl rfl rfl rfl rfl rfl rfl rfl rfl rfl rfl (Or.inr (congrArg some g24)) (Cl.mono H (Nat.le_refl _) (fun r23 h22 H => ?_))
        obtain ⟨x25, rfl, H⟩ := H
        exact ev_r (v := some (.int x25)) am_q233 rfl rfl rfl rfl H
    · replace H := H.2 hq
      refine ev_p (pc' := 24) (loc' := [.ref a0, .int i1, .int i2, .int x8]) (st' := [.int (-3 : Int32)]) 1 am_q233 rfl ?_
      exact ev_r (v := some (.int (-3 : Int32))) am_q233 rfl rfl rfl rfl H
  · replace H := H.2 hq
    refine ev_p (pc' := 10) (loc' := [.ref a0, .int i1, .int i2, .null]) (st' := [.int (-2 : Int32)]) 1 am_q233 rfl ?_
    exact ev_r (v := some (.int (-2 : Int32))) am_q233 rfl rfl rfl rfl H
set_option maxRecDepth 20000 in
set_option maxHeartbeats 2000000 in
theorem wp233_64 {d : Nat} (a0 : Nat) (i1 : Int32) (i3 : Int32) (s0 : Int32) (s1 : Int32) {h : AH} {Q : Option Value → AH → Prop} (H : ((s0 + s1) ≤ (60 : Int32) → am_kd h a0 = 12 ∧ Cl d 184 [.ref a0, .int i3] h (fun r2 h1 => ∃ x4, r2 = some (.int x4) ∧ am_kd h1 a0 = 12 ∧ ∃ b6, am_gr h1 a0 11 = some b6 ∧ (am_kd h1 b6 = 100 ∧ 6 ≤ b6) ∧ am_in i3 (am_ln h1 b6) ∧ ∀ h10, h10 = am_si h1 b6 (Int32.toNatClampNeg i3) (-1 : Int32) → am_kd h10 a0 = 12 ∧ ∃ b12, am_gr h10 a0 5 = some b12 ∧ (am_kd h10 b12 = 103 ∧ ((0 : Int32) = (0 : Int32) ∨ (0 : Int32) = (1 : Int32))) ∧ am_in i1 (am_ln h10 b12) ∧ ∀ h16, h16 = am_si h10 b12 (Int32.toNatClampNeg i1) (0 : Int32) → am_kd h16 a0 = 12 ∧ Cl d 175 [.ref a0, .int (0 : Int32), .int i1, .int i3, .int (-1 : Int32), .int (-1 : Int32)] h16 (fun r18 h17 => ∃ x20, r18 = some (.int x20) ∧ Q (some (.int x20)) h17))) ∧ (¬ (s0 + s1) ≤ (60 : Int32) → Q (some (.int (-4 : Int32))) h)) : Ev (d + 1) 233 64 [.ref a0, .int i1, .null, .int i3] [.int s1, .int s0] h Q := by
  refine ev_p (pc' := 67) (loc' := [.ref a0, .int i1, .null, .int i3]) (st' := [.int (60 : Int32), .int (s0 + s1)]) 2 am_q233 rfl ?_
  refine ev_jc (t := 73) am_q233 rfl rfl (fun hq => ?_) (fun hq => ?_)
  · replace H := H.1 hq
    refine ev_p (pc' := 75) (loc' := [.ref a0, .int i1, .null, .int i3]) (st' := [.int i3, .ref a0]) 2 am_q233 rfl ?_
    obtain ⟨g3, H⟩ := H
    refine ev_c (vs := [.ref a0, .int i3]) (rest := []) 184 am_q233 rfl rfl rfl rfl rfl rfl rfl rfl rfl rfl rfl rfl (Or.inr (congrArg some g3)) (Cl.mono H (Nat.le_refl _) (fun r2 h1 H => ?_))
    obtain ⟨x4, rfl, H⟩ := H
    refine ev_p (pc' := 80) (loc' := [.ref a0, .int i1, .null, .int i3]) (st' := [.ref a0]) 2 am_q233 rfl ?_
    obtain ⟨g5, b6, e7, H⟩ := H
    refine ev_s (pc' := 83) (loc' := [.ref a0, .int i1, .null, .int i3]) (st' := [.ref b6]) (h1 := h1) am_q233 rfl rfl rfl (am_gf2 g5 e7) ?_
    refine ev_p (pc' := 85) (loc' := [.ref a0, .int i1, .null, .int i3]) (st' := [.int (-1 : Int32), .int i3, .ref b6]) 2 am_q233 rfl ?_
    obtain ⟨g8, g9, H⟩ := H
    refine ev_s (pc' := 86) (loc' := [.ref a0, .int i1, .null, .int i3]) (st' := []) (h1 := am_si h1 b6 (Int32.toNatClampNeg i3) (-1 : Int32)) am_q233 rfl rfl rfl (am_xx g8 g9) ?_
    replace H := H _ rfl
    generalize am_si h1 b6 (Int32.toNatClampNeg i3) (-1 : Int32) = h10 at H ⊢
    refine ev_p (pc' := 87) (loc' := [.ref a0, .int i1, .null, .int i3]) (st' := [.ref a0]) 1 am_q233 rfl ?_
    obtain ⟨g11, b12, e13, H⟩ := H
    refine ev_s (pc' := 90) (loc' := [.ref a0, .int i1, .null, .int i3]) (st' := [.ref b12]) (h1 := h10) am_q233 rfl rfl rfl (am_gf2 g11 e13) ?_
    refine ev_p (pc' := 92) (loc' := [.ref a0, .int i1, .null, .int i3]) (st' := [.int (0 : Int32), .int i1, .ref b12]) 2 am_q233 rfl ?_
    obtain ⟨g14, g15, H⟩ := H
    refine ev_s (pc' := 93) (loc' := [.ref a0, .int i1, .null, .int i3]) (st' := []) (h1 := am_si h10 b12 (Int32.toNatClampNeg i1) (0 : Int32)) am_q233 rfl rfl rfl (am_yz g14 g15) ?_
    replace H := H _ rfl
    generalize am_si h10 b12 (Int32.toNatClampNeg i1) (0 : Int32) = h16 at H ⊢
    refine ev_p (pc' := 99) (loc' := [.ref a0, .int i1, .null, .int i3]) (st' := [.int (-1 : Int32), .int (-1 : Int32), .int i3, .int i1, .int (0 : Int32), .ref a0]) 6 am_q233 rfl ?_
    obtain ⟨g19, H⟩ := H
    refine ev_c (vs := [.ref a0, .int (0 : Int32), .int i1, .int i3, .int (-1 : Int32), .int (-1 : Int32)]) (rest := []) 175 am_q233 rfl rfl rfl rfl rfl rfl rfl rfl rfl rfl rfl rfl (Or.inr (congrArg some g19)) (Cl.mono H (Nat.le_refl _) (fun r18 h17 H => ?_))
    obtain ⟨x20, rfl, H⟩ := H
    exact ev_r (v := some (.int x20)) am_q233 rfl rfl rfl rfl H
  · replace H := H.2 hq
    refine ev_p (pc' := 72) (loc' := [.ref a0, .int i1, .null, .int i3]) (st' := [.int (-4 : Int32)]) 1 am_q233 rfl ?_
    exact ev_r (v := some (.int (-4 : Int32))) am_q233 rfl rfl rfl rfl H
/-! 234: X12_withdraw -/
theorem am_q234 : (am_mt 234).2.2.2.2.2 = am_m234.2.2.2.2.2 := rfl
set_option maxRecDepth 20000 in
set_option maxHeartbeats 2000000 in
theorem wp234 {d : Nat} (a0 : Nat) (i1 : Int32) {h : AH} {Q : Option Value → AH → Prop} (H : am_kd h a0 = 12 ∧ Cl d 168 [.ref a0, .int i1] h (fun r2 h1 => ∃ x4, r2 = some (.int x4) ∧ ((¬ x4 = (0 : Int32)) → am_kd h1 a0 = 12 ∧ ∃ b6, am_gr h1 a0 5 = some b6 ∧ (am_kd h1 b6 = 102 ∨ am_kd h1 b6 = 103) ∧ am_in i1 (am_ln h1 b6) ∧ ((¬ (am_gi h1 b6 (Int32.toNatClampNeg i1)) = (0 : Int32)) → am_kd h1 a0 = 12 ∧ ∃ b11, am_gr h1 a0 5 = some b11 ∧ (am_kd h1 b11 = 103 ∧ ((0 : Int32) = (0 : Int32) ∨ (0 : Int32) = (1 : Int32))) ∧ am_in i1 (am_ln h1 b11) ∧ ∀ h15, h15 = am_si h1 b11 (Int32.toNatClampNeg i1) (0 : Int32) → Q (some (.int (1 : Int32))) h15) ∧ (¬ (¬ (am_gi h1 b6 (Int32.toNatClampNeg i1)) = (0 : Int32)) → Q (some (.int (-3 : Int32))) h1)) ∧ (¬ (¬ x4 = (0 : Int32)) → Q (some (.int (-2 : Int32))) h1))) : Cl (d + 1) 234 [.ref a0, .int i1] h Q := by
  show Ev (d + 1) 234 0 [.ref a0, .int i1] [] h Q
  refine ev_p (pc' := 2) (loc' := [.ref a0, .int i1]) (st' := [.int i1, .ref a0]) 2 am_q234 rfl ?_
  obtain ⟨g3, H⟩ := H
  refine ev_c (vs := [.ref a0, .int i1]) (rest := []) 168 am_q234 rfl rfl rfl rfl rfl rfl rfl rfl rfl rfl rfl rfl (Or.inr (congrArg some g3)) (Cl.mono H (Nat.le_refl _) (fun r2 h1 H => ?_))
  obtain ⟨x4, rfl, H⟩ := H
  refine ev_jz (t := 11) am_q234 rfl rfl (fun hq => ?_) (fun hq => ?_)
  · replace H := H.1 hq
    refine ev_p (pc' := 12) (loc' := [.ref a0, .int i1]) (st' := [.ref a0]) 1 am_q234 rfl ?_
    obtain ⟨g5, b6, e7, H⟩ := H
    refine ev_s (pc' := 15) (loc' := [.ref a0, .int i1]) (st' := [.ref b6]) (h1 := h1) am_q234 rfl rfl rfl (am_gf2 g5 e7) ?_
    refine ev_p (pc' := 16) (loc' := [.ref a0, .int i1]) (st' := [.int i1, .ref b6]) 1 am_q234 rfl ?_
    obtain ⟨g8, g9, H⟩ := H
    refine ev_s (pc' := 17) (loc' := [.ref a0, .int i1]) (st' := [.int (am_gi h1 b6 (Int32.toNatClampNeg i1))]) (h1 := h1) am_q234 rfl rfl rfl (am_xx g8 g9) ?_
    refine ev_jz (t := 23) am_q234 rfl rfl (fun hq => ?_) (fun hq => ?_)
    · replace H := H.1 hq
      refine ev_p (pc' := 24) (loc' := [.ref a0, .int i1]) (st' := [.ref a0]) 1 am_q234 rfl ?_
      obtain ⟨g10, b11, e12, H⟩ := H
      refine ev_s (pc' := 27) (loc' := [.ref a0, .int i1]) (st' := [.ref b11]) (h1 := h1) am_q234 rfl rfl rfl (am_gf2 g10 e12) ?_
      refine ev_p (pc' := 29) (loc' := [.ref a0, .int i1]) (st' := [.int (0 : Int32), .int i1, .ref b11]) 2 am_q234 rfl ?_
      obtain ⟨g13, g14, H⟩ := H
      refine ev_s (pc' := 30) (loc' := [.ref a0, .int i1]) (st' := []) (h1 := am_si h1 b11 (Int32.toNatClampNeg i1) (0 : Int32)) am_q234 rfl rfl rfl (am_yz g13 g14) ?_
      replace H := H _ rfl
      generalize am_si h1 b11 (Int32.toNatClampNeg i1) (0 : Int32) = h15 at H ⊢
      refine ev_p (pc' := 31) (loc' := [.ref a0, .int i1]) (st' := [.int (1 : Int32)]) 1 am_q234 rfl ?_
      exact ev_r (v := some (.int (1 : Int32))) am_q234 rfl rfl rfl rfl H
    · replace H := H.2 hq
      refine ev_p (pc' := 22) (loc' := [.ref a0, .int i1]) (st' := [.int (-3 : Int32)]) 1 am_q234 rfl ?_
      exact ev_r (v := some (.int (-3 : Int32))) am_q234 rfl rfl rfl rfl H
  · replace H := H.2 hq
    refine ev_p (pc' := 10) (loc' := [.ref a0, .int i1]) (st' := [.int (-2 : Int32)]) 1 am_q234 rfl ?_
    exact ev_r (v := some (.int (-2 : Int32))) am_q234 rfl rfl rfl rfl H
/-! 235: X12_wish -/
theorem am_q235 : (am_mt 235).2.2.2.2.2 = am_m235.2.2.2.2.2 := rfl
set_option maxRecDepth 20000 in
set_option maxHeartbeats 2000000 in
theorem wp235 {d : Nat} (a0 : Nat) (i1 : Int32) (i2 : Int32) (i3 : Int32) {h : AH} {Q : Option Value → AH → Prop} (H : am_kd h a0 = 12 ∧ Cl d 169 [.ref a0, .int i1] h (fun r2 h1 => ∃ x4, r2 = some (.int x4) ∧ (x4 = (0 : Int32) → Q (some (.int (-2 : Int32))) h1) ∧ (¬ x4 = (0 : Int32) → am_kd h1 a0 = 12 ∧ Cl d 168 [.ref a0, .int i2] h1 (fun r6 h5 => ∃ x8, r6 = some (.int x8) ∧ ((¬ x8 = (0 : Int32)) → am_kd h5 a0 = 12 ∧ Cl d 170 [.ref a0, .int i1] h5 (fun r10 h9 => ∃ x12, r10 = some (.int x12) ∧ ((¬ x12 = (0 : Int32)) → am_kd h9 a0 = 12 ∧ ∃ b14, am_gr h9 a0 12 = some b14 ∧ am_kd h9 b14 = 100 ∧ am_in i1 (am_ln h9 b14) ∧ am_kd h9 a0 = 12 ∧ ∃ b19, am_gr h9 a0 12 = some b19 ∧ (i3 = (0 : Int32) → (am_kd h9 b19 = 100 ∧ 6 ≤ b19) ∧ am_in i1 (am_ln h9 b19) ∧ ∀ h23, h23 = am_si h9 b19 (Int32.toNatClampNeg i1) ((am_gi h9 b14 (Int32.toNatClampNeg i1)) &&& (((1 : Int32) <<< (i2 &&& 31)) ^^^ (-1 : Int32))) → am_kd h23 a0 = 12 ∧ ∃ b25, am_gr h23 a0 12 = some b25 ∧ am_kd h23 b25 = 100 ∧ am_in i1 (am_ln h23 b25) ∧ ((¬ (am_gi h23 b25 (Int32.toNatClampNeg i1)) = (am_gi h9 b14 (Int32.toNatClampNeg i1))) → Q (some (.int (1 : Int32))) h23) ∧ (¬ (¬ (am_gi h23 b25 (Int32.toNatClampNeg i1)) = (am_gi h9 b14 (Int32.toNatClampNeg i1))) → Q (some (.int (0 : Int32))) h23)) ∧ (¬ i3 = (0 : Int32) → (am_kd h9 b19 = 100 ∧ 6 ≤ b19) ∧ am_in i1 (am_ln h9 b19) ∧ ∀ h31, h31 = am_si h9 b19 (Int32.toNatClampNeg i1) ((am_gi h9 b14 (Int32.toNatClampNeg i1)) ||| ((1 : Int32) <<< (i2 &&& 31))) → am_kd h31 a0 = 12 ∧ ∃ b33, am_gr h31 a0 12 = some b33 ∧ am_kd h31 b33 = 100 ∧ am_in i1 (am_ln h31 b33) ∧ ((¬ (am_gi h31 b33 (Int32.toNatClampNeg i1)) = (am_gi h9 b14 (Int32.toNatClampNeg i1))) → Q (some (.int (1 : Int32))) h31) ∧ (¬ (¬ (am_gi h31 b33 (Int32.toNatClampNeg i1)) = (am_gi h9 b14 (Int32.toNatClampNeg i1))) → Q (some (.int (0 : Int32))) h31))) ∧ (¬ (¬ x12 = (0 : Int32)) → Q (some (.int (-3 : Int32))) h9))) ∧ (¬ (¬ x8 = (0 : Int32)) → Q (some (.int (-2 : Int32))) h5))))) : Cl (d + 1) 235 [.ref a0, .int i1, .int i2, .int i3] h Q := by
  show Ev (d + 1) 235 0 [.ref a0, .int i1, .int i2, .int i3, .null] [] h Q
  refine ev_p (pc' := 2) (loc' := [.ref a0, .int i1, .int i2, .int i3, .null]) (st' := [.int i1, .ref a0]) 2 am_q235 rfl ?_
  obtain ⟨g3, H⟩ := H
  refine ev_c (vs := [.ref a0, .int i1]) (rest := []) 169 am_q235 rfl rfl rfl rfl rfl rfl rfl rfl rfl rfl rfl rfl (Or.inr (congrArg some g3)) (Cl.mono H (Nat.le_refl _) (fun r2 h1 H => ?_))
  obtain ⟨x4, rfl, H⟩ := H
  refine ev_jz (t := 16) am_q235 rfl rfl (fun hq => ?_) (fun hq => ?_)
  · replace H := H.1 hq
    refine ev_p (pc' := 18) (loc' := [.null, .null, .null, .null, .null]) (st' := [.int (-2 : Int32)]) 1 am_q235 rfl ?_
    exact ev_r (v := some (.int (-2 : Int32))) am_q235 rfl rfl rfl rfl H
  · replace H := H.2 hq
    refine ev_p (pc' := 10) (loc' := [.ref a0, .int i1, .int i2, .int i3, .null]) (st' := [.int i2, .ref a0]) 2 am_q235 rfl ?_
    obtain ⟨g7, H⟩ := H
    refine ev_c (vs := [.ref a0, .int i2]) (rest := []) 168 am_q235 rfl rfl rfl rfl rfl rfl rfl rfl rfl rfl rfl rfl (Or.inr (congrArg some g7)) (Cl.mono H (Nat.le_refl _) (fun r6 h5 H => ?_))
    obtain ⟨x8, rfl, H⟩ := H
    refine ev_jz (t := 19) am_q235 rfl rfl (fun hq => ?_) (fun hq => ?_)
    · replace H := H.1 hq
      refine ev_p (pc' := 21) (loc' := [.ref a0, .int i1, .int i2, .int i3, .null]) (st' := [.int i1, .ref a0]) 2 am_q235 rfl ?_
      obtain ⟨g11, H⟩ := H
      refine ev_c (vs := [.ref a0, .int i1]) (rest := []) 170 am_q235 rfl rfl rfl rfl rfl rfl rfl rfl rfl rfl rfl rfl (Or.inr (congrArg some g11)) (Cl.mono H (Nat.le_refl _) (fun r10 h9 H => ?_))
      obtain ⟨x12, rfl, H⟩ := H
      refine ev_jz (t := 30) am_q235 rfl rfl (fun hq => ?_) (fun hq => ?_)
      · replace H := H.1 hq
        refine ev_p (pc' := 31) (loc' := [.ref a0, .int i1, .int i2, .int i3, .null]) (st' := [.ref a0]) 1 am_q235 rfl ?_
        obtain ⟨g13, b14, e15, H⟩ := H
        refine ev_s (pc' := 34) (loc' := [.ref a0, .int i1, .int i2, .int i3, .null]) (st' := [.ref b14]) (h1 := h9) am_q235 rfl rfl rfl (am_gf2 g13 e15) ?_
        refine ev_p (pc' := 35) (loc' := [.ref a0, .int i1, .int i2, .int i3, .null]) (st' := [.int i1, .ref b14]) 1 am_q235 rfl ?_
        obtain ⟨g16, g17, H⟩ := H
        refine ev_s (pc' := 36) (loc' := [.ref a0, .int i1, .int i2, .int i3, .null]) (st' := [.int (am_gi h9 b14 (Int32.toNatClampNeg i1))]) (h1 := h9) am_q235 rfl rfl rfl (am_xx g16 g17) ?_
        refine ev_p (pc' := 39) (loc' := [.ref a0, .int i1, .int i2, .int i3, .int (am_gi h9 b14 (Int32.toNatClampNeg i1))]) (st' := [.ref a0]) 2 am_q235 rfl ?_
        obtain ⟨g18, b19, e20, H⟩ := H
        refine ev_s (pc' := 42) (loc' := [.ref a0, .int i1, .int i2, .int i3, .int (am_gi h9 b14 (Int32.toNatClampNeg i1))]) (st' := [.ref b19]) (h1 := h9) am_q235 rfl rfl rfl (am_gf2 g18 e20) ?_
        refine ev_p (pc' := 44) (loc' := [.ref a0, .int i1, .int i2, .int i3, .int (am_gi h9 b14 (Int32.toNatClampNeg i1))]) (st' := [.int i3, .int i1, .ref b19]) 2 am_q235 rfl ?_
        refine ev_jz (t := 56) am_q235 rfl rfl (fun hq => ?_) (fun hq => ?_)
        · replace H := H.1 hq
          refine ev_p (pc' := 64) (loc' := [.ref a0, .int i1, .int i2, .int i3, .int (am_gi h9 b14 (Int32.toNatClampNeg i1))]) (st' := [.int ((am_gi h9 b14 (Int32.toNatClampNeg i1)) &&& (((1 : Int32) <<< (i2 &&& 31)) ^^^ (-1 : Int32))), .int i1, .ref b19]) 7 am_q235 rfl ?_
          obtain ⟨g21, g22, H⟩ := H
          refine ev_s (pc' := 65) (loc' := [.ref a0, .int i1, .null, .null, .int (am_gi h9 b14 (Int32.toNatClampNeg i1))]) (st' := []) (h1 := am_si h9 b19 (Int32.toNatClampNeg i1) ((am_gi h9 b14 (Int32.toNatClampNeg i1)) &&& (((1 : Int32) <<< (i2 &&& 31)) ^^^ (-1 : Int32)))) am_q235 rfl rfl rfl (am_xx g21 g22) ?_
          replace H := H _ rfl
          generalize am_si h9 b19 (Int32.toNatClampNeg i1) ((am_gi h9 b14 (Int32.toNatClampNeg i1)) &&& (((1 : Int32) <<< (i2 &&& 31)) ^^^ (-1 : Int32))) = h23 at H ⊢
          refine ev_p (pc' := 66) (loc' := [.ref a0, .int i1, .null, .null, .int (am_gi h9 b14 (Int32.toNatClampNeg i1))]) (st' := [.ref a0]) 1 am_q235 rfl ?_
          obtain ⟨g24, b25, e26, H⟩ := H
          refine ev_s (pc' := 69) (loc' := [.ref a0, .int i1, .null, .null, .int (am_gi h9 b14 (Int32.toNatClampNeg i1))]) (st' := [.ref b25]) (h1 := h23) am_q235 rfl rfl rfl (am_gf2 g24 e26) ?_
          refine ev_p (pc' := 70) (loc' := [.ref a0, .int i1, .null, .null, .int (am_gi h9 b14 (Int32.toNatClampNeg i1))]) (st' := [.int i1, .ref b25]) 1 am_q235 rfl ?_
          obtain ⟨g27, g28, H⟩ := H
          refine ev_s (pc' := 71) (loc' := [.ref a0, .int i1, .null, .null, .int (am_gi h9 b14 (Int32.toNatClampNeg i1))]) (st' := [.int (am_gi h23 b25 (Int32.toNatClampNeg i1))]) (h1 := h23) am_q235 rfl rfl rfl (am_xx g27 g28) ?_
          refine ev_p (pc' := 73) (loc' := [.ref a0, .int i1, .null, .null, .int (am_gi h9 b14 (Int32.toNatClampNeg i1))]) (st' := [.int (am_gi h9 b14 (Int32.toNatClampNeg i1)), .int (am_gi h23 b25 (Int32.toNatClampNeg i1))]) 1 am_q235 rfl ?_
          refine ev_jc (t := 80) am_q235 rfl rfl (fun hq => ?_) (fun hq => ?_)
          · replace H := H.1 hq
            refine ev_p (pc' := 81) (loc' := [.ref a0, .int i1, .null, .null, .int (am_gi h9 b14 (Int32.toNatClampNeg i1))]) (st' := [.int (1 : Int32)]) 1 am_q235 rfl ?_
            exact ev_r (v := some (.int (1 : Int32))) am_q235 rfl rfl rfl rfl H
          · replace H := H.2 hq
            refine ev_p (pc' := 81) (loc' := [.ref a0, .int i1, .null, .null, .int (am_gi h9 b14 (Int32.toNatClampNeg i1))]) (st' := [.int (0 : Int32)]) 2 am_q235 rfl ?_
            exact ev_r (v := some (.int (0 : Int32))) am_q235 rfl rfl rfl rfl H
        · replace H := H.2 hq
          refine ev_p (pc' := 64) (loc' := [.ref a0, .int i1, .int i2, .int i3, .int (am_gi h9 b14 (Int32.toNatClampNeg i1))]) (st' := [.int ((am_gi h9 b14 (Int32.toNatClampNeg i1)) ||| ((1 : Int32) <<< (i2 &&& 31))), .int i1, .ref b19]) 6 am_q235 rfl ?_
          obtain ⟨g29, g30, H⟩ := H
          refine ev_s (pc' := 65) (loc' := [.ref a0, .int i1, .null, .null, .int (am_gi h9 b14 (Int32.toNatClampNeg i1))]) (st' := []) (h1 := am_si h9 b19 (Int32.toNatClampNeg i1) ((am_gi h9 b14 (Int32.toNatClampNeg i1)) ||| ((1 : Int32) <<< (i2 &&& 31)))) am_q235 rfl rfl rfl (am_xx g29 g30) ?_
          replace H := H _ rfl
          generalize am_si h9 b19 (Int32.toNatClampNeg i1) ((am_gi h9 b14 (Int32.toNatClampNeg i1)) ||| ((1 : Int32) <<< (i2 &&& 31))) = h31 at H ⊢
          refine ev_p (pc' := 66) (loc' := [.ref a0, .int i1, .null, .null, .int (am_gi h9 b14 (Int32.toNatClampNeg i1))]) (st' := [.ref a0]) 1 am_q235 rfl ?_
          obtain ⟨g32, b33, e34, H⟩ := H
          refine ev_s (pc' := 69) (loc' := [.ref a0, .int i1, .null, .null, .int (am_gi h9 b14 (Int32.toNatClampNeg i1))]) (st' := [.ref b33]) (h1 := h31) am_q235 rfl rfl rfl (am_gf2 g32 e34) ?_
          refine ev_p (pc' := 70) (loc' := [.ref a0, .int i1, .null, .null, .int (am_gi h9 b14 (Int32.toNatClampNeg i1))]) (st' := [.int i1, .ref b33]) 1 am_q235 rfl ?_
          obtain ⟨g35, g36, H⟩ := H
          refine ev_s (pc' := 71) (loc' := [.ref a0, .int i1, .null, .null, .int (am_gi h9 b14 (Int32.toNatClampNeg i1))]) (st' := [.int (am_gi h31 b33 (Int32.toNatClampNeg i1))]) (h1 := h31) am_q235 rfl rfl rfl (am_xx g35 g36) ?_
          refine ev_p (pc' := 73) (loc' := [.ref a0, .int i1, .null, .null, .int (am_gi h9 b14 (Int32.toNatClampNeg i1))]) (st' := [.int (am_gi h9 b14 (Int32.toNatClampNeg i1)), .int (am_gi h31 b33 (Int32.toNatClampNeg i1))]) 1 am_q235 rfl ?_
          refine ev_jc (t := 80) am_q235 rfl rfl (fun hq => ?_) (fun hq => ?_)
          · replace H := H.1 hq
            refine ev_p (pc' := 81) (loc' := [.ref a0, .int i1, .null, .null, .int (am_gi h9 b14 (Int32.toNatClampNeg i1))]) (st' := [.int (1 : Int32)]) 1 am_q235 rfl ?_
            exact ev_r (v := some (.int (1 : Int32))) am_q235 rfl rfl rfl rfl H
          · replace H := H.2 hq
            refine ev_p (pc' := 81) (loc' := [.ref a0, .int i1, .null, .null, .int (am_gi h9 b14 (Int32.toNatClampNeg i1))]) (st' := [.int (0 : Int32)]) 2 am_q235 rfl ?_
            exact ev_r (v := some (.int (0 : Int32))) am_q235 rfl rfl rfl rfl H
      · replace H := H.2 hq
        refine ev_p (pc' := 29) (loc' := [.ref a0, .int i1, .int i2, .int i3, .null]) (st' := [.int (-3 : Int32)]) 1 am_q235 rfl ?_
        exact ev_r (v := some (.int (-3 : Int32))) am_q235 rfl rfl rfl rfl H
    · replace H := H.2 hq
      refine ev_p (pc' := 18) (loc' := [.null, .null, .null, .null, .null]) (st' := [.int (-2 : Int32)]) 1 am_q235 rfl ?_
      exact ev_r (v := some (.int (-2 : Int32))) am_q235 rfl rfl rfl rfl H
/-! 236: X12_mayMove -/
theorem am_q236 : (am_mt 236).2.2.2.2.2 = am_m236.2.2.2.2.2 := rfl
set_option maxRecDepth 20000 in
set_option maxHeartbeats 2000000 in
theorem wp236 {d : Nat} (a0 : Nat) (i1 : Int32) {h : AH} {Q : Option Value → AH → Prop} (H : am_kd h a0 = 12 ∧ am_kd h a0 = 12 ∧ Cl d 174 [.ref a0, .int i1, .int (am_gi h a0 0)] h (fun r3 h2 => ∃ x5, r3 = some (.int x5) ∧ (x5 = (-1 : Int32) → Q (some (.int (0 : Int32))) h2) ∧ (¬ x5 = (-1 : Int32) → am_kd h2 a0 = 12 ∧ ∃ b7, am_gr h2 a0 15 = some b7 ∧ am_kd h2 b7 = 100 ∧ am_in x5 (am_ln h2 b7) ∧ ((am_gi h2 b7 (Int32.toNatClampNeg x5)) = (1 : Int32) → Q (some (.int (0 : Int32))) h2) ∧ (¬ (am_gi h2 b7 (Int32.toNatClampNeg x5)) = (1 : Int32) → am_kd h2 a0 = 12 ∧ ∃ b12, am_gr h2 a0 20 = some b12 ∧ am_kd h2 b12 = 100 ∧ am_in x5 (am_ln h2 b12) ∧ ((¬ (am_gi h2 b12 (Int32.toNatClampNeg x5)) = (-1 : Int32)) → Q (some (.int (0 : Int32))) h2) ∧ (¬ (¬ (am_gi h2 b12 (Int32.toNatClampNeg x5)) = (-1 : Int32)) → am_kd h2 a0 = 12 ∧ ∃ b17, am_gr h2 a0 17 = some b17 ∧ am_kd h2 b17 = 100 ∧ am_in x5 (am_ln h2 b17) ∧ ((¬ (am_gi h2 b17 (Int32.toNatClampNeg x5)) = i1) → Q (some (.int (0 : Int32))) h2) ∧ (¬ (¬ (am_gi h2 b17 (Int32.toNatClampNeg x5)) = i1) → Q (some (.int (1 : Int32))) h2)))))) : Cl (d + 1) 236 [.ref a0, .int i1] h Q := by
  show Ev (d + 1) 236 0 [.ref a0, .int i1, .null] [] h Q
  refine ev_p (pc' := 3) (loc' := [.ref a0, .int i1, .null]) (st' := [.ref a0, .int i1, .ref a0]) 3 am_q236 rfl ?_
  obtain ⟨g1, H⟩ := H
  refine ev_s (pc' := 6) (loc' := [.ref a0, .int i1, .null]) (st' := [.int (am_gi h a0 0), .int i1, .ref a0]) (h1 := h) am_q236 rfl rfl rfl (if_pos (e := none) g1) ?_
  obtain ⟨g4, H⟩ := H
  refine ev_c (vs := [.ref a0, .int i1, .int (am_gi h a0 0)]) (rest := []) 174 am_q236 rfl rfl rfl rfl rfl rfl rfl rfl rfl rfl rfl rfl (Or.inr (congrArg some g4)) (Cl.mono H (Nat.le_refl _) (fun r3 h2 H => ?_))
  obtain ⟨x5, rfl, H⟩ := H
  refine ev_p (pc' := 12) (loc' := [.ref a0, .int i1, .int x5]) (st' := [.int (-1 : Int32), .int x5]) 3 am_q236 rfl ?_
  refine ev_jc (t := 49) am_q236 rfl rfl (fun hq => ?_) (fun hq => ?_)
  · replace H := H.1 hq
    refine ev_p (pc' := 50) (loc' := [.null, .null, .null]) (st' := [.int (0 : Int32)]) 1 am_q236 rfl ?_
    exact ev_r (v := some (.int (0 : Int32))) am_q236 rfl rfl rfl rfl H
  · replace H := H.2 hq
    refine ev_p (pc' := 16) (loc' := [.ref a0, .int i1, .int x5]) (st' := [.ref a0]) 1 am_q236 rfl ?_
    obtain ⟨g6, b7, e8, H⟩ := H
    refine ev_s (pc' := 19) (loc' := [.ref a0, .int i1, .int x5]) (st' := [.ref b7]) (h1 := h2) am_q236 rfl rfl rfl (am_gf2 g6 e8) ?_
    refine ev_p (pc' := 20) (loc' := [.ref a0, .int i1, .int x5]) (st' := [.int x5, .ref b7]) 1 am_q236 rfl ?_
    obtain ⟨g9, g10, H⟩ := H
    refine ev_s (pc' := 21) (loc' := [.ref a0, .int i1, .int x5]) (st' := [.int (am_gi h2 b7 (Int32.toNatClampNeg x5))]) (h1 := h2) am_q236 rfl rfl rfl (am_xx g9 g10) ?_
    refine ev_p (pc' := 22) (loc' := [.ref a0, .int i1, .int x5]) (st' := [.int (1 : Int32), .int (am_gi h2 b7 (Int32.toNatClampNeg x5))]) 1 am_q236 rfl ?_
    refine ev_jc (t := 49) am_q236 rfl rfl (fun hq => ?_) (fun hq => ?_)
    · replace H := H.1 hq
      refine ev_p (pc' := 50) (loc' := [.null, .null, .null]) (st' := [.int (0 : Int32)]) 1 am_q236 rfl ?_
      exact ev_r (v := some (.int (0 : Int32))) am_q236 rfl rfl rfl rfl H
    · replace H := H.2 hq
      refine ev_p (pc' := 26) (loc' := [.ref a0, .int i1, .int x5]) (st' := [.ref a0]) 1 am_q236 rfl ?_
      obtain ⟨g11, b12, e13, H⟩ := H
      refine ev_s (pc' := 29) (loc' := [.ref a0, .int i1, .int x5]) (st' := [.ref b12]) (h1 := h2) am_q236 rfl rfl rfl (am_gf2 g11 e13) ?_
      refine ev_p (pc' := 30) (loc' := [.ref a0, .int i1, .int x5]) (st' := [.int x5, .ref b12]) 1 am_q236 rfl ?_
      obtain ⟨g14, g15, H⟩ := H
      refine ev_s (pc' := 31) (loc' := [.ref a0, .int i1, .int x5]) (st' := [.int (am_gi h2 b12 (Int32.toNatClampNeg x5))]) (h1 := h2) am_q236 rfl rfl rfl (am_xx g14 g15) ?_
      refine ev_p (pc' := 32) (loc' := [.ref a0, .int i1, .int x5]) (st' := [.int (-1 : Int32), .int (am_gi h2 b12 (Int32.toNatClampNeg x5))]) 1 am_q236 rfl ?_
      refine ev_jc (t := 49) am_q236 rfl rfl (fun hq => ?_) (fun hq => ?_)
      · replace H := H.1 hq
        refine ev_p (pc' := 50) (loc' := [.null, .null, .null]) (st' := [.int (0 : Int32)]) 1 am_q236 rfl ?_
        exact ev_r (v := some (.int (0 : Int32))) am_q236 rfl rfl rfl rfl H
      · replace H := H.2 hq
        refine ev_p (pc' := 36) (loc' := [.ref a0, .int i1, .int x5]) (st' := [.ref a0]) 1 am_q236 rfl ?_
        obtain ⟨g16, b17, e18, H⟩ := H
        refine ev_s (pc' := 39) (loc' := [.ref a0, .int i1, .int x5]) (st' := [.ref b17]) (h1 := h2) am_q236 rfl rfl rfl (am_gf2 g16 e18) ?_
        refine ev_p (pc' := 40) (loc' := [.ref a0, .int i1, .int x5]) (st' := [.int x5, .ref b17]) 1 am_q236 rfl ?_
        obtain ⟨g19, g20, H⟩ := H
        refine ev_s (pc' := 41) (loc' := [.ref a0, .int i1, .int x5]) (st' := [.int (am_gi h2 b17 (Int32.toNatClampNeg x5))]) (h1 := h2) am_q236 rfl rfl rfl (am_xx g19 g20) ?_
        refine ev_p (pc' := 42) (loc' := [.ref a0, .int i1, .int x5]) (st' := [.int i1, .int (am_gi h2 b17 (Int32.toNatClampNeg x5))]) 1 am_q236 rfl ?_
        refine ev_jc (t := 49) am_q236 rfl rfl (fun hq => ?_) (fun hq => ?_)
        · replace H := H.1 hq
          refine ev_p (pc' := 50) (loc' := [.null, .null, .null]) (st' := [.int (0 : Int32)]) 1 am_q236 rfl ?_
          exact ev_r (v := some (.int (0 : Int32))) am_q236 rfl rfl rfl rfl H
        · replace H := H.2 hq
          refine ev_p (pc' := 50) (loc' := [.ref a0, .int i1, .int x5]) (st' := [.int (1 : Int32)]) 2 am_q236 rfl ?_
          exact ev_r (v := some (.int (1 : Int32))) am_q236 rfl rfl rfl rfl H
/-! 237: X12_gathers -/
theorem am_q237 : (am_mt 237).2.2.2.2.2 = am_m237.2.2.2.2.2 := rfl
set_option maxRecDepth 20000 in
set_option maxHeartbeats 2000000 in
theorem wp237 {d : Nat} (a0 : Nat) {h : AH} {Q : Option Value → AH → Prop} (H : am_kd h a0 = 12 ∧ ∀ h2, h2 = am_si h a0 61 (0 : Int32) → am_kd h2 a0 = 12 ∧ ∀ h4, h4 = am_si h2 a0 66 (0 : Int32) → Ev (d + 1) 237 12 [.ref a0, .int (0 : Int32)] [] h4 Q) : Cl (d + 1) 237 [.ref a0] h Q := by
  show Ev (d + 1) 237 0 [.ref a0, .null] [] h Q
  refine ev_p (pc' := 2) (loc' := [.ref a0, .null]) (st' := [.int (0 : Int32), .ref a0]) 2 am_q237 rfl ?_
  obtain ⟨g1, H⟩ := H
  refine ev_s (pc' := 5) (loc' := [.ref a0, .null]) (st' := []) (h1 := am_si h a0 61 (0 : Int32)) am_q237 rfl rfl rfl (if_pos (e := none) g1) ?_
  replace H := H _ rfl
  generalize am_si h a0 61 (0 : Int32) = h2 at H ⊢
  refine ev_p (pc' := 7) (loc' := [.ref a0, .null]) (st' := [.int (0 : Int32), .ref a0]) 2 am_q237 rfl ?_
  obtain ⟨g3, H⟩ := H
  refine ev_s (pc' := 10) (loc' := [.ref a0, .null]) (st' := []) (h1 := am_si h2 a0 66 (0 : Int32)) am_q237 rfl rfl rfl (if_pos (e := none) g3) ?_
  replace H := H _ rfl
  generalize am_si h2 a0 66 (0 : Int32) = h4 at H ⊢
  refine ev_p (pc' := 12) (loc' := [.ref a0, .int (0 : Int32)]) (st' := []) 2 am_q237 rfl ?_
  exact ev_m (loc' := [.ref a0, .int (0 : Int32)]) am_q237 rfl rfl H
set_option maxRecDepth 20000 in
set_option maxHeartbeats 2000000 in
theorem wp237_12 {d : Nat} (a0 : Nat) (i1 : Int32) {h : AH} {Q : Option Value → AH → Prop} (H : am_kd h a0 = 12 ∧ ((am_gi h a0 1) ≤ i1 → Ev (d + 1) 237 66 [.ref a0, .int (0 : Int32)] [] h Q) ∧ (¬ (am_gi h a0 1) ≤ i1 → am_kd h a0 = 12 ∧ am_kd h a0 = 12 ∧ am_kd h a0 = 12 ∧ Cl d 173 [.ref a0, .int i1, .int (am_gi h a0 0)] h (fun r5 h4 => ∃ x7, r5 = some (.int x7) ∧ ((¬ x7 = (-1 : Int32)) → am_kd h4 a0 = 12 ∧ ∀ h9, h9 = am_si h4 a0 66 ((am_gi h a0 66) ||| (0 : Int32)) → Ev (d + 1) 237 12 [.ref a0, .int (i1 + (1 : Int32))] [] h9 Q) ∧ (¬ (¬ x7 = (-1 : Int32)) → am_kd h4 a0 = 12 ∧ ∃ b11, am_gr h4 a0 5 = some b11 ∧ (am_kd h4 b11 = 102 ∨ am_kd h4 b11 = 103) ∧ am_in i1 (am_ln h4 b11) ∧ ((¬ (am_gi h4 b11 (Int32.toNatClampNeg i1)) = (0 : Int32)) → am_kd h4 a0 = 12 ∧ ∀ h16, h16 = am_si h4 a0 66 ((am_gi h a0 66) ||| (0 : Int32)) → Ev (d + 1) 237 12 [.ref a0, .int (i1 + (1 : Int32))] [] h16 Q) ∧ (¬ (¬ (am_gi h4 b11 (Int32.toNatClampNeg i1)) = (0 : Int32)) → am_kd h4 a0 = 12 ∧ ∀ h18, h18 = am_si h4 a0 66 ((am_gi h a0 66) ||| ((1 : Int32) <<< (i1 &&& 31))) → Ev (d + 1) 237 12 [.ref a0, .int (i1 + (1 : Int32))] [] h18 Q))))) : Ev (d + 1) 237 12 [.ref a0, .int i1] [] h Q := by
  refine ev_p (pc' := 14) (loc' := [.ref a0, .int i1]) (st' := [.ref a0, .int i1]) 2 am_q237 rfl ?_
  obtain ⟨g1, H⟩ := H
  refine ev_s (pc' := 17) (loc' := [.ref a0, .int i1]) (st' := [.int (am_gi h a0 1), .int i1]) (h1 := h) am_q237 rfl rfl rfl (if_pos (e := none) g1) ?_
  refine ev_jc (t := 64) am_q237 rfl rfl (fun hq => ?_) (fun hq => ?_)
  · replace H := H.1 hq
    refine ev_p (pc' := 66) (loc' := [.ref a0, .int (0 : Int32)]) (st' := []) 2 am_q237 rfl ?_
    exact ev_m (loc' := [.ref a0, .int (0 : Int32)]) am_q237 rfl rfl H
  · replace H := H.2 hq
    refine ev_p (pc' := 22) (loc' := [.ref a0, .int i1]) (st' := [.ref a0, .ref a0]) 2 am_q237 rfl ?_
    obtain ⟨g2, H⟩ := H
    refine ev_s (pc' := 25) (loc' := [.ref a0, .int i1]) (st' := [.int (am_gi h a0 66), .ref a0]) (h1 := h) am_q237 rfl rfl rfl (if_pos (e := none) g2) ?_
    refine ev_p (pc' := 28) (loc' := [.ref a0, .int i1]) (st' := [.ref a0, .int i1, .ref a0, .int (am_gi h a0 66), .ref a0]) 3 am_q237 rfl ?_
    obtain ⟨g3, H⟩ := H
    refine ev_s (pc' := 31) (loc' := [.ref a0, .int i1]) (st' := [.int (am_gi h a0 0), .int i1, .ref a0, .int (am_gi h a0 66), .ref a0]) (h1 := h) am_q237 rfl rfl rfl (if_pos (e := none) g3) ?_
    obtain ⟨g6, H⟩ := H
    refine ev_c (vs := [.ref a0, .int i1, .int (am_gi h a0 0)]) (rest := [.int (am_gi h a0 66), .ref a0]) 173 am_q237 rfl rfl rfl rfl rfl rfl rfl rfl rfl rfl rfl rfl (Or.inr (congrArg some g6)) (Cl.mono H (Nat.le_refl _) (fun r5 h4 H => ?_))
    obtain ⟨x7, rfl, H⟩ := H
    refine ev_p (pc' := 35) (loc' := [.ref a0, .int i1]) (st' := [.int (-1 : Int32), .int x7, .int (am_gi h a0 66), .ref a0]) 1 am_q237 rfl ?_
    refine ev_jc (t := 53) am_q237 rfl rfl (fun hq => ?_) (fun hq => ?_)
    · replace H := H.1 hq
      refine ev_p (pc' := 55) (loc' := [.ref a0, .int i1]) (st' := [.int ((am_gi h a0 66) ||| (0 : Int32)), .ref a0]) 2 am_q237 rfl ?_
      obtain ⟨g8, H⟩ := H
      refine ev_s (pc' := 58) (loc' := [.ref a0, .int i1]) (st' := []) (h1 := am_si h4 a0 66 ((am_gi h a0 66) ||| (0 : Int32))) am_q237 rfl rfl rfl (if_pos (e := none) g8) ?_
      replace H := H _ rfl
      generalize am_si h4 a0 66 ((am_gi h a0 66) ||| (0 : Int32)) = h9 at H ⊢
      refine ev_p (pc' := 12) (loc' := [.ref a0, .int (i1 + (1 : Int32))]) (st' := []) 2 am_q237 rfl ?_
      exact ev_m (loc' := [.ref a0, .int (i1 + (1 : Int32))]) am_q237 rfl rfl H
    · replace H := H.2 hq
      refine ev_p (pc' := 39) (loc' := [.ref a0, .int i1]) (st' := [.ref a0, .int (am_gi h a0 66), .ref a0]) 1 am_q237 rfl ?_
      obtain ⟨g10, b11, e12, H⟩ := H
      refine ev_s (pc' := 42) (loc' := [.ref a0, .int i1]) (st' := [.ref b11, .int (am_gi h a0 66), .ref a0]) (h1 := h4) am_q237 rfl rfl rfl (am_gf2 g10 e12) ?_
      refine ev_p (pc' := 43) (loc' := [.ref a0, .int i1]) (st' := [.int i1, .ref b11, .int (am_gi h a0 66), .ref a0]) 1 am_q237 rfl ?_
      obtain ⟨g13, g14, H⟩ := H
      refine ev_s (pc' := 44) (loc' := [.ref a0, .int i1]) (st' := [.int (am_gi h4 b11 (Int32.toNatClampNeg i1)), .int (am_gi h a0 66), .ref a0]) (h1 := h4) am_q237 rfl rfl rfl (am_xx g13 g14) ?_
      refine ev_jz (t := 53) am_q237 rfl rfl (fun hq => ?_) (fun hq => ?_)
      · replace H := H.1 hq
        refine ev_p (pc' := 55) (loc' := [.ref a0, .int i1]) (st' := [.int ((am_gi h a0 66) ||| (0 : Int32)), .ref a0]) 2 am_q237 rfl ?_
        obtain ⟨g15, H⟩ := H
        refine ev_s (pc' := 58) (loc' := [.ref a0, .int i1]) (st' := []) (h1 := am_si h4 a0 66 ((am_gi h a0 66) ||| (0 : Int32))) am_q237 rfl rfl rfl (if_pos (e := none) g15) ?_
        replace H := H _ rfl
        generalize am_si h4 a0 66 ((am_gi h a0 66) ||| (0 : Int32)) = h16 at H ⊢
        refine ev_p (pc' := 12) (loc' := [.ref a0, .int (i1 + (1 : Int32))]) (st' := []) 2 am_q237 rfl ?_
        exact ev_m (loc' := [.ref a0, .int (i1 + (1 : Int32))]) am_q237 rfl rfl H
      · replace H := H.2 hq
        refine ev_p (pc' := 55) (loc' := [.ref a0, .int i1]) (st' := [.int ((am_gi h a0 66) ||| ((1 : Int32) <<< (i1 &&& 31))), .ref a0]) 5 am_q237 rfl ?_
        obtain ⟨g17, H⟩ := H
        refine ev_s (pc' := 58) (loc' := [.ref a0, .int i1]) (st' := []) (h1 := am_si h4 a0 66 ((am_gi h a0 66) ||| ((1 : Int32) <<< (i1 &&& 31)))) am_q237 rfl rfl rfl (if_pos (e := none) g17) ?_
        replace H := H _ rfl
        generalize am_si h4 a0 66 ((am_gi h a0 66) ||| ((1 : Int32) <<< (i1 &&& 31))) = h18 at H ⊢
        refine ev_p (pc' := 12) (loc' := [.ref a0, .int (i1 + (1 : Int32))]) (st' := []) 2 am_q237 rfl ?_
        exact ev_m (loc' := [.ref a0, .int (i1 + (1 : Int32))]) am_q237 rfl rfl H
set_option maxRecDepth 20000 in
set_option maxHeartbeats 2000000 in
theorem wp237_66 {d : Nat} (a0 : Nat) (i1 : Int32) {h : AH} {Q : Option Value → AH → Prop} (H : am_kd h a0 = 12 ∧ ((am_gi h a0 7) ≤ i1 → Q none h) ∧ (¬ (am_gi h a0 7) ≤ i1 → am_kd h a0 = 12 ∧ Cl d 236 [.ref a0, .int i1] h (fun r3 h2 => ∃ x5, r3 = some (.int x5) ∧ (x5 = (0 : Int32) → Ev (d + 1) 237 66 [.ref a0, .int (i1 + (1 : Int32))] [] h2 Q) ∧ (¬ x5 = (0 : Int32) → am_kd h2 a0 = 12 ∧ ∃ b7, am_gr h2 a0 62 = some b7 ∧ am_kd h2 a0 = 12 ∧ (am_kd h2 b7 = 100 ∧ 6 ≤ b7) ∧ am_in (am_gi h2 a0 61) (am_ln h2 b7) ∧ ∀ h12, h12 = am_si h2 b7 (Int32.toNatClampNeg (am_gi h2 a0 61)) i1 → am_kd h12 a0 = 12 ∧ ∃ b14, am_gr h12 a0 63 = some b14 ∧ am_kd h12 a0 = 12 ∧ am_kd h12 a0 = 12 ∧ ∃ b18, am_gr h12 a0 16 = some b18 ∧ am_kd h12 a0 = 12 ∧ am_kd h12 a0 = 12 ∧ Cl d 174 [.ref a0, .int i1, .int (am_gi h12 a0 0)] h12 (fun r22 h21 => ∃ x24, r22 = some (.int x24) ∧ am_kd h21 b18 = 100 ∧ am_in x24 (am_ln h21 b18) ∧ (am_kd h21 b14 = 100 ∧ 6 ≤ b14) ∧ am_in (am_gi h12 a0 61) (am_ln h21 b14) ∧ ∀ h29, h29 = am_si h21 b14 (Int32.toNatClampNeg (am_gi h12 a0 61)) (am_gi h21 b18 (Int32.toNatClampNeg x24)) → am_kd h29 a0 = 12 ∧ am_kd h29 a0 = 12 ∧ ∃ b32, am_gr h29 a0 63 = some b32 ∧ am_kd h29 a0 = 12 ∧ am_kd h29 b32 = 100 ∧ am_in (am_gi h29 a0 61) (am_ln h29 b32) ∧ am_kd h29 a0 = 12 ∧ ∀ h38, h38 = am_si h29 a0 66 ((am_gi h29 a0 66) ||| ((1 : Int32) <<< ((am_gi h29 b32 (Int32.toNatClampNeg (am_gi h29 a0 61))) &&& 31))) → am_kd h38 a0 = 12 ∧ am_kd h38 a0 = 12 ∧ ∀ h41, h41 = am_si h38 a0 61 ((am_gi h38 a0 61) + (1 : Int32)) → Ev (d + 1) 237 66 [.ref a0, .int (i1 + (1 : Int32))] [] h41 Q))))) : Ev (d + 1) 237 66 [.ref a0, .int i1] [] h Q := by
  refine ev_p (pc' := 68) (loc' := [.ref a0, .int i1]) (st' := [.ref a0, .int i1]) 2 am_q237 rfl ?_
  obtain ⟨g1, H⟩ := H
  refine ev_s (pc' := 71) (loc' := [.ref a0, .int i1]) (st' := [.int (am_gi h a0 7), .int i1]) (h1 := h) am_q237 rfl rfl rfl (if_pos (e := none) g1) ?_
  refine ev_jc (t := 151) am_q237 rfl rfl (fun hq => ?_) (fun hq => ?_)
  · replace H := H.1 hq
    exact ev_r (v := none) am_q237 rfl rfl rfl rfl H
  · replace H := H.2 hq
    refine ev_p (pc' := 76) (loc' := [.ref a0, .int i1]) (st' := [.int i1, .ref a0]) 2 am_q237 rfl ?_
    obtain ⟨g4, H⟩ := H
    refine ev_c (vs := [.ref a0, .int i1]) (rest := []) 236 am_q237 rfl rfl rfl rfl rfl rfl rfl rfl rfl rfl rfl rfl (Or.inr (congrArg some g4)) (Cl.mono H (Nat.le_refl _) (fun r3 h2 H => ?_))
    obtain ⟨x5, rfl, H⟩ := H
    refine ev_jz (t := 145) am_q237 rfl rfl (fun hq => ?_) (fun hq => ?_)
    · replace H := H.1 hq
      refine ev_p (pc' := 66) (loc' := [.ref a0, .int (i1 + (1 : Int32))]) (st' := []) 2 am_q237 rfl ?_
      exact ev_m (loc' := [.ref a0, .int (i1 + (1 : Int32))]) am_q237 rfl rfl H
    · replace H := H.2 hq
      refine ev_p (pc' := 83) (loc' := [.ref a0, .int i1]) (st' := [.ref a0]) 1 am_q237 rfl ?_
      obtain ⟨g6, b7, e8, H⟩ := H
      refine ev_s (pc' := 86) (loc' := [.ref a0, .int i1]) (st' := [.ref b7]) (h1 := h2) am_q237 rfl rfl rfl (am_gf2 g6 e8) ?_
      refine ev_p (pc' := 87) (loc' := [.ref a0, .int i1]) (st' := [.ref a0, .ref b7]) 1 am_q237 rfl ?_
      obtain ⟨g9, H⟩ := H
      refine ev_s (pc' := 90) (loc' := [.ref a0, .int i1]) (st' := [.int (am_gi h2 a0 61), .ref b7]) (h1 := h2) am_q237 rfl rfl rfl (if_pos (e := none) g9) ?_
      refine ev_p (pc' := 91) (loc' := [.ref a0, .int i1]) (st' := [.int i1, .int (am_gi h2 a0 61), .ref b7]) 1 am_q237 rfl ?_
      obtain ⟨g10, g11, H⟩ := H
      refine ev_s (pc' := 92) (loc' := [.ref a0, .int i1]) (st' := []) (h1 := am_si h2 b7 (Int32.toNatClampNeg (am_gi h2 a0 61)) i1) am_q237 rfl rfl rfl (am_xx g10 g11) ?_
      replace H := H _ rfl
      generalize am_si h2 b7 (Int32.toNatClampNeg (am_gi h2 a0 61)) i1 = h12 at H ⊢
      refine ev_p (pc' := 93) (loc' := [.ref a0, .int i1]) (st' := [.ref a0]) 1 am_q237 rfl ?_
      obtain ⟨g13, b14, e15, H⟩ := H
      refine ev_s (pc' := 96) (loc' := [.ref a0, .int i1]) (st' := [.ref b14]) (h1 := h12) am_q237 rfl rfl rfl (am_gf2 g13 e15) ?_
      refine ev_p (pc' := 97) (loc' := [.ref a0, .int i1]) (st' := [.ref a0, .ref b14]) 1 am_q237 rfl ?_
      obtain ⟨g16, H⟩ := H
      refine ev_s (pc' := 100) (loc' := [.ref a0, .int i1]) (st' := [.int (am_gi h12 a0 61), .ref b14]) (h1 := h12) am_q237 rfl rfl rfl (if_pos (e := none) g16) ?_
      refine ev_p (pc' := 101) (loc' := [.ref a0, .int i1]) (st' := [.ref a0, .int (am_gi h12 a0 61), .ref b14]) 1 am_q237 rfl ?_
      obtain ⟨g17, b18, e19, H⟩ := H
      refine ev_s (pc' := 104) (loc' := [.ref a0, .int i1]) (st' := [.ref b18, .int (am_gi h12 a0 61), .ref b14]) (h1 := h12) am_q237 rfl rfl rfl (am_gf2 g17 e19) ?_
      refine ev_p (pc' := 107) (loc' := [.ref a0, .int i1]) (st' := [.ref a0, .int i1, .ref a0, .ref b18, .int (am_gi h12 a0 61), .ref b14]) 3 am_q237 rfl ?_
      obtain ⟨g20, H⟩ := H
      refine ev_s (pc' := 110) (loc' := [.ref a0, .int i1]) (st' := [.int (am_gi h12 a0 0), .int i1, .ref a0, .ref b18, .int (am_gi h12 a0 61), .ref b14]) (h1 := h12) am_q237 rfl rfl rfl (if_pos (e := none) g20) ?_
      obtain ⟨g23, H⟩ := H
      refine ev_c (vs := [.ref a0, .int i1, .int (am_gi h12 a0 0)]) (rest := [.ref b18, .int (am_gi h12 a0 61), .ref b14]) 174 am_q237 rfl rfl rfl rfl rfl rfl rfl rfl rfl rfl rfl rfl (Or.inr (congrArg some g23)) (Cl.mono H (Nat.le_refl _) (fun r22 h21 H => ?_))
      obtain ⟨x24, rfl, H⟩ := H
      obtain ⟨g25, g26, H⟩ := H
      refine ev_s (pc' := 114) (loc' := [.ref a0, .int i1]) (st' := [.int (am_gi h21 b18 (Int32.toNatClampNeg x24)), .int (am_gi h12 a0 61), .ref b14]) (h1 := h21) am_q237 rfl rfl rfl (am_xx g25 g26) ?_
      obtain ⟨g27, g28, H⟩ := H
      refine ev_s (pc' := 115) (loc' := [.ref a0, .int i1]) (st' := []) (h1 := am_si h21 b14 (Int32.toNatClampNeg (am_gi h12 a0 61)) (am_gi h21 b18 (Int32.toNatClampNeg x24))) am_q237 rfl rfl rfl (am_xx g27 g28) ?_
      replace H := H _ rfl
      generalize am_si h21 b14 (Int32.toNatClampNeg (am_gi h12 a0 61)) (am_gi h21 b18 (Int32.toNatClampNeg x24)) = h29 at H ⊢
      refine ev_p (pc' := 117) (loc' := [.ref a0, .int i1]) (st' := [.ref a0, .ref a0]) 2 am_q237 rfl ?_
      obtain ⟨g30, H⟩ := H
      refine ev_s (pc' := 120) (loc' := [.ref a0, .int i1]) (st' := [.int (am_gi h29 a0 66), .ref a0]) (h1 := h29) am_q237 rfl rfl rfl (if_pos (e := none) g30) ?_
      refine ev_p (pc' := 122) (loc' := [.ref a0, .int i1]) (st' := [.ref a0, .int (1 : Int32), .int (am_gi h29 a0 66), .ref a0]) 2 am_q237 rfl ?_
      obtain ⟨g31, b32, e33, H⟩ := H
      refine ev_s (pc' := 125) (loc' := [.ref a0, .int i1]) (st' := [.ref b32, .int (1 : Int32), .int (am_gi h29 a0 66), .ref a0]) (h1 := h29) am_q237 rfl rfl rfl (am_gf2 g31 e33) ?_
      refine ev_p (pc' := 126) (loc' := [.ref a0, .int i1]) (st' := [.ref a0, .ref b32, .int (1 : Int32), .int (am_gi h29 a0 66), .ref a0]) 1 am_q237 rfl ?_
      obtain ⟨g34, H⟩ := H
      refine ev_s (pc' := 129) (loc' := [.ref a0, .int i1]) (st' := [.int (am_gi h29 a0 61), .ref b32, .int (1 : Int32), .int (am_gi h29 a0 66), .ref a0]) (h1 := h29) am_q237 rfl rfl rfl (if_pos (e := none) g34) ?_
      obtain ⟨g35, g36, H⟩ := H
      refine ev_s (pc' := 130) (loc' := [.ref a0, .int i1]) (st' := [.int (am_gi h29 b32 (Int32.toNatClampNeg (am_gi h29 a0 61))), .int (1 : Int32), .int (am_gi h29 a0 66), .ref a0]) (h1 := h29) am_q237 rfl rfl rfl (am_xx g35 g36) ?_
      refine ev_p (pc' := 132) (loc' := [.ref a0, .int i1]) (st' := [.int ((am_gi h29 a0 66) ||| ((1 : Int32) <<< ((am_gi h29 b32 (Int32.toNatClampNeg (am_gi h29 a0 61))) &&& 31))), .ref a0]) 2 am_q237 rfl ?_
      obtain ⟨g37, H⟩ := H
      refine ev_s (pc' := 135) (loc' := [.ref a0, .int i1]) (st' := []) (h1 := am_si h29 a0 66 ((am_gi h29 a0 66) ||| ((1 : Int32) <<< ((am_gi h29 b32 (Int32.toNatClampNeg (am_gi h29 a0 61))) &&& 31)))) am_q237 rfl rfl rfl (if_pos (e := none) g37) ?_
      replace H := H _ rfl
      generalize am_si h29 a0 66 ((am_gi h29 a0 66) ||| ((1 : Int32) <<< ((am_gi h29 b32 (Int32.toNatClampNeg (am_gi h29 a0 61))) &&& 31))) = h38 at H ⊢
      refine ev_p (pc' := 137) (loc' := [.ref a0, .int i1]) (st' := [.ref a0, .ref a0]) 2 am_q237 rfl ?_
      obtain ⟨g39, H⟩ := H
      refine ev_s (pc' := 140) (loc' := [.ref a0, .int i1]) (st' := [.int (am_gi h38 a0 61), .ref a0]) (h1 := h38) am_q237 rfl rfl rfl (if_pos (e := none) g39) ?_
      refine ev_p (pc' := 142) (loc' := [.ref a0, .int i1]) (st' := [.int ((am_gi h38 a0 61) + (1 : Int32)), .ref a0]) 2 am_q237 rfl ?_
      obtain ⟨g40, H⟩ := H
      refine ev_s (pc' := 145) (loc' := [.ref a0, .int i1]) (st' := []) (h1 := am_si h38 a0 61 ((am_gi h38 a0 61) + (1 : Int32))) am_q237 rfl rfl rfl (if_pos (e := none) g40) ?_
      replace H := H _ rfl
      generalize am_si h38 a0 61 ((am_gi h38 a0 61) + (1 : Int32)) = h41 at H ⊢
      refine ev_p (pc' := 66) (loc' := [.ref a0, .int (i1 + (1 : Int32))]) (st' := []) 2 am_q237 rfl ?_
      exact ev_m (loc' := [.ref a0, .int (i1 + (1 : Int32))]) am_q237 rfl rfl H
/-! 238: X12_reckons -/
theorem am_q238 : (am_mt 238).2.2.2.2.2 = am_m238.2.2.2.2.2 := rfl
set_option maxRecDepth 20000 in
set_option maxHeartbeats 2000000 in
theorem wp238 {d : Nat} (a0 : Nat) {h : AH} {Q : Option Value → AH → Prop} (H : Ev (d + 1) 238 2 [.ref a0, .int (0 : Int32), .null, .null, .null, .null] [] h Q) : Cl (d + 1) 238 [.ref a0] h Q := by
  show Ev (d + 1) 238 0 [.ref a0, .null, .null, .null, .null, .null] [] h Q
  refine ev_p (pc' := 2) (loc' := [.ref a0, .int (0 : Int32), .null, .null, .null, .null]) (st' := []) 2 am_q238 rfl ?_
  exact ev_m (loc' := [.ref a0, .int (0 : Int32), .null, .null, .null, .null]) am_q238 rfl rfl H
set_option maxRecDepth 20000 in
set_option maxHeartbeats 2000000 in
theorem wp238_2 {d : Nat} (a0 : Nat) (i1 : Int32) {h : AH} {Q : Option Value → AH → Prop} (H : ((4096 : Int32) ≤ i1 → am_kd h a0 = 12 ∧ Ev (d + 1) 238 38 [.ref a0, .int ((am_gi h a0 61) - (1 : Int32)), .null, .null, .null, .null] [] h Q) ∧ (¬ (4096 : Int32) ≤ i1 → am_kd h a0 = 12 ∧ ∃ b3, am_gr h a0 65 = some b3 ∧ am_kd h a0 = 12 ∧ (am_kd h b3 = 100 ∧ 6 ≤ b3) ∧ am_in (((4096 : Int32) * (am_gi h a0 61)) + i1) (am_ln h b3) ∧ ∀ h8, h8 = am_si h b3 (Int32.toNatClampNeg (((4096 : Int32) * (am_gi h a0 61)) + i1)) (0 : Int32) → Ev (d + 1) 238 2 [.ref a0, .int (i1 + (1 : Int32)), .null, .null, .null, .null] [] h8 Q)) : Ev (d + 1) 238 2 [.ref a0, .int i1, .null, .null, .null, .null] [] h Q := by
  refine ev_p (pc' := 6) (loc' := [.ref a0, .int i1, .null, .null, .null, .null]) (st' := [.int (4096 : Int32), .int i1]) 2 am_q238 rfl ?_
  refine ev_jc (t := 31) am_q238 rfl rfl (fun hq => ?_) (fun hq => ?_)
  · replace H := H.1 hq
    refine ev_p (pc' := 32) (loc' := [.ref a0, .int i1, .null, .null, .null, .null]) (st' := [.ref a0]) 1 am_q238 rfl ?_
    obtain ⟨g1, H⟩ := H
    refine ev_s (pc' := 35) (loc' := [.ref a0, .int i1, .null, .null, .null, .null]) (st' := [.int (am_gi h a0 61)]) (h1 := h) am_q238 rfl rfl rfl (if_pos (e := none) g1) ?_
    refine ev_p (pc' := 38) (loc' := [.ref a0, .int ((am_gi h a0 61) - (1 : Int32)), .null, .null, .null, .null]) (st' := []) 3 am_q238 rfl ?_
    exact ev_m (loc' := [.ref a0, .int ((am_gi h a0 61) - (1 : Int32)), .null, .null, .null, .null]) am_q238 rfl rfl H
  · replace H := H.2 hq
    refine ev_p (pc' := 10) (loc' := [.ref a0, .int i1, .null, .null, .null, .null]) (st' := [.ref a0]) 1 am_q238 rfl ?_
    obtain ⟨g2, b3, e4, H⟩ := H
    refine ev_s (pc' := 13) (loc' := [.ref a0, .int i1, .null, .null, .null, .null]) (st' := [.ref b3]) (h1 := h) am_q238 rfl rfl rfl (am_gf2 g2 e4) ?_
    refine ev_p (pc' := 17) (loc' := [.ref a0, .int i1, .null, .null, .null, .null]) (st' := [.ref a0, .int (4096 : Int32), .ref b3]) 2 am_q238 rfl ?_
    obtain ⟨g5, H⟩ := H
    refine ev_s (pc' := 20) (loc' := [.ref a0, .int i1, .null, .null, .null, .null]) (st' := [.int (am_gi h a0 61), .int (4096 : Int32), .ref b3]) (h1 := h) am_q238 rfl rfl rfl (if_pos (e := none) g5) ?_
    refine ev_p (pc' := 24) (loc' := [.ref a0, .int i1, .null, .null, .null, .null]) (st' := [.int (0 : Int32), .int (((4096 : Int32) * (am_gi h a0 61)) + i1), .ref b3]) 4 am_q238 rfl ?_
    obtain ⟨g6, g7, H⟩ := H
    refine ev_s (pc' := 25) (loc' := [.ref a0, .int i1, .null, .null, .null, .null]) (st' := []) (h1 := am_si h b3 (Int32.toNatClampNeg (((4096 : Int32) * (am_gi h a0 61)) + i1)) (0 : Int32)) am_q238 rfl rfl rfl (am_xx g6 g7) ?_
    replace H := H _ rfl
    generalize am_si h b3 (Int32.toNatClampNeg (((4096 : Int32) * (am_gi h a0 61)) + i1)) (0 : Int32) = h8 at H ⊢
    refine ev_p (pc' := 2) (loc' := [.ref a0, .int (i1 + (1 : Int32)), .null, .null, .null, .null]) (st' := []) 2 am_q238 rfl ?_
    exact ev_m (loc' := [.ref a0, .int (i1 + (1 : Int32)), .null, .null, .null, .null]) am_q238 rfl rfl H
set_option maxRecDepth 20000 in
set_option maxHeartbeats 2000000 in
theorem wp238_38 {d : Nat} (a0 : Nat) (i1 : Int32) {h : AH} {Q : Option Value → AH → Prop} (H : (i1 < (0 : Int32) → Q none h) ∧ (¬ i1 < (0 : Int32) → Ev (d + 1) 238 44 [.ref a0, .int i1, .int (0 : Int32), .null, .null, .null] [] h Q)) : Ev (d + 1) 238 38 [.ref a0, .int i1, .null, .null, .null, .null] [] h Q := by
  refine ev_p (pc' := 39) (loc' := [.ref a0, .int i1, .null, .null, .null, .null]) (st' := [.int i1]) 1 am_q238 rfl ?_
  refine ev_jz (t := 119) am_q238 rfl rfl (fun hq => ?_) (fun hq => ?_)
  · replace H := H.1 hq
    exact ev_r (v := none) am_q238 rfl rfl rfl rfl H
  · replace H := H.2 hq
    refine ev_p (pc' := 44) (loc' := [.ref a0, .int i1, .int (0 : Int32), .null, .null, .null]) (st' := []) 2 am_q238 rfl ?_
    exact ev_m (loc' := [.ref a0, .int i1, .int (0 : Int32), .null, .null, .null]) am_q238 rfl rfl H
set_option maxRecDepth 20000 in
set_option maxHeartbeats 2000000 in
theorem wp238_44 {d : Nat} (a0 : Nat) (i1 : Int32) (i2 : Int32) {h : AH} {Q : Option Value → AH → Prop} (H : ((4096 : Int32) ≤ i2 → Ev (d + 1) 238 38 [.ref a0, .int (i1 + (-1 : Int32)), .null, .null, .null, .null] [] h Q) ∧ (¬ (4096 : Int32) ≤ i2 → Ev (d + 1) 238 56 [.ref a0, .int i1, .int i2, .int (-1 : Int32), .int (0 : Int32), .null] [] h Q)) : Ev (d + 1) 238 44 [.ref a0, .int i1, .int i2, .null, .null, .null] [] h Q := by
  refine ev_p (pc' := 48) (loc' := [.ref a0, .int i1, .int i2, .null, .null, .null]) (st' := [.int (4096 : Int32), .int i2]) 2 am_q238 rfl ?_
  refine ev_jc (t := 113) am_q238 rfl rfl (fun hq => ?_) (fun hq => ?_)
  · replace H := H.1 hq
    refine ev_p (pc' := 38) (loc' := [.ref a0, .int (i1 + (-1 : Int32)), .int i2, .null, .null, .null]) (st' := []) 2 am_q238 rfl ?_
    exact ev_m (loc' := [.ref a0, .int (i1 + (-1 : Int32)), .null, .null, .null, .null]) am_q238 rfl rfl H
  · replace H := H.2 hq
    refine ev_p (pc' := 56) (loc' := [.ref a0, .int i1, .int i2, .int (-1 : Int32), .int (0 : Int32), .null]) (st' := []) 4 am_q238 rfl ?_
    exact ev_m (loc' := [.ref a0, .int i1, .int i2, .int (-1 : Int32), .int (0 : Int32), .null]) am_q238 rfl rfl H
set_option maxRecDepth 20000 in
set_option maxHeartbeats 2000000 in
theorem wp238_56 {d : Nat} (a0 : Nat) (i1 : Int32) (i2 : Int32) (i3 : Int32) (i4 : Int32) {h : AH} {Q : Option Value → AH → Prop} (H : am_kd h a0 = 12 ∧ ((am_gi h a0 1) ≤ i4 → am_kd h a0 = 12 ∧ ∃ b3, am_gr h a0 65 = some b3 ∧ (am_kd h b3 = 100 ∧ 6 ≤ b3) ∧ am_in (((4096 : Int32) * i1) + i2) (am_ln h b3) ∧ ∀ h7, h7 = am_si h b3 (Int32.toNatClampNeg (((4096 : Int32) * i1) + i2)) i3 → Ev (d + 1) 238 44 [.ref a0, .int i1, .int (i2 + (1 : Int32)), .null, .null, .null] [] h7 Q) ∧ (¬ (am_gi h a0 1) ≤ i4 → am_kd h a0 = 12 ∧ Cl d 239 [.ref a0, .int i1, .int i4, .int i2] h (fun r9 h8 => ∃ x11, r9 = some (.int x11) ∧ (x11 ≤ i3 → Ev (d + 1) 238 56 [.ref a0, .int i1, .int i2, .int i3, .int (i4 + (1 : Int32)), .null] [] h8 Q) ∧ (¬ x11 ≤ i3 → Ev (d + 1) 238 56 [.ref a0, .int i1, .int i2, .int x11, .int (i4 + (1 : Int32)), .null] [] h8 Q)))) : Ev (d + 1) 238 56 [.ref a0, .int i1, .int i2, .int i3, .int i4, .null] [] h Q := by
  refine ev_p (pc' := 59) (loc' := [.ref a0, .int i1, .int i2, .int i3, .int i4, .null]) (st' := [.ref a0, .int i4]) 2 am_q238 rfl ?_
  obtain ⟨g1, H⟩ := H
  refine ev_s (pc' := 62) (loc' := [.ref a0, .int i1, .int i2, .int i3, .int i4, .null]) (st' := [.int (am_gi h a0 1), .int i4]) (h1 := h) am_q238 rfl rfl rfl (if_pos (e := none) g1) ?_
  refine ev_jc (t := 94) am_q238 rfl rfl (fun hq => ?_) (fun hq => ?_)
  · replace H := H.1 hq
    refine ev_p (pc' := 95) (loc' := [.ref a0, .int i1, .int i2, .int i3, .int i4, .null]) (st' := [.ref a0]) 1 am_q238 rfl ?_
    obtain ⟨g2, b3, e4, H⟩ := H
    refine ev_s (pc' := 98) (loc' := [.ref a0, .int i1, .int i2, .int i3, .int i4, .null]) (st' := [.ref b3]) (h1 := h) am_q238 rfl rfl rfl (am_gf2 g2 e4) ?_
    refine ev_p (pc' := 106) (loc' := [.ref a0, .int i1, .int i2, .int i3, .int i4, .null]) (st' := [.int i3, .int (((4096 : Int32) * i1) + i2), .ref b3]) 6 am_q238 rfl ?_
    obtain ⟨g5, g6, H⟩ := H
    refine ev_s (pc' := 107) (loc' := [.ref a0, .int i1, .int i2, .int i3, .int i4, .null]) (st' := []) (h1 := am_si h b3 (Int32.toNatClampNeg (((4096 : Int32) * i1) + i2)) i3) am_q238 rfl rfl rfl (am_xx g5 g6) ?_
    replace H := H _ rfl
    generalize am_si h b3 (Int32.toNatClampNeg (((4096 : Int32) * i1) + i2)) i3 = h7 at H ⊢
    refine ev_p (pc' := 44) (loc' := [.ref a0, .int i1, .int (i2 + (1 : Int32)), .int i3, .int i4, .null]) (st' := []) 2 am_q238 rfl ?_
    exact ev_m (loc' := [.ref a0, .int i1, .int (i2 + (1 : Int32)), .null, .null, .null]) am_q238 rfl rfl H
  · replace H := H.2 hq
    refine ev_p (pc' := 70) (loc' := [.ref a0, .int i1, .int i2, .int i3, .int i4, .null]) (st' := [.int i2, .int i4, .int i1, .ref a0]) 4 am_q238 rfl ?_
    obtain ⟨g10, H⟩ := H
    refine ev_c (vs := [.ref a0, .int i1, .int i4, .int i2]) (rest := []) 239 am_q238 rfl rfl rfl rfl rfl rfl rfl rfl rfl rfl rfl rfl (Or.inr (congrArg some g10)) (Cl.mono H (Nat.le_refl _) (fun r9 h8 H => ?_))
    obtain ⟨x11, rfl, H⟩ := H
    refine ev_p (pc' := 78) (loc' := [.ref a0, .int i1, .int i2, .int i3, .int i4, .int x11]) (st' := [.int i3, .int x11]) 3 am_q238 rfl ?_
    refine ev_jc (t := 86) am_q238 rfl rfl (fun hq => ?_) (fun hq => ?_)
    · replace H := H.1 hq
      refine ev_p (pc' := 56) (loc' := [.ref a0, .int i1, .int i2, .int i3, .int (i4 + (1 : Int32)), .null]) (st' := []) 4 am_q238 rfl ?_
      exact ev_m (loc' := [.ref a0, .int i1, .int i2, .int i3, .int (i4 + (1 : Int32)), .null]) am_q238 rfl rfl H
    · replace H := H.2 hq
      refine ev_p (pc' := 56) (loc' := [.ref a0, .int i1, .int i2, .int x11, .int (i4 + (1 : Int32)), .null]) (st' := []) 5 am_q238 rfl ?_
      exact ev_m (loc' := [.ref a0, .int i1, .int i2, .int x11, .int (i4 + (1 : Int32)), .null]) am_q238 rfl rfl H
/-! 239: X12_choice -/
theorem am_q239 : (am_mt 239).2.2.2.2.2 = am_m239.2.2.2.2.2 := rfl
set_option maxRecDepth 20000 in
set_option maxHeartbeats 2000000 in
theorem wp239 {d : Nat} (a0 : Nat) (i1 : Int32) (i2 : Int32) (i3 : Int32) {h : AH} {Q : Option Value → AH → Prop} (H : ((¬ ((i3 >>> (i2 &&& 31)) &&& (1 : Int32)) = (0 : Int32)) → Ev d 239 54 [.ref a0, .int i1, .int i2, .int i3, .null, .null] [.int (0 : Int32)] h Q) ∧ (¬ (¬ ((i3 >>> (i2 &&& 31)) &&& (1 : Int32)) = (0 : Int32)) → am_kd h a0 = 12 ∧ ((¬ (((am_gi h a0 66) >>> (i2 &&& 31)) &&& (1 : Int32)) = (1 : Int32)) → Ev d 239 54 [.ref a0, .int i1, .int i2, .int i3, .null, .null] [.int (0 : Int32)] h Q) ∧ (¬ (¬ (((am_gi h a0 66) >>> (i2 &&& 31)) &&& (1 : Int32)) = (1 : Int32)) → am_kd h a0 = 12 ∧ ∃ b3, am_gr h a0 63 = some b3 ∧ am_kd h b3 = 100 ∧ am_in i1 (am_ln h b3) ∧ (i2 = (am_gi h b3 (Int32.toNatClampNeg i1)) → Ev d 239 54 [.ref a0, .int i1, .int i2, .int i3, .null, .null] [.int (1 : Int32)] h Q) ∧ (¬ i2 = (am_gi h b3 (Int32.toNatClampNeg i1)) → am_kd h a0 = 12 ∧ ∃ b8, am_gr h a0 12 = some b8 ∧ am_kd h a0 = 12 ∧ ∃ b11, am_gr h a0 62 = some b11 ∧ am_kd h b11 = 100 ∧ am_in i1 (am_ln h b11) ∧ am_kd h b8 = 100 ∧ am_in (am_gi h b11 (Int32.toNatClampNeg i1)) (am_ln h b8) ∧ ((¬ (((am_gi h b8 (Int32.toNatClampNeg (am_gi h b11 (Int32.toNatClampNeg i1)))) >>> (i2 &&& 31)) &&& (1 : Int32)) = (1 : Int32)) → Ev d 239 54 [.ref a0, .int i1, .int i2, .int i3, .null, .null] [.int (0 : Int32)] h Q) ∧ (¬ (¬ (((am_gi h b8 (Int32.toNatClampNeg (am_gi h b11 (Int32.toNatClampNeg i1)))) >>> (i2 &&& 31)) &&& (1 : Int32)) = (1 : Int32)) → Ev d 239 54 [.ref a0, .int i1, .int i2, .int i3, .null, .null] [.int (1 : Int32)] h Q))))) : Cl d 239 [.ref a0, .int i1, .int i2, .int i3] h Q := by
  show Ev d 239 0 [.ref a0, .int i1, .int i2, .int i3, .null, .null] [] h Q
  refine ev_p (pc' := 5) (loc' := [.ref a0, .int i1, .int i2, .int i3, .null, .null]) (st' := [.int ((i3 >>> (i2 &&& 31)) &&& (1 : Int32))]) 5 am_q239 rfl ?_
  refine ev_jz (t := 53) am_q239 rfl rfl (fun hq => ?_) (fun hq => ?_)
  · replace H := H.1 hq
    refine ev_p (pc' := 54) (loc' := [.ref a0, .int i1, .int i2, .int i3, .null, .null]) (st' := [.int (0 : Int32)]) 1 am_q239 rfl ?_
    exact ev_m (loc' := [.ref a0, .int i1, .int i2, .int i3, .null, .null]) am_q239 rfl rfl H
  · replace H := H.2 hq
    refine ev_p (pc' := 9) (loc' := [.ref a0, .int i1, .int i2, .int i3, .null, .null]) (st' := [.ref a0]) 1 am_q239 rfl ?_
    obtain ⟨g1, H⟩ := H
    refine ev_s (pc' := 12) (loc' := [.ref a0, .int i1, .int i2, .int i3, .null, .null]) (st' := [.int (am_gi h a0 66)]) (h1 := h) am_q239 rfl rfl rfl (if_pos (e := none) g1) ?_
    refine ev_p (pc' := 17) (loc' := [.ref a0, .int i1, .int i2, .int i3, .null, .null]) (st' := [.int (1 : Int32), .int (((am_gi h a0 66) >>> (i2 &&& 31)) &&& (1 : Int32))]) 5 am_q239 rfl ?_
    refine ev_jc (t := 53) am_q239 rfl rfl (fun hq => ?_) (fun hq => ?_)
    · replace H := H.1 hq
      refine ev_p (pc' := 54) (loc' := [.ref a0, .int i1, .int i2, .int i3, .null, .null]) (st' := [.int (0 : Int32)]) 1 am_q239 rfl ?_
      exact ev_m (loc' := [.ref a0, .int i1, .int i2, .int i3, .null, .null]) am_q239 rfl rfl H
    · replace H := H.2 hq
      refine ev_p (pc' := 22) (loc' := [.ref a0, .int i1, .int i2, .int i3, .null, .null]) (st' := [.ref a0, .int i2]) 2 am_q239 rfl ?_
      obtain ⟨g2, b3, e4, H⟩ := H
      refine ev_s (pc' := 25) (loc' := [.ref a0, .int i1, .int i2, .int i3, .null, .null]) (st' := [.ref b3, .int i2]) (h1 := h) am_q239 rfl rfl rfl (am_gf2 g2 e4) ?_
      refine ev_p (pc' := 26) (loc' := [.ref a0, .int i1, .int i2, .int i3, .null, .null]) (st' := [.int i1, .ref b3, .int i2]) 1 am_q239 rfl ?_
      obtain ⟨g5, g6, H⟩ := H
      refine ev_s (pc' := 27) (loc' := [.ref a0, .int i1, .int i2, .int i3, .null, .null]) (st' := [.int (am_gi h b3 (Int32.toNatClampNeg i1)), .int i2]) (h1 := h) am_q239 rfl rfl rfl (am_xx g5 g6) ?_
      refine ev_jc (t := 49) am_q239 rfl rfl (fun hq => ?_) (fun hq => ?_)
      · replace H := H.1 hq
        refine ev_p (pc' := 54) (loc' := [.ref a0, .int i1, .int i2, .int i3, .null, .null]) (st' := [.int (1 : Int32)]) 2 am_q239 rfl ?_
        exact ev_m (loc' := [.ref a0, .int i1, .int i2, .int i3, .null, .null]) am_q239 rfl rfl H
      · replace H := H.2 hq
        refine ev_p (pc' := 31) (loc' := [.ref a0, .int i1, .int i2, .int i3, .null, .null]) (st' := [.ref a0]) 1 am_q239 rfl ?_
        obtain ⟨g7, b8, e9, H⟩ := H
        refine ev_s (pc' := 34) (loc' := [.ref a0, .int i1, .int i2, .int i3, .null, .null]) (st' := [.ref b8]) (h1 := h) am_q239 rfl rfl rfl (am_gf2 g7 e9) ?_
        refine ev_p (pc' := 35) (loc' := [.ref a0, .int i1, .int i2, .int i3, .null, .null]) (st' := [.ref a0, .ref b8]) 1 am_q239 rfl ?_
        obtain ⟨g10, b11, e12, H⟩ := H
        refine ev_s (pc' := 38) (loc' := [.ref a0, .int i1, .int i2, .int i3, .null, .null]) (st' := [.ref b11, .ref b8]) (h1 := h) am_q239 rfl rfl rfl (am_gf2 g10 e12) ?_
        refine ev_p (pc' := 39) (loc' := [.ref a0, .int i1, .int i2, .int i3, .null, .null]) (st' := [.int i1, .ref b11, .ref b8]) 1 am_q239 rfl ?_
        obtain ⟨g13, g14, H⟩ := H
        refine ev_s (pc' := 40) (loc' := [.ref a0, .int i1, .int i2, .int i3, .null, .null]) (st' := [.int (am_gi h b11 (Int32.toNatClampNeg i1)), .ref b8]) (h1 := h) am_q239 rfl rfl rfl (am_xx g13 g14) ?_
        obtain ⟨g15, g16, H⟩ := H
        refine ev_s (pc' := 41) (loc' := [.ref a0, .int i1, .int i2, .int i3, .null, .null]) (st' := [.int (am_gi h b8 (Int32.toNatClampNeg (am_gi h b11 (Int32.toNatClampNeg i1))))]) (h1 := h) am_q239 rfl rfl rfl (am_xx g15 g16) ?_
        refine ev_p (pc' := 46) (loc' := [.ref a0, .int i1, .int i2, .int i3, .null, .null]) (st' := [.int (1 : Int32), .int (((am_gi h b8 (Int32.toNatClampNeg (am_gi h b11 (Int32.toNatClampNeg i1)))) >>> (i2 &&& 31)) &&& (1 : Int32))]) 5 am_q239 rfl ?_
        refine ev_jc (t := 53) am_q239 rfl rfl (fun hq => ?_) (fun hq => ?_)
        · replace H := H.1 hq
          refine ev_p (pc' := 54) (loc' := [.ref a0, .int i1, .int i2, .int i3, .null, .null]) (st' := [.int (0 : Int32)]) 1 am_q239 rfl ?_
          exact ev_m (loc' := [.ref a0, .int i1, .int i2, .int i3, .null, .null]) am_q239 rfl rfl H
        · replace H := H.2 hq
          refine ev_p (pc' := 54) (loc' := [.ref a0, .int i1, .int i2, .int i3, .null, .null]) (st' := [.int (1 : Int32)]) 2 am_q239 rfl ?_
          exact ev_m (loc' := [.ref a0, .int i1, .int i2, .int i3, .null, .null]) am_q239 rfl rfl H
set_option maxRecDepth 20000 in
set_option maxHeartbeats 2000000 in
theorem wp239_54 {d : Nat} (a0 : Nat) (i1 : Int32) (i2 : Int32) (i3 : Int32) (s0 : Int32) {h : AH} {Q : Option Value → AH → Prop} (H : (s0 = (0 : Int32) → Ev d 239 83 [.ref a0, .int i1, .int i2, .null, .null, .null] [.int (-1 : Int32)] h Q) ∧ (¬ s0 = (0 : Int32) → am_kd h a0 = 12 ∧ ∃ b2, am_gr h a0 65 = some b2 ∧ am_kd h b2 = 100 ∧ am_in (((4096 : Int32) * (i1 + (1 : Int32))) + (i3 ||| ((1 : Int32) <<< (i2 &&& 31)))) (am_ln h b2) ∧ Ev d 239 83 [.ref a0, .int i1, .int i2, .null, .null, .null] [.int (am_gi h b2 (Int32.toNatClampNeg (((4096 : Int32) * (i1 + (1 : Int32))) + (i3 ||| ((1 : Int32) <<< (i2 &&& 31))))))] h Q)) : Ev d 239 54 [.ref a0, .int i1, .int i2, .int i3, .null, .null] [.int s0] h Q := by
  refine ev_p (pc' := 58) (loc' := [.ref a0, .int i1, .int i2, .int i3, .int s0, .null]) (st' := [.int s0]) 2 am_q239 rfl ?_
  refine ev_jz (t := 82) am_q239 rfl rfl (fun hq => ?_) (fun hq => ?_)
  · replace H := H.1 hq
    refine ev_p (pc' := 83) (loc' := [.ref a0, .int i1, .int i2, .int i3, .int s0, .null]) (st' := [.int (-1 : Int32)]) 1 am_q239 rfl ?_
    exact ev_m (loc' := [.ref a0, .int i1, .int i2, .null, .null, .null]) am_q239 rfl rfl H
  · replace H := H.2 hq
    refine ev_p (pc' := 62) (loc' := [.ref a0, .int i1, .int i2, .int i3, .int s0, .null]) (st' := [.ref a0]) 1 am_q239 rfl ?_
    obtain ⟨g1, b2, e3, H⟩ := H
    refine ev_s (pc' := 65) (loc' := [.ref a0, .int i1, .int i2, .int i3, .int s0, .null]) (st' := [.ref b2]) (h1 := h) am_q239 rfl rfl rfl (am_gf2 g1 e3) ?_
    refine ev_p (pc' := 78) (loc' := [.ref a0, .int i1, .int i2, .int i3, .int s0, .null]) (st' := [.int (((4096 : Int32) * (i1 + (1 : Int32))) + (i3 ||| ((1 : Int32) <<< (i2 &&& 31)))), .ref b2]) 11 am_q239 rfl ?_
    obtain ⟨g4, g5, H⟩ := H
    refine ev_s (pc' := 79) (loc' := [.ref a0, .int i1, .int i2, .int i3, .int s0, .null]) (st' := [.int (am_gi h b2 (Int32.toNatClampNeg (((4096 : Int32) * (i1 + (1 : Int32))) + (i3 ||| ((1 : Int32) <<< (i2 &&& 31))))))]) (h1 := h) am_q239 rfl rfl rfl (am_xx g4 g5) ?_
    refine ev_p (pc' := 83) (loc' := [.ref a0, .int i1, .int i2, .int i3, .int s0, .null]) (st' := [.int (am_gi h b2 (Int32.toNatClampNeg (((4096 : Int32) * (i1 + (1 : Int32))) + (i3 ||| ((1 : Int32) <<< (i2 &&& 31))))))]) 1 am_q239 rfl ?_
    exact ev_m (loc' := [.ref a0, .int i1, .int i2, .null, .null, .null]) am_q239 rfl rfl H
set_option maxRecDepth 20000 in
set_option maxHeartbeats 2000000 in
theorem wp239_83 {d : Nat} (a0 : Nat) (i1 : Int32) (i2 : Int32) (s0 : Int32) {h : AH} {Q : Option Value → AH → Prop} (H : ((¬ s0 = (-1 : Int32)) → am_kd h a0 = 12 ∧ ∃ b2, am_gr h a0 63 = some b2 ∧ am_kd h b2 = 100 ∧ am_in i1 (am_ln h b2) ∧ ((¬ i2 = (am_gi h b2 (Int32.toNatClampNeg i1))) → Q (some (.int (s0 + (1 : Int32)))) h) ∧ (¬ (¬ i2 = (am_gi h b2 (Int32.toNatClampNeg i1))) → Q (some (.int (s0 + (0 : Int32)))) h)) ∧ (¬ (¬ s0 = (-1 : Int32)) → Q (some (.int (-1 : Int32))) h)) : Ev d 239 83 [.ref a0, .int i1, .int i2, .null, .null, .null] [.int s0] h Q := by
  refine ev_p (pc' := 88) (loc' := [.ref a0, .int i1, .int i2, .null, .null, .int s0]) (st' := [.int (-1 : Int32), .int s0]) 3 am_q239 rfl ?_
  refine ev_jc (t := 95) am_q239 rfl rfl (fun hq => ?_) (fun hq => ?_)
  · replace H := H.1 hq
    refine ev_p (pc' := 99) (loc' := [.ref a0, .int i1, .int i2, .null, .null, .int s0]) (st' := [.ref a0, .int i2, .int s0]) 3 am_q239 rfl ?_
    obtain ⟨g1, b2, e3, H⟩ := H
    refine ev_s (pc' := 102) (loc' := [.ref a0, .int i1, .int i2, .null, .null, .int s0]) (st' := [.ref b2, .int i2, .int s0]) (h1 := h) am_q239 rfl rfl rfl (am_gf2 g1 e3) ?_
    refine ev_p (pc' := 103) (loc' := [.ref a0, .int i1, .int i2, .null, .null, .int s0]) (st' := [.int i1, .ref b2, .int i2, .int s0]) 1 am_q239 rfl ?_
    obtain ⟨g4, g5, H⟩ := H
    refine ev_s (pc' := 104) (loc' := [.ref a0, .int i1, .int i2, .null, .null, .int s0]) (st' := [.int (am_gi h b2 (Int32.toNatClampNeg i1)), .int i2, .int s0]) (h1 := h) am_q239 rfl rfl rfl (am_xx g4 g5) ?_
    refine ev_jc (t := 111) am_q239 rfl rfl (fun hq => ?_) (fun hq => ?_)
    · replace H := H.1 hq
      refine ev_p (pc' := 113) (loc' := [.null, .null, .null, .null, .null, .null]) (st' := [.int (s0 + (1 : Int32))]) 2 am_q239 rfl ?_
      exact ev_r (v := some (.int (s0 + (1 : Int32)))) am_q239 rfl rfl rfl rfl H
    · replace H := H.2 hq
      refine ev_p (pc' := 113) (loc' := [.null, .null, .null, .null, .null, .null]) (st' := [.int (s0 + (0 : Int32))]) 3 am_q239 rfl ?_
      exact ev_r (v := some (.int (s0 + (0 : Int32)))) am_q239 rfl rfl rfl rfl H
  · replace H := H.2 hq
    refine ev_p (pc' := 113) (loc' := [.ref a0, .int i1, .int i2, .null, .null, .int s0]) (st' := [.int (-1 : Int32)]) 2 am_q239 rfl ?_
    exact ev_r (v := some (.int (-1 : Int32))) am_q239 rfl rfl rfl rfl H
/-! 240: X12_changes -/
theorem am_q240 : (am_mt 240).2.2.2.2.2 = am_m240.2.2.2.2.2 := rfl
set_option maxRecDepth 20000 in
set_option maxHeartbeats 2000000 in
theorem wp240 {d : Nat} (a0 : Nat) {h : AH} {Q : Option Value → AH → Prop} (H : am_kd h a0 = 12 ∧ Cl d 237 [.ref a0] h (fun r2 h1 => r2 = none ∧ am_kd h1 a0 = 12 ∧ Cl d 238 [.ref a0] h1 (fun r5 h4 => r5 = none ∧ Ev (d + 1) 240 12 [.ref a0, .int (0 : Int32), .int (0 : Int32), .null, .null] [] h4 Q))) : Cl (d + 1) 240 [.ref a0] h Q := by
  show Ev (d + 1) 240 0 [.ref a0, .null, .null, .null, .null] [] h Q
  refine ev_p (pc' := 1) (loc' := [.ref a0, .null, .null, .null, .null]) (st' := [.ref a0]) 1 am_q240 rfl ?_
  obtain ⟨g3, H⟩ := H
  refine ev_c (vs := [.ref a0]) (rest := []) 237 am_q240 rfl rfl rfl rfl rfl rfl rfl rfl rfl rfl rfl rfl (Or.inr (congrArg some g3)) (Cl.mono H (Nat.le_refl _) (fun r2 h1 H => ?_))
  obtain ⟨rfl, H⟩ := H
  refine ev_p (pc' := 5) (loc' := [.ref a0, .null, .null, .null, .null]) (st' := [.ref a0]) 1 am_q240 rfl ?_
  obtain ⟨g6, H⟩ := H
  refine ev_c (vs := [.ref a0]) (rest := []) 238 am_q240 rfl rfl rfl rfl rfl rfl rfl rfl rfl rfl rfl rfl (Or.inr (congrArg some g6)) (Cl.mono H (Nat.le_refl _) (fun r5 h4 H => ?_))
  obtain ⟨rfl, H⟩ := H
  refine ev_p (pc' := 12) (loc' := [.ref a0, .int (0 : Int32), .int (0 : Int32), .null, .null]) (st' := []) 4 am_q240 rfl ?_
  exact ev_m (loc' := [.ref a0, .int (0 : Int32), .int (0 : Int32), .null, .null]) am_q240 rfl rfl H
set_option maxRecDepth 20000 in
set_option maxHeartbeats 2000000 in
theorem wp240_12 {d : Nat} (a0 : Nat) (i1 : Int32) (i2 : Int32) {h : AH} {Q : Option Value → AH → Prop} (H : am_kd h a0 = 12 ∧ ((am_gi h a0 61) ≤ i2 → Q none h) ∧ (¬ (am_gi h a0 61) ≤ i2 → am_kd h a0 = 12 ∧ ∃ b3, am_gr h a0 65 = some b3 ∧ am_kd h b3 = 100 ∧ am_in (((4096 : Int32) * i2) + i1) (am_ln h b3) ∧ am_kd h a0 = 12 ∧ ∃ b8, am_gr h a0 64 = some b8 ∧ am_kd h a0 = 12 ∧ ∃ b11, am_gr h a0 63 = some b11 ∧ am_kd h b11 = 100 ∧ am_in i2 (am_ln h b11) ∧ (am_kd h b8 = 100 ∧ 6 ≤ b8) ∧ am_in i2 (am_ln h b8) ∧ ∀ h17, h17 = am_si h b8 (Int32.toNatClampNeg i2) (am_gi h b11 (Int32.toNatClampNeg i2)) → am_kd h17 a0 = 12 ∧ Ev (d + 1) 240 53 [.ref a0, .int i1, .int i2, .int (am_gi h b3 (Int32.toNatClampNeg (((4096 : Int32) * i2) + i1))), .int ((am_gi h17 a0 1) - (1 : Int32))] [] h17 Q)) : Ev (d + 1) 240 12 [.ref a0, .int i1, .int i2, .null, .null] [] h Q := by
  refine ev_p (pc' := 14) (loc' := [.ref a0, .int i1, .int i2, .null, .null]) (st' := [.ref a0, .int i2]) 2 am_q240 rfl ?_
  obtain ⟨g1, H⟩ := H
  refine ev_s (pc' := 17) (loc' := [.ref a0, .int i1, .int i2, .null, .null]) (st' := [.int (am_gi h a0 61), .int i2]) (h1 := h) am_q240 rfl rfl rfl (if_pos (e := none) g1) ?_
  refine ev_jc (t := 121) am_q240 rfl rfl (fun hq => ?_) (fun hq => ?_)
  · replace H := H.1 hq
    exact ev_r (v := none) am_q240 rfl rfl rfl rfl H
  · replace H := H.2 hq
    refine ev_p (pc' := 21) (loc' := [.ref a0, .int i1, .int i2, .null, .null]) (st' := [.ref a0]) 1 am_q240 rfl ?_
    obtain ⟨g2, b3, e4, H⟩ := H
    refine ev_s (pc' := 24) (loc' := [.ref a0, .int i1, .int i2, .null, .null]) (st' := [.ref b3]) (h1 := h) am_q240 rfl rfl rfl (am_gf2 g2 e4) ?_
    refine ev_p (pc' := 31) (loc' := [.ref a0, .int i1, .int i2, .null, .null]) (st' := [.int (((4096 : Int32) * i2) + i1), .ref b3]) 5 am_q240 rfl ?_
    obtain ⟨g5, g6, H⟩ := H
    refine ev_s (pc' := 32) (loc' := [.ref a0, .int i1, .int i2, .null, .null]) (st' := [.int (am_gi h b3 (Int32.toNatClampNeg (((4096 : Int32) * i2) + i1)))]) (h1 := h) am_q240 rfl rfl rfl (am_xx g5 g6) ?_
    refine ev_p (pc' := 34) (loc' := [.ref a0, .int i1, .int i2, .int (am_gi h b3 (Int32.toNatClampNeg (((4096 : Int32) * i2) + i1))), .null]) (st' := [.ref a0]) 2 am_q240 rfl ?_
    obtain ⟨g7, b8, e9, H⟩ := H
    refine ev_s (pc' := 37) (loc' := [.ref a0, .int i1, .int i2, .int (am_gi h b3 (Int32.toNatClampNeg (((4096 : Int32) * i2) + i1))), .null]) (st' := [.ref b8]) (h1 := h) am_q240 rfl rfl rfl (am_gf2 g7 e9) ?_
    refine ev_p (pc' := 39) (loc' := [.ref a0, .int i1, .int i2, .int (am_gi h b3 (Int32.toNatClampNeg (((4096 : Int32) * i2) + i1))), .null]) (st' := [.ref a0, .int i2, .ref b8]) 2 am_q240 rfl ?_
    obtain ⟨g10, b11, e12, H⟩ := H
    refine ev_s (pc' := 42) (loc' := [.ref a0, .int i1, .int i2, .int (am_gi h b3 (Int32.toNatClampNeg (((4096 : Int32) * i2) + i1))), .null]) (st' := [.ref b11, .int i2, .ref b8]) (h1 := h) am_q240 rfl rfl rfl (am_gf2 g10 e12) ?_
    refine ev_p (pc' := 43) (loc' := [.ref a0, .int i1, .int i2, .int (am_gi h b3 (Int32.toNatClampNeg (((4096 : Int32) * i2) + i1))), .null]) (st' := [.int i2, .ref b11, .int i2, .ref b8]) 1 am_q240 rfl ?_
    obtain ⟨g13, g14, H⟩ := H
    refine ev_s (pc' := 44) (loc' := [.ref a0, .int i1, .int i2, .int (am_gi h b3 (Int32.toNatClampNeg (((4096 : Int32) * i2) + i1))), .null]) (st' := [.int (am_gi h b11 (Int32.toNatClampNeg i2)), .int i2, .ref b8]) (h1 := h) am_q240 rfl rfl rfl (am_xx g13 g14) ?_
    obtain ⟨g15, g16, H⟩ := H
    refine ev_s (pc' := 45) (loc' := [.ref a0, .int i1, .int i2, .int (am_gi h b3 (Int32.toNatClampNeg (((4096 : Int32) * i2) + i1))), .null]) (st' := []) (h1 := am_si h b8 (Int32.toNatClampNeg i2) (am_gi h b11 (Int32.toNatClampNeg i2))) am_q240 rfl rfl rfl (am_xx g15 g16) ?_
    replace H := H _ rfl
    generalize am_si h b8 (Int32.toNatClampNeg i2) (am_gi h b11 (Int32.toNatClampNeg i2)) = h17 at H ⊢
    refine ev_p (pc' := 46) (loc' := [.ref a0, .int i1, .int i2, .int (am_gi h b3 (Int32.toNatClampNeg (((4096 : Int32) * i2) + i1))), .null]) (st' := [.ref a0]) 1 am_q240 rfl ?_
    obtain ⟨g18, H⟩ := H
    refine ev_s (pc' := 49) (loc' := [.ref a0, .int i1, .int i2, .int (am_gi h b3 (Int32.toNatClampNeg (((4096 : Int32) * i2) + i1))), .null]) (st' := [.int (am_gi h17 a0 1)]) (h1 := h17) am_q240 rfl rfl rfl (if_pos (e := none) g18) ?_
    refine ev_p (pc' := 53) (loc' := [.ref a0, .int i1, .int i2, .int (am_gi h b3 (Int32.toNatClampNeg (((4096 : Int32) * i2) + i1))), .int ((am_gi h17 a0 1) - (1 : Int32))]) (st' := []) 3 am_q240 rfl ?_
    exact ev_m (loc' := [.ref a0, .int i1, .int i2, .int (am_gi h b3 (Int32.toNatClampNeg (((4096 : Int32) * i2) + i1))), .int ((am_gi h17 a0 1) - (1 : Int32))]) am_q240 rfl rfl H
set_option maxRecDepth 20000 in
set_option maxHeartbeats 2000000 in
theorem wp240_53 {d : Nat} (a0 : Nat) (i1 : Int32) (i2 : Int32) (i3 : Int32) (i4 : Int32) {h : AH} {Q : Option Value → AH → Prop} (H : (i4 < (0 : Int32) → am_kd h a0 = 12 ∧ ∃ b2, am_gr h a0 64 = some b2 ∧ am_kd h b2 = 100 ∧ am_in i2 (am_ln h b2) ∧ Ev (d + 1) 240 12 [.ref a0, .int (i1 ||| ((1 : Int32) <<< ((am_gi h b2 (Int32.toNatClampNeg i2)) &&& 31))), .int (i2 + (1 : Int32)), .null, .null] [] h Q) ∧ (¬ i4 < (0 : Int32) → am_kd h a0 = 12 ∧ ∃ b7, am_gr h a0 64 = some b7 ∧ am_kd h a0 = 12 ∧ ∃ b10, am_gr h a0 63 = some b10 ∧ am_kd h b10 = 100 ∧ am_in i2 (am_ln h b10) ∧ (i4 = (am_gi h b10 (Int32.toNatClampNeg i2)) → am_kd h a0 = 12 ∧ ∃ b15, am_gr h a0 64 = some b15 ∧ am_kd h b15 = 100 ∧ am_in i2 (am_ln h b15) ∧ (am_kd h b7 = 100 ∧ 6 ≤ b7) ∧ am_in i2 (am_ln h b7) ∧ ∀ h21, h21 = am_si h b7 (Int32.toNatClampNeg i2) (am_gi h b15 (Int32.toNatClampNeg i2)) → Ev (d + 1) 240 53 [.ref a0, .int i1, .int i2, .int i3, .int (i4 + (-1 : Int32))] [] h21 Q) ∧ (¬ i4 = (am_gi h b10 (Int32.toNatClampNeg i2)) → am_kd h a0 = 12 ∧ Cl d 239 [.ref a0, .int i2, .int i4, .int i1] h (fun r23 h22 => ∃ x25, r23 = some (.int x25) ∧ ((¬ x25 = i3) → am_kd h22 a0 = 12 ∧ ∃ b27, am_gr h22 a0 64 = some b27 ∧ am_kd h22 b27 = 100 ∧ am_in i2 (am_ln h22 b27) ∧ (am_kd h22 b7 = 100 ∧ 6 ≤ b7) ∧ am_in i2 (am_ln h22 b7) ∧ ∀ h33, h33 = am_si h22 b7 (Int32.toNatClampNeg i2) (am_gi h22 b27 (Int32.toNatClampNeg i2)) → Ev (d + 1) 240 53 [.ref a0, .int i1, .int i2, .int i3, .int (i4 + (-1 : Int32))] [] h33 Q) ∧ (¬ (¬ x25 = i3) → (am_kd h22 b7 = 100 ∧ 6 ≤ b7) ∧ am_in i2 (am_ln h22 b7) ∧ ∀ h36, h36 = am_si h22 b7 (Int32.toNatClampNeg i2) i4 → Ev (d + 1) 240 53 [.ref a0, .int i1, .int i2, .int i3, .int (i4 + (-1 : Int32))] [] h36 Q))))) : Ev (d + 1) 240 53 [.ref a0, .int i1, .int i2, .int i3, .int i4] [] h Q := by
  refine ev_p (pc' := 55) (loc' := [.ref a0, .int i1, .int i2, .int i3, .int i4]) (st' := [.int i4]) 1 am_q240 rfl ?_
  refine ev_jz (t := 104) am_q240 rfl rfl (fun hq => ?_) (fun hq => ?_)
  · replace H := H.1 hq
    refine ev_p (pc' := 107) (loc' := [.ref a0, .int i1, .int i2, .int i3, .int i4]) (st' := [.ref a0, .int (1 : Int32), .int i1]) 3 am_q240 rfl ?_
    obtain ⟨g1, b2, e3, H⟩ := H
    refine ev_s (pc' := 110) (loc' := [.ref a0, .int i1, .int i2, .int i3, .int i4]) (st' := [.ref b2, .int (1 : Int32), .int i1]) (h1 := h) am_q240 rfl rfl rfl (am_gf2 g1 e3) ?_
    refine ev_p (pc' := 111) (loc' := [.ref a0, .int i1, .int i2, .int i3, .int i4]) (st' := [.int i2, .ref b2, .int (1 : Int32), .int i1]) 1 am_q240 rfl ?_
    obtain ⟨g4, g5, H⟩ := H
    refine ev_s (pc' := 112) (loc' := [.ref a0, .int i1, .int i2, .int i3, .int i4]) (st' := [.int (am_gi h b2 (Int32.toNatClampNeg i2)), .int (1 : Int32), .int i1]) (h1 := h) am_q240 rfl rfl rfl (am_xx g4 g5) ?_
    refine ev_p (pc' := 12) (loc' := [.ref a0, .int (i1 ||| ((1 : Int32) <<< ((am_gi h b2 (Int32.toNatClampNeg i2)) &&& 31))), .int (i2 + (1 : Int32)), .int i3, .int i4]) (st' := []) 5 am_q240 rfl ?_
    exact ev_m (loc' := [.ref a0, .int (i1 ||| ((1 : Int32) <<< ((am_gi h b2 (Int32.toNatClampNeg i2)) &&& 31))), .int (i2 + (1 : Int32)), .null, .null]) am_q240 rfl rfl H
  · replace H := H.2 hq
    refine ev_p (pc' := 59) (loc' := [.ref a0, .int i1, .int i2, .int i3, .int i4]) (st' := [.ref a0]) 1 am_q240 rfl ?_
    obtain ⟨g6, b7, e8, H⟩ := H
    refine ev_s (pc' := 62) (loc' := [.ref a0, .int i1, .int i2, .int i3, .int i4]) (st' := [.ref b7]) (h1 := h) am_q240 rfl rfl rfl (am_gf2 g6 e8) ?_
    refine ev_p (pc' := 66) (loc' := [.ref a0, .int i1, .int i2, .int i3, .int i4]) (st' := [.ref a0, .int i4, .int i2, .ref b7]) 3 am_q240 rfl ?_
    obtain ⟨g9, b10, e11, H⟩ := H
    refine ev_s (pc' := 69) (loc' := [.ref a0, .int i1, .int i2, .int i3, .int i4]) (st' := [.ref b10, .int i4, .int i2, .ref b7]) (h1 := h) am_q240 rfl rfl rfl (am_gf2 g9 e11) ?_
    refine ev_p (pc' := 70) (loc' := [.ref a0, .int i1, .int i2, .int i3, .int i4]) (st' := [.int i2, .ref b10, .int i4, .int i2, .ref b7]) 1 am_q240 rfl ?_
    obtain ⟨g12, g13, H⟩ := H
    refine ev_s (pc' := 71) (loc' := [.ref a0, .int i1, .int i2, .int i3, .int i4]) (st' := [.int (am_gi h b10 (Int32.toNatClampNeg i2)), .int i4, .int i2, .ref b7]) (h1 := h) am_q240 rfl rfl rfl (am_xx g12 g13) ?_
    refine ev_jc (t := 91) am_q240 rfl rfl (fun hq => ?_) (fun hq => ?_)
    · replace H := H.1 hq
      refine ev_p (pc' := 92) (loc' := [.ref a0, .int i1, .int i2, .int i3, .int i4]) (st' := [.ref a0, .int i2, .ref b7]) 1 am_q240 rfl ?_
      obtain ⟨g14, b15, e16, H⟩ := H
      refine ev_s (pc' := 95) (loc' := [.ref a0, .int i1, .int i2, .int i3, .int i4]) (st' := [.ref b15, .int i2, .ref b7]) (h1 := h) am_q240 rfl rfl rfl (am_gf2 g14 e16) ?_
      refine ev_p (pc' := 96) (loc' := [.ref a0, .int i1, .int i2, .int i3, .int i4]) (st' := [.int i2, .ref b15, .int i2, .ref b7]) 1 am_q240 rfl ?_
      obtain ⟨g17, g18, H⟩ := H
      refine ev_s (pc' := 97) (loc' := [.ref a0, .int i1, .int i2, .int i3, .int i4]) (st' := [.int (am_gi h b15 (Int32.toNatClampNeg i2)), .int i2, .ref b7]) (h1 := h) am_q240 rfl rfl rfl (am_xx g17 g18) ?_
      obtain ⟨g19, g20, H⟩ := H
      refine ev_s (pc' := 98) (loc' := [.ref a0, .int i1, .int i2, .int i3, .int i4]) (st' := []) (h1 := am_si h b7 (Int32.toNatClampNeg i2) (am_gi h b15 (Int32.toNatClampNeg i2))) am_q240 rfl rfl rfl (am_xx g19 g20) ?_
      replace H := H _ rfl
      generalize am_si h b7 (Int32.toNatClampNeg i2) (am_gi h b15 (Int32.toNatClampNeg i2)) = h21 at H ⊢
      refine ev_p (pc' := 53) (loc' := [.ref a0, .int i1, .int i2, .int i3, .int (i4 + (-1 : Int32))]) (st' := []) 2 am_q240 rfl ?_
      exact ev_m (loc' := [.ref a0, .int i1, .int i2, .int i3, .int (i4 + (-1 : Int32))]) am_q240 rfl rfl H
    · replace H := H.2 hq
      refine ev_p (pc' := 79) (loc' := [.ref a0, .int i1, .int i2, .int i3, .int i4]) (st' := [.int i1, .int i4, .int i2, .ref a0, .int i2, .ref b7]) 4 am_q240 rfl ?_
      obtain ⟨g24, H⟩ := H
      refine ev_c (vs := [.ref a0, .int i2, .int i4, .int i1]) (rest := [.int i2, .ref b7]) 239 am_q240 rfl rfl rfl rfl rfl rfl rfl rfl rfl rfl rfl rfl (Or.inr (congrArg some g24)) (Cl.mono H (Nat.le_refl _) (fun r23 h22 H => ?_))
      obtain ⟨x25, rfl, H⟩ := H
      refine ev_p (pc' := 83) (loc' := [.ref a0, .int i1, .int i2, .int i3, .int i4]) (st' := [.int i3, .int x25, .int i2, .ref b7]) 1 am_q240 rfl ?_
      refine ev_jc (t := 91) am_q240 rfl rfl (fun hq => ?_) (fun hq => ?_)
      · replace H := H.1 hq
        refine ev_p (pc' := 92) (loc' := [.ref a0, .int i1, .int i2, .int i3, .int i4]) (st' := [.ref a0, .int i2, .ref b7]) 1 am_q240 rfl ?_
        obtain ⟨g26, b27, e28, H⟩ := H
        refine ev_s (pc' := 95) (loc' := [.ref a0, .int i1, .int i2, .int i3, .int i4]) (st' := [.ref b27, .int i2, .ref b7]) (h1 := h22) am_q240 rfl rfl rfl (am_gf2 g26 e28) ?_
        refine ev_p (pc' := 96) (loc' := [.ref a0, .int i1, .int i2, .int i3, .int i4]) (st' := [.int i2, .ref b27, .int i2, .ref b7]) 1 am_q240 rfl ?_
        obtain ⟨g29, g30, H⟩ := H
        refine ev_s (pc' := 97) (loc' := [.ref a0, .int i1, .int i2, .int i3, .int i4]) (st' := [.int (am_gi h22 b27 (Int32.toNatClampNeg i2)), .int i2, .ref b7]) (h1 := h22) am_q240 rfl rfl rfl (am_xx g29 g30) ?_
        obtain ⟨g31, g32, H⟩ := H
        refine ev_s (pc' := 98) (loc' := [.ref a0, .int i1, .int i2, .int i3, .int i4]) (st' := []) (h1 := am_si h22 b7 (Int32.toNatClampNeg i2) (am_gi h22 b27 (Int32.toNatClampNeg i2))) am_q240 rfl rfl rfl (am_xx g31 g32) ?_
        replace H := H _ rfl
        generalize am_si h22 b7 (Int32.toNatClampNeg i2) (am_gi h22 b27 (Int32.toNatClampNeg i2)) = h33 at H ⊢
        refine ev_p (pc' := 53) (loc' := [.ref a0, .int i1, .int i2, .int i3, .int (i4 + (-1 : Int32))]) (st' := []) 2 am_q240 rfl ?_
        exact ev_m (loc' := [.ref a0, .int i1, .int i2, .int i3, .int (i4 + (-1 : Int32))]) am_q240 rfl rfl H
      · replace H := H.2 hq
        refine ev_p (pc' := 97) (loc' := [.ref a0, .int i1, .int i2, .int i3, .int i4]) (st' := [.int i4, .int i2, .ref b7]) 2 am_q240 rfl ?_
        obtain ⟨g34, g35, H⟩ := H
        refine ev_s (pc' := 98) (loc' := [.ref a0, .int i1, .int i2, .int i3, .int i4]) (st' := []) (h1 := am_si h22 b7 (Int32.toNatClampNeg i2) i4) am_q240 rfl rfl rfl (am_xx g34 g35) ?_
        replace H := H _ rfl
        generalize am_si h22 b7 (Int32.toNatClampNeg i2) i4 = h36 at H ⊢
        refine ev_p (pc' := 53) (loc' := [.ref a0, .int i1, .int i2, .int i3, .int (i4 + (-1 : Int32))]) (st' := []) 2 am_q240 rfl ?_
        exact ev_m (loc' := [.ref a0, .int i1, .int i2, .int i3, .int (i4 + (-1 : Int32))]) am_q240 rfl rfl H
/-! 241: X12_best -/
theorem am_q241 : (am_mt 241).2.2.2.2.2 = am_m241.2.2.2.2.2 := rfl
set_option maxRecDepth 20000 in
set_option maxHeartbeats 2000000 in
theorem wp241 {d : Nat} (a0 : Nat) {h : AH} {Q : Option Value → AH → Prop} (H : am_kd h a0 = 12 ∧ Cl d 240 [.ref a0] h (fun r2 h1 => r2 = none ∧ am_kd h1 a0 = 12 ∧ ∃ b5, am_gr h1 a0 65 = some b5 ∧ am_kd h1 b5 = 100 ∧ am_in (0 : Int32) (am_ln h1 b5) ∧ Q (some (.int (am_gi h1 b5 (Int32.toNatClampNeg (0 : Int32))))) h1)) : Cl (d + 1) 241 [.ref a0] h Q := by
  show Ev (d + 1) 241 0 [.ref a0] [] h Q
  refine ev_p (pc' := 1) (loc' := [.ref a0]) (st' := [.ref a0]) 1 am_q241 rfl ?_
  obtain ⟨g3, H⟩ := H
  refine ev_c (vs := [.ref a0]) (rest := []) 240 am_q241 rfl rfl rfl rfl rfl rfl rfl rfl rfl rfl rfl rfl (Or.inr (congrArg some g3)) (Cl.mono H (Nat.le_refl _) (fun r2 h1 H => ?_))
  obtain ⟨rfl, H⟩ := H
  refine ev_p (pc' := 5) (loc' := [.ref a0]) (st' := [.ref a0]) 1 am_q241 rfl ?_
  obtain ⟨g4, b5, e6, H⟩ := H
  refine ev_s (pc' := 8) (loc' := [.ref a0]) (st' := [.ref b5]) (h1 := h1) am_q241 rfl rfl rfl (am_gf2 g4 e6) ?_
  refine ev_p (pc' := 9) (loc' := [.ref a0]) (st' := [.int (0 : Int32), .ref b5]) 1 am_q241 rfl ?_
  obtain ⟨g7, g8, H⟩ := H
  refine ev_s (pc' := 10) (loc' := [.ref a0]) (st' := [.int (am_gi h1 b5 (Int32.toNatClampNeg (0 : Int32)))]) (h1 := h1) am_q241 rfl rfl rfl (am_xx g7 g8) ?_
  exact ev_r (v := some (.int (am_gi h1 b5 (Int32.toNatClampNeg (0 : Int32))))) am_q241 rfl rfl rfl rfl H
/-! 242: X12_moves -/
theorem am_q242 : (am_mt 242).2.2.2.2.2 = am_m242.2.2.2.2.2 := rfl
set_option maxRecDepth 20000 in
set_option maxHeartbeats 2000000 in
theorem wp242 {d : Nat} (a0 : Nat) (i1 : Int32) {h : AH} {Q : Option Value → AH → Prop} (H : am_kd h a0 = 12 ∧ Cl d 169 [.ref a0, .int i1] h (fun r2 h1 => ∃ x4, r2 = some (.int x4) ∧ ((¬ x4 = (0 : Int32)) → am_kd h1 a0 = 12 ∧ Cl d 240 [.ref a0] h1 (fun r6 h5 => r6 = none ∧ Ev (d + 1) 242 17 [.ref a0, .int i1, .int (0 : Int32)] [] h5 Q)) ∧ (¬ (¬ x4 = (0 : Int32)) → Q (some (.int (-2 : Int32))) h1))) : Cl (d + 1) 242 [.ref a0, .int i1] h Q := by
  show Ev (d + 1) 242 0 [.ref a0, .int i1, .null] [] h Q
  refine ev_p (pc' := 2) (loc' := [.ref a0, .int i1, .null]) (st' := [.int i1, .ref a0]) 2 am_q242 rfl ?_
  obtain ⟨g3, H⟩ := H
  refine ev_c (vs := [.ref a0, .int i1]) (rest := []) 169 am_q242 rfl rfl rfl rfl rfl rfl rfl rfl rfl rfl rfl rfl (Or.inr (congrArg some g3)) (Cl.mono H (Nat.le_refl _) (fun r2 h1 H => ?_))
  obtain ⟨x4, rfl, H⟩ := H
  refine ev_jz (t := 11) am_q242 rfl rfl (fun hq => ?_) (fun hq => ?_)
  · replace H := H.1 hq
    refine ev_p (pc' := 12) (loc' := [.ref a0, .int i1, .null]) (st' := [.ref a0]) 1 am_q242 rfl ?_
    obtain ⟨g7, H⟩ := H
    refine ev_c (vs := [.ref a0]) (rest := []) 240 am_q242 rfl rfl rfl rfl rfl rfl rfl rfl rfl rfl rfl rfl (Or.inr (congrArg some g7)) (Cl.mono H (Nat.le_refl _) (fun r6 h5 H => ?_))
    obtain ⟨rfl, H⟩ := H
    refine ev_p (pc' := 17) (loc' := [.ref a0, .int i1, .int (0 : Int32)]) (st' := []) 2 am_q242 rfl ?_
    exact ev_m (loc' := [.ref a0, .int i1, .int (0 : Int32)]) am_q242 rfl rfl H
  · replace H := H.2 hq
    refine ev_p (pc' := 10) (loc' := [.ref a0, .int i1, .null]) (st' := [.int (-2 : Int32)]) 1 am_q242 rfl ?_
    exact ev_r (v := some (.int (-2 : Int32))) am_q242 rfl rfl rfl rfl H
set_option maxRecDepth 20000 in
set_option maxHeartbeats 2000000 in
theorem wp242_17 {d : Nat} (a0 : Nat) (i1 : Int32) (i2 : Int32) {h : AH} {Q : Option Value → AH → Prop} (H : am_kd h a0 = 12 ∧ ((am_gi h a0 61) ≤ i2 → Q (some (.int (-1 : Int32))) h) ∧ (¬ (am_gi h a0 61) ≤ i2 → am_kd h a0 = 12 ∧ ∃ b3, am_gr h a0 62 = some b3 ∧ am_kd h b3 = 100 ∧ am_in i2 (am_ln h b3) ∧ ((¬ (am_gi h b3 (Int32.toNatClampNeg i2)) = i1) → Ev (d + 1) 242 17 [.ref a0, .int i1, .int (i2 + (1 : Int32))] [] h Q) ∧ (¬ (¬ (am_gi h b3 (Int32.toNatClampNeg i2)) = i1) → am_kd h a0 = 12 ∧ ∃ b8, am_gr h a0 64 = some b8 ∧ am_kd h b8 = 100 ∧ am_in i2 (am_ln h b8) ∧ am_kd h a0 = 12 ∧ ∃ b13, am_gr h a0 63 = some b13 ∧ am_kd h b13 = 100 ∧ am_in i2 (am_ln h b13) ∧ ((am_gi h b8 (Int32.toNatClampNeg i2)) = (am_gi h b13 (Int32.toNatClampNeg i2)) → Ev (d + 1) 242 17 [.ref a0, .int i1, .int (i2 + (1 : Int32))] [] h Q) ∧ (¬ (am_gi h b8 (Int32.toNatClampNeg i2)) = (am_gi h b13 (Int32.toNatClampNeg i2)) → am_kd h a0 = 12 ∧ ∃ b18, am_gr h a0 64 = some b18 ∧ am_kd h b18 = 100 ∧ am_in i2 (am_ln h b18) ∧ Q (some (.int (am_gi h b18 (Int32.toNatClampNeg i2)))) h)))) : Ev (d + 1) 242 17 [.ref a0, .int i1, .int i2] [] h Q := by
  refine ev_p (pc' := 19) (loc' := [.ref a0, .int i1, .int i2]) (st' := [.ref a0, .int i2]) 2 am_q242 rfl ?_
  obtain ⟨g1, H⟩ := H
  refine ev_s (pc' := 22) (loc' := [.ref a0, .int i1, .int i2]) (st' := [.int (am_gi h a0 61), .int i2]) (h1 := h) am_q242 rfl rfl rfl (if_pos (e := none) g1) ?_
  refine ev_jc (t := 63) am_q242 rfl rfl (fun hq => ?_) (fun hq => ?_)
  · replace H := H.1 hq
    refine ev_p (pc' := 64) (loc' := [.ref a0, .int i1, .int i2]) (st' := [.int (-1 : Int32)]) 1 am_q242 rfl ?_
    exact ev_r (v := some (.int (-1 : Int32))) am_q242 rfl rfl rfl rfl H
  · replace H := H.2 hq
    refine ev_p (pc' := 26) (loc' := [.ref a0, .int i1, .int i2]) (st' := [.ref a0]) 1 am_q242 rfl ?_
    obtain ⟨g2, b3, e4, H⟩ := H
    refine ev_s (pc' := 29) (loc' := [.ref a0, .int i1, .int i2]) (st' := [.ref b3]) (h1 := h) am_q242 rfl rfl rfl (am_gf2 g2 e4) ?_
    refine ev_p (pc' := 30) (loc' := [.ref a0, .int i1, .int i2]) (st' := [.int i2, .ref b3]) 1 am_q242 rfl ?_
    obtain ⟨g5, g6, H⟩ := H
    refine ev_s (pc' := 31) (loc' := [.ref a0, .int i1, .int i2]) (st' := [.int (am_gi h b3 (Int32.toNatClampNeg i2))]) (h1 := h) am_q242 rfl rfl rfl (am_xx g5 g6) ?_
    refine ev_p (pc' := 32) (loc' := [.ref a0, .int i1, .int i2]) (st' := [.int i1, .int (am_gi h b3 (Int32.toNatClampNeg i2))]) 1 am_q242 rfl ?_
    refine ev_jc (t := 57) am_q242 rfl rfl (fun hq => ?_) (fun hq => ?_)
    · replace H := H.1 hq
      refine ev_p (pc' := 17) (loc' := [.ref a0, .int i1, .int (i2 + (1 : Int32))]) (st' := []) 2 am_q242 rfl ?_
      exact ev_m (loc' := [.ref a0, .int i1, .int (i2 + (1 : Int32))]) am_q242 rfl rfl H
    · replace H := H.2 hq
      refine ev_p (pc' := 36) (loc' := [.ref a0, .int i1, .int i2]) (st' := [.ref a0]) 1 am_q242 rfl ?_
      obtain ⟨g7, b8, e9, H⟩ := H
      refine ev_s (pc' := 39) (loc' := [.ref a0, .int i1, .int i2]) (st' := [.ref b8]) (h1 := h) am_q242 rfl rfl rfl (am_gf2 g7 e9) ?_
      refine ev_p (pc' := 40) (loc' := [.ref a0, .int i1, .int i2]) (st' := [.int i2, .ref b8]) 1 am_q242 rfl ?_
      obtain ⟨g10, g11, H⟩ := H
      refine ev_s (pc' := 41) (loc' := [.ref a0, .int i1, .int i2]) (st' := [.int (am_gi h b8 (Int32.toNatClampNeg i2))]) (h1 := h) am_q242 rfl rfl rfl (am_xx g10 g11) ?_
      refine ev_p (pc' := 42) (loc' := [.ref a0, .int i1, .int i2]) (st' := [.ref a0, .int (am_gi h b8 (Int32.toNatClampNeg i2))]) 1 am_q242 rfl ?_
      obtain ⟨g12, b13, e14, H⟩ := H
      refine ev_s (pc' := 45) (loc' := [.ref a0, .int i1, .int i2]) (st' := [.ref b13, .int (am_gi h b8 (Int32.toNatClampNeg i2))]) (h1 := h) am_q242 rfl rfl rfl (am_gf2 g12 e14) ?_
      refine ev_p (pc' := 46) (loc' := [.ref a0, .int i1, .int i2]) (st' := [.int i2, .ref b13, .int (am_gi h b8 (Int32.toNatClampNeg i2))]) 1 am_q242 rfl ?_
      obtain ⟨g15, g16, H⟩ := H
      refine ev_s (pc' := 47) (loc' := [.ref a0, .int i1, .int i2]) (st' := [.int (am_gi h b13 (Int32.toNatClampNeg i2)), .int (am_gi h b8 (Int32.toNatClampNeg i2))]) (h1 := h) am_q242 rfl rfl rfl (am_xx g15 g16) ?_
      refine ev_jc (t := 57) am_q242 rfl rfl (fun hq => ?_) (fun hq => ?_)
      · replace H := H.1 hq
        refine ev_p (pc' := 17) (loc' := [.ref a0, .int i1, .int (i2 + (1 : Int32))]) (st' := []) 2 am_q242 rfl ?_
        exact ev_m (loc' := [.ref a0, .int i1, .int (i2 + (1 : Int32))]) am_q242 rfl rfl H
      · replace H := H.2 hq
        refine ev_p (pc' := 51) (loc' := [.ref a0, .int i1, .int i2]) (st' := [.ref a0]) 1 am_q242 rfl ?_
        obtain ⟨g17, b18, e19, H⟩ := H
        refine ev_s (pc' := 54) (loc' := [.ref a0, .int i1, .int i2]) (st' := [.ref b18]) (h1 := h) am_q242 rfl rfl rfl (am_gf2 g17 e19) ?_
        refine ev_p (pc' := 55) (loc' := [.ref a0, .int i1, .int i2]) (st' := [.int i2, .ref b18]) 1 am_q242 rfl ?_
        obtain ⟨g20, g21, H⟩ := H
        refine ev_s (pc' := 56) (loc' := [.ref a0, .int i1, .int i2]) (st' := [.int (am_gi h b18 (Int32.toNatClampNeg i2))]) (h1 := h) am_q242 rfl rfl rfl (am_xx g20 g21) ?_
        exact ev_r (v := some (.int (am_gi h b18 (Int32.toNatClampNeg i2)))) am_q242 rfl rfl rfl rfl H
/-! 243: X12_change -/
theorem am_q243 : (am_mt 243).2.2.2.2.2 = am_m243.2.2.2.2.2 := rfl
set_option maxRecDepth 20000 in
set_option maxHeartbeats 2000000 in
theorem wp243 {d : Nat} (a0 : Nat) {h : AH} {Q : Option Value → AH → Prop} (H : am_kd h a0 = 12 ∧ Cl d 240 [.ref a0] h (fun r2 h1 => r2 = none ∧ am_kd h1 a0 = 12 ∧ ∃ b5, am_gr h1 a0 65 = some b5 ∧ am_kd h1 b5 = 100 ∧ am_in (0 : Int32) (am_ln h1 b5) ∧ am_kd h1 a0 = 12 ∧ (((am_gi h1 a0 14) + (am_gi h1 b5 (Int32.toNatClampNeg (0 : Int32)))) ≤ (60 : Int32) → Ev (d + 1) 243 27 [.ref a0, .int (am_gi h1 b5 (Int32.toNatClampNeg (0 : Int32))), .int (0 : Int32), .null] [] h1 Q) ∧ (¬ ((am_gi h1 a0 14) + (am_gi h1 b5 (Int32.toNatClampNeg (0 : Int32)))) ≤ (60 : Int32) → Q (some (.int (-4 : Int32))) h1))) : Cl (d + 1) 243 [.ref a0] h Q := by
  show Ev (d + 1) 243 0 [.ref a0, .null, .null, .null] [] h Q
  refine ev_p (pc' := 1) (loc' := [.ref a0, .null, .null, .null]) (st' := [.ref a0]) 1 am_q243 rfl ?_
  obtain ⟨g3, H⟩ := H
  refine ev_c (vs := [.ref a0]) (rest := []) 240 am_q243 rfl rfl rfl rfl rfl rfl rfl rfl rfl rfl rfl rfl (Or.inr (congrArg some g3)) (Cl.mono H (Nat.le_refl _) (fun r2 h1 H => ?_))
  obtain ⟨rfl, H⟩ := H
  refine ev_p (pc' := 5) (loc' := [.ref a0, .null, .null, .null]) (st' := [.ref a0]) 1 am_q243 rfl ?_
  obtain ⟨g4, b5, e6, H⟩ := H
  refine ev_s (pc' := 8) (loc' := [.ref a0, .null, .null, .null]) (st' := [.ref b5]) (h1 := h1) am_q243 rfl rfl rfl (am_gf2 g4 e6) ?_
  refine ev_p (pc' := 9) (loc' := [.ref a0, .null, .null, .null]) (st' := [.int (0 : Int32), .ref b5]) 1 am_q243 rfl ?_
  obtain ⟨g7, g8, H⟩ := H
  refine ev_s (pc' := 10) (loc' := [.ref a0, .null, .null, .null]) (st' := [.int (am_gi h1 b5 (Int32.toNatClampNeg (0 : Int32)))]) (h1 := h1) am_q243 rfl rfl rfl (am_xx g7 g8) ?_
  refine ev_p (pc' := 12) (loc' := [.ref a0, .int (am_gi h1 b5 (Int32.toNatClampNeg (0 : Int32))), .null, .null]) (st' := [.ref a0]) 2 am_q243 rfl ?_
  obtain ⟨g9, H⟩ := H
  refine ev_s (pc' := 15) (loc' := [.ref a0, .int (am_gi h1 b5 (Int32.toNatClampNeg (0 : Int32))), .null, .null]) (st' := [.int (am_gi h1 a0 14)]) (h1 := h1) am_q243 rfl rfl rfl (if_pos (e := none) g9) ?_
  refine ev_p (pc' := 19) (loc' := [.ref a0, .int (am_gi h1 b5 (Int32.toNatClampNeg (0 : Int32))), .null, .null]) (st' := [.int (60 : Int32), .int ((am_gi h1 a0 14) + (am_gi h1 b5 (Int32.toNatClampNeg (0 : Int32))))]) 3 am_q243 rfl ?_
  refine ev_jc (t := 25) am_q243 rfl rfl (fun hq => ?_) (fun hq => ?_)
  · replace H := H.1 hq
    refine ev_p (pc' := 27) (loc' := [.ref a0, .int (am_gi h1 b5 (Int32.toNatClampNeg (0 : Int32))), .int (0 : Int32), .null]) (st' := []) 2 am_q243 rfl ?_
    exact ev_m (loc' := [.ref a0, .int (am_gi h1 b5 (Int32.toNatClampNeg (0 : Int32))), .int (0 : Int32), .null]) am_q243 rfl rfl H
  · replace H := H.2 hq
    refine ev_p (pc' := 24) (loc' := [.ref a0, .int (am_gi h1 b5 (Int32.toNatClampNeg (0 : Int32))), .null, .null]) (st' := [.int (-4 : Int32)]) 1 am_q243 rfl ?_
    exact ev_r (v := some (.int (-4 : Int32))) am_q243 rfl rfl rfl rfl H
set_option maxRecDepth 20000 in
set_option maxHeartbeats 2000000 in
theorem wp243_27 {d : Nat} (a0 : Nat) (i1 : Int32) (i2 : Int32) {h : AH} {Q : Option Value → AH → Prop} (H : am_kd h a0 = 12 ∧ ((am_gi h a0 61) ≤ i2 → Ev (d + 1) 243 82 [.ref a0, .int i1, .int (0 : Int32), .null] [] h Q) ∧ (¬ (am_gi h a0 61) ≤ i2 → am_kd h a0 = 12 ∧ ∃ b3, am_gr h a0 67 = some b3 ∧ am_kd h a0 = 12 ∧ ∃ b6, am_gr h a0 64 = some b6 ∧ am_kd h b6 = 100 ∧ am_in i2 (am_ln h b6) ∧ am_kd h a0 = 12 ∧ ∃ b11, am_gr h a0 63 = some b11 ∧ am_kd h b11 = 100 ∧ am_in i2 (am_ln h b11) ∧ ((am_gi h b6 (Int32.toNatClampNeg i2)) = (am_gi h b11 (Int32.toNatClampNeg i2)) → (am_kd h b3 = 100 ∧ 6 ≤ b3) ∧ am_in i2 (am_ln h b3) ∧ ∀ h17, h17 = am_si h b3 (Int32.toNatClampNeg i2) (-1 : Int32) → Ev (d + 1) 243 27 [.ref a0, .int i1, .int (i2 + (1 : Int32)), .null] [] h17 Q) ∧ (¬ (am_gi h b6 (Int32.toNatClampNeg i2)) = (am_gi h b11 (Int32.toNatClampNeg i2)) → am_kd h a0 = 12 ∧ ∃ b19, am_gr h a0 62 = some b19 ∧ am_kd h b19 = 100 ∧ am_in i2 (am_ln h b19) ∧ am_kd h a0 = 12 ∧ am_kd h a0 = 12 ∧ Cl d 174 [.ref a0, .int (am_gi h b19 (Int32.toNatClampNeg i2)), .int (am_gi h a0 0)] h (fun r25 h24 => ∃ x27, r25 = some (.int x27) ∧ (am_kd h24 b3 = 100 ∧ 6 ≤ b3) ∧ am_in i2 (am_ln h24 b3) ∧ ∀ h30, h30 = am_si h24 b3 (Int32.toNatClampNeg i2) x27 → Ev (d + 1) 243 27 [.ref a0, .int i1, .int (i2 + (1 : Int32)), .null] [] h30 Q)))) : Ev (d + 1) 243 27 [.ref a0, .int i1, .int i2, .null] [] h Q := by
  refine ev_p (pc' := 29) (loc' := [.ref a0, .int i1, .int i2, .null]) (st' := [.ref a0, .int i2]) 2 am_q243 rfl ?_
  obtain ⟨g1, H⟩ := H
  refine ev_s (pc' := 32) (loc' := [.ref a0, .int i1, .int i2, .null]) (st' := [.int (am_gi h a0 61), .int i2]) (h1 := h) am_q243 rfl rfl rfl (if_pos (e := none) g1) ?_
  refine ev_jc (t := 80) am_q243 rfl rfl (fun hq => ?_) (fun hq => ?_)
  · replace H := H.1 hq
    refine ev_p (pc' := 82) (loc' := [.ref a0, .int i1, .int (0 : Int32), .null]) (st' := []) 2 am_q243 rfl ?_
    exact ev_m (loc' := [.ref a0, .int i1, .int (0 : Int32), .null]) am_q243 rfl rfl H
  · replace H := H.2 hq
    refine ev_p (pc' := 36) (loc' := [.ref a0, .int i1, .int i2, .null]) (st' := [.ref a0]) 1 am_q243 rfl ?_
    obtain ⟨g2, b3, e4, H⟩ := H
    refine ev_s (pc' := 39) (loc' := [.ref a0, .int i1, .int i2, .null]) (st' := [.ref b3]) (h1 := h) am_q243 rfl rfl rfl (am_gf2 g2 e4) ?_
    refine ev_p (pc' := 41) (loc' := [.ref a0, .int i1, .int i2, .null]) (st' := [.ref a0, .int i2, .ref b3]) 2 am_q243 rfl ?_
    obtain ⟨g5, b6, e7, H⟩ := H
    refine ev_s (pc' := 44) (loc' := [.ref a0, .int i1, .int i2, .null]) (st' := [.ref b6, .int i2, .ref b3]) (h1 := h) am_q243 rfl rfl rfl (am_gf2 g5 e7) ?_
    refine ev_p (pc' := 45) (loc' := [.ref a0, .int i1, .int i2, .null]) (st' := [.int i2, .ref b6, .int i2, .ref b3]) 1 am_q243 rfl ?_
    obtain ⟨g8, g9, H⟩ := H
    refine ev_s (pc' := 46) (loc' := [.ref a0, .int i1, .int i2, .null]) (st' := [.int (am_gi h b6 (Int32.toNatClampNeg i2)), .int i2, .ref b3]) (h1 := h) am_q243 rfl rfl rfl (am_xx g8 g9) ?_
    refine ev_p (pc' := 47) (loc' := [.ref a0, .int i1, .int i2, .null]) (st' := [.ref a0, .int (am_gi h b6 (Int32.toNatClampNeg i2)), .int i2, .ref b3]) 1 am_q243 rfl ?_
    obtain ⟨g10, b11, e12, H⟩ := H
    refine ev_s (pc' := 50) (loc' := [.ref a0, .int i1, .int i2, .null]) (st' := [.ref b11, .int (am_gi h b6 (Int32.toNatClampNeg i2)), .int i2, .ref b3]) (h1 := h) am_q243 rfl rfl rfl (am_gf2 g10 e12) ?_
    refine ev_p (pc' := 51) (loc' := [.ref a0, .int i1, .int i2, .null]) (st' := [.int i2, .ref b11, .int (am_gi h b6 (Int32.toNatClampNeg i2)), .int i2, .ref b3]) 1 am_q243 rfl ?_
    obtain ⟨g13, g14, H⟩ := H
    refine ev_s (pc' := 52) (loc' := [.ref a0, .int i1, .int i2, .null]) (st' := [.int (am_gi h b11 (Int32.toNatClampNeg i2)), .int (am_gi h b6 (Int32.toNatClampNeg i2)), .int i2, .ref b3]) (h1 := h) am_q243 rfl rfl rfl (am_xx g13 g14) ?_
    refine ev_jc (t := 72) am_q243 rfl rfl (fun hq => ?_) (fun hq => ?_)
    · replace H := H.1 hq
      refine ev_p (pc' := 73) (loc' := [.ref a0, .int i1, .int i2, .null]) (st' := [.int (-1 : Int32), .int i2, .ref b3]) 1 am_q243 rfl ?_
      obtain ⟨g15, g16, H⟩ := H
      refine ev_s (pc' := 74) (loc' := [.ref a0, .int i1, .int i2, .null]) (st' := []) (h1 := am_si h b3 (Int32.toNatClampNeg i2) (-1 : Int32)) am_q243 rfl rfl rfl (am_xx g15 g16) ?_
      replace H := H _ rfl
      generalize am_si h b3 (Int32.toNatClampNeg i2) (-1 : Int32) = h17 at H ⊢
      refine ev_p (pc' := 27) (loc' := [.ref a0, .int i1, .int (i2 + (1 : Int32)), .null]) (st' := []) 2 am_q243 rfl ?_
      exact ev_m (loc' := [.ref a0, .int i1, .int (i2 + (1 : Int32)), .null]) am_q243 rfl rfl H
    · replace H := H.2 hq
      refine ev_p (pc' := 57) (loc' := [.ref a0, .int i1, .int i2, .null]) (st' := [.ref a0, .ref a0, .int i2, .ref b3]) 2 am_q243 rfl ?_
      obtain ⟨g18, b19, e20, H⟩ := H
      refine ev_s (pc' := 60) (loc' := [.ref a0, .int i1, .int i2, .null]) (st' := [.ref b19, .ref a0, .int i2, .ref b3]) (h1 := h) am_q243 rfl rfl rfl (am_gf2 g18 e20) ?_
      refine ev_p (pc' := 61) (loc' := [.ref a0, .int i1, .int i2, .null]) (st' := [.int i2, .ref b19, .ref a0, .int i2, .ref b3]) 1 am_q243 rfl ?_
      obtain ⟨g21, g22, H⟩ := H
      refine ev_s (pc' := 62) (loc' := [.ref a0, .int i1, .int i2, .null]) (st' := [.int (am_gi h b19 (Int32.toNatClampNeg i2)), .ref a0, .int i2, .ref b3]) (h1 := h) am_q243 rfl rfl rfl (am_xx g21 g22) ?_
      refine ev_p (pc' := 63) (loc' := [.ref a0, .int i1, .int i2, .null]) (st' := [.ref a0, .int (am_gi h b19 (Int32.toNatClampNeg i2)), .ref a0, .int i2, .ref b3]) 1 am_q243 rfl ?_
      obtain ⟨g23, H⟩ := H
      refine ev_s (pc' := 66) (loc' := [.ref a0, .int i1, .int i2, .null]) (st' := [.int (am_gi h a0 0), .int (am_gi h b19 (Int32.toNatClampNeg i2)), .ref a0, .int i2, .ref b3]) (h1 := h) am_q243 rfl rfl rfl (if_pos (e := none) g23) ?_
      obtain ⟨g26, H⟩ := H
      refine ev_c (vs := [.ref a0, .int (am_gi h b19 (Int32.toNatClampNeg i2)), .int (am_gi h a0 0)]) (rest := [.int i2, .ref b3]) 174 am_q243 rfl rfl rfl rfl rfl rfl rfl rfl rfl rfl rfl rfl (Or.inr (congrArg some g26)) (Cl.mono H (Nat.le_refl _) (fun r25 h24 H => ?_))
      obtain ⟨x27, rfl, H⟩ := H
      refine ev_p (pc' := 73) (loc' := [.ref a0, .int i1, .int i2, .null]) (st' := [.int x27, .int i2, .ref b3]) 1 am_q243 rfl ?_
      obtain ⟨g28, g29, H⟩ := H
      refine ev_s (pc' := 74) (loc' := [.ref a0, .int i1, .int i2, .null]) (st' := []) (h1 := am_si h24 b3 (Int32.toNatClampNeg i2) x27) am_q243 rfl rfl rfl (am_xx g28 g29) ?_
      replace H := H _ rfl
      generalize am_si h24 b3 (Int32.toNatClampNeg i2) x27 = h30 at H ⊢
      refine ev_p (pc' := 27) (loc' := [.ref a0, .int i1, .int (i2 + (1 : Int32)), .null]) (st' := []) 2 am_q243 rfl ?_
      exact ev_m (loc' := [.ref a0, .int i1, .int (i2 + (1 : Int32)), .null]) am_q243 rfl rfl H
set_option maxRecDepth 20000 in
set_option maxHeartbeats 2000000 in
theorem wp243_82 {d : Nat} (a0 : Nat) (i1 : Int32) (i2 : Int32) {h : AH} {Q : Option Value → AH → Prop} (H : am_kd h a0 = 12 ∧ ((am_gi h a0 61) ≤ i2 → Q (some (.int i1)) h) ∧ (¬ (am_gi h a0 61) ≤ i2 → am_kd h a0 = 12 ∧ ∃ b3, am_gr h a0 67 = some b3 ∧ am_kd h b3 = 100 ∧ am_in i2 (am_ln h b3) ∧ ((am_gi h b3 (Int32.toNatClampNeg i2)) = (-1 : Int32) → Ev (d + 1) 243 82 [.ref a0, .int i1, .int (i2 + (1 : Int32)), .null] [] h Q) ∧ (¬ (am_gi h b3 (Int32.toNatClampNeg i2)) = (-1 : Int32) → am_kd h a0 = 12 ∧ ∃ b8, am_gr h a0 20 = some b8 ∧ am_kd h a0 = 12 ∧ (am_kd h b8 = 100 ∧ 6 ≤ b8) ∧ am_in (am_gi h b3 (Int32.toNatClampNeg i2)) (am_ln h b8) ∧ ∀ h13, h13 = am_si h b8 (Int32.toNatClampNeg (am_gi h b3 (Int32.toNatClampNeg i2))) (am_gi h a0 0) → am_kd h13 a0 = 12 ∧ ∃ b15, am_gr h13 a0 15 = some b15 ∧ am_kd h13 b15 = 100 ∧ am_in (am_gi h b3 (Int32.toNatClampNeg i2)) (am_ln h13 b15) ∧ am_kd h13 a0 = 12 ∧ ∃ b20, am_gr h13 a0 64 = some b20 ∧ am_kd h13 b20 = 100 ∧ am_in i2 (am_ln h13 b20) ∧ am_kd h13 a0 = 12 ∧ ∃ b25, am_gr h13 a0 17 = some b25 ∧ am_kd h13 b25 = 100 ∧ am_in (am_gi h b3 (Int32.toNatClampNeg i2)) (am_ln h13 b25) ∧ am_kd h13 a0 = 12 ∧ ∃ b30, am_gr h13 a0 18 = some b30 ∧ am_kd h13 b30 = 100 ∧ am_in (am_gi h b3 (Int32.toNatClampNeg i2)) (am_ln h13 b30) ∧ am_kd h13 a0 = 12 ∧ Cl d 175 [.ref a0, .int (am_gi h13 b15 (Int32.toNatClampNeg (am_gi h b3 (Int32.toNatClampNeg i2)))), .int (am_gi h13 b20 (Int32.toNatClampNeg i2)), .int (am_gi h13 b25 (Int32.toNatClampNeg (am_gi h b3 (Int32.toNatClampNeg i2)))), .int (am_gi h13 b30 (Int32.toNatClampNeg (am_gi h b3 (Int32.toNatClampNeg i2)))), .int (-1 : Int32)] h13 (fun r35 h34 => ∃ x37, r35 = some (.int x37) ∧ am_kd h34 a0 = 12 ∧ ∃ b39, am_gr h34 a0 12 = some b39 ∧ am_kd h34 a0 = 12 ∧ ∃ b42, am_gr h34 a0 62 = some b42 ∧ am_kd h34 b42 = 100 ∧ am_in i2 (am_ln h34 b42) ∧ (am_kd h34 b39 = 100 ∧ 6 ≤ b39) ∧ am_in (am_gi h34 b42 (Int32.toNatClampNeg i2)) (am_ln h34 b39) ∧ ∀ h48, h48 = am_si h34 b39 (Int32.toNatClampNeg (am_gi h34 b42 (Int32.toNatClampNeg i2))) (0 : Int32) → Ev (d + 1) 243 82 [.ref a0, .int i1, .int (i2 + (1 : Int32)), .null] [] h48 Q)))) : Ev (d + 1) 243 82 [.ref a0, .int i1, .int i2, .null] [] h Q := by
  refine ev_p (pc' := 84) (loc' := [.ref a0, .int i1, .int i2, .null]) (st' := [.ref a0, .int i2]) 2 am_q243 rfl ?_
  obtain ⟨g1, H⟩ := H
  refine ev_s (pc' := 87) (loc' := [.ref a0, .int i1, .int i2, .null]) (st' := [.int (am_gi h a0 61), .int i2]) (h1 := h) am_q243 rfl rfl rfl (if_pos (e := none) g1) ?_
  refine ev_jc (t := 160) am_q243 rfl rfl (fun hq => ?_) (fun hq => ?_)
  · replace H := H.1 hq
    refine ev_p (pc' := 161) (loc' := [.ref a0, .int i1, .int i2, .null]) (st' := [.int i1]) 1 am_q243 rfl ?_
    exact ev_r (v := some (.int i1)) am_q243 rfl rfl rfl rfl H
  · replace H := H.2 hq
    refine ev_p (pc' := 91) (loc' := [.ref a0, .int i1, .int i2, .null]) (st' := [.ref a0]) 1 am_q243 rfl ?_
    obtain ⟨g2, b3, e4, H⟩ := H
    refine ev_s (pc' := 94) (loc' := [.ref a0, .int i1, .int i2, .null]) (st' := [.ref b3]) (h1 := h) am_q243 rfl rfl rfl (am_gf2 g2 e4) ?_
    refine ev_p (pc' := 95) (loc' := [.ref a0, .int i1, .int i2, .null]) (st' := [.int i2, .ref b3]) 1 am_q243 rfl ?_
    obtain ⟨g5, g6, H⟩ := H
    refine ev_s (pc' := 96) (loc' := [.ref a0, .int i1, .int i2, .null]) (st' := [.int (am_gi h b3 (Int32.toNatClampNeg i2))]) (h1 := h) am_q243 rfl rfl rfl (am_xx g5 g6) ?_
    refine ev_p (pc' := 99) (loc' := [.ref a0, .int i1, .int i2, .int (am_gi h b3 (Int32.toNatClampNeg i2))]) (st' := [.int (-1 : Int32), .int (am_gi h b3 (Int32.toNatClampNeg i2))]) 3 am_q243 rfl ?_
    refine ev_jc (t := 154) am_q243 rfl rfl (fun hq => ?_) (fun hq => ?_)
    · replace H := H.1 hq
      refine ev_p (pc' := 82) (loc' := [.ref a0, .int i1, .int (i2 + (1 : Int32)), .null]) (st' := []) 2 am_q243 rfl ?_
      exact ev_m (loc' := [.ref a0, .int i1, .int (i2 + (1 : Int32)), .null]) am_q243 rfl rfl H
    · replace H := H.2 hq
      refine ev_p (pc' := 103) (loc' := [.ref a0, .int i1, .int i2, .int (am_gi h b3 (Int32.toNatClampNeg i2))]) (st' := [.ref a0]) 1 am_q243 rfl ?_
      obtain ⟨g7, b8, e9, H⟩ := H
      refine ev_s (pc' := 106) (loc' := [.ref a0, .int i1, .int i2, .int (am_gi h b3 (Int32.toNatClampNeg i2))]) (st' := [.ref b8]) (h1 := h) am_q243 rfl rfl rfl (am_gf2 g7 e9) ?_
      refine ev_p (pc' := 108) (loc' := [.ref a0, .int i1, .int i2, .int (am_gi h b3 (Int32.toNatClampNeg i2))]) (st' := [.ref a0, .int (am_gi h b3 (Int32.toNatClampNeg i2)), .ref b8]) 2 am_q243 rfl ?_
      obtain ⟨g10, H⟩ := H
      refine ev_s (pc' := 111) (loc' := [.ref a0, .int i1, .int i2, .int (am_gi h b3 (Int32.toNatClampNeg i2))]) (st' := [.int (am_gi h a0 0), .int (am_gi h b3 (Int32.toNatClampNeg i2)), .ref b8]) (h1 := h) am_q243 rfl rfl rfl (if_pos (e := none) g10) ?_
      obtain ⟨g11, g12, H⟩ := H
      refine ev_s (pc' := 112) (loc' := [.ref a0, .int i1, .int i2, .int (am_gi h b3 (Int32.toNatClampNeg i2))]) (st' := []) (h1 := am_si h b8 (Int32.toNatClampNeg (am_gi h b3 (Int32.toNatClampNeg i2))) (am_gi h a0 0)) am_q243 rfl rfl rfl (am_xx g11 g12) ?_
      replace H := H _ rfl
      generalize am_si h b8 (Int32.toNatClampNeg (am_gi h b3 (Int32.toNatClampNeg i2))) (am_gi h a0 0) = h13 at H ⊢
      refine ev_p (pc' := 114) (loc' := [.ref a0, .int i1, .int i2, .int (am_gi h b3 (Int32.toNatClampNeg i2))]) (st' := [.ref a0, .ref a0]) 2 am_q243 rfl ?_
      obtain ⟨g14, b15, e16, H⟩ := H
      refine ev_s (pc' := 117) (loc' := [.ref a0, .int i1, .int i2, .int (am_gi h b3 (Int32.toNatClampNeg i2))]) (st' := [.ref b15, .ref a0]) (h1 := h13) am_q243 rfl rfl rfl (am_gf2 g14 e16) ?_
      refine ev_p (pc' := 118) (loc' := [.ref a0, .int i1, .int i2, .int (am_gi h b3 (Int32.toNatClampNeg i2))]) (st' := [.int (am_gi h b3 (Int32.toNatClampNeg i2)), .ref b15, .ref a0]) 1 am_q243 rfl ?_
      obtain ⟨g17, g18, H⟩ := H
      refine ev_s (pc' := 119) (loc' := [.ref a0, .int i1, .int i2, .int (am_gi h b3 (Int32.toNatClampNeg i2))]) (st' := [.int (am_gi h13 b15 (Int32.toNatClampNeg (am_gi h b3 (Int32.toNatClampNeg i2)))), .ref a0]) (h1 := h13) am_q243 rfl rfl rfl (am_xx g17 g18) ?_
      refine ev_p (pc' := 120) (loc' := [.ref a0, .int i1, .int i2, .int (am_gi h b3 (Int32.toNatClampNeg i2))]) (st' := [.ref a0, .int (am_gi h13 b15 (Int32.toNatClampNeg (am_gi h b3 (Int32.toNatClampNeg i2)))), .ref a0]) 1 am_q243 rfl ?_
      obtain ⟨g19, b20, e21, H⟩ := H
      refine ev_s (pc' := 123) (loc' := [.ref a0, .int i1, .int i2, .int (am_gi h b3 (Int32.toNatClampNeg i2))]) (st' := [.ref b20, .int (am_gi h13 b15 (Int32.toNatClampNeg (am_gi h b3 (Int32.toNatClampNeg i2)))), .ref a0]) (h1 := h13) am_q243 rfl rfl rfl (am_gf2 g19 e21) ?_
      refine ev_p (pc' := 124) (loc' := [.ref a0, .int i1, .int i2, .int (am_gi h b3 (Int32.toNatClampNeg i2))]) (st' := [.int i2, .ref b20, .int (am_gi h13 b15 (Int32.toNatClampNeg (am_gi h b3 (Int32.toNatClampNeg i2)))), .ref a0]) 1 am_q243 rfl ?_
      obtain ⟨g22, g23, H⟩ := H
      refine ev_s (pc' := 125) (loc' := [.ref a0, .int i1, .int i2, .int (am_gi h b3 (Int32.toNatClampNeg i2))]) (st' := [.int (am_gi h13 b20 (Int32.toNatClampNeg i2)), .int (am_gi h13 b15 (Int32.toNatClampNeg (am_gi h b3 (Int32.toNatClampNeg i2)))), .ref a0]) (h1 := h13) am_q243 rfl rfl rfl (am_xx g22 g23) ?_
      refine ev_p (pc' := 126) (loc' := [.ref a0, .int i1, .int i2, .int (am_gi h b3 (Int32.toNatClampNeg i2))]) (st' := [.ref a0, .int (am_gi h13 b20 (Int32.toNatClampNeg i2)), .int (am_gi h13 b15 (Int32.toNatClampNeg (am_gi h b3 (Int32.toNatClampNeg i2)))), .ref a0]) 1 am_q243 rfl ?_
      obtain ⟨g24, b25, e26, H⟩ := H
      refine ev_s (pc' := 129) (loc' := [.ref a0, .int i1, .int i2, .int (am_gi h b3 (Int32.toNatClampNeg i2))]) (st' := [.ref b25, .int (am_gi h13 b20 (Int32.toNatClampNeg i2)), .int (am_gi h13 b15 (Int32.toNatClampNeg (am_gi h b3 (Int32.toNatClampNeg i2)))), .ref a0]) (h1 := h13) am_q243 rfl rfl rfl (am_gf2 g24 e26) ?_
      refine ev_p (pc' := 130) (loc' := [.ref a0, .int i1, .int i2, .int (am_gi h b3 (Int32.toNatClampNeg i2))]) (st' := [.int (am_gi h b3 (Int32.toNatClampNeg i2)), .ref b25, .int (am_gi h13 b20 (Int32.toNatClampNeg i2)), .int (am_gi h13 b15 (Int32.toNatClampNeg (am_gi h b3 (Int32.toNatClampNeg i2)))), .ref a0]) 1 am_q243 rfl ?_
      obtain ⟨g27, g28, H⟩ := H
      refine ev_s (pc' := 131) (loc' := [.ref a0, .int i1, .int i2, .int (am_gi h b3 (Int32.toNatClampNeg i2))]) (st' := [.int (am_gi h13 b25 (Int32.toNatClampNeg (am_gi h b3 (Int32.toNatClampNeg i2)))), .int (am_gi h13 b20 (Int32.toNatClampNeg i2)), .int (am_gi h13 b15 (Int32.toNatClampNeg (am_gi h b3 (Int32.toNatClampNeg i2)))), .ref a0]) (h1 := h13) am_q243 rfl rfl rfl (am_xx g27 g28) ?_
      refine ev_p (pc' := 132) (loc' := [.ref a0, .int i1, .int i2, .int (am_gi h b3 (Int32.toNatClampNeg i2))]) (st' := [.ref a0, .int (am_gi h13 b25 (Int32.toNatClampNeg (am_gi h b3 (Int32.toNatClampNeg i2)))), .int (am_gi h13 b20 (Int32.toNatClampNeg i2)), .int (am_gi h13 b15 (Int32.toNatClampNeg (am_gi h b3 (Int32.toNatClampNeg i2)))), .ref a0]) 1 am_q243 rfl ?_
      obtain ⟨g29, b30, e31, H⟩ := H
      refine ev_s (pc' := 135) (loc' := [.ref a0, .int i1, .int i2, .int (am_gi h b3 (Int32.toNatClampNeg i2))]) (st' := [.ref b30, .int (am_gi h13 b25 (Int32.toNatClampNeg (am_gi h b3 (Int32.toNatClampNeg i2)))), .int (am_gi h13 b20 (Int32.toNatClampNeg i2)), .int (am_gi h13 b15 (Int32.toNatClampNeg (am_gi h b3 (Int32.toNatClampNeg i2)))), .ref a0]) (h1 := h13) am_q243 rfl rfl rfl (am_gf2 g29 e31) ?_
      refine ev_p (pc' := 136) (loc' := [.ref a0, .int i1, .int i2, .int (am_gi h b3 (Int32.toNatClampNeg i2))]) (st' := [.int (am_gi h b3 (Int32.toNatClampNeg i2)), .ref b30, .int (am_gi h13 b25 (Int32.toNatClampNeg (am_gi h b3 (Int32.toNatClampNeg i2)))), .int (am_gi h13 b20 (Int32.toNatClampNeg i2)), .int (am_gi h13 b15 (Int32.toNatClampNeg (am_gi h b3 (Int32.toNatClampNeg i2)))), .ref a0]) 1 am_q243 rfl ?_
      obtain ⟨g32, g33, H⟩ := H
      refine ev_s (pc' := 137) (loc' := [.ref a0, .int i1, .int i2, .int (am_gi h b3 (Int32.toNatClampNeg i2))]) (st' := [.int (am_gi h13 b30 (Int32.toNatClampNeg (am_gi h b3 (Int32.toNatClampNeg i2)))), .int (am_gi h13 b25 (Int32.toNatClampNeg (am_gi h b3 (Int32.toNatClampNeg i2)))), .int (am_gi h13 b20 (Int32.toNatClampNeg i2)), .int (am_gi h13 b15 (Int32.toNatClampNeg (am_gi h b3 (Int32.toNatClampNeg i2)))), .ref a0]) (h1 := h13) am_q243 rfl rfl rfl (am_xx g32 g33) ?_
      refine ev_p (pc' := 138) (loc' := [.ref a0, .int i1, .int i2, .int (am_gi h b3 (Int32.toNatClampNeg i2))]) (st' := [.int (-1 : Int32), .int (am_gi h13 b30 (Int32.toNatClampNeg (am_gi h b3 (Int32.toNatClampNeg i2)))), .int (am_gi h13 b25 (Int32.toNatClampNeg (am_gi h b3 (Int32.toNatClampNeg i2)))), .int (am_gi h13 b20 (Int32.toNatClampNeg i2)), .int (am_gi h13 b15 (Int32.toNatClampNeg (am_gi h b3 (Int32.toNatClampNeg i2)))), .ref a0]) 1 am_q243 rfl ?_
      obtain ⟨g36, H⟩ := H
      refine ev_c (vs := [.ref a0, .int (am_gi h13 b15 (Int32.toNatClampNeg (am_gi h b3 (Int32.toNatClampNeg i2)))), .int (am_gi h13 b20 (Int32.toNatClampNeg i2)), .int (am_gi h13 b25 (Int32.toNatClampNeg (am_gi h b3 (Int32.toNatClampNeg i2)))), .int (am_gi h13 b30 (Int32.toNatClampNeg (am_gi h b3 (Int32.toNatClampNeg i2)))), .int (-1 : Int32)]) (rest := []) 175 am_q243 rfl rfl rfl rfl rfl rfl rfl rfl rfl rfl rfl rfl (Or.inr (congrArg some g36)) (Cl.mono H (Nat.le_refl _) (fun r35 h34 H => ?_))
      obtain ⟨x37, rfl, H⟩ := H
      refine ev_p (pc' := 143) (loc' := [.ref a0, .int i1, .int i2, .int (am_gi h b3 (Int32.toNatClampNeg i2))]) (st' := [.ref a0]) 2 am_q243 rfl ?_
      obtain ⟨g38, b39, e40, H⟩ := H
      refine ev_s (pc' := 146) (loc' := [.ref a0, .int i1, .int i2, .int (am_gi h b3 (Int32.toNatClampNeg i2))]) (st' := [.ref b39]) (h1 := h34) am_q243 rfl rfl rfl (am_gf2 g38 e40) ?_
      refine ev_p (pc' := 147) (loc' := [.ref a0, .int i1, .int i2, .int (am_gi h b3 (Int32.toNatClampNeg i2))]) (st' := [.ref a0, .ref b39]) 1 am_q243 rfl ?_
      obtain ⟨g41, b42, e43, H⟩ := H
      refine ev_s (pc' := 150) (loc' := [.ref a0, .int i1, .int i2, .int (am_gi h b3 (Int32.toNatClampNeg i2))]) (st' := [.ref b42, .ref b39]) (h1 := h34) am_q243 rfl rfl rfl (am_gf2 g41 e43) ?_
      refine ev_p (pc' := 151) (loc' := [.ref a0, .int i1, .int i2, .int (am_gi h b3 (Int32.toNatClampNeg i2))]) (st' := [.int i2, .ref b42, .ref b39]) 1 am_q243 rfl ?_
      obtain ⟨g44, g45, H⟩ := H
      refine ev_s (pc' := 152) (loc' := [.ref a0, .int i1, .int i2, .int (am_gi h b3 (Int32.toNatClampNeg i2))]) (st' := [.int (am_gi h34 b42 (Int32.toNatClampNeg i2)), .ref b39]) (h1 := h34) am_q243 rfl rfl rfl (am_xx g44 g45) ?_
      refine ev_p (pc' := 153) (loc' := [.ref a0, .int i1, .int i2, .int (am_gi h b3 (Int32.toNatClampNeg i2))]) (st' := [.int (0 : Int32), .int (am_gi h34 b42 (Int32.toNatClampNeg i2)), .ref b39]) 1 am_q243 rfl ?_
      obtain ⟨g46, g47, H⟩ := H
      refine ev_s (pc' := 154) (loc' := [.ref a0, .int i1, .int i2, .int (am_gi h b3 (Int32.toNatClampNeg i2))]) (st' := []) (h1 := am_si h34 b39 (Int32.toNatClampNeg (am_gi h34 b42 (Int32.toNatClampNeg i2))) (0 : Int32)) am_q243 rfl rfl rfl (am_xx g46 g47) ?_
      replace H := H _ rfl
      generalize am_si h34 b39 (Int32.toNatClampNeg (am_gi h34 b42 (Int32.toNatClampNeg i2))) (0 : Int32) = h48 at H ⊢
      refine ev_p (pc' := 82) (loc' := [.ref a0, .int i1, .int (i2 + (1 : Int32)), .null]) (st' := []) 2 am_q243 rfl ?_
      exact ev_m (loc' := [.ref a0, .int i1, .int (i2 + (1 : Int32)), .null]) am_q243 rfl rfl H
/-! 244: X12_cost -/
theorem am_q244 : (am_mt 244).2.2.2.2.2 = am_m244.2.2.2.2.2 := rfl
set_option maxRecDepth 20000 in
set_option maxHeartbeats 2000000 in
theorem wp244 {d : Nat} (a0 : Nat) (i1 : Int32) {h : AH} {Q : Option Value → AH → Prop} (H : Cl d 167 [.int i1, .int (1 : Int32), .int (1000000 : Int32)] h (fun r2 h1 => ∃ x3, r2 = some (.int x3) ∧ ((¬ x3 = (0 : Int32)) → Ev (d + 1) 244 18 [.ref a0, .int i1, .long (0 : Int64), .null, .int (0 : Int32), .null, .null, .null] [] h1 Q) ∧ (¬ (¬ x3 = (0 : Int32)) → Q (some (.int (-2 : Int32))) h1))) : Cl (d + 1) 244 [.ref a0, .int i1] h Q := by
  show Ev (d + 1) 244 0 [.ref a0, .int i1, .null, .null, .null, .null, .null, .null] [] h Q
  refine ev_p (pc' := 4) (loc' := [.ref a0, .int i1, .null, .null, .null, .null, .null, .null]) (st' := [.int (1000000 : Int32), .int (1 : Int32), .int i1]) 3 am_q244 rfl ?_
  refine ev_c (vs := [.int i1, .int (1 : Int32), .int (1000000 : Int32)]) (rest := []) 167 am_q244 rfl rfl rfl rfl rfl rfl rfl rfl rfl rfl rfl rfl (Or.inl rfl) (Cl.mono H (Nat.le_refl _) (fun r2 h1 H => ?_))
  obtain ⟨x3, rfl, H⟩ := H
  refine ev_jz (t := 13) am_q244 rfl rfl (fun hq => ?_) (fun hq => ?_)
  · replace H := H.1 hq
    refine ev_p (pc' := 18) (loc' := [.ref a0, .int i1, .long (0 : Int64), .null, .int (0 : Int32), .null, .null, .null]) (st' := []) 4 am_q244 rfl ?_
    exact ev_m (loc' := [.ref a0, .int i1, .long (0 : Int64), .null, .int (0 : Int32), .null, .null, .null]) am_q244 rfl rfl H
  · replace H := H.2 hq
    refine ev_p (pc' := 12) (loc' := [.ref a0, .int i1, .null, .null, .null, .null, .null, .null]) (st' := [.int (-2 : Int32)]) 1 am_q244 rfl ?_
    exact ev_r (v := some (.int (-2 : Int32))) am_q244 rfl rfl rfl rfl H
set_option maxRecDepth 20000 in
set_option maxHeartbeats 2000000 in
theorem wp244_18 {d : Nat} (a0 : Nat) (i1 : Int32) (l2 : Int64) (i4 : Int32) {h : AH} {Q : Option Value → AH → Prop} (H : am_kd h a0 = 12 ∧ ((am_gi h a0 1) ≤ i4 → ((¬ (lg_cmp l2 (0 : Int64)) = (0 : Int32)) → am_kd h a0 = 12 ∧ ((¬ (am_gi h a0 39) = (30 : Int32)) → Ev (d + 1) 244 143 [.ref a0, .int i1, .long l2, .null, .int i1, .int (0 : Int32), .null, .null] [] h Q) ∧ (¬ (¬ (am_gi h a0 39) = (30 : Int32)) → Q (some (.int (-4 : Int32))) h)) ∧ (¬ (¬ (lg_cmp l2 (0 : Int64)) = (0 : Int32)) → Q (some (.int (-3 : Int32))) h)) ∧ (¬ (am_gi h a0 1) ≤ i4 → am_kd h a0 = 12 ∧ am_kd h a0 = 12 ∧ Cl d 173 [.ref a0, .int i4, .int (am_gi h a0 0)] h (fun r5 h4 => ∃ x7, r5 = some (.int x7) ∧ ((¬ x7 = (-1 : Int32)) → am_kd h4 a0 = 12 ∧ ∃ b9, am_gr h4 a0 17 = some b9 ∧ am_kd h4 b9 = 100 ∧ am_in x7 (am_ln h4 b9) ∧ am_kd h4 a0 = 12 ∧ Cl d 213 [.ref a0, .int (3 : Int32), .int (am_gi h4 b9 (Int32.toNatClampNeg x7)), .int i4] h4 (fun r14 h13 => ∃ y16, r14 = some (.long y16) ∧ Ev (d + 1) 244 63 [.ref a0, .int i1, .long l2, .null, .int i4, .null, .null, .null] [.long y16] h13 Q)) ∧ (¬ (¬ x7 = (-1 : Int32)) → Ev (d + 1) 244 63 [.ref a0, .int i1, .long l2, .null, .int i4, .null, .null, .null] [.long (0 : Int64)] h4 Q)))) : Ev (d + 1) 244 18 [.ref a0, .int i1, .long l2, .null, .int i4, .null, .null, .null] [] h Q := by
  refine ev_p (pc' := 21) (loc' := [.ref a0, .int i1, .long l2, .null, .int i4, .null, .null, .null]) (st' := [.ref a0, .int i4]) 2 am_q244 rfl ?_
  obtain ⟨g1, H⟩ := H
  refine ev_s (pc' := 24) (loc' := [.ref a0, .int i1, .long l2, .null, .int i4, .null, .null, .null]) (st' := [.int (am_gi h a0 1), .int i4]) (h1 := h) am_q244 rfl rfl rfl (if_pos (e := none) g1) ?_
  refine ev_jc (t := 116) am_q244 rfl rfl (fun hq => ?_) (fun hq => ?_)
  · replace H := H.1 hq
    refine ev_p (pc' := 119) (loc' := [.ref a0, .int i1, .long l2, .null, .int i4, .null, .null, .null]) (st' := [.int (lg_cmp l2 (0 : Int64))]) 3 am_q244 rfl ?_
    refine ev_jz (t := 125) am_q244 rfl rfl (fun hq => ?_) (fun hq => ?_)
    · replace H := H.1 hq
      refine ev_p (pc' := 126) (loc' := [.ref a0, .int i1, .long l2, .null, .int i4, .null, .null, .null]) (st' := [.ref a0]) 1 am_q244 rfl ?_
      obtain ⟨g2, H⟩ := H
      refine ev_s (pc' := 129) (loc' := [.ref a0, .int i1, .long l2, .null, .int i4, .null, .null, .null]) (st' := [.int (am_gi h a0 39)]) (h1 := h) am_q244 rfl rfl rfl (if_pos (e := none) g2) ?_
      refine ev_p (pc' := 131) (loc' := [.ref a0, .int i1, .long l2, .null, .int i4, .null, .null, .null]) (st' := [.int (30 : Int32), .int (am_gi h a0 39)]) 1 am_q244 rfl ?_
      refine ev_jc (t := 137) am_q244 rfl rfl (fun hq => ?_) (fun hq => ?_)
      · replace H := H.1 hq
        refine ev_p (pc' := 143) (loc' := [.ref a0, .int i1, .long l2, .null, .int i1, .int (0 : Int32), .null, .null]) (st' := []) 4 am_q244 rfl ?_
        exact ev_m (loc' := [.ref a0, .int i1, .long l2, .null, .int i1, .int (0 : Int32), .null, .null]) am_q244 rfl rfl H
      · replace H := H.2 hq
        refine ev_p (pc' := 136) (loc' := [.ref a0, .int i1, .long l2, .null, .int i4, .null, .null, .null]) (st' := [.int (-4 : Int32)]) 1 am_q244 rfl ?_
        exact ev_r (v := some (.int (-4 : Int32))) am_q244 rfl rfl rfl rfl H
    · replace H := H.2 hq
      refine ev_p (pc' := 124) (loc' := [.ref a0, .int i1, .long l2, .null, .int i4, .null, .null, .null]) (st' := [.int (-3 : Int32)]) 1 am_q244 rfl ?_
      exact ev_r (v := some (.int (-3 : Int32))) am_q244 rfl rfl rfl rfl H
  · replace H := H.2 hq
    refine ev_p (pc' := 31) (loc' := [.ref a0, .int i1, .long l2, .null, .int i4, .null, .null, .null]) (st' := [.ref a0, .int i4, .ref a0]) 3 am_q244 rfl ?_
    obtain ⟨g3, H⟩ := H
    refine ev_s (pc' := 34) (loc' := [.ref a0, .int i1, .long l2, .null, .int i4, .null, .null, .null]) (st' := [.int (am_gi h a0 0), .int i4, .ref a0]) (h1 := h) am_q244 rfl rfl rfl (if_pos (e := none) g3) ?_
    obtain ⟨g6, H⟩ := H
    refine ev_c (vs := [.ref a0, .int i4, .int (am_gi h a0 0)]) (rest := []) 173 am_q244 rfl rfl rfl rfl rfl rfl rfl rfl rfl rfl rfl rfl (Or.inr (congrArg some g6)) (Cl.mono H (Nat.le_refl _) (fun r5 h4 H => ?_))
    obtain ⟨x7, rfl, H⟩ := H
    refine ev_p (pc' := 42) (loc' := [.ref a0, .int i1, .long l2, .null, .int i4, .int x7, .null, .null]) (st' := [.int (-1 : Int32), .int x7]) 3 am_q244 rfl ?_
    refine ev_jc (t := 49) am_q244 rfl rfl (fun hq => ?_) (fun hq => ?_)
    · replace H := H.1 hq
      refine ev_p (pc' := 52) (loc' := [.ref a0, .int i1, .long l2, .null, .int i4, .int x7, .null, .null]) (st' := [.ref a0, .int (3 : Int32), .ref a0]) 3 am_q244 rfl ?_
      obtain ⟨g8, b9, e10, H⟩ := H
      refine ev_s (pc' := 55) (loc' := [.ref a0, .int i1, .long l2, .null, .int i4, .int x7, .null, .null]) (st' := [.ref b9, .int (3 : Int32), .ref a0]) (h1 := h4) am_q244 rfl rfl rfl (am_gf2 g8 e10) ?_
      refine ev_p (pc' := 57) (loc' := [.ref a0, .int i1, .long l2, .null, .int i4, .int x7, .null, .null]) (st' := [.int x7, .ref b9, .int (3 : Int32), .ref a0]) 1 am_q244 rfl ?_
      obtain ⟨g11, g12, H⟩ := H
      refine ev_s (pc' := 58) (loc' := [.ref a0, .int i1, .long l2, .null, .int i4, .int x7, .null, .null]) (st' := [.int (am_gi h4 b9 (Int32.toNatClampNeg x7)), .int (3 : Int32), .ref a0]) (h1 := h4) am_q244 rfl rfl rfl (am_xx g11 g12) ?_
      refine ev_p (pc' := 60) (loc' := [.ref a0, .int i1, .long l2, .null, .int i4, .int x7, .null, .null]) (st' := [.int i4, .int (am_gi h4 b9 (Int32.toNatClampNeg x7)), .int (3 : Int32), .ref a0]) 1 am_q244 rfl ?_
      obtain ⟨g15, H⟩ := H
      refine ev_c (vs := [.ref a0, .int (3 : Int32), .int (am_gi h4 b9 (Int32.toNatClampNeg x7)), .int i4]) (rest := []) 213 am_q244 rfl rfl rfl rfl rfl rfl rfl rfl rfl rfl rfl rfl (Or.inr (congrArg some g15)) (Cl.mono H (Nat.le_refl _) (fun r14 h13 H => ?_))
      obtain ⟨y16, rfl, H⟩ := H
      exact ev_m (loc' := [.ref a0, .int i1, .long l2, .null, .int i4, .null, .null, .null]) am_q244 rfl rfl H
    · replace H := H.2 hq
      refine ev_p (pc' := 63) (loc' := [.ref a0, .int i1, .long l2, .null, .int i4, .int x7, .null, .null]) (st' := [.long (0 : Int64)]) 2 am_q244 rfl ?_
      exact ev_m (loc' := [.ref a0, .int i1, .long l2, .null, .int i4, .null, .null, .null]) am_q244 rfl rfl H
set_option maxRecDepth 20000 in
set_option maxHeartbeats 2000000 in
theorem wp244_63 {d : Nat} (a0 : Nat) (i1 : Int32) (l2 : Int64) (i4 : Int32) (s0 : Int64) {h : AH} {Q : Option Value → AH → Prop} (H : am_kd h a0 = 12 ∧ ∃ b2, am_gr h a0 68 = some b2 ∧ ((0 : Int32) ≤ (lg_cmp s0 (0 : Int64)) → ((lg_cmp s0 (1000000 : Int64)) ≤ (0 : Int32) → Ev (d + 1) 244 99 [.ref a0, .int i1, .long l2, .null, .int i4, .null, .null, .null] [.long s0, .int i4, .ref b2] h Q) ∧ (¬ (lg_cmp s0 (1000000 : Int64)) ≤ (0 : Int32) → Ev (d + 1) 244 99 [.ref a0, .int i1, .long l2, .null, .int i4, .null, .null, .null] [.long (1000000 : Int64), .int i4, .ref b2] h Q)) ∧ (¬ (0 : Int32) ≤ (lg_cmp s0 (0 : Int64)) → Ev (d + 1) 244 99 [.ref a0, .int i1, .long l2, .null, .int i4, .null, .null, .null] [.long (0 : Int64), .int i4, .ref b2] h Q)) : Ev (d + 1) 244 63 [.ref a0, .int i1, .long l2, .null, .int i4, .null, .null, .null] [.long s0] h Q := by
  refine ev_p (pc' := 66) (loc' := [.ref a0, .int i1, .long l2, .null, .int i4, .null, .long s0, .null]) (st' := [.ref a0]) 2 am_q244 rfl ?_
  obtain ⟨g1, b2, e3, H⟩ := H
  refine ev_s (pc' := 69) (loc' := [.ref a0, .int i1, .long l2, .null, .int i4, .null, .long s0, .null]) (st' := [.ref b2]) (h1 := h) am_q244 rfl rfl rfl (am_gf2 g1 e3) ?_
  refine ev_p (pc' := 75) (loc' := [.ref a0, .int i1, .long l2, .null, .int i4, .null, .long s0, .null]) (st' := [.int (lg_cmp s0 (0 : Int64)), .int i4, .ref b2]) 4 am_q244 rfl ?_
  refine ev_jz (t := 82) am_q244 rfl rfl (fun hq => ?_) (fun hq => ?_)
  · replace H := H.1 hq
    refine ev_p (pc' := 88) (loc' := [.ref a0, .int i1, .long l2, .null, .int i4, .null, .long s0, .null]) (st' := [.int (lg_cmp s0 (1000000 : Int64)), .int i4, .ref b2]) 3 am_q244 rfl ?_
    refine ev_jz (t := 97) am_q244 rfl rfl (fun hq => ?_) (fun hq => ?_)
    · replace H := H.1 hq
      refine ev_p (pc' := 99) (loc' := [.ref a0, .int i1, .long l2, .null, .int i4, .null, .long s0, .null]) (st' := [.long s0, .int i4, .ref b2]) 1 am_q244 rfl ?_
      exact ev_m (loc' := [.ref a0, .int i1, .long l2, .null, .int i4, .null, .null, .null]) am_q244 rfl rfl H
    · replace H := H.2 hq
      refine ev_p (pc' := 99) (loc' := [.ref a0, .int i1, .long l2, .null, .int i4, .null, .long s0, .null]) (st' := [.long (1000000 : Int64), .int i4, .ref b2]) 2 am_q244 rfl ?_
      exact ev_m (loc' := [.ref a0, .int i1, .long l2, .null, .int i4, .null, .null, .null]) am_q244 rfl rfl H
  · replace H := H.2 hq
    refine ev_p (pc' := 99) (loc' := [.ref a0, .int i1, .long l2, .null, .int i4, .null, .long s0, .null]) (st' := [.long (0 : Int64), .int i4, .ref b2]) 2 am_q244 rfl ?_
    exact ev_m (loc' := [.ref a0, .int i1, .long l2, .null, .int i4, .null, .null, .null]) am_q244 rfl rfl H
set_option maxRecDepth 20000 in
set_option maxHeartbeats 2000000 in
theorem wp244_99 {d : Nat} (a0 : Nat) (i1 : Int32) (l2 : Int64) (i4 : Int32) (s0 : Nat) (s1 : Int32) (s2 : Int64) {h : AH} {Q : Option Value → AH → Prop} (H : am_kd h s0 = 101 ∧ am_in s1 (am_ln h s0) ∧ ∀ h3, h3 = am_sl h s0 (Int32.toNatClampNeg s1) s2 → am_kd h3 a0 = 12 ∧ ∃ b5, am_gr h3 a0 68 = some b5 ∧ am_kd h3 b5 = 101 ∧ am_in i4 (am_ln h3 b5) ∧ Ev (d + 1) 244 18 [.ref a0, .int i1, .long (l2 + (am_gl h3 b5 (Int32.toNatClampNeg i4))), .null, .int (i4 + (1 : Int32)), .null, .null, .null] [] h3 Q) : Ev (d + 1) 244 99 [.ref a0, .int i1, .long l2, .null, .int i4, .null, .null, .null] [.long s2, .int s1, .ref s0] h Q := by
  obtain ⟨g1, g2, H⟩ := H
  refine ev_s (pc' := 100) (loc' := [.ref a0, .int i1, .long l2, .null, .int i4, .null, .null, .null]) (st' := []) (h1 := am_sl h s0 (Int32.toNatClampNeg s1) s2) am_q244 rfl rfl rfl (am_xx g1 g2) ?_
  replace H := H _ rfl
  generalize am_sl h s0 (Int32.toNatClampNeg s1) s2 = h3 at H ⊢
  refine ev_p (pc' := 102) (loc' := [.ref a0, .int i1, .long l2, .null, .int i4, .null, .null, .null]) (st' := [.ref a0, .long l2]) 2 am_q244 rfl ?_
  obtain ⟨g4, b5, e6, H⟩ := H
  refine ev_s (pc' := 105) (loc' := [.ref a0, .int i1, .long l2, .null, .int i4, .null, .null, .null]) (st' := [.ref b5, .long l2]) (h1 := h3) am_q244 rfl rfl rfl (am_gf2 g4 e6) ?_
  refine ev_p (pc' := 107) (loc' := [.ref a0, .int i1, .long l2, .null, .int i4, .null, .null, .null]) (st' := [.int i4, .ref b5, .long l2]) 1 am_q244 rfl ?_
  obtain ⟨g7, g8, H⟩ := H
  refine ev_s (pc' := 108) (loc' := [.ref a0, .int i1, .long l2, .null, .int i4, .null, .null, .null]) (st' := [.long (am_gl h3 b5 (Int32.toNatClampNeg i4)), .long l2]) (h1 := h3) am_q244 rfl rfl rfl (am_xx g7 g8) ?_
  refine ev_p (pc' := 18) (loc' := [.ref a0, .int i1, .long (l2 + (am_gl h3 b5 (Int32.toNatClampNeg i4))), .null, .int (i4 + (1 : Int32)), .null, .null, .null]) (st' := []) 4 am_q244 rfl ?_
  exact ev_m (loc' := [.ref a0, .int i1, .long (l2 + (am_gl h3 b5 (Int32.toNatClampNeg i4))), .null, .int (i4 + (1 : Int32)), .null, .null, .null]) am_q244 rfl rfl H
set_option maxRecDepth 20000 in
set_option maxHeartbeats 2000000 in
theorem wp244_143 {d : Nat} (a0 : Nat) (i1 : Int32) (l2 : Int64) (i4 : Int32) (i5 : Int32) {h : AH} {Q : Option Value → AH → Prop} (H : ((12 : Int32) ≤ i5 → Ev (d + 1) 244 235 [.ref a0, .null, .null, .null, .int i4, .null, .null, .null] [] h Q) ∧ (¬ (12 : Int32) ≤ i5 → am_kd h a0 = 12 ∧ ((am_gi h a0 1) ≤ i5 → Ev (d + 1) 244 170 [.ref a0, .int i1, .long l2, .null, .int i4, .int i5, .null, .null] [.long (0 : Int64)] h Q) ∧ (¬ (am_gi h a0 1) ≤ i5 → am_kd h a0 = 12 ∧ ∃ b3, am_gr h a0 68 = some b3 ∧ am_kd h b3 = 101 ∧ am_in i5 (am_ln h b3) ∧ Ev (d + 1) 244 170 [.ref a0, .int i1, .long l2, .null, .int i4, .int i5, .null, .null] [.long (am_gl h b3 (Int32.toNatClampNeg i5))] h Q))) : Ev (d + 1) 244 143 [.ref a0, .int i1, .long l2, .null, .int i4, .int i5, .null, .null] [] h Q := by
  refine ev_p (pc' := 147) (loc' := [.ref a0, .int i1, .long l2, .null, .int i4, .int i5, .null, .null]) (st' := [.int (12 : Int32), .int i5]) 2 am_q244 rfl ?_
  refine ev_jc (t := 235) am_q244 rfl rfl (fun hq => ?_) (fun hq => ?_)
  · replace H := H.1 hq
    exact ev_m (loc' := [.ref a0, .null, .null, .null, .int i4, .null, .null, .null]) am_q244 rfl rfl H
  · replace H := H.2 hq
    refine ev_p (pc' := 153) (loc' := [.ref a0, .int i1, .long l2, .null, .int i4, .int i5, .null, .null]) (st' := [.ref a0, .int i5]) 2 am_q244 rfl ?_
    obtain ⟨g1, H⟩ := H
    refine ev_s (pc' := 156) (loc' := [.ref a0, .int i1, .long l2, .null, .int i4, .int i5, .null, .null]) (st' := [.int (am_gi h a0 1), .int i5]) (h1 := h) am_q244 rfl rfl rfl (if_pos (e := none) g1) ?_
    refine ev_jc (t := 169) am_q244 rfl rfl (fun hq => ?_) (fun hq => ?_)
    · replace H := H.1 hq
      refine ev_p (pc' := 170) (loc' := [.ref a0, .int i1, .long l2, .null, .int i4, .int i5, .null, .null]) (st' := [.long (0 : Int64)]) 1 am_q244 rfl ?_
      exact ev_m (loc' := [.ref a0, .int i1, .long l2, .null, .int i4, .int i5, .null, .null]) am_q244 rfl rfl H
    · replace H := H.2 hq
      refine ev_p (pc' := 160) (loc' := [.ref a0, .int i1, .long l2, .null, .int i4, .int i5, .null, .null]) (st' := [.ref a0]) 1 am_q244 rfl ?_
      obtain ⟨g2, b3, e4, H⟩ := H
      refine ev_s (pc' := 163) (loc' := [.ref a0, .int i1, .long l2, .null, .int i4, .int i5, .null, .null]) (st' := [.ref b3]) (h1 := h) am_q244 rfl rfl rfl (am_gf2 g2 e4) ?_
      refine ev_p (pc' := 165) (loc' := [.ref a0, .int i1, .long l2, .null, .int i4, .int i5, .null, .null]) (st' := [.int i5, .ref b3]) 1 am_q244 rfl ?_
      obtain ⟨g5, g6, H⟩ := H
      refine ev_s (pc' := 166) (loc' := [.ref a0, .int i1, .long l2, .null, .int i4, .int i5, .null, .null]) (st' := [.long (am_gl h b3 (Int32.toNatClampNeg i5))]) (h1 := h) am_q244 rfl rfl rfl (am_xx g5 g6) ?_
      refine ev_p (pc' := 170) (loc' := [.ref a0, .int i1, .long l2, .null, .int i4, .int i5, .null, .null]) (st' := [.long (am_gl h b3 (Int32.toNatClampNeg i5))]) 1 am_q244 rfl ?_
      exact ev_m (loc' := [.ref a0, .int i1, .long l2, .null, .int i4, .int i5, .null, .null]) am_q244 rfl rfl H
set_option maxRecDepth 20000 in
set_option maxHeartbeats 2000000 in
theorem wp244_170 {d : Nat} (a0 : Nat) (i1 : Int32) (l2 : Int64) (i4 : Int32) (i5 : Int32) (s0 : Int64) {h : AH} {Q : Option Value → AH → Prop} (H : am_kd h a0 = 12 ∧ ∃ b2, am_gr h a0 40 = some b2 ∧ am_kd h a0 = 12 ∧ ¬ l2 = (0 : Int64) ∧ (am_kd h b2 = 100 ∧ 6 ≤ b2) ∧ am_in (((12 : Int32) * (am_gi h a0 39)) + i5) (am_ln h b2) ∧ ∀ h8, h8 = am_si h b2 (Int32.toNatClampNeg (((12 : Int32) * (am_gi h a0 39)) + i5)) (Int64.toInt32 (((Int32.toInt64 i1) * s0) / l2)) → am_kd h8 a0 = 12 ∧ ∃ b10, am_gr h8 a0 69 = some b10 ∧ ¬ l2 = (0 : Int64) ∧ am_kd h8 b10 = 101 ∧ am_in i5 (am_ln h8 b10) ∧ ∀ h15, h15 = am_sl h8 b10 (Int32.toNatClampNeg i5) (((Int32.toInt64 i1) * s0) - ((Int32.toInt64 i1) * s0) / l2 * l2) → am_kd h15 a0 = 12 ∧ ∃ b17, am_gr h15 a0 40 = some b17 ∧ am_kd h15 a0 = 12 ∧ am_kd h15 b17 = 100 ∧ am_in (((12 : Int32) * (am_gi h15 a0 39)) + i5) (am_ln h15 b17) ∧ Ev (d + 1) 244 143 [.ref a0, .int i1, .long l2, .null, .int (i4 - (am_gi h15 b17 (Int32.toNatClampNeg (((12 : Int32) * (am_gi h15 a0 39)) + i5)))), .int (i5 + (1 : Int32)), .null, .null] [] h15 Q) : Ev (d + 1) 244 170 [.ref a0, .int i1, .long l2, .null, .int i4, .int i5, .null, .null] [.long s0] h Q := by
  refine ev_p (pc' := 173) (loc' := [.ref a0, .int i1, .long l2, .null, .int i4, .int i5, .long s0, .null]) (st' := [.ref a0]) 2 am_q244 rfl ?_
  obtain ⟨g1, b2, e3, H⟩ := H
  refine ev_s (pc' := 176) (loc' := [.ref a0, .int i1, .long l2, .null, .int i4, .int i5, .long s0, .null]) (st' := [.ref b2]) (h1 := h) am_q244 rfl rfl rfl (am_gf2 g1 e3) ?_
  refine ev_p (pc' := 179) (loc' := [.ref a0, .int i1, .long l2, .null, .int i4, .int i5, .long s0, .null]) (st' := [.ref a0, .int (12 : Int32), .ref b2]) 2 am_q244 rfl ?_
  obtain ⟨g4, H⟩ := H
  refine ev_s (pc' := 182) (loc' := [.ref a0, .int i1, .long l2, .null, .int i4, .int i5, .long s0, .null]) (st' := [.int (am_gi h a0 39), .int (12 : Int32), .ref b2]) (h1 := h) am_q244 rfl rfl rfl (if_pos (e := none) g4) ?_
  refine ev_p (pc' := 192) (loc' := [.ref a0, .int i1, .long l2, .null, .int i4, .int i5, .long s0, .null]) (st' := [.long l2, .long ((Int32.toInt64 i1) * s0), .int (((12 : Int32) * (am_gi h a0 39)) + i5), .ref b2]) 8 am_q244 rfl ?_
  obtain ⟨g5, H⟩ := H
  refine ev_s (pc' := 193) (loc' := [.ref a0, .int i1, .long l2, .null, .int i4, .int i5, .long s0, .null]) (st' := [.long (((Int32.toInt64 i1) * s0) / l2), .int (((12 : Int32) * (am_gi h a0 39)) + i5), .ref b2]) (h1 := h) am_q244 rfl rfl rfl (if_neg (t := none) g5) ?_
  refine ev_p (pc' := 194) (loc' := [.ref a0, .int i1, .long l2, .null, .int i4, .int i5, .long s0, .null]) (st' := [.int (Int64.toInt32 (((Int32.toInt64 i1) * s0) / l2)), .int (((12 : Int32) * (am_gi h a0 39)) + i5), .ref b2]) 1 am_q244 rfl ?_
  obtain ⟨g6, g7, H⟩ := H
  refine ev_s (pc' := 195) (loc' := [.ref a0, .int i1, .long l2, .null, .int i4, .int i5, .long s0, .null]) (st' := []) (h1 := am_si h b2 (Int32.toNatClampNeg (((12 : Int32) * (am_gi h a0 39)) + i5)) (Int64.toInt32 (((Int32.toInt64 i1) * s0) / l2))) am_q244 rfl rfl rfl (am_xx g6 g7) ?_
  replace H := H _ rfl
  generalize am_si h b2 (Int32.toNatClampNeg (((12 : Int32) * (am_gi h a0 39)) + i5)) (Int64.toInt32 (((Int32.toInt64 i1) * s0) / l2)) = h8 at H ⊢
  refine ev_p (pc' := 196) (loc' := [.ref a0, .int i1, .long l2, .null, .int i4, .int i5, .long s0, .null]) (st' := [.ref a0]) 1 am_q244 rfl ?_
  obtain ⟨g9, b10, e11, H⟩ := H
  refine ev_s (pc' := 199) (loc' := [.ref a0, .int i1, .long l2, .null, .int i4, .int i5, .long s0, .null]) (st' := [.ref b10]) (h1 := h8) am_q244 rfl rfl rfl (am_gf2 g9 e11) ?_
  refine ev_p (pc' := 207) (loc' := [.ref a0, .int i1, .long l2, .null, .int i4, .int i5, .long s0, .null]) (st' := [.long l2, .long ((Int32.toInt64 i1) * s0), .int i5, .ref b10]) 6 am_q244 rfl ?_
  obtain ⟨g12, H⟩ := H
  refine ev_s (pc' := 208) (loc' := [.ref a0, .int i1, .long l2, .null, .int i4, .int i5, .long s0, .null]) (st' := [.long (((Int32.toInt64 i1) * s0) - ((Int32.toInt64 i1) * s0) / l2 * l2), .int i5, .ref b10]) (h1 := h8) am_q244 rfl rfl rfl (if_neg (t := none) g12) ?_
  obtain ⟨g13, g14, H⟩ := H
  refine ev_s (pc' := 209) (loc' := [.ref a0, .int i1, .long l2, .null, .int i4, .int i5, .long s0, .null]) (st' := []) (h1 := am_sl h8 b10 (Int32.toNatClampNeg i5) (((Int32.toInt64 i1) * s0) - ((Int32.toInt64 i1) * s0) / l2 * l2)) am_q244 rfl rfl rfl (am_xx g13 g14) ?_
  replace H := H _ rfl
  generalize am_sl h8 b10 (Int32.toNatClampNeg i5) (((Int32.toInt64 i1) * s0) - ((Int32.toInt64 i1) * s0) / l2 * l2) = h15 at H ⊢
  refine ev_p (pc' := 212) (loc' := [.ref a0, .int i1, .long l2, .null, .int i4, .int i5, .long s0, .null]) (st' := [.ref a0, .int i4]) 2 am_q244 rfl ?_
  obtain ⟨g16, b17, e18, H⟩ := H
  refine ev_s (pc' := 215) (loc' := [.ref a0, .int i1, .long l2, .null, .int i4, .int i5, .long s0, .null]) (st' := [.ref b17, .int i4]) (h1 := h15) am_q244 rfl rfl rfl (am_gf2 g16 e18) ?_
  refine ev_p (pc' := 218) (loc' := [.ref a0, .int i1, .long l2, .null, .int i4, .int i5, .long s0, .null]) (st' := [.ref a0, .int (12 : Int32), .ref b17, .int i4]) 2 am_q244 rfl ?_
  obtain ⟨g19, H⟩ := H
  refine ev_s (pc' := 221) (loc' := [.ref a0, .int i1, .long l2, .null, .int i4, .int i5, .long s0, .null]) (st' := [.int (am_gi h15 a0 39), .int (12 : Int32), .ref b17, .int i4]) (h1 := h15) am_q244 rfl rfl rfl (if_pos (e := none) g19) ?_
  refine ev_p (pc' := 225) (loc' := [.ref a0, .int i1, .long l2, .null, .int i4, .int i5, .long s0, .null]) (st' := [.int (((12 : Int32) * (am_gi h15 a0 39)) + i5), .ref b17, .int i4]) 3 am_q244 rfl ?_
  obtain ⟨g20, g21, H⟩ := H
  refine ev_s (pc' := 226) (loc' := [.ref a0, .int i1, .long l2, .null, .int i4, .int i5, .long s0, .null]) (st' := [.int (am_gi h15 b17 (Int32.toNatClampNeg (((12 : Int32) * (am_gi h15 a0 39)) + i5))), .int i4]) (h1 := h15) am_q244 rfl rfl rfl (am_xx g20 g21) ?_
  refine ev_p (pc' := 143) (loc' := [.ref a0, .int i1, .long l2, .null, .int (i4 - (am_gi h15 b17 (Int32.toNatClampNeg (((12 : Int32) * (am_gi h15 a0 39)) + i5)))), .int (i5 + (1 : Int32)), .long s0, .null]) (st' := []) 4 am_q244 rfl ?_
  exact ev_m (loc' := [.ref a0, .int i1, .long l2, .null, .int (i4 - (am_gi h15 b17 (Int32.toNatClampNeg (((12 : Int32) * (am_gi h15 a0 39)) + i5)))), .int (i5 + (1 : Int32)), .null, .null]) am_q244 rfl rfl H
set_option maxRecDepth 20000 in
set_option maxHeartbeats 2000000 in
theorem wp244_235 {d : Nat} (a0 : Nat) (i4 : Int32) {h : AH} {Q : Option Value → AH → Prop} (H : (i4 ≤ (0 : Int32) → Ev (d + 1) 244 324 [.ref a0, .null, .null, .null, .null, .int (0 : Int32), .null, .null] [] h Q) ∧ (¬ i4 ≤ (0 : Int32) → Ev (d + 1) 244 246 [.ref a0, .null, .null, .null, .int i4, .int (0 : Int32), .int (1 : Int32), .null] [] h Q)) : Ev (d + 1) 244 235 [.ref a0, .null, .null, .null, .int i4, .null, .null, .null] [] h Q := by
  refine ev_p (pc' := 237) (loc' := [.ref a0, .null, .null, .null, .int i4, .null, .null, .null]) (st' := [.int i4]) 1 am_q244 rfl ?_
  refine ev_jz (t := 321) am_q244 rfl rfl (fun hq => ?_) (fun hq => ?_)
  · replace H := H.1 hq
    refine ev_p (pc' := 324) (loc' := [.ref a0, .null, .null, .null, .int i4, .int (0 : Int32), .null, .null]) (st' := []) 2 am_q244 rfl ?_
    exact ev_m (loc' := [.ref a0, .null, .null, .null, .null, .int (0 : Int32), .null, .null]) am_q244 rfl rfl H
  · replace H := H.2 hq
    refine ev_p (pc' := 246) (loc' := [.ref a0, .null, .null, .null, .int i4, .int (0 : Int32), .int (1 : Int32), .null]) (st' := []) 4 am_q244 rfl ?_
    exact ev_m (loc' := [.ref a0, .null, .null, .null, .int i4, .int (0 : Int32), .int (1 : Int32), .null]) am_q244 rfl rfl H
set_option maxRecDepth 20000 in
set_option maxHeartbeats 2000000 in
theorem wp244_246 {d : Nat} (a0 : Nat) (i4 : Int32) (i5 : Int32) (i6 : Int32) {h : AH} {Q : Option Value → AH → Prop} (H : am_kd h a0 = 12 ∧ ((am_gi h a0 1) ≤ i6 → am_kd h a0 = 12 ∧ ∃ b3, am_gr h a0 40 = some b3 ∧ am_kd h a0 = 12 ∧ am_kd h b3 = 100 ∧ am_in (((12 : Int32) * (am_gi h a0 39)) + i5) (am_ln h b3) ∧ (am_kd h b3 = 100 ∧ 6 ≤ b3) ∧ am_in (((12 : Int32) * (am_gi h a0 39)) + i5) (am_ln h b3) ∧ ∀ h10, h10 = am_si h b3 (Int32.toNatClampNeg (((12 : Int32) * (am_gi h a0 39)) + i5)) ((am_gi h b3 (Int32.toNatClampNeg (((12 : Int32) * (am_gi h a0 39)) + i5))) + (1 : Int32)) → am_kd h10 a0 = 12 ∧ ∃ b12, am_gr h10 a0 69 = some b12 ∧ am_kd h10 b12 = 101 ∧ am_in i5 (am_ln h10 b12) ∧ ∀ h16, h16 = am_sl h10 b12 (Int32.toNatClampNeg i5) (0 : Int64) → Ev (d + 1) 244 235 [.ref a0, .null, .null, .null, .int (i4 + (-1 : Int32)), .null, .null, .null] [] h16 Q) ∧ (¬ (am_gi h a0 1) ≤ i6 → am_kd h a0 = 12 ∧ ∃ b18, am_gr h a0 69 = some b18 ∧ am_kd h b18 = 101 ∧ am_in i6 (am_ln h b18) ∧ am_kd h a0 = 12 ∧ ∃ b23, am_gr h a0 69 = some b23 ∧ am_kd h b23 = 101 ∧ am_in i5 (am_ln h b23) ∧ ((lg_cmp (am_gl h b18 (Int32.toNatClampNeg i6)) (am_gl h b23 (Int32.toNatClampNeg i5))) ≤ (0 : Int32) → Ev (d + 1) 244 246 [.ref a0, .null, .null, .null, .int i4, .int i5, .int (i6 + (1 : Int32)), .null] [] h Q) ∧ (¬ (lg_cmp (am_gl h b18 (Int32.toNatClampNeg i6)) (am_gl h b23 (Int32.toNatClampNeg i5))) ≤ (0 : Int32) → Ev (d + 1) 244 246 [.ref a0, .null, .null, .null, .int i4, .int i6, .int (i6 + (1 : Int32)), .null] [] h Q))) : Ev (d + 1) 244 246 [.ref a0, .null, .null, .null, .int i4, .int i5, .int i6, .null] [] h Q := by
  refine ev_p (pc' := 249) (loc' := [.ref a0, .null, .null, .null, .int i4, .int i5, .int i6, .null]) (st' := [.ref a0, .int i6]) 2 am_q244 rfl ?_
  obtain ⟨g1, H⟩ := H
  refine ev_s (pc' := 252) (loc' := [.ref a0, .null, .null, .null, .int i4, .int i5, .int i6, .null]) (st' := [.int (am_gi h a0 1), .int i6]) (h1 := h) am_q244 rfl rfl rfl (if_pos (e := none) g1) ?_
  refine ev_jc (t := 288) am_q244 rfl rfl (fun hq => ?_) (fun hq => ?_)
  · replace H := H.1 hq
    refine ev_p (pc' := 289) (loc' := [.ref a0, .null, .null, .null, .int i4, .int i5, .int i6, .null]) (st' := [.ref a0]) 1 am_q244 rfl ?_
    obtain ⟨g2, b3, e4, H⟩ := H
    refine ev_s (pc' := 292) (loc' := [.ref a0, .null, .null, .null, .int i4, .int i5, .int i6, .null]) (st' := [.ref b3]) (h1 := h) am_q244 rfl rfl rfl (am_gf2 g2 e4) ?_
    refine ev_p (pc' := 295) (loc' := [.ref a0, .null, .null, .null, .int i4, .int i5, .int i6, .null]) (st' := [.ref a0, .int (12 : Int32), .ref b3]) 2 am_q244 rfl ?_
    obtain ⟨g5, H⟩ := H
    refine ev_s (pc' := 298) (loc' := [.ref a0, .null, .null, .null, .int i4, .int i5, .int i6, .null]) (st' := [.int (am_gi h a0 39), .int (12 : Int32), .ref b3]) (h1 := h) am_q244 rfl rfl rfl (if_pos (e := none) g5) ?_
    refine ev_p (pc' := 303) (loc' := [.ref a0, .null, .null, .null, .int i4, .int i5, .int i6, .null]) (st' := [.int (((12 : Int32) * (am_gi h a0 39)) + i5), .ref b3, .int (((12 : Int32) * (am_gi h a0 39)) + i5), .ref b3]) 4 am_q244 rfl ?_
    obtain ⟨g6, g7, H⟩ := H
    refine ev_s (pc' := 304) (loc' := [.ref a0, .null, .null, .null, .int i4, .int i5, .int i6, .null]) (st' := [.int (am_gi h b3 (Int32.toNatClampNeg (((12 : Int32) * (am_gi h a0 39)) + i5))), .int (((12 : Int32) * (am_gi h a0 39)) + i5), .ref b3]) (h1 := h) am_q244 rfl rfl rfl (am_xx g6 g7) ?_
    refine ev_p (pc' := 306) (loc' := [.ref a0, .null, .null, .null, .int i4, .int i5, .int i6, .null]) (st' := [.int ((am_gi h b3 (Int32.toNatClampNeg (((12 : Int32) * (am_gi h a0 39)) + i5))) + (1 : Int32)), .int (((12 : Int32) * (am_gi h a0 39)) + i5), .ref b3]) 2 am_q244 rfl ?_
    obtain ⟨g8, g9, H⟩ := H
    refine ev_s (pc' := 307) (loc' := [.ref a0, .null, .null, .null, .int i4, .int i5, .int i6, .null]) (st' := []) (h1 := am_si h b3 (Int32.toNatClampNeg (((12 : Int32) * (am_gi h a0 39)) + i5)) ((am_gi h b3 (Int32.toNatClampNeg (((12 : Int32) * (am_gi h a0 39)) + i5))) + (1 : Int32))) am_q244 rfl rfl rfl (am_xx g8 g9) ?_
    replace H := H _ rfl
    generalize am_si h b3 (Int32.toNatClampNeg (((12 : Int32) * (am_gi h a0 39)) + i5)) ((am_gi h b3 (Int32.toNatClampNeg (((12 : Int32) * (am_gi h a0 39)) + i5))) + (1 : Int32)) = h10 at H ⊢
    refine ev_p (pc' := 308) (loc' := [.ref a0, .null, .null, .null, .int i4, .int i5, .int i6, .null]) (st' := [.ref a0]) 1 am_q244 rfl ?_
    obtain ⟨g11, b12, e13, H⟩ := H
    refine ev_s (pc' := 311) (loc' := [.ref a0, .null, .null, .null, .int i4, .int i5, .int i6, .null]) (st' := [.ref b12]) (h1 := h10) am_q244 rfl rfl rfl (am_gf2 g11 e13) ?_
    refine ev_p (pc' := 314) (loc' := [.ref a0, .null, .null, .null, .int i4, .int i5, .int i6, .null]) (st' := [.long (0 : Int64), .int i5, .ref b12]) 2 am_q244 rfl ?_
    obtain ⟨g14, g15, H⟩ := H
    refine ev_s (pc' := 315) (loc' := [.ref a0, .null, .null, .null, .int i4, .int i5, .int i6, .null]) (st' := []) (h1 := am_sl h10 b12 (Int32.toNatClampNeg i5) (0 : Int64)) am_q244 rfl rfl rfl (am_xx g14 g15) ?_
    replace H := H _ rfl
    generalize am_sl h10 b12 (Int32.toNatClampNeg i5) (0 : Int64) = h16 at H ⊢
    refine ev_p (pc' := 235) (loc' := [.ref a0, .null, .null, .null, .int (i4 + (-1 : Int32)), .int i5, .int i6, .null]) (st' := []) 2 am_q244 rfl ?_
    exact ev_m (loc' := [.ref a0, .null, .null, .null, .int (i4 + (-1 : Int32)), .null, .null, .null]) am_q244 rfl rfl H
  · replace H := H.2 hq
    refine ev_p (pc' := 256) (loc' := [.ref a0, .null, .null, .null, .int i4, .int i5, .int i6, .null]) (st' := [.ref a0]) 1 am_q244 rfl ?_
    obtain ⟨g17, b18, e19, H⟩ := H
    refine ev_s (pc' := 259) (loc' := [.ref a0, .null, .null, .null, .int i4, .int i5, .int i6, .null]) (st' := [.ref b18]) (h1 := h) am_q244 rfl rfl rfl (am_gf2 g17 e19) ?_
    refine ev_p (pc' := 261) (loc' := [.ref a0, .null, .null, .null, .int i4, .int i5, .int i6, .null]) (st' := [.int i6, .ref b18]) 1 am_q244 rfl ?_
    obtain ⟨g20, g21, H⟩ := H
    refine ev_s (pc' := 262) (loc' := [.ref a0, .null, .null, .null, .int i4, .int i5, .int i6, .null]) (st' := [.long (am_gl h b18 (Int32.toNatClampNeg i6))]) (h1 := h) am_q244 rfl rfl rfl (am_xx g20 g21) ?_
    refine ev_p (pc' := 263) (loc' := [.ref a0, .null, .null, .null, .int i4, .int i5, .int i6, .null]) (st' := [.ref a0, .long (am_gl h b18 (Int32.toNatClampNeg i6))]) 1 am_q244 rfl ?_
    obtain ⟨g22, b23, e24, H⟩ := H
    refine ev_s (pc' := 266) (loc' := [.ref a0, .null, .null, .null, .int i4, .int i5, .int i6, .null]) (st' := [.ref b23, .long (am_gl h b18 (Int32.toNatClampNeg i6))]) (h1 := h) am_q244 rfl rfl rfl (am_gf2 g22 e24) ?_
    refine ev_p (pc' := 268) (loc' := [.ref a0, .null, .null, .null, .int i4, .int i5, .int i6, .null]) (st' := [.int i5, .ref b23, .long (am_gl h b18 (Int32.toNatClampNeg i6))]) 1 am_q244 rfl ?_
    obtain ⟨g25, g26, H⟩ := H
    refine ev_s (pc' := 269) (loc' := [.ref a0, .null, .null, .null, .int i4, .int i5, .int i6, .null]) (st' := [.long (am_gl h b23 (Int32.toNatClampNeg i5)), .long (am_gl h b18 (Int32.toNatClampNeg i6))]) (h1 := h) am_q244 rfl rfl rfl (am_xx g25 g26) ?_
    refine ev_p (pc' := 270) (loc' := [.ref a0, .null, .null, .null, .int i4, .int i5, .int i6, .null]) (st' := [.int (lg_cmp (am_gl h b18 (Int32.toNatClampNeg i6)) (am_gl h b23 (Int32.toNatClampNeg i5)))]) 1 am_q244 rfl ?_
    refine ev_jz (t := 278) am_q244 rfl rfl (fun hq => ?_) (fun hq => ?_)
    · replace H := H.1 hq
      refine ev_p (pc' := 246) (loc' := [.ref a0, .null, .null, .null, .int i4, .int i5, .int (i6 + (1 : Int32)), .null]) (st' := []) 4 am_q244 rfl ?_
      exact ev_m (loc' := [.ref a0, .null, .null, .null, .int i4, .int i5, .int (i6 + (1 : Int32)), .null]) am_q244 rfl rfl H
    · replace H := H.2 hq
      refine ev_p (pc' := 246) (loc' := [.ref a0, .null, .null, .null, .int i4, .int i6, .int (i6 + (1 : Int32)), .null]) (st' := []) 5 am_q244 rfl ?_
      exact ev_m (loc' := [.ref a0, .null, .null, .null, .int i4, .int i6, .int (i6 + (1 : Int32)), .null]) am_q244 rfl rfl H
set_option maxRecDepth 20000 in
set_option maxHeartbeats 2000000 in
theorem wp244_324 {d : Nat} (a0 : Nat) (i5 : Int32) {h : AH} {Q : Option Value → AH → Prop} (H : am_kd h a0 = 12 ∧ ((am_gi h a0 1) ≤ i5 → am_kd h a0 = 12 ∧ am_kd h a0 = 12 ∧ ∀ h4, h4 = am_si h a0 39 ((am_gi h a0 39) + (1 : Int32)) → am_kd h4 a0 = 12 ∧ Q (some (.int ((am_gi h4 a0 39) - (1 : Int32)))) h4) ∧ (¬ (am_gi h a0 1) ≤ i5 → am_kd h a0 = 12 ∧ am_kd h a0 = 12 ∧ Cl d 173 [.ref a0, .int i5, .int (am_gi h a0 0)] h (fun r8 h7 => ∃ x10, r8 = some (.int x10) ∧ (x10 = (-1 : Int32) → Ev (d + 1) 244 324 [.ref a0, .null, .null, .null, .null, .int (i5 + (1 : Int32)), .null, .null] [] h7 Q) ∧ (¬ x10 = (-1 : Int32) → am_kd h7 a0 = 12 ∧ ∃ b12, am_gr h7 a0 13 = some b12 ∧ am_kd h7 a0 = 12 ∧ ∃ b15, am_gr h7 a0 17 = some b15 ∧ am_kd h7 b15 = 100 ∧ am_in x10 (am_ln h7 b15) ∧ am_kd h7 b12 = 101 ∧ am_in (am_gi h7 b15 (Int32.toNatClampNeg x10)) (am_ln h7 b12) ∧ am_kd h7 a0 = 12 ∧ ∃ b22, am_gr h7 a0 40 = some b22 ∧ am_kd h7 a0 = 12 ∧ am_kd h7 b22 = 100 ∧ am_in (((12 : Int32) * (am_gi h7 a0 39)) + i5) (am_ln h7 b22) ∧ am_kd h7 b12 = 101 ∧ am_in (am_gi h7 b15 (Int32.toNatClampNeg x10)) (am_ln h7 b12) ∧ ∀ h29, h29 = am_sl h7 b12 (Int32.toNatClampNeg (am_gi h7 b15 (Int32.toNatClampNeg x10))) ((am_gl h7 b12 (Int32.toNatClampNeg (am_gi h7 b15 (Int32.toNatClampNeg x10)))) + (Int32.toInt64 (am_gi h7 b22 (Int32.toNatClampNeg (((12 : Int32) * (am_gi h7 a0 39)) + i5))))) → Ev (d + 1) 244 324 [.ref a0, .null, .null, .null, .null, .int (i5 + (1 : Int32)), .null, .null] [] h29 Q)))) : Ev (d + 1) 244 324 [.ref a0, .null, .null, .null, .null, .int i5, .null, .null] [] h Q := by
  refine ev_p (pc' := 327) (loc' := [.ref a0, .null, .null, .null, .null, .int i5, .null, .null]) (st' := [.ref a0, .int i5]) 2 am_q244 rfl ?_
  obtain ⟨g1, H⟩ := H
  refine ev_s (pc' := 330) (loc' := [.ref a0, .null, .null, .null, .null, .int i5, .null, .null]) (st' := [.int (am_gi h a0 1), .int i5]) (h1 := h) am_q244 rfl rfl rfl (if_pos (e := none) g1) ?_
  refine ev_jc (t := 388) am_q244 rfl rfl (fun hq => ?_) (fun hq => ?_)
  · replace H := H.1 hq
    refine ev_p (pc' := 390) (loc' := [.ref a0, .null, .null, .null, .null, .int i5, .null, .null]) (st' := [.ref a0, .ref a0]) 2 am_q244 rfl ?_
    obtain ⟨g2, H⟩ := H
    refine ev_s (pc' := 393) (loc' := [.ref a0, .null, .null, .null, .null, .int i5, .null, .null]) (st' := [.int (am_gi h a0 39), .ref a0]) (h1 := h) am_q244 rfl rfl rfl (if_pos (e := none) g2) ?_
    refine ev_p (pc' := 395) (loc' := [.ref a0, .null, .null, .null, .null, .int i5, .null, .null]) (st' := [.int ((am_gi h a0 39) + (1 : Int32)), .ref a0]) 2 am_q244 rfl ?_
    obtain ⟨g3, H⟩ := H
    refine ev_s (pc' := 398) (loc' := [.ref a0, .null, .null, .null, .null, .int i5, .null, .null]) (st' := []) (h1 := am_si h a0 39 ((am_gi h a0 39) + (1 : Int32))) am_q244 rfl rfl rfl (if_pos (e := none) g3) ?_
    replace H := H _ rfl
    generalize am_si h a0 39 ((am_gi h a0 39) + (1 : Int32)) = h4 at H ⊢
    refine ev_p (pc' := 399) (loc' := [.ref a0, .null, .null, .null, .null, .int i5, .null, .null]) (st' := [.ref a0]) 1 am_q244 rfl ?_
    obtain ⟨g5, H⟩ := H
    refine ev_s (pc' := 402) (loc' := [.ref a0, .null, .null, .null, .null, .int i5, .null, .null]) (st' := [.int (am_gi h4 a0 39)]) (h1 := h4) am_q244 rfl rfl rfl (if_pos (e := none) g5) ?_
    refine ev_p (pc' := 404) (loc' := [.ref a0, .null, .null, .null, .null, .int i5, .null, .null]) (st' := [.int ((am_gi h4 a0 39) - (1 : Int32))]) 2 am_q244 rfl ?_
    exact ev_r (v := some (.int ((am_gi h4 a0 39) - (1 : Int32)))) am_q244 rfl rfl rfl rfl H
  · replace H := H.2 hq
    refine ev_p (pc' := 337) (loc' := [.ref a0, .null, .null, .null, .null, .int i5, .null, .null]) (st' := [.ref a0, .int i5, .ref a0]) 3 am_q244 rfl ?_
    obtain ⟨g6, H⟩ := H
    refine ev_s (pc' := 340) (loc' := [.ref a0, .null, .null, .null, .null, .int i5, .null, .null]) (st' := [.int (am_gi h a0 0), .int i5, .ref a0]) (h1 := h) am_q244 rfl rfl rfl (if_pos (e := none) g6) ?_
    obtain ⟨g9, H⟩ := H
    refine ev_c (vs := [.ref a0, .int i5, .int (am_gi h a0 0)]) (rest := []) 173 am_q244 rfl rfl rfl rfl rfl rfl rfl rfl rfl rfl rfl rfl (Or.inr (congrArg some g9)) (Cl.mono H (Nat.le_refl _) (fun r8 h7 H => ?_))
    obtain ⟨x10, rfl, H⟩ := H
    refine ev_p (pc' := 348) (loc' := [.ref a0, .null, .null, .null, .null, .int i5, .int x10, .null]) (st' := [.int (-1 : Int32), .int x10]) 3 am_q244 rfl ?_
    refine ev_jc (t := 382) am_q244 rfl rfl (fun hq => ?_) (fun hq => ?_)
    · replace H := H.1 hq
      refine ev_p (pc' := 324) (loc' := [.ref a0, .null, .null, .null, .null, .int (i5 + (1 : Int32)), .null, .null]) (st' := []) 2 am_q244 rfl ?_
      exact ev_m (loc' := [.ref a0, .null, .null, .null, .null, .int (i5 + (1 : Int32)), .null, .null]) am_q244 rfl rfl H
    · replace H := H.2 hq
      refine ev_p (pc' := 352) (loc' := [.ref a0, .null, .null, .null, .null, .int i5, .int x10, .null]) (st' := [.ref a0]) 1 am_q244 rfl ?_
      obtain ⟨g11, b12, e13, H⟩ := H
      refine ev_s (pc' := 355) (loc' := [.ref a0, .null, .null, .null, .null, .int i5, .int x10, .null]) (st' := [.ref b12]) (h1 := h7) am_q244 rfl rfl rfl (am_gf2 g11 e13) ?_
      refine ev_p (pc' := 356) (loc' := [.ref a0, .null, .null, .null, .null, .int i5, .int x10, .null]) (st' := [.ref a0, .ref b12]) 1 am_q244 rfl ?_
      obtain ⟨g14, b15, e16, H⟩ := H
      refine ev_s (pc' := 359) (loc' := [.ref a0, .null, .null, .null, .null, .int i5, .int x10, .null]) (st' := [.ref b15, .ref b12]) (h1 := h7) am_q244 rfl rfl rfl (am_gf2 g14 e16) ?_
      refine ev_p (pc' := 361) (loc' := [.ref a0, .null, .null, .null, .null, .int i5, .int x10, .null]) (st' := [.int x10, .ref b15, .ref b12]) 1 am_q244 rfl ?_
      obtain ⟨g17, g18, H⟩ := H
      refine ev_s (pc' := 362) (loc' := [.ref a0, .null, .null, .null, .null, .int i5, .int x10, .null]) (st' := [.int (am_gi h7 b15 (Int32.toNatClampNeg x10)), .ref b12]) (h1 := h7) am_q244 rfl rfl rfl (am_xx g17 g18) ?_
      refine ev_p (pc' := 363) (loc' := [.ref a0, .null, .null, .null, .null, .int i5, .int x10, .null]) (st' := [.int (am_gi h7 b15 (Int32.toNatClampNeg x10)), .ref b12, .int (am_gi h7 b15 (Int32.toNatClampNeg x10)), .ref b12]) 1 am_q244 rfl ?_
      obtain ⟨g19, g20, H⟩ := H
      refine ev_s (pc' := 364) (loc' := [.ref a0, .null, .null, .null, .null, .int i5, .int x10, .null]) (st' := [.long (am_gl h7 b12 (Int32.toNatClampNeg (am_gi h7 b15 (Int32.toNatClampNeg x10)))), .int (am_gi h7 b15 (Int32.toNatClampNeg x10)), .ref b12]) (h1 := h7) am_q244 rfl rfl rfl (am_xx g19 g20) ?_
      refine ev_p (pc' := 365) (loc' := [.ref a0, .null, .null, .null, .null, .int i5, .int x10, .null]) (st' := [.ref a0, .long (am_gl h7 b12 (Int32.toNatClampNeg (am_gi h7 b15 (Int32.toNatClampNeg x10)))), .int (am_gi h7 b15 (Int32.toNatClampNeg x10)), .ref b12]) 1 am_q244 rfl ?_
      obtain ⟨g21, b22, e23, H⟩ := H
      refine ev_s (pc' := 368) (loc' := [.ref a0, .null, .null, .null, .null, .int i5, .int x10, .null]) (st' := [.ref b22, .long (am_gl h7 b12 (Int32.toNatClampNeg (am_gi h7 b15 (Int32.toNatClampNeg x10)))), .int (am_gi h7 b15 (Int32.toNatClampNeg x10)), .ref b12]) (h1 := h7) am_q244 rfl rfl rfl (am_gf2 g21 e23) ?_
      refine ev_p (pc' := 371) (loc' := [.ref a0, .null, .null, .null, .null, .int i5, .int x10, .null]) (st' := [.ref a0, .int (12 : Int32), .ref b22, .long (am_gl h7 b12 (Int32.toNatClampNeg (am_gi h7 b15 (Int32.toNatClampNeg x10)))), .int (am_gi h7 b15 (Int32.toNatClampNeg x10)), .ref b12]) 2 am_q244 rfl ?_
      obtain ⟨g24, H⟩ := H
      refine ev_s (pc' := 374) (loc' := [.ref a0, .null, .null, .null, .null, .int i5, .int x10, .null]) (st' := [.int (am_gi h7 a0 39), .int (12 : Int32), .ref b22, .long (am_gl h7 b12 (Int32.toNatClampNeg (am_gi h7 b15 (Int32.toNatClampNeg x10)))), .int (am_gi h7 b15 (Int32.toNatClampNeg x10)), .ref b12]) (h1 := h7) am_q244 rfl rfl rfl (if_pos (e := none) g24) ?_
      refine ev_p (pc' := 378) (loc' := [.ref a0, .null, .null, .null, .null, .int i5, .int x10, .null]) (st' := [.int (((12 : Int32) * (am_gi h7 a0 39)) + i5), .ref b22, .long (am_gl h7 b12 (Int32.toNatClampNeg (am_gi h7 b15 (Int32.toNatClampNeg x10)))), .int (am_gi h7 b15 (Int32.toNatClampNeg x10)), .ref b12]) 3 am_q244 rfl ?_
      obtain ⟨g25, g26, H⟩ := H
      refine ev_s (pc' := 379) (loc' := [.ref a0, .null, .null, .null, .null, .int i5, .int x10, .null]) (st' := [.int (am_gi h7 b22 (Int32.toNatClampNeg (((12 : Int32) * (am_gi h7 a0 39)) + i5))), .long (am_gl h7 b12 (Int32.toNatClampNeg (am_gi h7 b15 (Int32.toNatClampNeg x10)))), .int (am_gi h7 b15 (Int32.toNatClampNeg x10)), .ref b12]) (h1 := h7) am_q244 rfl rfl rfl (am_xx g25 g26) ?_
      refine ev_p (pc' := 381) (loc' := [.ref a0, .null, .null, .null, .null, .int i5, .int x10, .null]) (st' := [.long ((am_gl h7 b12 (Int32.toNatClampNeg (am_gi h7 b15 (Int32.toNatClampNeg x10)))) + (Int32.toInt64 (am_gi h7 b22 (Int32.toNatClampNeg (((12 : Int32) * (am_gi h7 a0 39)) + i5))))), .int (am_gi h7 b15 (Int32.toNatClampNeg x10)), .ref b12]) 2 am_q244 rfl ?_
      obtain ⟨g27, g28, H⟩ := H
      refine ev_s (pc' := 382) (loc' := [.ref a0, .null, .null, .null, .null, .int i5, .int x10, .null]) (st' := []) (h1 := am_sl h7 b12 (Int32.toNatClampNeg (am_gi h7 b15 (Int32.toNatClampNeg x10))) ((am_gl h7 b12 (Int32.toNatClampNeg (am_gi h7 b15 (Int32.toNatClampNeg x10)))) + (Int32.toInt64 (am_gi h7 b22 (Int32.toNatClampNeg (((12 : Int32) * (am_gi h7 a0 39)) + i5)))))) am_q244 rfl rfl rfl (am_xx g27 g28) ?_
      replace H := H _ rfl
      generalize am_sl h7 b12 (Int32.toNatClampNeg (am_gi h7 b15 (Int32.toNatClampNeg x10))) ((am_gl h7 b12 (Int32.toNatClampNeg (am_gi h7 b15 (Int32.toNatClampNeg x10)))) + (Int32.toInt64 (am_gi h7 b22 (Int32.toNatClampNeg (((12 : Int32) * (am_gi h7 a0 39)) + i5))))) = h29 at H ⊢
      refine ev_p (pc' := 324) (loc' := [.ref a0, .null, .null, .null, .null, .int (i5 + (1 : Int32)), .null, .null]) (st' := []) 2 am_q244 rfl ?_
      exact ev_m (loc' := [.ref a0, .null, .null, .null, .null, .int (i5 + (1 : Int32)), .null, .null]) am_q244 rfl rfl H
/-! 245: X12_parted -/
theorem am_q245 : (am_mt 245).2.2.2.2.2 = am_m245.2.2.2.2.2 := rfl
set_option maxRecDepth 20000 in
set_option maxHeartbeats 2000000 in
theorem wp245 {d : Nat} (a0 : Nat) (i1 : Int32) (i2 : Int32) {h : AH} {Q : Option Value → AH → Prop} (H : am_kd h a0 = 12 ∧ Cl d 167 [.int i1, .int (0 : Int32), .int ((am_gi h a0 39) - (1 : Int32))] h (fun r3 h2 => ∃ x4, r3 = some (.int x4) ∧ (x4 = (0 : Int32) → Q (some (.int (-2 : Int32))) h2) ∧ (¬ x4 = (0 : Int32) → am_kd h2 a0 = 12 ∧ Cl d 168 [.ref a0, .int i2] h2 (fun r6 h5 => ∃ x8, r6 = some (.int x8) ∧ (x8 = (0 : Int32) → Q (some (.int (-2 : Int32))) h5) ∧ (¬ x8 = (0 : Int32) → am_kd h5 a0 = 12 ∧ ∃ b10, am_gr h5 a0 40 = some b10 ∧ am_kd h5 b10 = 100 ∧ am_in (((12 : Int32) * i1) + i2) (am_ln h5 b10) ∧ Q (some (.int (am_gi h5 b10 (Int32.toNatClampNeg (((12 : Int32) * i1) + i2))))) h5))))) : Cl (d + 1) 245 [.ref a0, .int i1, .int i2] h Q := by
  show Ev (d + 1) 245 0 [.ref a0, .int i1, .int i2] [] h Q
  refine ev_p (pc' := 3) (loc' := [.ref a0, .int i1, .int i2]) (st' := [.ref a0, .int (0 : Int32), .int i1]) 3 am_q245 rfl ?_
  obtain ⟨g1, H⟩ := H
  refine ev_s (pc' := 6) (loc' := [.ref a0, .int i1, .int i2]) (st' := [.int (am_gi h a0 39), .int (0 : Int32), .int i1]) (h1 := h) am_q245 rfl rfl rfl (if_pos (e := none) g1) ?_
  refine ev_p (pc' := 8) (loc' := [.ref a0, .int i1, .int i2]) (st' := [.int ((am_gi h a0 39) - (1 : Int32)), .int (0 : Int32), .int i1]) 2 am_q245 rfl ?_
  refine ev_c (vs := [.int i1, .int (0 : Int32), .int ((am_gi h a0 39) - (1 : Int32))]) (rest := []) 167 am_q245 rfl rfl rfl rfl rfl rfl rfl rfl rfl rfl rfl rfl (Or.inl rfl) (Cl.mono H (Nat.le_refl _) (fun r3 h2 H => ?_))
  obtain ⟨x4, rfl, H⟩ := H
  refine ev_jz (t := 36) am_q245 rfl rfl (fun hq => ?_) (fun hq => ?_)
  · replace H := H.1 hq
    refine ev_p (pc' := 38) (loc' := [.null, .null, .null]) (st' := [.int (-2 : Int32)]) 1 am_q245 rfl ?_
    exact ev_r (v := some (.int (-2 : Int32))) am_q245 rfl rfl rfl rfl H
  · replace H := H.2 hq
    refine ev_p (pc' := 16) (loc' := [.ref a0, .int i1, .int i2]) (st' := [.int i2, .ref a0]) 2 am_q245 rfl ?_
    obtain ⟨g7, H⟩ := H
    refine ev_c (vs := [.ref a0, .int i2]) (rest := []) 168 am_q245 rfl rfl rfl rfl rfl rfl rfl rfl rfl rfl rfl rfl (Or.inr (congrArg some g7)) (Cl.mono H (Nat.le_refl _) (fun r6 h5 H => ?_))
    obtain ⟨x8, rfl, H⟩ := H
    refine ev_jz (t := 36) am_q245 rfl rfl (fun hq => ?_) (fun hq => ?_)
    · replace H := H.1 hq
      refine ev_p (pc' := 38) (loc' := [.null, .null, .null]) (st' := [.int (-2 : Int32)]) 1 am_q245 rfl ?_
      exact ev_r (v := some (.int (-2 : Int32))) am_q245 rfl rfl rfl rfl H
    · replace H := H.2 hq
      refine ev_p (pc' := 23) (loc' := [.ref a0, .int i1, .int i2]) (st' := [.ref a0]) 1 am_q245 rfl ?_
      obtain ⟨g9, b10, e11, H⟩ := H
      refine ev_s (pc' := 26) (loc' := [.ref a0, .int i1, .int i2]) (st' := [.ref b10]) (h1 := h5) am_q245 rfl rfl rfl (am_gf2 g9 e11) ?_
      refine ev_p (pc' := 32) (loc' := [.ref a0, .int i1, .int i2]) (st' := [.int (((12 : Int32) * i1) + i2), .ref b10]) 5 am_q245 rfl ?_
      obtain ⟨g12, g13, H⟩ := H
      refine ev_s (pc' := 33) (loc' := [.ref a0, .int i1, .int i2]) (st' := [.int (am_gi h5 b10 (Int32.toNatClampNeg (((12 : Int32) * i1) + i2)))]) (h1 := h5) am_q245 rfl rfl rfl (am_xx g12 g13) ?_
      refine ev_p (pc' := 38) (loc' := [.ref a0, .int i1, .int i2]) (st' := [.int (am_gi h5 b10 (Int32.toNatClampNeg (((12 : Int32) * i1) + i2)))]) 1 am_q245 rfl ?_
      exact ev_r (v := some (.int (am_gi h5 b10 (Int32.toNatClampNeg (((12 : Int32) * i1) + i2))))) am_q245 rfl rfl rfl rfl H
/-! 246: X12_pay -/
theorem am_q246 : (am_mt 246).2.2.2.2.2 = am_m246.2.2.2.2.2 := rfl
set_option maxRecDepth 20000 in
set_option maxHeartbeats 2000000 in
theorem wp246 {d : Nat} (a0 : Nat) (i1 : Int32) (i2 : Int32) {h : AH} {Q : Option Value → AH → Prop} (H : am_kd h a0 = 12 ∧ Cl d 169 [.ref a0, .int i1] h (fun r2 h1 => ∃ x4, r2 = some (.int x4) ∧ (x4 = (0 : Int32) → Q (some (.long (-4611686018427387904 : Int64))) h1) ∧ (¬ x4 = (0 : Int32) → Cl d 167 [.int i2, .int (0 : Int32), .int (1000000 : Int32)] h1 (fun r6 h5 => ∃ x7, r6 = some (.int x7) ∧ ((¬ x7 = (0 : Int32)) → am_kd h5 a0 = 12 ∧ ∃ b9, am_gr h5 a0 13 = some b9 ∧ am_kd h5 b9 = 101 ∧ am_in i1 (am_ln h5 b9) ∧ am_kd h5 b9 = 101 ∧ am_in i1 (am_ln h5 b9) ∧ ∀ h15, h15 = am_sl h5 b9 (Int32.toNatClampNeg i1) ((am_gl h5 b9 (Int32.toNatClampNeg i1)) - (Int32.toInt64 i2)) → am_kd h15 a0 = 12 ∧ ∃ b17, am_gr h15 a0 13 = some b17 ∧ am_kd h15 b17 = 101 ∧ am_in i1 (am_ln h15 b17) ∧ Q (some (.long (am_gl h15 b17 (Int32.toNatClampNeg i1)))) h15) ∧ (¬ (¬ x7 = (0 : Int32)) → Q (some (.long (-4611686018427387904 : Int64))) h5))))) : Cl (d + 1) 246 [.ref a0, .int i1, .int i2] h Q := by
  show Ev (d + 1) 246 0 [.ref a0, .int i1, .int i2] [] h Q
  refine ev_p (pc' := 2) (loc' := [.ref a0, .int i1, .int i2]) (st' := [.int i1, .ref a0]) 2 am_q246 rfl ?_
  obtain ⟨g3, H⟩ := H
  refine ev_c (vs := [.ref a0, .int i1]) (rest := []) 169 am_q246 rfl rfl rfl rfl rfl rfl rfl rfl rfl rfl rfl rfl (Or.inr (congrArg some g3)) (Cl.mono H (Nat.le_refl _) (fun r2 h1 H => ?_))
  obtain ⟨x4, rfl, H⟩ := H
  refine ev_jz (t := 18) am_q246 rfl rfl (fun hq => ?_) (fun hq => ?_)
  · replace H := H.1 hq
    refine ev_p (pc' := 21) (loc' := [.null, .null, .null]) (st' := [.long (-4611686018427387904 : Int64)]) 1 am_q246 rfl ?_
    exact ev_r (v := some (.long (-4611686018427387904 : Int64))) am_q246 rfl rfl rfl rfl H
  · replace H := H.2 hq
    refine ev_p (pc' := 12) (loc' := [.ref a0, .int i1, .int i2]) (st' := [.int (1000000 : Int32), .int (0 : Int32), .int i2]) 3 am_q246 rfl ?_
    refine ev_c (vs := [.int i2, .int (0 : Int32), .int (1000000 : Int32)]) (rest := []) 167 am_q246 rfl rfl rfl rfl rfl rfl rfl rfl rfl rfl rfl rfl (Or.inl rfl) (Cl.mono H (Nat.le_refl _) (fun r6 h5 H => ?_))
    obtain ⟨x7, rfl, H⟩ := H
    refine ev_jz (t := 22) am_q246 rfl rfl (fun hq => ?_) (fun hq => ?_)
    · replace H := H.1 hq
      refine ev_p (pc' := 23) (loc' := [.ref a0, .int i1, .int i2]) (st' := [.ref a0]) 1 am_q246 rfl ?_
      obtain ⟨g8, b9, e10, H⟩ := H
      refine ev_s (pc' := 26) (loc' := [.ref a0, .int i1, .int i2]) (st' := [.ref b9]) (h1 := h5) am_q246 rfl rfl rfl (am_gf2 g8 e10) ?_
      refine ev_p (pc' := 28) (loc' := [.ref a0, .int i1, .int i2]) (st' := [.int i1, .ref b9, .int i1, .ref b9]) 2 am_q246 rfl ?_
      obtain ⟨g11, g12, H⟩ := H
      refine ev_s (pc' := 29) (loc' := [.ref a0, .int i1, .int i2]) (st' := [.long (am_gl h5 b9 (Int32.toNatClampNeg i1)), .int i1, .ref b9]) (h1 := h5) am_q246 rfl rfl rfl (am_xx g11 g12) ?_
      refine ev_p (pc' := 32) (loc' := [.ref a0, .int i1, .int i2]) (st' := [.long ((am_gl h5 b9 (Int32.toNatClampNeg i1)) - (Int32.toInt64 i2)), .int i1, .ref b9]) 3 am_q246 rfl ?_
      obtain ⟨g13, g14, H⟩ := H
      refine ev_s (pc' := 33) (loc' := [.ref a0, .int i1, .int i2]) (st' := []) (h1 := am_sl h5 b9 (Int32.toNatClampNeg i1) ((am_gl h5 b9 (Int32.toNatClampNeg i1)) - (Int32.toInt64 i2))) am_q246 rfl rfl rfl (am_xx g13 g14) ?_
      replace H := H _ rfl
      generalize am_sl h5 b9 (Int32.toNatClampNeg i1) ((am_gl h5 b9 (Int32.toNatClampNeg i1)) - (Int32.toInt64 i2)) = h15 at H ⊢
      refine ev_p (pc' := 34) (loc' := [.ref a0, .int i1, .int i2]) (st' := [.ref a0]) 1 am_q246 rfl ?_
      obtain ⟨g16, b17, e18, H⟩ := H
      refine ev_s (pc' := 37) (loc' := [.ref a0, .int i1, .int i2]) (st' := [.ref b17]) (h1 := h15) am_q246 rfl rfl rfl (am_gf2 g16 e18) ?_
      refine ev_p (pc' := 38) (loc' := [.ref a0, .int i1, .int i2]) (st' := [.int i1, .ref b17]) 1 am_q246 rfl ?_
      obtain ⟨g19, g20, H⟩ := H
      refine ev_s (pc' := 39) (loc' := [.ref a0, .int i1, .int i2]) (st' := [.long (am_gl h15 b17 (Int32.toNatClampNeg i1))]) (h1 := h15) am_q246 rfl rfl rfl (am_xx g19 g20) ?_
      exact ev_r (v := some (.long (am_gl h15 b17 (Int32.toNatClampNeg i1)))) am_q246 rfl rfl rfl rfl H
    · replace H := H.2 hq
      refine ev_p (pc' := 21) (loc' := [.null, .null, .null]) (st' := [.long (-4611686018427387904 : Int64)]) 1 am_q246 rfl ?_
      exact ev_r (v := some (.long (-4611686018427387904 : Int64))) am_q246 rfl rfl rfl rfl H
/-! 247: X12_year -/
theorem am_q247 : (am_mt 247).2.2.2.2.2 = am_m247.2.2.2.2.2 := rfl
set_option maxRecDepth 20000 in
set_option maxHeartbeats 2000000 in
theorem wp247 {d : Nat} (a0 : Nat) (i1 : Int32) (i2 : Int32) {h : AH} {Q : Option Value → AH → Prop} (H : Cl d 167 [.int i1, .int (0 : Int32), .int (39 : Int32)] h (fun r2 h1 => ∃ x3, r2 = some (.int x3) ∧ (x3 = (0 : Int32) → Q (some (.int (-2 : Int32))) h1) ∧ (¬ x3 = (0 : Int32) → Cl d 167 [.int i2, .int (0 : Int32), .int (1000000 : Int32)] h1 (fun r5 h4 => ∃ x6, r5 = some (.int x6) ∧ ((¬ x6 = (0 : Int32)) → am_kd h4 a0 = 12 ∧ ∃ b8, am_gr h4 a0 41 = some b8 ∧ am_kd h4 b8 = 100 ∧ am_in i1 (am_ln h4 b8) ∧ am_kd h4 a0 = 12 ∧ ∃ b13, am_gr h4 a0 41 = some b13 ∧ (am_kd h4 b13 = 100 ∧ 6 ≤ b13) ∧ am_in i1 (am_ln h4 b13) ∧ ∀ h17, h17 = am_si h4 b13 (Int32.toNatClampNeg i1) i2 → Q (some (.int (am_gi h4 b8 (Int32.toNatClampNeg i1)))) h17) ∧ (¬ (¬ x6 = (0 : Int32)) → Q (some (.int (-2 : Int32))) h4))))) : Cl (d + 1) 247 [.ref a0, .int i1, .int i2] h Q := by
  show Ev (d + 1) 247 0 [.ref a0, .int i1, .int i2, .null] [] h Q
  refine ev_p (pc' := 4) (loc' := [.ref a0, .int i1, .int i2, .null]) (st' := [.int (39 : Int32), .int (0 : Int32), .int i1]) 3 am_q247 rfl ?_
  refine ev_c (vs := [.int i1, .int (0 : Int32), .int (39 : Int32)]) (rest := []) 167 am_q247 rfl rfl rfl rfl rfl rfl rfl rfl rfl rfl rfl rfl (Or.inl rfl) (Cl.mono H (Nat.le_refl _) (fun r2 h1 H => ?_))
  obtain ⟨x3, rfl, H⟩ := H
  refine ev_jz (t := 20) am_q247 rfl rfl (fun hq => ?_) (fun hq => ?_)
  · replace H := H.1 hq
    refine ev_p (pc' := 22) (loc' := [.null, .null, .null, .null]) (st' := [.int (-2 : Int32)]) 1 am_q247 rfl ?_
    exact ev_r (v := some (.int (-2 : Int32))) am_q247 rfl rfl rfl rfl H
  · replace H := H.2 hq
    refine ev_p (pc' := 14) (loc' := [.ref a0, .int i1, .int i2, .null]) (st' := [.int (1000000 : Int32), .int (0 : Int32), .int i2]) 3 am_q247 rfl ?_
    refine ev_c (vs := [.int i2, .int (0 : Int32), .int (1000000 : Int32)]) (rest := []) 167 am_q247 rfl rfl rfl rfl rfl rfl rfl rfl rfl rfl rfl rfl (Or.inl rfl) (Cl.mono H (Nat.le_refl _) (fun r5 h4 H => ?_))
    obtain ⟨x6, rfl, H⟩ := H
    refine ev_jz (t := 23) am_q247 rfl rfl (fun hq => ?_) (fun hq => ?_)
    · replace H := H.1 hq
      refine ev_p (pc' := 24) (loc' := [.ref a0, .int i1, .int i2, .null]) (st' := [.ref a0]) 1 am_q247 rfl ?_
      obtain ⟨g7, b8, e9, H⟩ := H
      refine ev_s (pc' := 27) (loc' := [.ref a0, .int i1, .int i2, .null]) (st' := [.ref b8]) (h1 := h4) am_q247 rfl rfl rfl (am_gf2 g7 e9) ?_
      refine ev_p (pc' := 28) (loc' := [.ref a0, .int i1, .int i2, .null]) (st' := [.int i1, .ref b8]) 1 am_q247 rfl ?_
      obtain ⟨g10, g11, H⟩ := H
      refine ev_s (pc' := 29) (loc' := [.ref a0, .int i1, .int i2, .null]) (st' := [.int (am_gi h4 b8 (Int32.toNatClampNeg i1))]) (h1 := h4) am_q247 rfl rfl rfl (am_xx g10 g11) ?_
      refine ev_p (pc' := 31) (loc' := [.ref a0, .int i1, .int i2, .int (am_gi h4 b8 (Int32.toNatClampNeg i1))]) (st' := [.ref a0]) 2 am_q247 rfl ?_
      obtain ⟨g12, b13, e14, H⟩ := H
      refine ev_s (pc' := 34) (loc' := [.ref a0, .int i1, .int i2, .int (am_gi h4 b8 (Int32.toNatClampNeg i1))]) (st' := [.ref b13]) (h1 := h4) am_q247 rfl rfl rfl (am_gf2 g12 e14) ?_
      refine ev_p (pc' := 36) (loc' := [.ref a0, .int i1, .int i2, .int (am_gi h4 b8 (Int32.toNatClampNeg i1))]) (st' := [.int i2, .int i1, .ref b13]) 2 am_q247 rfl ?_
      obtain ⟨g15, g16, H⟩ := H
      refine ev_s (pc' := 37) (loc' := [.ref a0, .int i1, .int i2, .int (am_gi h4 b8 (Int32.toNatClampNeg i1))]) (st' := []) (h1 := am_si h4 b13 (Int32.toNatClampNeg i1) i2) am_q247 rfl rfl rfl (am_xx g15 g16) ?_
      replace H := H _ rfl
      generalize am_si h4 b13 (Int32.toNatClampNeg i1) i2 = h17 at H ⊢
      refine ev_p (pc' := 38) (loc' := [.ref a0, .int i1, .int i2, .int (am_gi h4 b8 (Int32.toNatClampNeg i1))]) (st' := [.int (am_gi h4 b8 (Int32.toNatClampNeg i1))]) 1 am_q247 rfl ?_
      exact ev_r (v := some (.int (am_gi h4 b8 (Int32.toNatClampNeg i1)))) am_q247 rfl rfl rfl rfl H
    · replace H := H.2 hq
      refine ev_p (pc' := 22) (loc' := [.null, .null, .null, .null]) (st' := [.int (-2 : Int32)]) 1 am_q247 rfl ?_
      exact ev_r (v := some (.int (-2 : Int32))) am_q247 rfl rfl rfl rfl H
/-! 248: X12_gain -/
theorem am_q248 : (am_mt 248).2.2.2.2.2 = am_m248.2.2.2.2.2 := rfl
set_option maxRecDepth 20000 in
set_option maxHeartbeats 2000000 in
theorem wp248 {d : Nat} (a0 : Nat) (i1 : Int32) {h : AH} {Q : Option Value → AH → Prop} (H : Cl d 167 [.int i1, .int (0 : Int32), .int (100 : Int32)] h (fun r2 h1 => ∃ x3, r2 = some (.int x3) ∧ ((¬ x3 = (0 : Int32)) → am_kd h1 a0 = 12 ∧ am_kd h1 a0 = 12 ∧ ∀ h6, h6 = am_si h1 a0 42 i1 → Q (some (.int (am_gi h1 a0 42))) h6) ∧ (¬ (¬ x3 = (0 : Int32)) → Q (some (.int (-2 : Int32))) h1))) : Cl (d + 1) 248 [.ref a0, .int i1] h Q := by
  show Ev (d + 1) 248 0 [.ref a0, .int i1, .null] [] h Q
  refine ev_p (pc' := 4) (loc' := [.ref a0, .int i1, .null]) (st' := [.int (100 : Int32), .int (0 : Int32), .int i1]) 3 am_q248 rfl ?_
  refine ev_c (vs := [.int i1, .int (0 : Int32), .int (100 : Int32)]) (rest := []) 167 am_q248 rfl rfl rfl rfl rfl rfl rfl rfl rfl rfl rfl rfl (Or.inl rfl) (Cl.mono H (Nat.le_refl _) (fun r2 h1 H => ?_))
  obtain ⟨x3, rfl, H⟩ := H
  refine ev_jz (t := 13) am_q248 rfl rfl (fun hq => ?_) (fun hq => ?_)
  · replace H := H.1 hq
    refine ev_p (pc' := 14) (loc' := [.ref a0, .int i1, .null]) (st' := [.ref a0]) 1 am_q248 rfl ?_
    obtain ⟨g4, H⟩ := H
    refine ev_s (pc' := 17) (loc' := [.ref a0, .int i1, .null]) (st' := [.int (am_gi h1 a0 42)]) (h1 := h1) am_q248 rfl rfl rfl (if_pos (e := none) g4) ?_
    refine ev_p (pc' := 20) (loc' := [.ref a0, .int i1, .int (am_gi h1 a0 42)]) (st' := [.int i1, .ref a0]) 3 am_q248 rfl ?_
    obtain ⟨g5, H⟩ := H
    refine ev_s (pc' := 23) (loc' := [.ref a0, .int i1, .int (am_gi h1 a0 42)]) (st' := []) (h1 := am_si h1 a0 42 i1) am_q248 rfl rfl rfl (if_pos (e := none) g5) ?_
    replace H := H _ rfl
    generalize am_si h1 a0 42 i1 = h6 at H ⊢
    refine ev_p (pc' := 24) (loc' := [.ref a0, .int i1, .int (am_gi h1 a0 42)]) (st' := [.int (am_gi h1 a0 42)]) 1 am_q248 rfl ?_
    exact ev_r (v := some (.int (am_gi h1 a0 42))) am_q248 rfl rfl rfl rfl H
  · replace H := H.2 hq
    refine ev_p (pc' := 12) (loc' := [.ref a0, .int i1, .null]) (st' := [.int (-2 : Int32)]) 1 am_q248 rfl ?_
    exact ev_r (v := some (.int (-2 : Int32))) am_q248 rfl rfl rfl rfl H
/-! 249: X12_funded -/
theorem am_q249 : (am_mt 249).2.2.2.2.2 = am_m249.2.2.2.2.2 := rfl
set_option maxRecDepth 20000 in
set_option maxHeartbeats 2000000 in
theorem wp249 {d : Nat} (a0 : Nat) (i1 : Int32) (i2 : Int32) {h : AH} {Q : Option Value → AH → Prop} (H : am_kd h a0 = 12 ∧ ∀ h2, h2 = am_sl h a0 70 (0 : Int64) → Ev d 249 10 [.ref a0, .int i1, .int i2, .long (0 : Int64), .null, .int (0 : Int32)] [] h2 Q) : Cl d 249 [.ref a0, .int i1, .int i2] h Q := by
  show Ev d 249 0 [.ref a0, .int i1, .int i2, .null, .null, .null] [] h Q
  refine ev_p (pc' := 4) (loc' := [.ref a0, .int i1, .int i2, .long (0 : Int64), .null, .null]) (st' := [.long (0 : Int64), .ref a0]) 4 am_q249 rfl ?_
  obtain ⟨g1, H⟩ := H
  refine ev_s (pc' := 7) (loc' := [.ref a0, .int i1, .int i2, .long (0 : Int64), .null, .null]) (st' := []) (h1 := am_sl h a0 70 (0 : Int64)) am_q249 rfl rfl rfl (if_pos (e := none) g1) ?_
  replace H := H _ rfl
  generalize am_sl h a0 70 (0 : Int64) = h2 at H ⊢
  refine ev_p (pc' := 10) (loc' := [.ref a0, .int i1, .int i2, .long (0 : Int64), .null, .int (0 : Int32)]) (st' := []) 2 am_q249 rfl ?_
  exact ev_m (loc' := [.ref a0, .int i1, .int i2, .long (0 : Int64), .null, .int (0 : Int32)]) am_q249 rfl rfl H
set_option maxRecDepth 20000 in
set_option maxHeartbeats 2000000 in
theorem wp249_10 {d : Nat} (a0 : Nat) (i1 : Int32) (i2 : Int32) (l3 : Int64) (i5 : Int32) {h : AH} {Q : Option Value → AH → Prop} (H : (i1 < i5 → Q (some (.long l3)) h) ∧ (¬ i1 < i5 → am_kd h a0 = 12 ∧ ¬ (1000 : Int64) = (0 : Int64) ∧ am_kd h a0 = 12 ∧ ∃ b4, am_gr h a0 41 = some b4 ∧ am_kd h b4 = 100 ∧ am_in i5 (am_ln h b4) ∧ am_kd h a0 = 12 ∧ ((0 : Int32) ≤ (lg_cmp (((l3 + (Int32.toInt64 i2)) + (((l3 + (Int32.toInt64 i2)) * (Int32.toInt64 (am_gi h a0 42))) / (1000 : Int64))) - (Int32.toInt64 (am_gi h b4 (Int32.toNatClampNeg i5)))) (am_gl h a0 70)) → am_kd h a0 = 12 ∧ am_kd h a0 = 12 ∧ ∀ h11, h11 = am_sl h a0 70 (am_gl h a0 70) → Ev d 249 10 [.ref a0, .int i1, .int i2, .long (((l3 + (Int32.toInt64 i2)) + (((l3 + (Int32.toInt64 i2)) * (Int32.toInt64 (am_gi h a0 42))) / (1000 : Int64))) - (Int32.toInt64 (am_gi h b4 (Int32.toNatClampNeg i5)))), .null, .int (i5 + (1 : Int32))] [] h11 Q) ∧ (¬ (0 : Int32) ≤ (lg_cmp (((l3 + (Int32.toInt64 i2)) + (((l3 + (Int32.toInt64 i2)) * (Int32.toInt64 (am_gi h a0 42))) / (1000 : Int64))) - (Int32.toInt64 (am_gi h b4 (Int32.toNatClampNeg i5)))) (am_gl h a0 70)) → am_kd h a0 = 12 ∧ ∀ h13, h13 = am_sl h a0 70 (((l3 + (Int32.toInt64 i2)) + (((l3 + (Int32.toInt64 i2)) * (Int32.toInt64 (am_gi h a0 42))) / (1000 : Int64))) - (Int32.toInt64 (am_gi h b4 (Int32.toNatClampNeg i5)))) → Ev d 249 10 [.ref a0, .int i1, .int i2, .long (((l3 + (Int32.toInt64 i2)) + (((l3 + (Int32.toInt64 i2)) * (Int32.toInt64 (am_gi h a0 42))) / (1000 : Int64))) - (Int32.toInt64 (am_gi h b4 (Int32.toNatClampNeg i5)))), .null, .int (i5 + (1 : Int32))] [] h13 Q))) : Ev d 249 10 [.ref a0, .int i1, .int i2, .long l3, .null, .int i5] [] h Q := by
  refine ev_p (pc' := 13) (loc' := [.ref a0, .int i1, .int i2, .long l3, .null, .int i5]) (st' := [.int i1, .int i5]) 2 am_q249 rfl ?_
  refine ev_jc (t := 73) am_q249 rfl rfl (fun hq => ?_) (fun hq => ?_)
  · replace H := H.1 hq
    refine ev_p (pc' := 74) (loc' := [.ref a0, .int i1, .int i2, .long l3, .null, .int i5]) (st' := [.long l3]) 1 am_q249 rfl ?_
    exact ev_r (v := some (.long l3)) am_q249 rfl rfl rfl rfl H
  · replace H := H.2 hq
    refine ev_p (pc' := 24) (loc' := [.ref a0, .int i1, .int i2, .long (l3 + (Int32.toInt64 i2)), .null, .int i5]) (st' := [.ref a0, .long (l3 + (Int32.toInt64 i2)), .long (l3 + (Int32.toInt64 i2))]) 8 am_q249 rfl ?_
    obtain ⟨g1, H⟩ := H
    refine ev_s (pc' := 27) (loc' := [.ref a0, .int i1, .int i2, .long (l3 + (Int32.toInt64 i2)), .null, .int i5]) (st' := [.int (am_gi h a0 42), .long (l3 + (Int32.toInt64 i2)), .long (l3 + (Int32.toInt64 i2))]) (h1 := h) am_q249 rfl rfl rfl (if_pos (e := none) g1) ?_
    refine ev_p (pc' := 32) (loc' := [.ref a0, .int i1, .int i2, .long (l3 + (Int32.toInt64 i2)), .null, .int i5]) (st' := [.long (1000 : Int64), .long ((l3 + (Int32.toInt64 i2)) * (Int32.toInt64 (am_gi h a0 42))), .long (l3 + (Int32.toInt64 i2))]) 3 am_q249 rfl ?_
    obtain ⟨g2, H⟩ := H
    refine ev_s (pc' := 33) (loc' := [.ref a0, .int i1, .int i2, .long (l3 + (Int32.toInt64 i2)), .null, .int i5]) (st' := [.long (((l3 + (Int32.toInt64 i2)) * (Int32.toInt64 (am_gi h a0 42))) / (1000 : Int64)), .long (l3 + (Int32.toInt64 i2))]) (h1 := h) am_q249 rfl rfl rfl (if_neg (t := none) g2) ?_
    refine ev_p (pc' := 37) (loc' := [.ref a0, .int i1, .int i2, .long ((l3 + (Int32.toInt64 i2)) + (((l3 + (Int32.toInt64 i2)) * (Int32.toInt64 (am_gi h a0 42))) / (1000 : Int64))), .null, .int i5]) (st' := [.ref a0, .long ((l3 + (Int32.toInt64 i2)) + (((l3 + (Int32.toInt64 i2)) * (Int32.toInt64 (am_gi h a0 42))) / (1000 : Int64)))]) 4 am_q249 rfl ?_
    obtain ⟨g3, b4, e5, H⟩ := H
    refine ev_s (pc' := 40) (loc' := [.ref a0, .int i1, .int i2, .long ((l3 + (Int32.toInt64 i2)) + (((l3 + (Int32.toInt64 i2)) * (Int32.toInt64 (am_gi h a0 42))) / (1000 : Int64))), .null, .int i5]) (st' := [.ref b4, .long ((l3 + (Int32.toInt64 i2)) + (((l3 + (Int32.toInt64 i2)) * (Int32.toInt64 (am_gi h a0 42))) / (1000 : Int64)))]) (h1 := h) am_q249 rfl rfl rfl (am_gf2 g3 e5) ?_
    refine ev_p (pc' := 42) (loc' := [.ref a0, .int i1, .int i2, .long ((l3 + (Int32.toInt64 i2)) + (((l3 + (Int32.toInt64 i2)) * (Int32.toInt64 (am_gi h a0 42))) / (1000 : Int64))), .null, .int i5]) (st' := [.int i5, .ref b4, .long ((l3 + (Int32.toInt64 i2)) + (((l3 + (Int32.toInt64 i2)) * (Int32.toInt64 (am_gi h a0 42))) / (1000 : Int64)))]) 1 am_q249 rfl ?_
    obtain ⟨g6, g7, H⟩ := H
    refine ev_s (pc' := 43) (loc' := [.ref a0, .int i1, .int i2, .long ((l3 + (Int32.toInt64 i2)) + (((l3 + (Int32.toInt64 i2)) * (Int32.toInt64 (am_gi h a0 42))) / (1000 : Int64))), .null, .int i5]) (st' := [.int (am_gi h b4 (Int32.toNatClampNeg i5)), .long ((l3 + (Int32.toInt64 i2)) + (((l3 + (Int32.toInt64 i2)) * (Int32.toInt64 (am_gi h a0 42))) / (1000 : Int64)))]) (h1 := h) am_q249 rfl rfl rfl (am_xx g6 g7) ?_
    refine ev_p (pc' := 49) (loc' := [.ref a0, .int i1, .int i2, .long (((l3 + (Int32.toInt64 i2)) + (((l3 + (Int32.toInt64 i2)) * (Int32.toInt64 (am_gi h a0 42))) / (1000 : Int64))) - (Int32.toInt64 (am_gi h b4 (Int32.toNatClampNeg i5)))), .null, .int i5]) (st' := [.ref a0, .long (((l3 + (Int32.toInt64 i2)) + (((l3 + (Int32.toInt64 i2)) * (Int32.toInt64 (am_gi h a0 42))) / (1000 : Int64))) - (Int32.toInt64 (am_gi h b4 (Int32.toNatClampNeg i5)))), .ref a0]) 6 am_q249 rfl ?_
    obtain ⟨g8, H⟩ := H
    refine ev_s (pc' := 52) (loc' := [.ref a0, .int i1, .int i2, .long (((l3 + (Int32.toInt64 i2)) + (((l3 + (Int32.toInt64 i2)) * (Int32.toInt64 (am_gi h a0 42))) / (1000 : Int64))) - (Int32.toInt64 (am_gi h b4 (Int32.toNatClampNeg i5)))), .null, .int i5]) (st' := [.long (am_gl h a0 70), .long (((l3 + (Int32.toInt64 i2)) + (((l3 + (Int32.toInt64 i2)) * (Int32.toInt64 (am_gi h a0 42))) / (1000 : Int64))) - (Int32.toInt64 (am_gi h b4 (Int32.toNatClampNeg i5)))), .ref a0]) (h1 := h) am_q249 rfl rfl rfl (if_pos (e := none) g8) ?_
    refine ev_p (pc' := 53) (loc' := [.ref a0, .int i1, .int i2, .long (((l3 + (Int32.toInt64 i2)) + (((l3 + (Int32.toInt64 i2)) * (Int32.toInt64 (am_gi h a0 42))) / (1000 : Int64))) - (Int32.toInt64 (am_gi h b4 (Int32.toNatClampNeg i5)))), .null, .int i5]) (st' := [.int (lg_cmp (((l3 + (Int32.toInt64 i2)) + (((l3 + (Int32.toInt64 i2)) * (Int32.toInt64 (am_gi h a0 42))) / (1000 : Int64))) - (Int32.toInt64 (am_gi h b4 (Int32.toNatClampNeg i5)))) (am_gl h a0 70)), .ref a0]) 1 am_q249 rfl ?_
    refine ev_jz (t := 60) am_q249 rfl rfl (fun hq => ?_) (fun hq => ?_)
    · replace H := H.1 hq
      refine ev_p (pc' := 61) (loc' := [.ref a0, .int i1, .int i2, .long (((l3 + (Int32.toInt64 i2)) + (((l3 + (Int32.toInt64 i2)) * (Int32.toInt64 (am_gi h a0 42))) / (1000 : Int64))) - (Int32.toInt64 (am_gi h b4 (Int32.toNatClampNeg i5)))), .null, .int i5]) (st' := [.ref a0, .ref a0]) 1 am_q249 rfl ?_
      obtain ⟨g9, H⟩ := H
      refine ev_s (pc' := 64) (loc' := [.ref a0, .int i1, .int i2, .long (((l3 + (Int32.toInt64 i2)) + (((l3 + (Int32.toInt64 i2)) * (Int32.toInt64 (am_gi h a0 42))) / (1000 : Int64))) - (Int32.toInt64 (am_gi h b4 (Int32.toNatClampNeg i5)))), .null, .int i5]) (st' := [.long (am_gl h a0 70), .ref a0]) (h1 := h) am_q249 rfl rfl rfl (if_pos (e := none) g9) ?_
      obtain ⟨g10, H⟩ := H
      refine ev_s (pc' := 67) (loc' := [.ref a0, .int i1, .int i2, .long (((l3 + (Int32.toInt64 i2)) + (((l3 + (Int32.toInt64 i2)) * (Int32.toInt64 (am_gi h a0 42))) / (1000 : Int64))) - (Int32.toInt64 (am_gi h b4 (Int32.toNatClampNeg i5)))), .null, .int i5]) (st' := []) (h1 := am_sl h a0 70 (am_gl h a0 70)) am_q249 rfl rfl rfl (if_pos (e := none) g10) ?_
      replace H := H _ rfl
      generalize am_sl h a0 70 (am_gl h a0 70) = h11 at H ⊢
      refine ev_p (pc' := 10) (loc' := [.ref a0, .int i1, .int i2, .long (((l3 + (Int32.toInt64 i2)) + (((l3 + (Int32.toInt64 i2)) * (Int32.toInt64 (am_gi h a0 42))) / (1000 : Int64))) - (Int32.toInt64 (am_gi h b4 (Int32.toNatClampNeg i5)))), .null, .int (i5 + (1 : Int32))]) (st' := []) 2 am_q249 rfl ?_
      exact ev_m (loc' := [.ref a0, .int i1, .int i2, .long (((l3 + (Int32.toInt64 i2)) + (((l3 + (Int32.toInt64 i2)) * (Int32.toInt64 (am_gi h a0 42))) / (1000 : Int64))) - (Int32.toInt64 (am_gi h b4 (Int32.toNatClampNeg i5)))), .null, .int (i5 + (1 : Int32))]) am_q249 rfl rfl H
    · replace H := H.2 hq
      refine ev_p (pc' := 64) (loc' := [.ref a0, .int i1, .int i2, .long (((l3 + (Int32.toInt64 i2)) + (((l3 + (Int32.toInt64 i2)) * (Int32.toInt64 (am_gi h a0 42))) / (1000 : Int64))) - (Int32.toInt64 (am_gi h b4 (Int32.toNatClampNeg i5)))), .null, .int i5]) (st' := [.long (((l3 + (Int32.toInt64 i2)) + (((l3 + (Int32.toInt64 i2)) * (Int32.toInt64 (am_gi h a0 42))) / (1000 : Int64))) - (Int32.toInt64 (am_gi h b4 (Int32.toNatClampNeg i5)))), .ref a0]) 2 am_q249 rfl ?_
      obtain ⟨g12, H⟩ := H
      refine ev_s (pc' := 67) (loc' := [.ref a0, .int i1, .int i2, .long (((l3 + (Int32.toInt64 i2)) + (((l3 + (Int32.toInt64 i2)) * (Int32.toInt64 (am_gi h a0 42))) / (1000 : Int64))) - (Int32.toInt64 (am_gi h b4 (Int32.toNatClampNeg i5)))), .null, .int i5]) (st' := []) (h1 := am_sl h a0 70 (((l3 + (Int32.toInt64 i2)) + (((l3 + (Int32.toInt64 i2)) * (Int32.toInt64 (am_gi h a0 42))) / (1000 : Int64))) - (Int32.toInt64 (am_gi h b4 (Int32.toNatClampNeg i5))))) am_q249 rfl rfl rfl (if_pos (e := none) g12) ?_
      replace H := H _ rfl
      generalize am_sl h a0 70 (((l3 + (Int32.toInt64 i2)) + (((l3 + (Int32.toInt64 i2)) * (Int32.toInt64 (am_gi h a0 42))) / (1000 : Int64))) - (Int32.toInt64 (am_gi h b4 (Int32.toNatClampNeg i5)))) = h13 at H ⊢
      refine ev_p (pc' := 10) (loc' := [.ref a0, .int i1, .int i2, .long (((l3 + (Int32.toInt64 i2)) + (((l3 + (Int32.toInt64 i2)) * (Int32.toInt64 (am_gi h a0 42))) / (1000 : Int64))) - (Int32.toInt64 (am_gi h b4 (Int32.toNatClampNeg i5)))), .null, .int (i5 + (1 : Int32))]) (st' := []) 2 am_q249 rfl ?_
      exact ev_m (loc' := [.ref a0, .int i1, .int i2, .long (((l3 + (Int32.toInt64 i2)) + (((l3 + (Int32.toInt64 i2)) * (Int32.toInt64 (am_gi h a0 42))) / (1000 : Int64))) - (Int32.toInt64 (am_gi h b4 (Int32.toNatClampNeg i5)))), .null, .int (i5 + (1 : Int32))]) am_q249 rfl rfl H
/-! 250: X12_due -/
theorem am_q250 : (am_mt 250).2.2.2.2.2 = am_m250.2.2.2.2.2 := rfl
set_option maxRecDepth 20000 in
set_option maxHeartbeats 2000000 in
theorem wp250 {d : Nat} (a0 : Nat) {h : AH} {Q : Option Value → AH → Prop} (H : Ev (d + 1) 250 5 [.ref a0, .int (0 : Int32), .int (1000000 : Int32), .null] [] h Q) : Cl (d + 1) 250 [.ref a0] h Q := by
  show Ev (d + 1) 250 0 [.ref a0, .null, .null, .null] [] h Q
  refine ev_p (pc' := 5) (loc' := [.ref a0, .int (0 : Int32), .int (1000000 : Int32), .null]) (st' := []) 4 am_q250 rfl ?_
  exact ev_m (loc' := [.ref a0, .int (0 : Int32), .int (1000000 : Int32), .null]) am_q250 rfl rfl H
set_option maxRecDepth 20000 in
set_option maxHeartbeats 2000000 in
theorem wp250_5 {d : Nat} (a0 : Nat) (i1 : Int32) (i2 : Int32) {h : AH} {Q : Option Value → AH → Prop} (H : (i2 ≤ i1 → Q (some (.int i1)) h) ∧ (¬ i2 ≤ i1 → ¬ (2 : Int32) = (0 : Int32) ∧ am_kd h a0 = 12 ∧ Cl d 249 [.ref a0, .int (39 : Int32), .int ((i1 + i2) / (2 : Int32))] h (fun r3 h2 => ∃ y5, r3 = some (.long y5) ∧ am_kd h2 a0 = 12 ∧ ((0 : Int32) ≤ (lg_cmp (am_gl h2 a0 70) (0 : Int64)) → Ev (d + 1) 250 5 [.ref a0, .int i1, .int ((i1 + i2) / (2 : Int32)), .null] [] h2 Q) ∧ (¬ (0 : Int32) ≤ (lg_cmp (am_gl h2 a0 70) (0 : Int64)) → Ev (d + 1) 250 5 [.ref a0, .int (((i1 + i2) / (2 : Int32)) + (1 : Int32)), .int i2, .null] [] h2 Q)))) : Ev (d + 1) 250 5 [.ref a0, .int i1, .int i2, .null] [] h Q := by
  refine ev_p (pc' := 7) (loc' := [.ref a0, .int i1, .int i2, .null]) (st' := [.int i2, .int i1]) 2 am_q250 rfl ?_
  refine ev_jc (t := 45) am_q250 rfl rfl (fun hq => ?_) (fun hq => ?_)
  · replace H := H.1 hq
    refine ev_p (pc' := 46) (loc' := [.ref a0, .int i1, .int i2, .null]) (st' := [.int i1]) 1 am_q250 rfl ?_
    exact ev_r (v := some (.int i1)) am_q250 rfl rfl rfl rfl H
  · replace H := H.2 hq
    refine ev_p (pc' := 14) (loc' := [.ref a0, .int i1, .int i2, .null]) (st' := [.int (2 : Int32), .int (i1 + i2)]) 4 am_q250 rfl ?_
    obtain ⟨g1, H⟩ := H
    refine ev_s (pc' := 15) (loc' := [.ref a0, .int i1, .int i2, .null]) (st' := [.int ((i1 + i2) / (2 : Int32))]) (h1 := h) am_q250 rfl rfl rfl (if_neg (t := none) g1) ?_
    refine ev_p (pc' := 20) (loc' := [.ref a0, .int i1, .int i2, .int ((i1 + i2) / (2 : Int32))]) (st' := [.int ((i1 + i2) / (2 : Int32)), .int (39 : Int32), .ref a0]) 4 am_q250 rfl ?_
    obtain ⟨g4, H⟩ := H
    refine ev_c (vs := [.ref a0, .int (39 : Int32), .int ((i1 + i2) / (2 : Int32))]) (rest := []) 249 am_q250 rfl rfl rfl rfl rfl rfl rfl rfl rfl rfl rfl rfl (Or.inr (congrArg some g4)) (Cl.mono H (Nat.le_refl _) (fun r3 h2 H => ?_))
    obtain ⟨y5, rfl, H⟩ := H
    refine ev_p (pc' := 25) (loc' := [.ref a0, .int i1, .int i2, .int ((i1 + i2) / (2 : Int32))]) (st' := [.ref a0]) 2 am_q250 rfl ?_
    obtain ⟨g6, H⟩ := H
    refine ev_s (pc' := 28) (loc' := [.ref a0, .int i1, .int i2, .int ((i1 + i2) / (2 : Int32))]) (st' := [.long (am_gl h2 a0 70)]) (h1 := h2) am_q250 rfl rfl rfl (if_pos (e := none) g6) ?_
    refine ev_p (pc' := 30) (loc' := [.ref a0, .int i1, .int i2, .int ((i1 + i2) / (2 : Int32))]) (st' := [.int (lg_cmp (am_gl h2 a0 70) (0 : Int64))]) 2 am_q250 rfl ?_
    refine ev_jz (t := 40) am_q250 rfl rfl (fun hq => ?_) (fun hq => ?_)
    · replace H := H.1 hq
      refine ev_p (pc' := 5) (loc' := [.ref a0, .int i1, .int ((i1 + i2) / (2 : Int32)), .null]) (st' := []) 3 am_q250 rfl ?_
      exact ev_m (loc' := [.ref a0, .int i1, .int ((i1 + i2) / (2 : Int32)), .null]) am_q250 rfl rfl H
    · replace H := H.2 hq
      refine ev_p (pc' := 5) (loc' := [.ref a0, .int (((i1 + i2) / (2 : Int32)) + (1 : Int32)), .int i2, .null]) (st' := []) 6 am_q250 rfl ?_
      exact ev_m (loc' := [.ref a0, .int (((i1 + i2) / (2 : Int32)) + (1 : Int32)), .int i2, .null]) am_q250 rfl rfl H
/-! 251: X12_fund -/
theorem am_q251 : (am_mt 251).2.2.2.2.2 = am_m251.2.2.2.2.2 := rfl
set_option maxRecDepth 20000 in
set_option maxHeartbeats 2000000 in
theorem wp251 {d : Nat} (a0 : Nat) (i1 : Int32) (i2 : Int32) {h : AH} {Q : Option Value → AH → Prop} (H : Cl d 167 [.int i1, .int (0 : Int32), .int (39 : Int32)] h (fun r2 h1 => ∃ x3, r2 = some (.int x3) ∧ (x3 = (0 : Int32) → Q (some (.long (-4611686018427387904 : Int64))) h1) ∧ (¬ x3 = (0 : Int32) → Cl d 167 [.int i2, .int (0 : Int32), .int (1000000 : Int32)] h1 (fun r5 h4 => ∃ x6, r5 = some (.int x6) ∧ (x6 = (0 : Int32) → Q (some (.long (-4611686018427387904 : Int64))) h4) ∧ (¬ x6 = (0 : Int32) → am_kd h4 a0 = 12 ∧ Cl d 249 [.ref a0, .int i1, .int i2] h4 (fun r8 h7 => ∃ y10, r8 = some (.long y10) ∧ Q (some (.long y10)) h7)))))) : Cl (d + 1) 251 [.ref a0, .int i1, .int i2] h Q := by
  show Ev (d + 1) 251 0 [.ref a0, .int i1, .int i2] [] h Q
  refine ev_p (pc' := 4) (loc' := [.ref a0, .int i1, .int i2]) (st' := [.int (39 : Int32), .int (0 : Int32), .int i1]) 3 am_q251 rfl ?_
  refine ev_c (vs := [.int i1, .int (0 : Int32), .int (39 : Int32)]) (rest := []) 167 am_q251 rfl rfl rfl rfl rfl rfl rfl rfl rfl rfl rfl rfl (Or.inl rfl) (Cl.mono H (Nat.le_refl _) (fun r2 h1 H => ?_))
  obtain ⟨x3, rfl, H⟩ := H
  refine ev_jz (t := 29) am_q251 rfl rfl (fun hq => ?_) (fun hq => ?_)
  · replace H := H.1 hq
    refine ev_p (pc' := 32) (loc' := [.null, .null, .null]) (st' := [.long (-4611686018427387904 : Int64)]) 1 am_q251 rfl ?_
    exact ev_r (v := some (.long (-4611686018427387904 : Int64))) am_q251 rfl rfl rfl rfl H
  · replace H := H.2 hq
    refine ev_p (pc' := 14) (loc' := [.ref a0, .int i1, .int i2]) (st' := [.int (1000000 : Int32), .int (0 : Int32), .int i2]) 3 am_q251 rfl ?_
    refine ev_c (vs := [.int i2, .int (0 : Int32), .int (1000000 : Int32)]) (rest := []) 167 am_q251 rfl rfl rfl rfl rfl rfl rfl rfl rfl rfl rfl rfl (Or.inl rfl) (Cl.mono H (Nat.le_refl _) (fun r5 h4 H => ?_))
    obtain ⟨x6, rfl, H⟩ := H
    refine ev_jz (t := 29) am_q251 rfl rfl (fun hq => ?_) (fun hq => ?_)
    · replace H := H.1 hq
      refine ev_p (pc' := 32) (loc' := [.null, .null, .null]) (st' := [.long (-4611686018427387904 : Int64)]) 1 am_q251 rfl ?_
      exact ev_r (v := some (.long (-4611686018427387904 : Int64))) am_q251 rfl rfl rfl rfl H
    · replace H := H.2 hq
      refine ev_p (pc' := 23) (loc' := [.ref a0, .int i1, .int i2]) (st' := [.int i2, .int i1, .ref a0]) 3 am_q251 rfl ?_
      obtain ⟨g9, H⟩ := H
      refine ev_c (vs := [.ref a0, .int i1, .int i2]) (rest := []) 249 am_q251 rfl rfl rfl rfl rfl rfl rfl rfl rfl rfl rfl rfl (Or.inr (congrArg some g9)) (Cl.mono H (Nat.le_refl _) (fun r8 h7 H => ?_))
      obtain ⟨y10, rfl, H⟩ := H
      refine ev_p (pc' := 32) (loc' := [.ref a0, .int i1, .int i2]) (st' := [.long y10]) 1 am_q251 rfl ?_
      exact ev_r (v := some (.long y10)) am_q251 rfl rfl rfl rfl H
/-! 252: X12_count -/
theorem am_q252 : (am_mt 252).2.2.2.2.2 = am_m252.2.2.2.2.2 := rfl
set_option maxRecDepth 20000 in
set_option maxHeartbeats 2000000 in
theorem wp252 {d : Nat} (a0 : Nat) (i1 : Int32) {h : AH} {Q : Option Value → AH → Prop} (H : (i1 = (0 : Int32) → am_kd h a0 = 12 ∧ Q (some (.int (am_gi h a0 1))) h) ∧ (i1 = (1 : Int32) → am_kd h a0 = 12 ∧ Q (some (.int (am_gi h a0 7))) h) ∧ (i1 = (2 : Int32) → am_kd h a0 = 12 ∧ Cl d 214 [.ref a0] h (fun r6 h5 => ∃ x8, r6 = some (.int x8) ∧ Q (some (.int x8)) h5)) ∧ (i1 = (3 : Int32) → am_kd h a0 = 12 ∧ Q (some (.int (am_gi h a0 14))) h) ∧ (i1 = (4 : Int32) → Ev (d + 1) 252 86 [.ref a0, .null, .int (0 : Int32), .int (0 : Int32)] [] h Q) ∧ (i1 = (5 : Int32) → am_kd h a0 = 12 ∧ Q (some (.int (am_gi h a0 23))) h) ∧ (i1 = (6 : Int32) → am_kd h a0 = 12 ∧ Q (some (.int (am_gi h a0 39))) h) ∧ (i1 = (7 : Int32) → am_kd h a0 = 12 ∧ Q (some (.int (am_gi h a0 22))) h) ∧ (i1 = (8 : Int32) → am_kd h a0 = 12 ∧ Q (some (.int (am_gi h a0 0))) h) ∧ (i1 = (9 : Int32) → Ev (d + 1) 252 144 [.ref a0, .null, .int (0 : Int32), .int (0 : Int32)] [] h Q) ∧ (i1 = (10 : Int32) → Ev (d + 1) 252 180 [.ref a0, .null, .int (0 : Int32), .int (0 : Int32)] [] h Q) ∧ (i1 = (11 : Int32) → am_kd h a0 = 12 ∧ Q (some (.int (am_gi h a0 42))) h) ∧ (¬ i1 = (0 : Int32) ∧ ¬ i1 = (1 : Int32) ∧ ¬ i1 = (2 : Int32) ∧ ¬ i1 = (3 : Int32) ∧ ¬ i1 = (4 : Int32) ∧ ¬ i1 = (5 : Int32) ∧ ¬ i1 = (6 : Int32) ∧ ¬ i1 = (7 : Int32) ∧ ¬ i1 = (8 : Int32) ∧ ¬ i1 = (9 : Int32) ∧ ¬ i1 = (10 : Int32) ∧ ¬ i1 = (11 : Int32) → Q (some (.int (-2 : Int32))) h)) : Cl (d + 1) 252 [.ref a0, .int i1] h Q := by
  show Ev (d + 1) 252 0 [.ref a0, .int i1, .null, .null] [] h Q
  refine ev_p (pc' := 3) (loc' := [.ref a0, .int i1, .int (0 : Int32), .null]) (st' := [.int i1]) 3 am_q252 rfl ?_
  by_cases k2 : i1 = (0 : Int32)
  · replace H := H.1 k2
    refine ev_s (pc' := 64) (loc' := [.ref a0, .int i1, .int (0 : Int32), .null]) (st' := []) (h1 := h) am_q252 rfl rfl rfl (by rw [k2]; rfl) ?_
    refine ev_p (pc' := 65) (loc' := [.ref a0, .int i1, .int (0 : Int32), .null]) (st' := [.ref a0]) 1 am_q252 rfl ?_
    obtain ⟨g1, H⟩ := H
    refine ev_s (pc' := 68) (loc' := [.ref a0, .int i1, .int (0 : Int32), .null]) (st' := [.int (am_gi h a0 1)]) (h1 := h) am_q252 rfl rfl rfl (if_pos (e := none) g1) ?_
    exact ev_r (v := some (.int (am_gi h a0 1))) am_q252 rfl rfl rfl rfl H
  replace H := H.2
  by_cases k4 : i1 = (1 : Int32)
  · replace H := H.1 k4
    refine ev_s (pc' := 69) (loc' := [.ref a0, .int i1, .int (0 : Int32), .null]) (st' := []) (h1 := h) am_q252 rfl rfl rfl (by rw [k4]; rfl) ?_
    refine ev_p (pc' := 70) (loc' := [.ref a0, .int i1, .int (0 : Int32), .null]) (st' := [.ref a0]) 1 am_q252 rfl ?_
    obtain ⟨g3, H⟩ := H
    refine ev_s (pc' := 73) (loc' := [.ref a0, .int i1, .int (0 : Int32), .null]) (st' := [.int (am_gi h a0 7)]) (h1 := h) am_q252 rfl rfl rfl (if_pos (e := none) g3) ?_
    exact ev_r (v := some (.int (am_gi h a0 7))) am_q252 rfl rfl rfl rfl H
  replace H := H.2
  by_cases k9 : i1 = (2 : Int32)
  · replace H := H.1 k9
    refine ev_s (pc' := 74) (loc' := [.ref a0, .int i1, .int (0 : Int32), .null]) (st' := []) (h1 := h) am_q252 rfl rfl rfl (by rw [k9]; rfl) ?_
    refine ev_p (pc' := 75) (loc' := [.ref a0, .int i1, .int (0 : Int32), .null]) (st' := [.ref a0]) 1 am_q252 rfl ?_
    obtain ⟨g7, H⟩ := H
    refine ev_c (vs := [.ref a0]) (rest := []) 214 am_q252 rfl rfl rfl rfl rfl rfl rfl rfl rfl rfl rfl rfl (Or.inr (congrArg some g7)) (Cl.mono H (Nat.le_refl _) (fun r6 h5 H => ?_))
    obtain ⟨x8, rfl, H⟩ := H
    exact ev_r (v := some (.int x8)) am_q252 rfl rfl rfl rfl H
  replace H := H.2
  by_cases k11 : i1 = (3 : Int32)
  · replace H := H.1 k11
    refine ev_s (pc' := 79) (loc' := [.ref a0, .int i1, .int (0 : Int32), .null]) (st' := []) (h1 := h) am_q252 rfl rfl rfl (by rw [k11]; rfl) ?_
    refine ev_p (pc' := 80) (loc' := [.ref a0, .int i1, .int (0 : Int32), .null]) (st' := [.ref a0]) 1 am_q252 rfl ?_
    obtain ⟨g10, H⟩ := H
    refine ev_s (pc' := 83) (loc' := [.ref a0, .int i1, .int (0 : Int32), .null]) (st' := [.int (am_gi h a0 14)]) (h1 := h) am_q252 rfl rfl rfl (if_pos (e := none) g10) ?_
    exact ev_r (v := some (.int (am_gi h a0 14))) am_q252 rfl rfl rfl rfl H
  replace H := H.2
  by_cases k12 : i1 = (4 : Int32)
  · replace H := H.1 k12
    refine ev_s (pc' := 84) (loc' := [.ref a0, .int i1, .int (0 : Int32), .null]) (st' := []) (h1 := h) am_q252 rfl rfl rfl (by rw [k12]; rfl) ?_
    refine ev_p (pc' := 86) (loc' := [.ref a0, .int i1, .int (0 : Int32), .int (0 : Int32)]) (st' := []) 2 am_q252 rfl ?_
    exact ev_m (loc' := [.ref a0, .null, .int (0 : Int32), .int (0 : Int32)]) am_q252 rfl rfl H
  replace H := H.2
  by_cases k14 : i1 = (5 : Int32)
  · replace H := H.1 k14
    refine ev_s (pc' := 122) (loc' := [.ref a0, .int i1, .int (0 : Int32), .null]) (st' := []) (h1 := h) am_q252 rfl rfl rfl (by rw [k14]; rfl) ?_
    refine ev_p (pc' := 123) (loc' := [.ref a0, .int i1, .int (0 : Int32), .null]) (st' := [.ref a0]) 1 am_q252 rfl ?_
    obtain ⟨g13, H⟩ := H
    refine ev_s (pc' := 126) (loc' := [.ref a0, .int i1, .int (0 : Int32), .null]) (st' := [.int (am_gi h a0 23)]) (h1 := h) am_q252 rfl rfl rfl (if_pos (e := none) g13) ?_
    exact ev_r (v := some (.int (am_gi h a0 23))) am_q252 rfl rfl rfl rfl H
  replace H := H.2
  by_cases k16 : i1 = (6 : Int32)
  · replace H := H.1 k16
    refine ev_s (pc' := 127) (loc' := [.ref a0, .int i1, .int (0 : Int32), .null]) (st' := []) (h1 := h) am_q252 rfl rfl rfl (by rw [k16]; rfl) ?_
    refine ev_p (pc' := 128) (loc' := [.ref a0, .int i1, .int (0 : Int32), .null]) (st' := [.ref a0]) 1 am_q252 rfl ?_
    obtain ⟨g15, H⟩ := H
    refine ev_s (pc' := 131) (loc' := [.ref a0, .int i1, .int (0 : Int32), .null]) (st' := [.int (am_gi h a0 39)]) (h1 := h) am_q252 rfl rfl rfl (if_pos (e := none) g15) ?_
    exact ev_r (v := some (.int (am_gi h a0 39))) am_q252 rfl rfl rfl rfl H
  replace H := H.2
  by_cases k18 : i1 = (7 : Int32)
  · replace H := H.1 k18
    refine ev_s (pc' := 132) (loc' := [.ref a0, .int i1, .int (0 : Int32), .null]) (st' := []) (h1 := h) am_q252 rfl rfl rfl (by rw [k18]; rfl) ?_
    refine ev_p (pc' := 133) (loc' := [.ref a0, .int i1, .int (0 : Int32), .null]) (st' := [.ref a0]) 1 am_q252 rfl ?_
    obtain ⟨g17, H⟩ := H
    refine ev_s (pc' := 136) (loc' := [.ref a0, .int i1, .int (0 : Int32), .null]) (st' := [.int (am_gi h a0 22)]) (h1 := h) am_q252 rfl rfl rfl (if_pos (e := none) g17) ?_
    exact ev_r (v := some (.int (am_gi h a0 22))) am_q252 rfl rfl rfl rfl H
  replace H := H.2
  by_cases k20 : i1 = (8 : Int32)
  · replace H := H.1 k20
    refine ev_s (pc' := 137) (loc' := [.ref a0, .int i1, .int (0 : Int32), .null]) (st' := []) (h1 := h) am_q252 rfl rfl rfl (by rw [k20]; rfl) ?_
    refine ev_p (pc' := 138) (loc' := [.ref a0, .int i1, .int (0 : Int32), .null]) (st' := [.ref a0]) 1 am_q252 rfl ?_
    obtain ⟨g19, H⟩ := H
    refine ev_s (pc' := 141) (loc' := [.ref a0, .int i1, .int (0 : Int32), .null]) (st' := [.int (am_gi h a0 0)]) (h1 := h) am_q252 rfl rfl rfl (if_pos (e := none) g19) ?_
    exact ev_r (v := some (.int (am_gi h a0 0))) am_q252 rfl rfl rfl rfl H
  replace H := H.2
  by_cases k21 : i1 = (9 : Int32)
  · replace H := H.1 k21
    refine ev_s (pc' := 142) (loc' := [.ref a0, .int i1, .int (0 : Int32), .null]) (st' := []) (h1 := h) am_q252 rfl rfl rfl (by rw [k21]; rfl) ?_
    refine ev_p (pc' := 144) (loc' := [.ref a0, .int i1, .int (0 : Int32), .int (0 : Int32)]) (st' := []) 2 am_q252 rfl ?_
    exact ev_m (loc' := [.ref a0, .null, .int (0 : Int32), .int (0 : Int32)]) am_q252 rfl rfl H
  replace H := H.2
  by_cases k22 : i1 = (10 : Int32)
  · replace H := H.1 k22
    refine ev_s (pc' := 178) (loc' := [.ref a0, .int i1, .int (0 : Int32), .null]) (st' := []) (h1 := h) am_q252 rfl rfl rfl (by rw [k22]; rfl) ?_
    refine ev_p (pc' := 180) (loc' := [.ref a0, .int i1, .int (0 : Int32), .int (0 : Int32)]) (st' := []) 2 am_q252 rfl ?_
    exact ev_m (loc' := [.ref a0, .null, .int (0 : Int32), .int (0 : Int32)]) am_q252 rfl rfl H
  replace H := H.2
  by_cases k24 : i1 = (11 : Int32)
  · replace H := H.1 k24
    refine ev_s (pc' := 213) (loc' := [.ref a0, .int i1, .int (0 : Int32), .null]) (st' := []) (h1 := h) am_q252 rfl rfl rfl (by rw [k24]; rfl) ?_
    refine ev_p (pc' := 214) (loc' := [.ref a0, .int i1, .int (0 : Int32), .null]) (st' := [.ref a0]) 1 am_q252 rfl ?_
    obtain ⟨g23, H⟩ := H
    refine ev_s (pc' := 217) (loc' := [.ref a0, .int i1, .int (0 : Int32), .null]) (st' := [.int (am_gi h a0 42)]) (h1 := h) am_q252 rfl rfl rfl (if_pos (e := none) g23) ?_
    exact ev_r (v := some (.int (am_gi h a0 42))) am_q252 rfl rfl rfl rfl H
  replace H := H.2
  replace H := H ⟨k2, k4, k9, k11, k12, k14, k16, k18, k20, k21, k22, k24⟩
  refine ev_s (pc' := 218) (loc' := [.ref a0, .int i1, .int (0 : Int32), .null]) (st' := []) (h1 := h) am_q252 rfl rfl rfl (am_tso (x := (i1).toInt) (by have z0 : (i1).toInt ≠ 0 := am_tn k2 (by decide); have z1 : (i1).toInt ≠ 1 := am_tn k4 (by decide); have z2 : (i1).toInt ≠ 2 := am_tn k9 (by decide); have z3 : (i1).toInt ≠ 3 := am_tn k11 (by decide); have z4 : (i1).toInt ≠ 4 := am_tn k12 (by decide); have z5 : (i1).toInt ≠ 5 := am_tn k14 (by decide); have z6 : (i1).toInt ≠ 6 := am_tn k16 (by decide); have z7 : (i1).toInt ≠ 7 := am_tn k18 (by decide); have z8 : (i1).toInt ≠ 8 := am_tn k20 (by decide); have z9 : (i1).toInt ≠ 9 := am_tn k21 (by decide); have z10 : (i1).toInt ≠ 10 := am_tn k22 (by decide); have z11 : (i1).toInt ≠ 11 := am_tn k24 (by decide); omega)) ?_
  refine ev_p (pc' := 220) (loc' := [.ref a0, .int i1, .int (0 : Int32), .null]) (st' := [.int (-2 : Int32)]) 1 am_q252 rfl ?_
  exact ev_r (v := some (.int (-2 : Int32))) am_q252 rfl rfl rfl rfl H
set_option maxRecDepth 20000 in
set_option maxHeartbeats 2000000 in
theorem wp252_86 {d : Nat} (a0 : Nat) (i2 : Int32) (i3 : Int32) {h : AH} {Q : Option Value → AH → Prop} (H : am_kd h a0 = 12 ∧ ((am_gi h a0 14) ≤ i3 → Q (some (.int i2)) h) ∧ (¬ (am_gi h a0 14) ≤ i3 → am_kd h a0 = 12 ∧ am_kd h a0 = 12 ∧ Cl d 171 [.ref a0, .int i3, .int (am_gi h a0 0)] h (fun r4 h3 => ∃ x6, r4 = some (.int x6) ∧ (x6 = (0 : Int32) → Ev (d + 1) 252 86 [.ref a0, .null, .int (i2 + (0 : Int32)), .int (i3 + (1 : Int32))] [] h3 Q) ∧ (¬ x6 = (0 : Int32) → Ev (d + 1) 252 86 [.ref a0, .null, .int (i2 + (1 : Int32)), .int (i3 + (1 : Int32))] [] h3 Q)))) : Ev (d + 1) 252 86 [.ref a0, .null, .int i2, .int i3] [] h Q := by
  refine ev_p (pc' := 88) (loc' := [.ref a0, .null, .int i2, .int i3]) (st' := [.ref a0, .int i3]) 2 am_q252 rfl ?_
  obtain ⟨g1, H⟩ := H
  refine ev_s (pc' := 91) (loc' := [.ref a0, .null, .int i2, .int i3]) (st' := [.int (am_gi h a0 14), .int i3]) (h1 := h) am_q252 rfl rfl rfl (if_pos (e := none) g1) ?_
  refine ev_jc (t := 120) am_q252 rfl rfl (fun hq => ?_) (fun hq => ?_)
  · replace H := H.1 hq
    refine ev_p (pc' := 121) (loc' := [.ref a0, .null, .int i2, .int i3]) (st' := [.int i2]) 1 am_q252 rfl ?_
    exact ev_r (v := some (.int i2)) am_q252 rfl rfl rfl rfl H
  · replace H := H.2 hq
    refine ev_p (pc' := 98) (loc' := [.ref a0, .null, .int i2, .int i3]) (st' := [.ref a0, .int i3, .ref a0, .int i2]) 4 am_q252 rfl ?_
    obtain ⟨g2, H⟩ := H
    refine ev_s (pc' := 101) (loc' := [.ref a0, .null, .int i2, .int i3]) (st' := [.int (am_gi h a0 0), .int i3, .ref a0, .int i2]) (h1 := h) am_q252 rfl rfl rfl (if_pos (e := none) g2) ?_
    obtain ⟨g5, H⟩ := H
    refine ev_c (vs := [.ref a0, .int i3, .int (am_gi h a0 0)]) (rest := [.int i2]) 171 am_q252 rfl rfl rfl rfl rfl rfl rfl rfl rfl rfl rfl rfl (Or.inr (congrArg some g5)) (Cl.mono H (Nat.le_refl _) (fun r4 h3 H => ?_))
    obtain ⟨x6, rfl, H⟩ := H
    refine ev_jz (t := 111) am_q252 rfl rfl (fun hq => ?_) (fun hq => ?_)
    · replace H := H.1 hq
      refine ev_p (pc' := 86) (loc' := [.ref a0, .null, .int (i2 + (0 : Int32)), .int (i3 + (1 : Int32))]) (st' := []) 5 am_q252 rfl ?_
      exact ev_m (loc' := [.ref a0, .null, .int (i2 + (0 : Int32)), .int (i3 + (1 : Int32))]) am_q252 rfl rfl H
    · replace H := H.2 hq
      refine ev_p (pc' := 86) (loc' := [.ref a0, .null, .int (i2 + (1 : Int32)), .int (i3 + (1 : Int32))]) (st' := []) 6 am_q252 rfl ?_
      exact ev_m (loc' := [.ref a0, .null, .int (i2 + (1 : Int32)), .int (i3 + (1 : Int32))]) am_q252 rfl rfl H
set_option maxRecDepth 20000 in
set_option maxHeartbeats 2000000 in
theorem wp252_144 {d : Nat} (a0 : Nat) (i2 : Int32) (i3 : Int32) {h : AH} {Q : Option Value → AH → Prop} (H : am_kd h a0 = 12 ∧ ((am_gi h a0 7) ≤ i3 → Q (some (.int i2)) h) ∧ (¬ (am_gi h a0 7) ≤ i3 → am_kd h a0 = 12 ∧ ∃ b3, am_gr h a0 11 = some b3 ∧ am_kd h b3 = 100 ∧ am_in i3 (am_ln h b3) ∧ ((am_gi h b3 (Int32.toNatClampNeg i3)) = (-1 : Int32) → Ev (d + 1) 252 144 [.ref a0, .null, .int (i2 + (0 : Int32)), .int (i3 + (1 : Int32))] [] h Q) ∧ (¬ (am_gi h b3 (Int32.toNatClampNeg i3)) = (-1 : Int32) → Ev (d + 1) 252 144 [.ref a0, .null, .int (i2 + (1 : Int32)), .int (i3 + (1 : Int32))] [] h Q))) : Ev (d + 1) 252 144 [.ref a0, .null, .int i2, .int i3] [] h Q := by
  refine ev_p (pc' := 146) (loc' := [.ref a0, .null, .int i2, .int i3]) (st' := [.ref a0, .int i3]) 2 am_q252 rfl ?_
  obtain ⟨g1, H⟩ := H
  refine ev_s (pc' := 149) (loc' := [.ref a0, .null, .int i2, .int i3]) (st' := [.int (am_gi h a0 7), .int i3]) (h1 := h) am_q252 rfl rfl rfl (if_pos (e := none) g1) ?_
  refine ev_jc (t := 176) am_q252 rfl rfl (fun hq => ?_) (fun hq => ?_)
  · replace H := H.1 hq
    refine ev_p (pc' := 177) (loc' := [.ref a0, .null, .int i2, .int i3]) (st' := [.int i2]) 1 am_q252 rfl ?_
    exact ev_r (v := some (.int i2)) am_q252 rfl rfl rfl rfl H
  · replace H := H.2 hq
    refine ev_p (pc' := 154) (loc' := [.ref a0, .null, .int i2, .int i3]) (st' := [.ref a0, .int i2]) 2 am_q252 rfl ?_
    obtain ⟨g2, b3, e4, H⟩ := H
    refine ev_s (pc' := 157) (loc' := [.ref a0, .null, .int i2, .int i3]) (st' := [.ref b3, .int i2]) (h1 := h) am_q252 rfl rfl rfl (am_gf2 g2 e4) ?_
    refine ev_p (pc' := 158) (loc' := [.ref a0, .null, .int i2, .int i3]) (st' := [.int i3, .ref b3, .int i2]) 1 am_q252 rfl ?_
    obtain ⟨g5, g6, H⟩ := H
    refine ev_s (pc' := 159) (loc' := [.ref a0, .null, .int i2, .int i3]) (st' := [.int (am_gi h b3 (Int32.toNatClampNeg i3)), .int i2]) (h1 := h) am_q252 rfl rfl rfl (am_xx g5 g6) ?_
    refine ev_p (pc' := 160) (loc' := [.ref a0, .null, .int i2, .int i3]) (st' := [.int (-1 : Int32), .int (am_gi h b3 (Int32.toNatClampNeg i3)), .int i2]) 1 am_q252 rfl ?_
    refine ev_jc (t := 167) am_q252 rfl rfl (fun hq => ?_) (fun hq => ?_)
    · replace H := H.1 hq
      refine ev_p (pc' := 144) (loc' := [.ref a0, .null, .int (i2 + (0 : Int32)), .int (i3 + (1 : Int32))]) (st' := []) 5 am_q252 rfl ?_
      exact ev_m (loc' := [.ref a0, .null, .int (i2 + (0 : Int32)), .int (i3 + (1 : Int32))]) am_q252 rfl rfl H
    · replace H := H.2 hq
      refine ev_p (pc' := 144) (loc' := [.ref a0, .null, .int (i2 + (1 : Int32)), .int (i3 + (1 : Int32))]) (st' := []) 6 am_q252 rfl ?_
      exact ev_m (loc' := [.ref a0, .null, .int (i2 + (1 : Int32)), .int (i3 + (1 : Int32))]) am_q252 rfl rfl H
set_option maxRecDepth 20000 in
set_option maxHeartbeats 2000000 in
theorem wp252_180 {d : Nat} (a0 : Nat) (i2 : Int32) (i3 : Int32) {h : AH} {Q : Option Value → AH → Prop} (H : am_kd h a0 = 12 ∧ ((am_gi h a0 1) ≤ i3 → Q (some (.int i2)) h) ∧ (¬ (am_gi h a0 1) ≤ i3 → am_kd h a0 = 12 ∧ ∃ b3, am_gr h a0 5 = some b3 ∧ (am_kd h b3 = 102 ∨ am_kd h b3 = 103) ∧ am_in i3 (am_ln h b3) ∧ ((am_gi h b3 (Int32.toNatClampNeg i3)) = (0 : Int32) → Ev (d + 1) 252 180 [.ref a0, .null, .int (i2 + (0 : Int32)), .int (i3 + (1 : Int32))] [] h Q) ∧ (¬ (am_gi h b3 (Int32.toNatClampNeg i3)) = (0 : Int32) → Ev (d + 1) 252 180 [.ref a0, .null, .int (i2 + (1 : Int32)), .int (i3 + (1 : Int32))] [] h Q))) : Ev (d + 1) 252 180 [.ref a0, .null, .int i2, .int i3] [] h Q := by
  refine ev_p (pc' := 182) (loc' := [.ref a0, .null, .int i2, .int i3]) (st' := [.ref a0, .int i3]) 2 am_q252 rfl ?_
  obtain ⟨g1, H⟩ := H
  refine ev_s (pc' := 185) (loc' := [.ref a0, .null, .int i2, .int i3]) (st' := [.int (am_gi h a0 1), .int i3]) (h1 := h) am_q252 rfl rfl rfl (if_pos (e := none) g1) ?_
  refine ev_jc (t := 211) am_q252 rfl rfl (fun hq => ?_) (fun hq => ?_)
  · replace H := H.1 hq
    refine ev_p (pc' := 212) (loc' := [.ref a0, .null, .int i2, .int i3]) (st' := [.int i2]) 1 am_q252 rfl ?_
    exact ev_r (v := some (.int i2)) am_q252 rfl rfl rfl rfl H
  · replace H := H.2 hq
    refine ev_p (pc' := 190) (loc' := [.ref a0, .null, .int i2, .int i3]) (st' := [.ref a0, .int i2]) 2 am_q252 rfl ?_
    obtain ⟨g2, b3, e4, H⟩ := H
    refine ev_s (pc' := 193) (loc' := [.ref a0, .null, .int i2, .int i3]) (st' := [.ref b3, .int i2]) (h1 := h) am_q252 rfl rfl rfl (am_gf2 g2 e4) ?_
    refine ev_p (pc' := 194) (loc' := [.ref a0, .null, .int i2, .int i3]) (st' := [.int i3, .ref b3, .int i2]) 1 am_q252 rfl ?_
    obtain ⟨g5, g6, H⟩ := H
    refine ev_s (pc' := 195) (loc' := [.ref a0, .null, .int i2, .int i3]) (st' := [.int (am_gi h b3 (Int32.toNatClampNeg i3)), .int i2]) (h1 := h) am_q252 rfl rfl rfl (am_xx g5 g6) ?_
    refine ev_jz (t := 202) am_q252 rfl rfl (fun hq => ?_) (fun hq => ?_)
    · replace H := H.1 hq
      refine ev_p (pc' := 180) (loc' := [.ref a0, .null, .int (i2 + (0 : Int32)), .int (i3 + (1 : Int32))]) (st' := []) 5 am_q252 rfl ?_
      exact ev_m (loc' := [.ref a0, .null, .int (i2 + (0 : Int32)), .int (i3 + (1 : Int32))]) am_q252 rfl rfl H
    · replace H := H.2 hq
      refine ev_p (pc' := 180) (loc' := [.ref a0, .null, .int (i2 + (1 : Int32)), .int (i3 + (1 : Int32))]) (st' := []) 6 am_q252 rfl ?_
      exact ev_m (loc' := [.ref a0, .null, .int (i2 + (1 : Int32)), .int (i3 + (1 : Int32))]) am_q252 rfl rfl H
/-! 253: X12_done -/
theorem am_q253 : (am_mt 253).2.2.2.2.2 = am_m253.2.2.2.2.2 := rfl
set_option maxRecDepth 20000 in
set_option maxHeartbeats 2000000 in
theorem wp253 {d : Nat} (a0 : Nat) (i1 : Int32) {h : AH} {Q : Option Value → AH → Prop} (H : am_kd h a0 = 12 ∧ ∀ h2, h2 = am_si h a0 47 (0 : Int32) → Q (some (.int i1)) h2) : Cl d 253 [.ref a0, .int i1] h Q := by
  show Ev d 253 0 [.ref a0, .int i1] [] h Q
  refine ev_p (pc' := 2) (loc' := [.ref a0, .int i1]) (st' := [.int (0 : Int32), .ref a0]) 2 am_q253 rfl ?_
  obtain ⟨g1, H⟩ := H
  refine ev_s (pc' := 5) (loc' := [.ref a0, .int i1]) (st' := []) (h1 := am_si h a0 47 (0 : Int32)) am_q253 rfl rfl rfl (if_pos (e := none) g1) ?_
  replace H := H _ rfl
  generalize am_si h a0 47 (0 : Int32) = h2 at H ⊢
  refine ev_p (pc' := 6) (loc' := [.ref a0, .int i1]) (st' := [.int i1]) 1 am_q253 rfl ?_
  exact ev_r (v := some (.int i1)) am_q253 rfl rfl rfl rfl H
/-! 254: X12_refuse -/
theorem am_q254 : (am_mt 254).2.2.2.2.2 = am_m254.2.2.2.2.2 := rfl
set_option maxRecDepth 20000 in
set_option maxHeartbeats 2000000 in
theorem wp254 {d : Nat} (a0 : Nat) (i1 : Int32) {h : AH} {Q : Option Value → AH → Prop} (H : am_kd h a0 = 12 ∧ ∀ h2, h2 = am_si h a0 47 i1 → Q (some (.int (-1 : Int32))) h2) : Cl d 254 [.ref a0, .int i1] h Q := by
  show Ev d 254 0 [.ref a0, .int i1] [] h Q
  refine ev_p (pc' := 2) (loc' := [.ref a0, .int i1]) (st' := [.int i1, .ref a0]) 2 am_q254 rfl ?_
  obtain ⟨g1, H⟩ := H
  refine ev_s (pc' := 5) (loc' := [.ref a0, .int i1]) (st' := []) (h1 := am_si h a0 47 i1) am_q254 rfl rfl rfl (if_pos (e := none) g1) ?_
  replace H := H _ rfl
  generalize am_si h a0 47 i1 = h2 at H ⊢
  refine ev_p (pc' := 6) (loc' := [.ref a0, .int i1]) (st' := [.int (-1 : Int32)]) 1 am_q254 rfl ?_
  exact ev_r (v := some (.int (-1 : Int32))) am_q254 rfl rfl rfl rfl H
/-! 255: X12_put -/
theorem am_q255 : (am_mt 255).2.2.2.2.2 = am_m255.2.2.2.2.2 := rfl
set_option maxRecDepth 20000 in
set_option maxHeartbeats 2000000 in
theorem wp255 {d : Nat} (a0 : Nat) (i1 : Int32) (i2 : Int32) (i3 : Int32) {h : AH} {Q : Option Value → AH → Prop} (H : Cl d 167 [.int i1, .int (0 : Int32), .int (5 : Int32)] h (fun r2 h1 => ∃ x3, r2 = some (.int x3) ∧ (x3 = (0 : Int32) → am_kd h1 a0 = 12 ∧ Cl d 254 [.ref a0, .int (1 : Int32)] h1 (fun r5 h4 => ∃ x7, r5 = some (.int x7) ∧ Q (some (.int x7)) h4)) ∧ (¬ x3 = (0 : Int32) → Cl d 167 [.int i2, .int (0 : Int32), .int (4 : Int32)] h1 (fun r9 h8 => ∃ x10, r9 = some (.int x10) ∧ (x10 = (0 : Int32) → am_kd h8 a0 = 12 ∧ Cl d 254 [.ref a0, .int (1 : Int32)] h8 (fun r12 h11 => ∃ x14, r12 = some (.int x14) ∧ Q (some (.int x14)) h11)) ∧ (¬ x10 = (0 : Int32) → ((¬ i2 = (1 : Int32)) → Ev (d + 1) 255 37 [.ref a0, .int i1, .int i2, .int i3, .null, .null, .null] [] h8 Q) ∧ (¬ (¬ i2 = (1 : Int32)) → am_kd h8 a0 = 12 ∧ Cl d 181 [.ref a0, .int i3] h8 (fun r16 h15 => ∃ x18, r16 = some (.int x18) ∧ ((¬ x18 = (0 : Int32)) → Ev (d + 1) 255 37 [.ref a0, .int i1, .int i2, .int i3, .null, .null, .null] [] h15 Q) ∧ (¬ (¬ x18 = (0 : Int32)) → am_kd h15 a0 = 12 ∧ Cl d 254 [.ref a0, .int (1 : Int32)] h15 (fun r20 h19 => ∃ x22, r20 = some (.int x22) ∧ Q (some (.int x22)) h19))))))))) : Cl (d + 1) 255 [.ref a0, .int i1, .int i2, .int i3] h Q := by
  show Ev (d + 1) 255 0 [.ref a0, .int i1, .int i2, .int i3, .null, .null, .null] [] h Q
  refine ev_p (pc' := 3) (loc' := [.ref a0, .int i1, .int i2, .int i3, .null, .null, .null]) (st' := [.int (5 : Int32), .int (0 : Int32), .int i1]) 3 am_q255 rfl ?_
  refine ev_c (vs := [.int i1, .int (0 : Int32), .int (5 : Int32)]) (rest := []) 167 am_q255 rfl rfl rfl rfl rfl rfl rfl rfl rfl rfl rfl rfl (Or.inl rfl) (Cl.mono H (Nat.le_refl _) (fun r2 h1 H => ?_))
  obtain ⟨x3, rfl, H⟩ := H
  refine ev_jz (t := 31) am_q255 rfl rfl (fun hq => ?_) (fun hq => ?_)
  · replace H := H.1 hq
    refine ev_p (pc' := 33) (loc' := [.ref a0, .null, .null, .null, .null, .null, .null]) (st' := [.int (1 : Int32), .ref a0]) 2 am_q255 rfl ?_
    obtain ⟨g6, H⟩ := H
    refine ev_c (vs := [.ref a0, .int (1 : Int32)]) (rest := []) 254 am_q255 rfl rfl rfl rfl rfl rfl rfl rfl rfl rfl rfl rfl (Or.inr (congrArg some g6)) (Cl.mono H (Nat.le_refl _) (fun r5 h4 H => ?_))
    obtain ⟨x7, rfl, H⟩ := H
    exact ev_r (v := some (.int x7)) am_q255 rfl rfl rfl rfl H
  · replace H := H.2 hq
    refine ev_p (pc' := 12) (loc' := [.ref a0, .int i1, .int i2, .int i3, .null, .null, .null]) (st' := [.int (4 : Int32), .int (0 : Int32), .int i2]) 3 am_q255 rfl ?_
    refine ev_c (vs := [.int i2, .int (0 : Int32), .int (4 : Int32)]) (rest := []) 167 am_q255 rfl rfl rfl rfl rfl rfl rfl rfl rfl rfl rfl rfl (Or.inl rfl) (Cl.mono H (Nat.le_refl _) (fun r9 h8 H => ?_))
    obtain ⟨x10, rfl, H⟩ := H
    refine ev_jz (t := 31) am_q255 rfl rfl (fun hq => ?_) (fun hq => ?_)
    · replace H := H.1 hq
      refine ev_p (pc' := 33) (loc' := [.ref a0, .null, .null, .null, .null, .null, .null]) (st' := [.int (1 : Int32), .ref a0]) 2 am_q255 rfl ?_
      obtain ⟨g13, H⟩ := H
      refine ev_c (vs := [.ref a0, .int (1 : Int32)]) (rest := []) 254 am_q255 rfl rfl rfl rfl rfl rfl rfl rfl rfl rfl rfl rfl (Or.inr (congrArg some g13)) (Cl.mono H (Nat.le_refl _) (fun r12 h11 H => ?_))
      obtain ⟨x14, rfl, H⟩ := H
      exact ev_r (v := some (.int x14)) am_q255 rfl rfl rfl rfl H
    · replace H := H.2 hq
      refine ev_p (pc' := 20) (loc' := [.ref a0, .int i1, .int i2, .int i3, .null, .null, .null]) (st' := [.int (1 : Int32), .int i2]) 2 am_q255 rfl ?_
      refine ev_jc (t := 37) am_q255 rfl rfl (fun hq => ?_) (fun hq => ?_)
      · replace H := H.1 hq
        exact ev_m (loc' := [.ref a0, .int i1, .int i2, .int i3, .null, .null, .null]) am_q255 rfl rfl H
      · replace H := H.2 hq
        refine ev_p (pc' := 25) (loc' := [.ref a0, .int i1, .int i2, .int i3, .null, .null, .null]) (st' := [.int i3, .ref a0]) 2 am_q255 rfl ?_
        obtain ⟨g17, H⟩ := H
        refine ev_c (vs := [.ref a0, .int i3]) (rest := []) 181 am_q255 rfl rfl rfl rfl rfl rfl rfl rfl rfl rfl rfl rfl (Or.inr (congrArg some g17)) (Cl.mono H (Nat.le_refl _) (fun r16 h15 H => ?_))
        obtain ⟨x18, rfl, H⟩ := H
        refine ev_jz (t := 37) am_q255 rfl rfl (fun hq => ?_) (fun hq => ?_)
        · replace H := H.1 hq
          exact ev_m (loc' := [.ref a0, .int i1, .int i2, .int i3, .null, .null, .null]) am_q255 rfl rfl H
        · replace H := H.2 hq
          refine ev_p (pc' := 33) (loc' := [.ref a0, .null, .null, .null, .null, .null, .null]) (st' := [.int (1 : Int32), .ref a0]) 2 am_q255 rfl ?_
          obtain ⟨g21, H⟩ := H
          refine ev_c (vs := [.ref a0, .int (1 : Int32)]) (rest := []) 254 am_q255 rfl rfl rfl rfl rfl rfl rfl rfl rfl rfl rfl rfl (Or.inr (congrArg some g21)) (Cl.mono H (Nat.le_refl _) (fun r20 h19 H => ?_))
          obtain ⟨x22, rfl, H⟩ := H
          exact ev_r (v := some (.int x22)) am_q255 rfl rfl rfl rfl H
set_option maxRecDepth 20000 in
set_option maxHeartbeats 2000000 in
theorem wp255_37 {d : Nat} (a0 : Nat) (i1 : Int32) (i2 : Int32) (i3 : Int32) {h : AH} {Q : Option Value → AH → Prop} (H : am_kd h a0 = 12 ∧ ∃ b2, am_gr h a0 43 = some b2 ∧ (am_kd h b2 = 100 ∧ 6 ≤ b2) ∧ am_in i1 (am_ln h b2) ∧ ∀ h6, h6 = am_si h b2 (Int32.toNatClampNeg i1) i2 → am_kd h6 a0 = 12 ∧ ∃ b8, am_gr h6 a0 44 = some b8 ∧ (am_kd h6 b8 = 100 ∧ 6 ≤ b8) ∧ am_in i1 (am_ln h6 b8) ∧ ∀ h12, h12 = am_si h6 b8 (Int32.toNatClampNeg i1) i3 → am_kd h12 a0 = 12 ∧ am_kd h12 a0 = 12 ∧ Cl d 215 [.ref a0, .int (am_gi h12 a0 0)] h12 (fun r15 h14 => ∃ x17, r15 = some (.int x17) ∧ ((¬ i2 = (2 : Int32)) → ((¬ i2 = (3 : Int32)) → ((¬ i2 = (4 : Int32)) → Ev (d + 1) 255 101 [.ref a0, .int i1, .int i2, .null, .int x17, .null, .null] [.int (0 : Int32)] h14 Q) ∧ (¬ (¬ i2 = (4 : Int32)) → am_kd h14 a0 = 12 ∧ Ev (d + 1) 255 101 [.ref a0, .int i1, .int i2, .null, .int x17, .null, .null] [.int (am_gi h14 a0 1)] h14 Q)) ∧ (¬ (¬ i2 = (3 : Int32)) → am_kd h14 a0 = 12 ∧ Ev (d + 1) 255 101 [.ref a0, .int i1, .int i2, .null, .int x17, .null, .null] [.int (am_gi h14 a0 7)] h14 Q)) ∧ (¬ (¬ i2 = (2 : Int32)) → am_kd h14 a0 = 12 ∧ ∃ b21, am_gr h14 a0 24 = some b21 ∧ am_kd h14 b21 = 100 ∧ am_in x17 (am_ln h14 b21) ∧ Ev (d + 1) 255 101 [.ref a0, .int i1, .int i2, .null, .int x17, .null, .null] [.int (am_gi h14 b21 (Int32.toNatClampNeg x17))] h14 Q))) : Ev (d + 1) 255 37 [.ref a0, .int i1, .int i2, .int i3, .null, .null, .null] [] h Q := by
  refine ev_p (pc' := 38) (loc' := [.ref a0, .int i1, .int i2, .int i3, .null, .null, .null]) (st' := [.ref a0]) 1 am_q255 rfl ?_
  obtain ⟨g1, b2, e3, H⟩ := H
  refine ev_s (pc' := 41) (loc' := [.ref a0, .int i1, .int i2, .int i3, .null, .null, .null]) (st' := [.ref b2]) (h1 := h) am_q255 rfl rfl rfl (am_gf2 g1 e3) ?_
  refine ev_p (pc' := 43) (loc' := [.ref a0, .int i1, .int i2, .int i3, .null, .null, .null]) (st' := [.int i2, .int i1, .ref b2]) 2 am_q255 rfl ?_
  obtain ⟨g4, g5, H⟩ := H
  refine ev_s (pc' := 44) (loc' := [.ref a0, .int i1, .int i2, .int i3, .null, .null, .null]) (st' := []) (h1 := am_si h b2 (Int32.toNatClampNeg i1) i2) am_q255 rfl rfl rfl (am_xx g4 g5) ?_
  replace H := H _ rfl
  generalize am_si h b2 (Int32.toNatClampNeg i1) i2 = h6 at H ⊢
  refine ev_p (pc' := 45) (loc' := [.ref a0, .int i1, .int i2, .int i3, .null, .null, .null]) (st' := [.ref a0]) 1 am_q255 rfl ?_
  obtain ⟨g7, b8, e9, H⟩ := H
  refine ev_s (pc' := 48) (loc' := [.ref a0, .int i1, .int i2, .int i3, .null, .null, .null]) (st' := [.ref b8]) (h1 := h6) am_q255 rfl rfl rfl (am_gf2 g7 e9) ?_
  refine ev_p (pc' := 50) (loc' := [.ref a0, .int i1, .int i2, .int i3, .null, .null, .null]) (st' := [.int i3, .int i1, .ref b8]) 2 am_q255 rfl ?_
  obtain ⟨g10, g11, H⟩ := H
  refine ev_s (pc' := 51) (loc' := [.ref a0, .int i1, .int i2, .int i3, .null, .null, .null]) (st' := []) (h1 := am_si h6 b8 (Int32.toNatClampNeg i1) i3) am_q255 rfl rfl rfl (am_xx g10 g11) ?_
  replace H := H _ rfl
  generalize am_si h6 b8 (Int32.toNatClampNeg i1) i3 = h12 at H ⊢
  refine ev_p (pc' := 53) (loc' := [.ref a0, .int i1, .int i2, .int i3, .null, .null, .null]) (st' := [.ref a0, .ref a0]) 2 am_q255 rfl ?_
  obtain ⟨g13, H⟩ := H
  refine ev_s (pc' := 56) (loc' := [.ref a0, .int i1, .int i2, .int i3, .null, .null, .null]) (st' := [.int (am_gi h12 a0 0), .ref a0]) (h1 := h12) am_q255 rfl rfl rfl (if_pos (e := none) g13) ?_
  obtain ⟨g16, H⟩ := H
  refine ev_c (vs := [.ref a0, .int (am_gi h12 a0 0)]) (rest := []) 215 am_q255 rfl rfl rfl rfl rfl rfl rfl rfl rfl rfl rfl rfl (Or.inr (congrArg some g16)) (Cl.mono H (Nat.le_refl _) (fun r15 h14 H => ?_))
  obtain ⟨x17, rfl, H⟩ := H
  refine ev_p (pc' := 63) (loc' := [.ref a0, .int i1, .int i2, .int i3, .int x17, .null, .null]) (st' := [.int (2 : Int32), .int i2]) 3 am_q255 rfl ?_
  refine ev_jc (t := 76) am_q255 rfl rfl (fun hq => ?_) (fun hq => ?_)
  · replace H := H.1 hq
    refine ev_p (pc' := 78) (loc' := [.ref a0, .int i1, .int i2, .int i3, .int x17, .null, .null]) (st' := [.int (3 : Int32), .int i2]) 2 am_q255 rfl ?_
    refine ev_jc (t := 88) am_q255 rfl rfl (fun hq => ?_) (fun hq => ?_)
    · replace H := H.1 hq
      refine ev_p (pc' := 90) (loc' := [.ref a0, .int i1, .int i2, .int i3, .int x17, .null, .null]) (st' := [.int (4 : Int32), .int i2]) 2 am_q255 rfl ?_
      refine ev_jc (t := 100) am_q255 rfl rfl (fun hq => ?_) (fun hq => ?_)
      · replace H := H.1 hq
        refine ev_p (pc' := 101) (loc' := [.ref a0, .int i1, .int i2, .int i3, .int x17, .null, .null]) (st' := [.int (0 : Int32)]) 1 am_q255 rfl ?_
        exact ev_m (loc' := [.ref a0, .int i1, .int i2, .null, .int x17, .null, .null]) am_q255 rfl rfl H
      · replace H := H.2 hq
        refine ev_p (pc' := 94) (loc' := [.ref a0, .int i1, .int i2, .int i3, .int x17, .null, .null]) (st' := [.ref a0]) 1 am_q255 rfl ?_
        obtain ⟨g18, H⟩ := H
        refine ev_s (pc' := 97) (loc' := [.ref a0, .int i1, .int i2, .int i3, .int x17, .null, .null]) (st' := [.int (am_gi h14 a0 1)]) (h1 := h14) am_q255 rfl rfl rfl (if_pos (e := none) g18) ?_
        refine ev_p (pc' := 101) (loc' := [.ref a0, .int i1, .int i2, .int i3, .int x17, .null, .null]) (st' := [.int (am_gi h14 a0 1)]) 1 am_q255 rfl ?_
        exact ev_m (loc' := [.ref a0, .int i1, .int i2, .null, .int x17, .null, .null]) am_q255 rfl rfl H
    · replace H := H.2 hq
      refine ev_p (pc' := 82) (loc' := [.ref a0, .int i1, .int i2, .int i3, .int x17, .null, .null]) (st' := [.ref a0]) 1 am_q255 rfl ?_
      obtain ⟨g19, H⟩ := H
      refine ev_s (pc' := 85) (loc' := [.ref a0, .int i1, .int i2, .int i3, .int x17, .null, .null]) (st' := [.int (am_gi h14 a0 7)]) (h1 := h14) am_q255 rfl rfl rfl (if_pos (e := none) g19) ?_
      refine ev_p (pc' := 101) (loc' := [.ref a0, .int i1, .int i2, .int i3, .int x17, .null, .null]) (st' := [.int (am_gi h14 a0 7)]) 1 am_q255 rfl ?_
      exact ev_m (loc' := [.ref a0, .int i1, .int i2, .null, .int x17, .null, .null]) am_q255 rfl rfl H
  · replace H := H.2 hq
    refine ev_p (pc' := 67) (loc' := [.ref a0, .int i1, .int i2, .int i3, .int x17, .null, .null]) (st' := [.ref a0]) 1 am_q255 rfl ?_
    obtain ⟨g20, b21, e22, H⟩ := H
    refine ev_s (pc' := 70) (loc' := [.ref a0, .int i1, .int i2, .int i3, .int x17, .null, .null]) (st' := [.ref b21]) (h1 := h14) am_q255 rfl rfl rfl (am_gf2 g20 e22) ?_
    refine ev_p (pc' := 72) (loc' := [.ref a0, .int i1, .int i2, .int i3, .int x17, .null, .null]) (st' := [.int x17, .ref b21]) 1 am_q255 rfl ?_
    obtain ⟨g23, g24, H⟩ := H
    refine ev_s (pc' := 73) (loc' := [.ref a0, .int i1, .int i2, .int i3, .int x17, .null, .null]) (st' := [.int (am_gi h14 b21 (Int32.toNatClampNeg x17))]) (h1 := h14) am_q255 rfl rfl rfl (am_xx g23 g24) ?_
    refine ev_p (pc' := 101) (loc' := [.ref a0, .int i1, .int i2, .int i3, .int x17, .null, .null]) (st' := [.int (am_gi h14 b21 (Int32.toNatClampNeg x17))]) 1 am_q255 rfl ?_
    exact ev_m (loc' := [.ref a0, .int i1, .int i2, .null, .int x17, .null, .null]) am_q255 rfl rfl H
set_option maxRecDepth 20000 in
set_option maxHeartbeats 2000000 in
theorem wp255_101 {d : Nat} (a0 : Nat) (i1 : Int32) (i2 : Int32) (i4 : Int32) (s0 : Int32) {h : AH} {Q : Option Value → AH → Prop} (H : am_kd h a0 = 12 ∧ ∃ b2, am_gr h a0 45 = some b2 ∧ (am_kd h b2 = 100 ∧ 6 ≤ b2) ∧ am_in i1 (am_ln h b2) ∧ ∀ h6, h6 = am_si h b2 (Int32.toNatClampNeg i1) s0 → Ev (d + 1) 255 114 [.ref a0, .int i1, .int i2, .null, .int i4, .int s0, .int (0 : Int32)] [] h6 Q) : Ev (d + 1) 255 101 [.ref a0, .int i1, .int i2, .null, .int i4, .null, .null] [.int s0] h Q := by
  refine ev_p (pc' := 104) (loc' := [.ref a0, .int i1, .int i2, .null, .int i4, .int s0, .null]) (st' := [.ref a0]) 2 am_q255 rfl ?_
  obtain ⟨g1, b2, e3, H⟩ := H
  refine ev_s (pc' := 107) (loc' := [.ref a0, .int i1, .int i2, .null, .int i4, .int s0, .null]) (st' := [.ref b2]) (h1 := h) am_q255 rfl rfl rfl (am_gf2 g1 e3) ?_
  refine ev_p (pc' := 110) (loc' := [.ref a0, .int i1, .int i2, .null, .int i4, .int s0, .null]) (st' := [.int s0, .int i1, .ref b2]) 2 am_q255 rfl ?_
  obtain ⟨g4, g5, H⟩ := H
  refine ev_s (pc' := 111) (loc' := [.ref a0, .int i1, .int i2, .null, .int i4, .int s0, .null]) (st' := []) (h1 := am_si h b2 (Int32.toNatClampNeg i1) s0) am_q255 rfl rfl rfl (am_xx g4 g5) ?_
  replace H := H _ rfl
  generalize am_si h b2 (Int32.toNatClampNeg i1) s0 = h6 at H ⊢
  refine ev_p (pc' := 114) (loc' := [.ref a0, .int i1, .int i2, .null, .int i4, .int s0, .int (0 : Int32)]) (st' := []) 2 am_q255 rfl ?_
  exact ev_m (loc' := [.ref a0, .int i1, .int i2, .null, .int i4, .int s0, .int (0 : Int32)]) am_q255 rfl rfl H
set_option maxRecDepth 20000 in
set_option maxHeartbeats 2000000 in
theorem wp255_114 {d : Nat} (a0 : Nat) (i1 : Int32) (i2 : Int32) (i4 : Int32) (i5 : Int32) (i6 : Int32) {h : AH} {Q : Option Value → AH → Prop} (H : (i5 ≤ i6 → am_kd h a0 = 12 ∧ Cl d 253 [.ref a0, .int (1 : Int32)] h (fun r2 h1 => ∃ x4, r2 = some (.int x4) ∧ Q (some (.int x4)) h1)) ∧ (¬ i5 ≤ i6 → am_kd h a0 = 12 ∧ ∃ b6, am_gr h a0 46 = some b6 ∧ ((¬ i2 = (2 : Int32)) → ((¬ i2 = (3 : Int32)) → am_kd h a0 = 12 ∧ am_kd h a0 = 12 ∧ Cl d 173 [.ref a0, .int i6, .int (am_gi h a0 0)] h (fun r10 h9 => ∃ x12, r10 = some (.int x12) ∧ ((¬ x12 = (-1 : Int32)) → am_kd h9 b6 = 101 ∧ am_in (((400 : Int32) * i1) + i6) (am_ln h9 b6) ∧ ∀ h15, h15 = am_sl h9 b6 (Int32.toNatClampNeg (((400 : Int32) * i1) + i6)) (0 : Int64) → Ev (d + 1) 255 114 [.ref a0, .int i1, .int i2, .null, .int i4, .int i5, .int (i6 + (1 : Int32))] [] h15 Q) ∧ (¬ (¬ x12 = (-1 : Int32)) → am_kd h9 b6 = 101 ∧ am_in (((400 : Int32) * i1) + i6) (am_ln h9 b6) ∧ ∀ h18, h18 = am_sl h9 b6 (Int32.toNatClampNeg (((400 : Int32) * i1) + i6)) (1 : Int64) → Ev (d + 1) 255 114 [.ref a0, .int i1, .int i2, .null, .int i4, .int i5, .int (i6 + (1 : Int32))] [] h18 Q))) ∧ (¬ (¬ i2 = (3 : Int32)) → am_kd h a0 = 12 ∧ ∃ b20, am_gr h a0 13 = some b20 ∧ am_kd h b20 = 101 ∧ am_in i6 (am_ln h b20) ∧ am_kd h b6 = 101 ∧ am_in (((400 : Int32) * i1) + i6) (am_ln h b6) ∧ ∀ h26, h26 = am_sl h b6 (Int32.toNatClampNeg (((400 : Int32) * i1) + i6)) (am_gl h b20 (Int32.toNatClampNeg i6)) → Ev (d + 1) 255 114 [.ref a0, .int i1, .int i2, .null, .int i4, .int i5, .int (i6 + (1 : Int32))] [] h26 Q)) ∧ (¬ (¬ i2 = (2 : Int32)) → am_kd h a0 = 12 ∧ ∃ b28, am_gr h a0 25 = some b28 ∧ am_kd h b28 = 100 ∧ am_in (((400 : Int32) * i4) + i6) (am_ln h b28) ∧ am_kd h b6 = 101 ∧ am_in (((400 : Int32) * i1) + i6) (am_ln h b6) ∧ ∀ h34, h34 = am_sl h b6 (Int32.toNatClampNeg (((400 : Int32) * i1) + i6)) (Int32.toInt64 (am_gi h b28 (Int32.toNatClampNeg (((400 : Int32) * i4) + i6)))) → Ev (d + 1) 255 114 [.ref a0, .int i1, .int i2, .null, .int i4, .int i5, .int (i6 + (1 : Int32))] [] h34 Q))) : Ev (d + 1) 255 114 [.ref a0, .int i1, .int i2, .null, .int i4, .int i5, .int i6] [] h Q := by
  refine ev_p (pc' := 118) (loc' := [.ref a0, .int i1, .int i2, .null, .int i4, .int i5, .int i6]) (st' := [.int i5, .int i6]) 2 am_q255 rfl ?_
  refine ev_jc (t := 197) am_q255 rfl rfl (fun hq => ?_) (fun hq => ?_)
  · replace H := H.1 hq
    refine ev_p (pc' := 199) (loc' := [.ref a0, .int i1, .int i2, .null, .int i4, .int i5, .int i6]) (st' := [.int (1 : Int32), .ref a0]) 2 am_q255 rfl ?_
    obtain ⟨g3, H⟩ := H
    refine ev_c (vs := [.ref a0, .int (1 : Int32)]) (rest := []) 253 am_q255 rfl rfl rfl rfl rfl rfl rfl rfl rfl rfl rfl rfl (Or.inr (congrArg some g3)) (Cl.mono H (Nat.le_refl _) (fun r2 h1 H => ?_))
    obtain ⟨x4, rfl, H⟩ := H
    exact ev_r (v := some (.int x4)) am_q255 rfl rfl rfl rfl H
  · replace H := H.2 hq
    refine ev_p (pc' := 122) (loc' := [.ref a0, .int i1, .int i2, .null, .int i4, .int i5, .int i6]) (st' := [.ref a0]) 1 am_q255 rfl ?_
    obtain ⟨g5, b6, e7, H⟩ := H
    refine ev_s (pc' := 125) (loc' := [.ref a0, .int i1, .int i2, .null, .int i4, .int i5, .int i6]) (st' := [.ref b6]) (h1 := h) am_q255 rfl rfl rfl (am_gf2 g5 e7) ?_
    refine ev_p (pc' := 135) (loc' := [.ref a0, .int i1, .int i2, .null, .int i4, .int i5, .int i6]) (st' := [.int (2 : Int32), .int i2, .int (((400 : Int32) * i1) + i6), .ref b6]) 7 am_q255 rfl ?_
    refine ev_jc (t := 156) am_q255 rfl rfl (fun hq => ?_) (fun hq => ?_)
    · replace H := H.1 hq
      refine ev_p (pc' := 158) (loc' := [.ref a0, .int i1, .int i2, .null, .int i4, .int i5, .int i6]) (st' := [.int (3 : Int32), .int i2, .int (((400 : Int32) * i1) + i6), .ref b6]) 2 am_q255 rfl ?_
      refine ev_jc (t := 171) am_q255 rfl rfl (fun hq => ?_) (fun hq => ?_)
      · replace H := H.1 hq
        refine ev_p (pc' := 175) (loc' := [.ref a0, .int i1, .int i2, .null, .int i4, .int i5, .int i6]) (st' := [.ref a0, .int i6, .ref a0, .int (((400 : Int32) * i1) + i6), .ref b6]) 3 am_q255 rfl ?_
        obtain ⟨g8, H⟩ := H
        refine ev_s (pc' := 178) (loc' := [.ref a0, .int i1, .int i2, .null, .int i4, .int i5, .int i6]) (st' := [.int (am_gi h a0 0), .int i6, .ref a0, .int (((400 : Int32) * i1) + i6), .ref b6]) (h1 := h) am_q255 rfl rfl rfl (if_pos (e := none) g8) ?_
        obtain ⟨g11, H⟩ := H
        refine ev_c (vs := [.ref a0, .int i6, .int (am_gi h a0 0)]) (rest := [.int (((400 : Int32) * i1) + i6), .ref b6]) 173 am_q255 rfl rfl rfl rfl rfl rfl rfl rfl rfl rfl rfl rfl (Or.inr (congrArg some g11)) (Cl.mono H (Nat.le_refl _) (fun r10 h9 H => ?_))
        obtain ⟨x12, rfl, H⟩ := H
        refine ev_p (pc' := 182) (loc' := [.ref a0, .int i1, .int i2, .null, .int i4, .int i5, .int i6]) (st' := [.int (-1 : Int32), .int x12, .int (((400 : Int32) * i1) + i6), .ref b6]) 1 am_q255 rfl ?_
        refine ev_jc (t := 189) am_q255 rfl rfl (fun hq => ?_) (fun hq => ?_)
        · replace H := H.1 hq
          refine ev_p (pc' := 190) (loc' := [.ref a0, .int i1, .int i2, .null, .int i4, .int i5, .int i6]) (st' := [.long (0 : Int64), .int (((400 : Int32) * i1) + i6), .ref b6]) 1 am_q255 rfl ?_
          obtain ⟨g13, g14, H⟩ := H
          refine ev_s (pc' := 191) (loc' := [.ref a0, .int i1, .int i2, .null, .int i4, .int i5, .int i6]) (st' := []) (h1 := am_sl h9 b6 (Int32.toNatClampNeg (((400 : Int32) * i1) + i6)) (0 : Int64)) am_q255 rfl rfl rfl (am_xx g13 g14) ?_
          replace H := H _ rfl
          generalize am_sl h9 b6 (Int32.toNatClampNeg (((400 : Int32) * i1) + i6)) (0 : Int64) = h15 at H ⊢
          refine ev_p (pc' := 114) (loc' := [.ref a0, .int i1, .int i2, .null, .int i4, .int i5, .int (i6 + (1 : Int32))]) (st' := []) 2 am_q255 rfl ?_
          exact ev_m (loc' := [.ref a0, .int i1, .int i2, .null, .int i4, .int i5, .int (i6 + (1 : Int32))]) am_q255 rfl rfl H
        · replace H := H.2 hq
          refine ev_p (pc' := 190) (loc' := [.ref a0, .int i1, .int i2, .null, .int i4, .int i5, .int i6]) (st' := [.long (1 : Int64), .int (((400 : Int32) * i1) + i6), .ref b6]) 2 am_q255 rfl ?_
          obtain ⟨g16, g17, H⟩ := H
          refine ev_s (pc' := 191) (loc' := [.ref a0, .int i1, .int i2, .null, .int i4, .int i5, .int i6]) (st' := []) (h1 := am_sl h9 b6 (Int32.toNatClampNeg (((400 : Int32) * i1) + i6)) (1 : Int64)) am_q255 rfl rfl rfl (am_xx g16 g17) ?_
          replace H := H _ rfl
          generalize am_sl h9 b6 (Int32.toNatClampNeg (((400 : Int32) * i1) + i6)) (1 : Int64) = h18 at H ⊢
          refine ev_p (pc' := 114) (loc' := [.ref a0, .int i1, .int i2, .null, .int i4, .int i5, .int (i6 + (1 : Int32))]) (st' := []) 2 am_q255 rfl ?_
          exact ev_m (loc' := [.ref a0, .int i1, .int i2, .null, .int i4, .int i5, .int (i6 + (1 : Int32))]) am_q255 rfl rfl H
      · replace H := H.2 hq
        refine ev_p (pc' := 162) (loc' := [.ref a0, .int i1, .int i2, .null, .int i4, .int i5, .int i6]) (st' := [.ref a0, .int (((400 : Int32) * i1) + i6), .ref b6]) 1 am_q255 rfl ?_
        obtain ⟨g19, b20, e21, H⟩ := H
        refine ev_s (pc' := 165) (loc' := [.ref a0, .int i1, .int i2, .null, .int i4, .int i5, .int i6]) (st' := [.ref b20, .int (((400 : Int32) * i1) + i6), .ref b6]) (h1 := h) am_q255 rfl rfl rfl (am_gf2 g19 e21) ?_
        refine ev_p (pc' := 167) (loc' := [.ref a0, .int i1, .int i2, .null, .int i4, .int i5, .int i6]) (st' := [.int i6, .ref b20, .int (((400 : Int32) * i1) + i6), .ref b6]) 1 am_q255 rfl ?_
        obtain ⟨g22, g23, H⟩ := H
        refine ev_s (pc' := 168) (loc' := [.ref a0, .int i1, .int i2, .null, .int i4, .int i5, .int i6]) (st' := [.long (am_gl h b20 (Int32.toNatClampNeg i6)), .int (((400 : Int32) * i1) + i6), .ref b6]) (h1 := h) am_q255 rfl rfl rfl (am_xx g22 g23) ?_
        refine ev_p (pc' := 190) (loc' := [.ref a0, .int i1, .int i2, .null, .int i4, .int i5, .int i6]) (st' := [.long (am_gl h b20 (Int32.toNatClampNeg i6)), .int (((400 : Int32) * i1) + i6), .ref b6]) 1 am_q255 rfl ?_
        obtain ⟨g24, g25, H⟩ := H
        refine ev_s (pc' := 191) (loc' := [.ref a0, .int i1, .int i2, .null, .int i4, .int i5, .int i6]) (st' := []) (h1 := am_sl h b6 (Int32.toNatClampNeg (((400 : Int32) * i1) + i6)) (am_gl h b20 (Int32.toNatClampNeg i6))) am_q255 rfl rfl rfl (am_xx g24 g25) ?_
        replace H := H _ rfl
        generalize am_sl h b6 (Int32.toNatClampNeg (((400 : Int32) * i1) + i6)) (am_gl h b20 (Int32.toNatClampNeg i6)) = h26 at H ⊢
        refine ev_p (pc' := 114) (loc' := [.ref a0, .int i1, .int i2, .null, .int i4, .int i5, .int (i6 + (1 : Int32))]) (st' := []) 2 am_q255 rfl ?_
        exact ev_m (loc' := [.ref a0, .int i1, .int i2, .null, .int i4, .int i5, .int (i6 + (1 : Int32))]) am_q255 rfl rfl H
    · replace H := H.2 hq
      refine ev_p (pc' := 139) (loc' := [.ref a0, .int i1, .int i2, .null, .int i4, .int i5, .int i6]) (st' := [.ref a0, .int (((400 : Int32) * i1) + i6), .ref b6]) 1 am_q255 rfl ?_
      obtain ⟨g27, b28, e29, H⟩ := H
      refine ev_s (pc' := 142) (loc' := [.ref a0, .int i1, .int i2, .null, .int i4, .int i5, .int i6]) (st' := [.ref b28, .int (((400 : Int32) * i1) + i6), .ref b6]) (h1 := h) am_q255 rfl rfl rfl (am_gf2 g27 e29) ?_
      refine ev_p (pc' := 151) (loc' := [.ref a0, .int i1, .int i2, .null, .int i4, .int i5, .int i6]) (st' := [.int (((400 : Int32) * i4) + i6), .ref b28, .int (((400 : Int32) * i1) + i6), .ref b6]) 5 am_q255 rfl ?_
      obtain ⟨g30, g31, H⟩ := H
      refine ev_s (pc' := 152) (loc' := [.ref a0, .int i1, .int i2, .null, .int i4, .int i5, .int i6]) (st' := [.int (am_gi h b28 (Int32.toNatClampNeg (((400 : Int32) * i4) + i6))), .int (((400 : Int32) * i1) + i6), .ref b6]) (h1 := h) am_q255 rfl rfl rfl (am_xx g30 g31) ?_
      refine ev_p (pc' := 190) (loc' := [.ref a0, .int i1, .int i2, .null, .int i4, .int i5, .int i6]) (st' := [.long (Int32.toInt64 (am_gi h b28 (Int32.toNatClampNeg (((400 : Int32) * i4) + i6)))), .int (((400 : Int32) * i1) + i6), .ref b6]) 2 am_q255 rfl ?_
      obtain ⟨g32, g33, H⟩ := H
      refine ev_s (pc' := 191) (loc' := [.ref a0, .int i1, .int i2, .null, .int i4, .int i5, .int i6]) (st' := []) (h1 := am_sl h b6 (Int32.toNatClampNeg (((400 : Int32) * i1) + i6)) (Int32.toInt64 (am_gi h b28 (Int32.toNatClampNeg (((400 : Int32) * i4) + i6))))) am_q255 rfl rfl rfl (am_xx g32 g33) ?_
      replace H := H _ rfl
      generalize am_sl h b6 (Int32.toNatClampNeg (((400 : Int32) * i1) + i6)) (Int32.toInt64 (am_gi h b28 (Int32.toNatClampNeg (((400 : Int32) * i4) + i6)))) = h34 at H ⊢
      refine ev_p (pc' := 114) (loc' := [.ref a0, .int i1, .int i2, .null, .int i4, .int i5, .int (i6 + (1 : Int32))]) (st' := []) 2 am_q255 rfl ?_
      exact ev_m (loc' := [.ref a0, .int i1, .int i2, .null, .int i4, .int i5, .int (i6 + (1 : Int32))]) am_q255 rfl rfl H
/-! 256: X12_isUnder -/
theorem am_q256 : (am_mt 256).2.2.2.2.2 = am_m256.2.2.2.2.2 := rfl
set_option maxRecDepth 20000 in
set_option maxHeartbeats 2000000 in
theorem wp256 {d : Nat} (i0 : Int32) (i1 : Int32) {h : AH} {Q : Option Value → AH → Prop} (H : (i1 = (0 : Int32) → Q (some (.int (1 : Int32))) h) ∧ (¬ i1 = (0 : Int32) → (i0 = i1 → Q (some (.int (1 : Int32))) h) ∧ (¬ i0 = i1 → ((¬ i0 = (2 : Int32)) → Q (some (.int (0 : Int32))) h) ∧ (¬ (¬ i0 = (2 : Int32)) → ((¬ i1 = (1 : Int32)) → Q (some (.int (0 : Int32))) h) ∧ (¬ (¬ i1 = (1 : Int32)) → Q (some (.int (1 : Int32))) h))))) : Cl d 256 [.int i0, .int i1] h Q := by
  show Ev d 256 0 [.int i0, .int i1] [] h Q
  refine ev_p (pc' := 1) (loc' := [.int i0, .int i1]) (st' := [.int i1]) 1 am_q256 rfl ?_
  refine ev_jz (t := 19) am_q256 rfl rfl (fun hq => ?_) (fun hq => ?_)
  · replace H := H.1 hq
    refine ev_p (pc' := 24) (loc' := [.null, .null]) (st' := [.int (1 : Int32)]) 2 am_q256 rfl ?_
    exact ev_r (v := some (.int (1 : Int32))) am_q256 rfl rfl rfl rfl H
  · replace H := H.2 hq
    refine ev_p (pc' := 6) (loc' := [.int i0, .int i1]) (st' := [.int i1, .int i0]) 2 am_q256 rfl ?_
    refine ev_jc (t := 19) am_q256 rfl rfl (fun hq => ?_) (fun hq => ?_)
    · replace H := H.1 hq
      refine ev_p (pc' := 24) (loc' := [.null, .null]) (st' := [.int (1 : Int32)]) 2 am_q256 rfl ?_
      exact ev_r (v := some (.int (1 : Int32))) am_q256 rfl rfl rfl rfl H
    · replace H := H.2 hq
      refine ev_p (pc' := 11) (loc' := [.int i0, .int i1]) (st' := [.int (2 : Int32), .int i0]) 2 am_q256 rfl ?_
      refine ev_jc (t := 23) am_q256 rfl rfl (fun hq => ?_) (fun hq => ?_)
      · replace H := H.1 hq
        refine ev_p (pc' := 24) (loc' := [.null, .null]) (st' := [.int (0 : Int32)]) 1 am_q256 rfl ?_
        exact ev_r (v := some (.int (0 : Int32))) am_q256 rfl rfl rfl rfl H
      · replace H := H.2 hq
        refine ev_p (pc' := 16) (loc' := [.int i0, .int i1]) (st' := [.int (1 : Int32), .int i1]) 2 am_q256 rfl ?_
        refine ev_jc (t := 23) am_q256 rfl rfl (fun hq => ?_) (fun hq => ?_)
        · replace H := H.1 hq
          refine ev_p (pc' := 24) (loc' := [.null, .null]) (st' := [.int (0 : Int32)]) 1 am_q256 rfl ?_
          exact ev_r (v := some (.int (0 : Int32))) am_q256 rfl rfl rfl rfl H
        · replace H := H.2 hq
          refine ev_p (pc' := 24) (loc' := [.null, .null]) (st' := [.int (1 : Int32)]) 2 am_q256 rfl ?_
          exact ev_r (v := some (.int (1 : Int32))) am_q256 rfl rfl rfl rfl H
/-! 257: X12_asRight -/
theorem am_q257 : (am_mt 257).2.2.2.2.2 = am_m257.2.2.2.2.2 := rfl
set_option maxRecDepth 20000 in
set_option maxHeartbeats 2000000 in
theorem wp257 {d : Nat} (a0 : Nat) (i1 : Int32) (i2 : Int32) (i3 : Int32) {h : AH} {Q : Option Value → AH → Prop} (H : am_kd h a0 = 12 ∧ ∃ b2, am_gr h a0 43 = some b2 ∧ am_kd h b2 = 100 ∧ am_in i1 (am_ln h b2) ∧ ((am_gi h b2 (Int32.toNatClampNeg i1)) = (0 : Int32) → Ev (d + 1) 257 43 [.ref a0, .int i1, .null, .int i3, .int (am_gi h b2 (Int32.toNatClampNeg i1))] [] h Q) ∧ (¬ (am_gi h b2 (Int32.toNatClampNeg i1)) = (0 : Int32) → ((¬ (am_gi h b2 (Int32.toNatClampNeg i1)) = (1 : Int32)) → am_kd h a0 = 12 ∧ Cl d 254 [.ref a0, .int i3] h (fun r7 h6 => ∃ x9, r7 = some (.int x9) ∧ Q (some (.int x9)) h6)) ∧ (¬ (¬ (am_gi h b2 (Int32.toNatClampNeg i1)) = (1 : Int32)) → am_kd h a0 = 12 ∧ ∃ b11, am_gr h a0 15 = some b11 ∧ am_kd h a0 = 12 ∧ ∃ b14, am_gr h a0 44 = some b14 ∧ am_kd h b14 = 100 ∧ am_in i1 (am_ln h b14) ∧ am_kd h b11 = 100 ∧ am_in (am_gi h b14 (Int32.toNatClampNeg i1)) (am_ln h b11) ∧ Cl d 256 [.int (am_gi h b11 (Int32.toNatClampNeg (am_gi h b14 (Int32.toNatClampNeg i1)))), .int i2] h (fun r21 h20 => ∃ x22, r21 = some (.int x22) ∧ ((¬ x22 = (0 : Int32)) → Ev (d + 1) 257 43 [.ref a0, .int i1, .null, .int i3, .int (am_gi h b2 (Int32.toNatClampNeg i1))] [] h20 Q) ∧ (¬ (¬ x22 = (0 : Int32)) → am_kd h20 a0 = 12 ∧ Cl d 254 [.ref a0, .int i3] h20 (fun r24 h23 => ∃ x26, r24 = some (.int x26) ∧ Q (some (.int x26)) h23)))))) : Cl (d + 1) 257 [.ref a0, .int i1, .int i2, .int i3] h Q := by
  show Ev (d + 1) 257 0 [.ref a0, .int i1, .int i2, .int i3, .null] [] h Q
  refine ev_p (pc' := 1) (loc' := [.ref a0, .int i1, .int i2, .int i3, .null]) (st' := [.ref a0]) 1 am_q257 rfl ?_
  obtain ⟨g1, b2, e3, H⟩ := H
  refine ev_s (pc' := 4) (loc' := [.ref a0, .int i1, .int i2, .int i3, .null]) (st' := [.ref b2]) (h1 := h) am_q257 rfl rfl rfl (am_gf2 g1 e3) ?_
  refine ev_p (pc' := 5) (loc' := [.ref a0, .int i1, .int i2, .int i3, .null]) (st' := [.int i1, .ref b2]) 1 am_q257 rfl ?_
  obtain ⟨g4, g5, H⟩ := H
  refine ev_s (pc' := 6) (loc' := [.ref a0, .int i1, .int i2, .int i3, .null]) (st' := [.int (am_gi h b2 (Int32.toNatClampNeg i1))]) (h1 := h) am_q257 rfl rfl rfl (am_xx g4 g5) ?_
  refine ev_p (pc' := 10) (loc' := [.ref a0, .int i1, .int i2, .int i3, .int (am_gi h b2 (Int32.toNatClampNeg i1))]) (st' := [.int (am_gi h b2 (Int32.toNatClampNeg i1))]) 2 am_q257 rfl ?_
  refine ev_jz (t := 43) am_q257 rfl rfl (fun hq => ?_) (fun hq => ?_)
  · replace H := H.1 hq
    exact ev_m (loc' := [.ref a0, .int i1, .null, .int i3, .int (am_gi h b2 (Int32.toNatClampNeg i1))]) am_q257 rfl rfl H
  · replace H := H.2 hq
    refine ev_p (pc' := 16) (loc' := [.ref a0, .int i1, .int i2, .int i3, .int (am_gi h b2 (Int32.toNatClampNeg i1))]) (st' := [.int (1 : Int32), .int (am_gi h b2 (Int32.toNatClampNeg i1))]) 2 am_q257 rfl ?_
    refine ev_jc (t := 37) am_q257 rfl rfl (fun hq => ?_) (fun hq => ?_)
    · replace H := H.1 hq
      refine ev_p (pc' := 39) (loc' := [.ref a0, .null, .null, .int i3, .null]) (st' := [.int i3, .ref a0]) 2 am_q257 rfl ?_
      obtain ⟨g8, H⟩ := H
      refine ev_c (vs := [.ref a0, .int i3]) (rest := []) 254 am_q257 rfl rfl rfl rfl rfl rfl rfl rfl rfl rfl rfl rfl (Or.inr (congrArg some g8)) (Cl.mono H (Nat.le_refl _) (fun r7 h6 H => ?_))
      obtain ⟨x9, rfl, H⟩ := H
      exact ev_r (v := some (.int x9)) am_q257 rfl rfl rfl rfl H
    · replace H := H.2 hq
      refine ev_p (pc' := 20) (loc' := [.ref a0, .int i1, .int i2, .int i3, .int (am_gi h b2 (Int32.toNatClampNeg i1))]) (st' := [.ref a0]) 1 am_q257 rfl ?_
      obtain ⟨g10, b11, e12, H⟩ := H
      refine ev_s (pc' := 23) (loc' := [.ref a0, .int i1, .int i2, .int i3, .int (am_gi h b2 (Int32.toNatClampNeg i1))]) (st' := [.ref b11]) (h1 := h) am_q257 rfl rfl rfl (am_gf2 g10 e12) ?_
      refine ev_p (pc' := 24) (loc' := [.ref a0, .int i1, .int i2, .int i3, .int (am_gi h b2 (Int32.toNatClampNeg i1))]) (st' := [.ref a0, .ref b11]) 1 am_q257 rfl ?_
      obtain ⟨g13, b14, e15, H⟩ := H
      refine ev_s (pc' := 27) (loc' := [.ref a0, .int i1, .int i2, .int i3, .int (am_gi h b2 (Int32.toNatClampNeg i1))]) (st' := [.ref b14, .ref b11]) (h1 := h) am_q257 rfl rfl rfl (am_gf2 g13 e15) ?_
      refine ev_p (pc' := 28) (loc' := [.ref a0, .int i1, .int i2, .int i3, .int (am_gi h b2 (Int32.toNatClampNeg i1))]) (st' := [.int i1, .ref b14, .ref b11]) 1 am_q257 rfl ?_
      obtain ⟨g16, g17, H⟩ := H
      refine ev_s (pc' := 29) (loc' := [.ref a0, .int i1, .int i2, .int i3, .int (am_gi h b2 (Int32.toNatClampNeg i1))]) (st' := [.int (am_gi h b14 (Int32.toNatClampNeg i1)), .ref b11]) (h1 := h) am_q257 rfl rfl rfl (am_xx g16 g17) ?_
      obtain ⟨g18, g19, H⟩ := H
      refine ev_s (pc' := 30) (loc' := [.ref a0, .int i1, .int i2, .int i3, .int (am_gi h b2 (Int32.toNatClampNeg i1))]) (st' := [.int (am_gi h b11 (Int32.toNatClampNeg (am_gi h b14 (Int32.toNatClampNeg i1))))]) (h1 := h) am_q257 rfl rfl rfl (am_xx g18 g19) ?_
      refine ev_p (pc' := 31) (loc' := [.ref a0, .int i1, .int i2, .int i3, .int (am_gi h b2 (Int32.toNatClampNeg i1))]) (st' := [.int i2, .int (am_gi h b11 (Int32.toNatClampNeg (am_gi h b14 (Int32.toNatClampNeg i1))))]) 1 am_q257 rfl ?_
      refine ev_c (vs := [.int (am_gi h b11 (Int32.toNatClampNeg (am_gi h b14 (Int32.toNatClampNeg i1)))), .int i2]) (rest := []) 256 am_q257 rfl rfl rfl rfl rfl rfl rfl rfl rfl rfl rfl rfl (Or.inl rfl) (Cl.mono H (Nat.le_refl _) (fun r21 h20 H => ?_))
      obtain ⟨x22, rfl, H⟩ := H
      refine ev_jz (t := 43) am_q257 rfl rfl (fun hq => ?_) (fun hq => ?_)
      · replace H := H.1 hq
        exact ev_m (loc' := [.ref a0, .int i1, .null, .int i3, .int (am_gi h b2 (Int32.toNatClampNeg i1))]) am_q257 rfl rfl H
      · replace H := H.2 hq
        refine ev_p (pc' := 39) (loc' := [.ref a0, .null, .null, .int i3, .null]) (st' := [.int i3, .ref a0]) 2 am_q257 rfl ?_
        obtain ⟨g25, H⟩ := H
        refine ev_c (vs := [.ref a0, .int i3]) (rest := []) 254 am_q257 rfl rfl rfl rfl rfl rfl rfl rfl rfl rfl rfl rfl (Or.inr (congrArg some g25)) (Cl.mono H (Nat.le_refl _) (fun r24 h23 H => ?_))
        obtain ⟨x26, rfl, H⟩ := H
        exact ev_r (v := some (.int x26)) am_q257 rfl rfl rfl rfl H
set_option maxRecDepth 20000 in
set_option maxHeartbeats 2000000 in
theorem wp257_43 {d : Nat} (a0 : Nat) (i1 : Int32) (i3 : Int32) (i4 : Int32) {h : AH} {Q : Option Value → AH → Prop} (H : ((¬ i4 = (0 : Int32)) → am_kd h a0 = 12 ∧ ∃ b2, am_gr h a0 16 = some b2 ∧ am_kd h a0 = 12 ∧ ∃ b5, am_gr h a0 44 = some b5 ∧ am_kd h b5 = 100 ∧ am_in i1 (am_ln h b5) ∧ am_kd h b2 = 100 ∧ am_in (am_gi h b5 (Int32.toNatClampNeg i1)) (am_ln h b2) ∧ am_kd h a0 = 12 ∧ Cl d 253 [.ref a0, .int (am_gi h b2 (Int32.toNatClampNeg (am_gi h b5 (Int32.toNatClampNeg i1))))] h (fun r12 h11 => ∃ x14, r12 = some (.int x14) ∧ Q (some (.int x14)) h11)) ∧ (¬ (¬ i4 = (0 : Int32)) → ((¬ i3 = (11 : Int32)) → am_kd h a0 = 12 ∧ Cl d 253 [.ref a0, .int (0 : Int32)] h (fun r16 h15 => ∃ x18, r16 = some (.int x18) ∧ Q (some (.int x18)) h15)) ∧ (¬ (¬ i3 = (11 : Int32)) → am_kd h a0 = 12 ∧ Cl d 254 [.ref a0, .int (10 : Int32)] h (fun r20 h19 => ∃ x22, r20 = some (.int x22) ∧ Q (some (.int x22)) h19)))) : Ev (d + 1) 257 43 [.ref a0, .int i1, .null, .int i3, .int i4] [] h Q := by
  refine ev_p (pc' := 45) (loc' := [.ref a0, .int i1, .null, .int i3, .int i4]) (st' := [.int i4]) 1 am_q257 rfl ?_
  refine ev_jz (t := 69) am_q257 rfl rfl (fun hq => ?_) (fun hq => ?_)
  · replace H := H.1 hq
    refine ev_p (pc' := 71) (loc' := [.ref a0, .int i1, .null, .int i3, .int i4]) (st' := [.ref a0, .ref a0]) 2 am_q257 rfl ?_
    obtain ⟨g1, b2, e3, H⟩ := H
    refine ev_s (pc' := 74) (loc' := [.ref a0, .int i1, .null, .int i3, .int i4]) (st' := [.ref b2, .ref a0]) (h1 := h) am_q257 rfl rfl rfl (am_gf2 g1 e3) ?_
    refine ev_p (pc' := 75) (loc' := [.ref a0, .int i1, .null, .int i3, .int i4]) (st' := [.ref a0, .ref b2, .ref a0]) 1 am_q257 rfl ?_
    obtain ⟨g4, b5, e6, H⟩ := H
    refine ev_s (pc' := 78) (loc' := [.ref a0, .int i1, .null, .int i3, .int i4]) (st' := [.ref b5, .ref b2, .ref a0]) (h1 := h) am_q257 rfl rfl rfl (am_gf2 g4 e6) ?_
    refine ev_p (pc' := 79) (loc' := [.ref a0, .int i1, .null, .int i3, .int i4]) (st' := [.int i1, .ref b5, .ref b2, .ref a0]) 1 am_q257 rfl ?_
    obtain ⟨g7, g8, H⟩ := H
    refine ev_s (pc' := 80) (loc' := [.ref a0, .int i1, .null, .int i3, .int i4]) (st' := [.int (am_gi h b5 (Int32.toNatClampNeg i1)), .ref b2, .ref a0]) (h1 := h) am_q257 rfl rfl rfl (am_xx g7 g8) ?_
    obtain ⟨g9, g10, H⟩ := H
    refine ev_s (pc' := 81) (loc' := [.ref a0, .int i1, .null, .int i3, .int i4]) (st' := [.int (am_gi h b2 (Int32.toNatClampNeg (am_gi h b5 (Int32.toNatClampNeg i1)))), .ref a0]) (h1 := h) am_q257 rfl rfl rfl (am_xx g9 g10) ?_
    obtain ⟨g13, H⟩ := H
    refine ev_c (vs := [.ref a0, .int (am_gi h b2 (Int32.toNatClampNeg (am_gi h b5 (Int32.toNatClampNeg i1))))]) (rest := []) 253 am_q257 rfl rfl rfl rfl rfl rfl rfl rfl rfl rfl rfl rfl (Or.inr (congrArg some g13)) (Cl.mono H (Nat.le_refl _) (fun r12 h11 H => ?_))
    obtain ⟨x14, rfl, H⟩ := H
    exact ev_r (v := some (.int x14)) am_q257 rfl rfl rfl rfl H
  · replace H := H.2 hq
    refine ev_p (pc' := 51) (loc' := [.ref a0, .int i1, .null, .int i3, .int i4]) (st' := [.int (11 : Int32), .int i3]) 2 am_q257 rfl ?_
    refine ev_jc (t := 63) am_q257 rfl rfl (fun hq => ?_) (fun hq => ?_)
    · replace H := H.1 hq
      refine ev_p (pc' := 65) (loc' := [.ref a0, .int i1, .null, .int i3, .int i4]) (st' := [.int (0 : Int32), .ref a0]) 2 am_q257 rfl ?_
      obtain ⟨g17, H⟩ := H
      refine ev_c (vs := [.ref a0, .int (0 : Int32)]) (rest := []) 253 am_q257 rfl rfl rfl rfl rfl rfl rfl rfl rfl rfl rfl rfl (Or.inr (congrArg some g17)) (Cl.mono H (Nat.le_refl _) (fun r16 h15 H => ?_))
      obtain ⟨x18, rfl, H⟩ := H
      exact ev_r (v := some (.int x18)) am_q257 rfl rfl rfl rfl H
    · replace H := H.2 hq
      refine ev_p (pc' := 57) (loc' := [.ref a0, .int i1, .null, .int i3, .int i4]) (st' := [.int (10 : Int32), .ref a0]) 2 am_q257 rfl ?_
      obtain ⟨g21, H⟩ := H
      refine ev_c (vs := [.ref a0, .int (10 : Int32)]) (rest := []) 254 am_q257 rfl rfl rfl rfl rfl rfl rfl rfl rfl rfl rfl rfl (Or.inr (congrArg some g21)) (Cl.mono H (Nat.le_refl _) (fun r20 h19 H => ?_))
      obtain ⟨x22, rfl, H⟩ := H
      refine ev_p (pc' := 68) (loc' := [.ref a0, .int i1, .null, .int i3, .int i4]) (st' := [.int x22]) 1 am_q257 rfl ?_
      exact ev_r (v := some (.int x22)) am_q257 rfl rfl rfl rfl H
/-! 258: X12_asRow -/
theorem am_q258 : (am_mt 258).2.2.2.2.2 = am_m258.2.2.2.2.2 := rfl
set_option maxRecDepth 20000 in
set_option maxHeartbeats 2000000 in
theorem wp258 {d : Nat} (a0 : Nat) (i1 : Int32) (i2 : Int32) (i3 : Int32) {h : AH} {Q : Option Value → AH → Prop} (H : am_kd h a0 = 12 ∧ ∃ b2, am_gr h a0 43 = some b2 ∧ am_kd h b2 = 100 ∧ am_in i1 (am_ln h b2) ∧ ((¬ (am_gi h b2 (Int32.toNatClampNeg i1)) = (0 : Int32)) → am_kd h a0 = 12 ∧ ∃ b7, am_gr h a0 43 = some b7 ∧ am_kd h b7 = 100 ∧ am_in i1 (am_ln h b7) ∧ ((am_gi h b7 (Int32.toNatClampNeg i1)) = i2 → am_kd h a0 = 12 ∧ ∃ b12, am_gr h a0 45 = some b12 ∧ am_kd h b12 = 100 ∧ am_in i1 (am_ln h b12) ∧ Cl d 167 [.int i3, .int (0 : Int32), .int ((am_gi h b12 (Int32.toNatClampNeg i1)) - (1 : Int32))] h (fun r17 h16 => ∃ x18, r17 = some (.int x18) ∧ (x18 = (0 : Int32) → am_kd h16 a0 = 12 ∧ Cl d 254 [.ref a0, .int (12 : Int32)] h16 (fun r20 h19 => ∃ x22, r20 = some (.int x22) ∧ Q (some (.int x22)) h19)) ∧ (¬ x18 = (0 : Int32) → am_kd h16 a0 = 12 ∧ ∃ b24, am_gr h16 a0 46 = some b24 ∧ am_kd h16 b24 = 101 ∧ am_in (((400 : Int32) * i1) + i3) (am_ln h16 b24) ∧ am_kd h16 a0 = 12 ∧ Cl d 253 [.ref a0, .int (Int64.toInt32 (am_gl h16 b24 (Int32.toNatClampNeg (((400 : Int32) * i1) + i3))))] h16 (fun r29 h28 => ∃ x31, r29 = some (.int x31) ∧ Q (some (.int x31)) h28)))) ∧ (¬ (am_gi h b7 (Int32.toNatClampNeg i1)) = i2 → am_kd h a0 = 12 ∧ Cl d 254 [.ref a0, .int (11 : Int32)] h (fun r33 h32 => ∃ x35, r33 = some (.int x35) ∧ Q (some (.int x35)) h32))) ∧ (¬ (¬ (am_gi h b2 (Int32.toNatClampNeg i1)) = (0 : Int32)) → am_kd h a0 = 12 ∧ Cl d 254 [.ref a0, .int (10 : Int32)] h (fun r37 h36 => ∃ x39, r37 = some (.int x39) ∧ Q (some (.int x39)) h36))) : Cl (d + 1) 258 [.ref a0, .int i1, .int i2, .int i3] h Q := by
  show Ev (d + 1) 258 0 [.ref a0, .int i1, .int i2, .int i3] [] h Q
  refine ev_p (pc' := 1) (loc' := [.ref a0, .int i1, .int i2, .int i3]) (st' := [.ref a0]) 1 am_q258 rfl ?_
  obtain ⟨g1, b2, e3, H⟩ := H
  refine ev_s (pc' := 4) (loc' := [.ref a0, .int i1, .int i2, .int i3]) (st' := [.ref b2]) (h1 := h) am_q258 rfl rfl rfl (am_gf2 g1 e3) ?_
  refine ev_p (pc' := 5) (loc' := [.ref a0, .int i1, .int i2, .int i3]) (st' := [.int i1, .ref b2]) 1 am_q258 rfl ?_
  obtain ⟨g4, g5, H⟩ := H
  refine ev_s (pc' := 6) (loc' := [.ref a0, .int i1, .int i2, .int i3]) (st' := [.int (am_gi h b2 (Int32.toNatClampNeg i1))]) (h1 := h) am_q258 rfl rfl rfl (am_xx g4 g5) ?_
  refine ev_jz (t := 16) am_q258 rfl rfl (fun hq => ?_) (fun hq => ?_)
  · replace H := H.1 hq
    refine ev_p (pc' := 17) (loc' := [.ref a0, .int i1, .int i2, .int i3]) (st' := [.ref a0]) 1 am_q258 rfl ?_
    obtain ⟨g6, b7, e8, H⟩ := H
    refine ev_s (pc' := 20) (loc' := [.ref a0, .int i1, .int i2, .int i3]) (st' := [.ref b7]) (h1 := h) am_q258 rfl rfl rfl (am_gf2 g6 e8) ?_
    refine ev_p (pc' := 21) (loc' := [.ref a0, .int i1, .int i2, .int i3]) (st' := [.int i1, .ref b7]) 1 am_q258 rfl ?_
    obtain ⟨g9, g10, H⟩ := H
    refine ev_s (pc' := 22) (loc' := [.ref a0, .int i1, .int i2, .int i3]) (st' := [.int (am_gi h b7 (Int32.toNatClampNeg i1))]) (h1 := h) am_q258 rfl rfl rfl (am_xx g9 g10) ?_
    refine ev_p (pc' := 23) (loc' := [.ref a0, .int i1, .int i2, .int i3]) (st' := [.int i2, .int (am_gi h b7 (Int32.toNatClampNeg i1))]) 1 am_q258 rfl ?_
    refine ev_jc (t := 33) am_q258 rfl rfl (fun hq => ?_) (fun hq => ?_)
    · replace H := H.1 hq
      refine ev_p (pc' := 36) (loc' := [.ref a0, .int i1, .int i2, .int i3]) (st' := [.ref a0, .int (0 : Int32), .int i3]) 3 am_q258 rfl ?_
      obtain ⟨g11, b12, e13, H⟩ := H
      refine ev_s (pc' := 39) (loc' := [.ref a0, .int i1, .int i2, .int i3]) (st' := [.ref b12, .int (0 : Int32), .int i3]) (h1 := h) am_q258 rfl rfl rfl (am_gf2 g11 e13) ?_
      refine ev_p (pc' := 40) (loc' := [.ref a0, .int i1, .int i2, .int i3]) (st' := [.int i1, .ref b12, .int (0 : Int32), .int i3]) 1 am_q258 rfl ?_
      obtain ⟨g14, g15, H⟩ := H
      refine ev_s (pc' := 41) (loc' := [.ref a0, .int i1, .int i2, .int i3]) (st' := [.int (am_gi h b12 (Int32.toNatClampNeg i1)), .int (0 : Int32), .int i3]) (h1 := h) am_q258 rfl rfl rfl (am_xx g14 g15) ?_
      refine ev_p (pc' := 43) (loc' := [.ref a0, .int i1, .int i2, .int i3]) (st' := [.int ((am_gi h b12 (Int32.toNatClampNeg i1)) - (1 : Int32)), .int (0 : Int32), .int i3]) 2 am_q258 rfl ?_
      refine ev_c (vs := [.int i3, .int (0 : Int32), .int ((am_gi h b12 (Int32.toNatClampNeg i1)) - (1 : Int32))]) (rest := []) 167 am_q258 rfl rfl rfl rfl rfl rfl rfl rfl rfl rfl rfl rfl (Or.inl rfl) (Cl.mono H (Nat.le_refl _) (fun r17 h16 H => ?_))
      obtain ⟨x18, rfl, H⟩ := H
      refine ev_jz (t := 69) am_q258 rfl rfl (fun hq => ?_) (fun hq => ?_)
      · replace H := H.1 hq
        refine ev_p (pc' := 72) (loc' := [.ref a0, .int i1, .int i2, .int i3]) (st' := [.int (12 : Int32), .ref a0]) 2 am_q258 rfl ?_
        obtain ⟨g21, H⟩ := H
        refine ev_c (vs := [.ref a0, .int (12 : Int32)]) (rest := []) 254 am_q258 rfl rfl rfl rfl rfl rfl rfl rfl rfl rfl rfl rfl (Or.inr (congrArg some g21)) (Cl.mono H (Nat.le_refl _) (fun r20 h19 H => ?_))
        obtain ⟨x22, rfl, H⟩ := H
        exact ev_r (v := some (.int x22)) am_q258 rfl rfl rfl rfl H
      · replace H := H.2 hq
        refine ev_p (pc' := 51) (loc' := [.ref a0, .int i1, .int i2, .int i3]) (st' := [.ref a0, .ref a0]) 2 am_q258 rfl ?_
        obtain ⟨g23, b24, e25, H⟩ := H
        refine ev_s (pc' := 54) (loc' := [.ref a0, .int i1, .int i2, .int i3]) (st' := [.ref b24, .ref a0]) (h1 := h16) am_q258 rfl rfl rfl (am_gf2 g23 e25) ?_
        refine ev_p (pc' := 61) (loc' := [.ref a0, .int i1, .int i2, .int i3]) (st' := [.int (((400 : Int32) * i1) + i3), .ref b24, .ref a0]) 5 am_q258 rfl ?_
        obtain ⟨g26, g27, H⟩ := H
        refine ev_s (pc' := 62) (loc' := [.ref a0, .int i1, .int i2, .int i3]) (st' := [.long (am_gl h16 b24 (Int32.toNatClampNeg (((400 : Int32) * i1) + i3))), .ref a0]) (h1 := h16) am_q258 rfl rfl rfl (am_xx g26 g27) ?_
        refine ev_p (pc' := 63) (loc' := [.ref a0, .int i1, .int i2, .int i3]) (st' := [.int (Int64.toInt32 (am_gl h16 b24 (Int32.toNatClampNeg (((400 : Int32) * i1) + i3)))), .ref a0]) 1 am_q258 rfl ?_
        obtain ⟨g30, H⟩ := H
        refine ev_c (vs := [.ref a0, .int (Int64.toInt32 (am_gl h16 b24 (Int32.toNatClampNeg (((400 : Int32) * i1) + i3))))]) (rest := []) 253 am_q258 rfl rfl rfl rfl rfl rfl rfl rfl rfl rfl rfl rfl (Or.inr (congrArg some g30)) (Cl.mono H (Nat.le_refl _) (fun r29 h28 H => ?_))
        obtain ⟨x31, rfl, H⟩ := H
        refine ev_p (pc' := 75) (loc' := [.ref a0, .int i1, .int i2, .int i3]) (st' := [.int x31]) 1 am_q258 rfl ?_
        exact ev_r (v := some (.int x31)) am_q258 rfl rfl rfl rfl H
    · replace H := H.2 hq
      refine ev_p (pc' := 29) (loc' := [.ref a0, .int i1, .int i2, .int i3]) (st' := [.int (11 : Int32), .ref a0]) 2 am_q258 rfl ?_
      obtain ⟨g34, H⟩ := H
      refine ev_c (vs := [.ref a0, .int (11 : Int32)]) (rest := []) 254 am_q258 rfl rfl rfl rfl rfl rfl rfl rfl rfl rfl rfl rfl (Or.inr (congrArg some g34)) (Cl.mono H (Nat.le_refl _) (fun r33 h32 H => ?_))
      obtain ⟨x35, rfl, H⟩ := H
      exact ev_r (v := some (.int x35)) am_q258 rfl rfl rfl rfl H
  · replace H := H.2 hq
    refine ev_p (pc' := 12) (loc' := [.ref a0, .int i1, .int i2, .int i3]) (st' := [.int (10 : Int32), .ref a0]) 2 am_q258 rfl ?_
    obtain ⟨g38, H⟩ := H
    refine ev_c (vs := [.ref a0, .int (10 : Int32)]) (rest := []) 254 am_q258 rfl rfl rfl rfl rfl rfl rfl rfl rfl rfl rfl rfl (Or.inr (congrArg some g38)) (Cl.mono H (Nat.le_refl _) (fun r37 h36 H => ?_))
    obtain ⟨x39, rfl, H⟩ := H
    exact ev_r (v := some (.int x39)) am_q258 rfl rfl rfl rfl H
/-! 259: X12_copied -/
theorem am_q259 : (am_mt 259).2.2.2.2.2 = am_m259.2.2.2.2.2 := rfl
set_option maxRecDepth 20000 in
set_option maxHeartbeats 2000000 in
theorem wp259 {d : Nat} (a0 : Nat) (i1 : Int32) (i2 : Int32) {h : AH} {Q : Option Value → AH → Prop} (H : am_kd h a0 = 12 ∧ ∃ b2, am_gr h a0 43 = some b2 ∧ am_kd h b2 = 100 ∧ am_in i1 (am_ln h b2) ∧ ((¬ (am_gi h b2 (Int32.toNatClampNeg i1)) = (0 : Int32)) → am_kd h a0 = 12 ∧ ∃ b7, am_gr h a0 43 = some b7 ∧ am_kd h b7 = 100 ∧ am_in i1 (am_ln h b7) ∧ ((am_gi h b7 (Int32.toNatClampNeg i1)) = (2 : Int32) → (i2 < (0 : Int32) → am_kd h a0 = 12 ∧ Cl d 254 [.ref a0, .int (12 : Int32)] h (fun r12 h11 => ∃ x14, r12 = some (.int x14) ∧ Q (some (.int x14)) h11)) ∧ (¬ i2 < (0 : Int32) → am_kd h a0 = 12 ∧ ∃ b16, am_gr h a0 45 = some b16 ∧ am_kd h b16 = 100 ∧ am_in i1 (am_ln h b16) ∧ ((am_gi h b16 (Int32.toNatClampNeg i1)) < ((1 : Int32) + i2) → am_kd h a0 = 12 ∧ Cl d 254 [.ref a0, .int (12 : Int32)] h (fun r21 h20 => ∃ x23, r21 = some (.int x23) ∧ Q (some (.int x23)) h20)) ∧ (¬ (am_gi h b16 (Int32.toNatClampNeg i1)) < ((1 : Int32) + i2) → (((2 : Int32) * i2) ≤ (9 : Int32) → Ev (d + 1) 259 69 [.ref a0, .int i1, .int i2, .int (0 : Int32), .int (0 : Int32)] [] h Q) ∧ (¬ ((2 : Int32) * i2) ≤ (9 : Int32) → am_kd h a0 = 12 ∧ Cl d 254 [.ref a0, .int (12 : Int32)] h (fun r25 h24 => ∃ x27, r25 = some (.int x27) ∧ Q (some (.int x27)) h24))))) ∧ (¬ (am_gi h b7 (Int32.toNatClampNeg i1)) = (2 : Int32) → am_kd h a0 = 12 ∧ Cl d 254 [.ref a0, .int (11 : Int32)] h (fun r29 h28 => ∃ x31, r29 = some (.int x31) ∧ Q (some (.int x31)) h28))) ∧ (¬ (¬ (am_gi h b2 (Int32.toNatClampNeg i1)) = (0 : Int32)) → am_kd h a0 = 12 ∧ Cl d 254 [.ref a0, .int (10 : Int32)] h (fun r33 h32 => ∃ x35, r33 = some (.int x35) ∧ Q (some (.int x35)) h32))) : Cl (d + 1) 259 [.ref a0, .int i1, .int i2] h Q := by
  show Ev (d + 1) 259 0 [.ref a0, .int i1, .int i2, .null, .null] [] h Q
  refine ev_p (pc' := 1) (loc' := [.ref a0, .int i1, .int i2, .null, .null]) (st' := [.ref a0]) 1 am_q259 rfl ?_
  obtain ⟨g1, b2, e3, H⟩ := H
  refine ev_s (pc' := 4) (loc' := [.ref a0, .int i1, .int i2, .null, .null]) (st' := [.ref b2]) (h1 := h) am_q259 rfl rfl rfl (am_gf2 g1 e3) ?_
  refine ev_p (pc' := 5) (loc' := [.ref a0, .int i1, .int i2, .null, .null]) (st' := [.int i1, .ref b2]) 1 am_q259 rfl ?_
  obtain ⟨g4, g5, H⟩ := H
  refine ev_s (pc' := 6) (loc' := [.ref a0, .int i1, .int i2, .null, .null]) (st' := [.int (am_gi h b2 (Int32.toNatClampNeg i1))]) (h1 := h) am_q259 rfl rfl rfl (am_xx g4 g5) ?_
  refine ev_jz (t := 16) am_q259 rfl rfl (fun hq => ?_) (fun hq => ?_)
  · replace H := H.1 hq
    refine ev_p (pc' := 17) (loc' := [.ref a0, .int i1, .int i2, .null, .null]) (st' := [.ref a0]) 1 am_q259 rfl ?_
    obtain ⟨g6, b7, e8, H⟩ := H
    refine ev_s (pc' := 20) (loc' := [.ref a0, .int i1, .int i2, .null, .null]) (st' := [.ref b7]) (h1 := h) am_q259 rfl rfl rfl (am_gf2 g6 e8) ?_
    refine ev_p (pc' := 21) (loc' := [.ref a0, .int i1, .int i2, .null, .null]) (st' := [.int i1, .ref b7]) 1 am_q259 rfl ?_
    obtain ⟨g9, g10, H⟩ := H
    refine ev_s (pc' := 22) (loc' := [.ref a0, .int i1, .int i2, .null, .null]) (st' := [.int (am_gi h b7 (Int32.toNatClampNeg i1))]) (h1 := h) am_q259 rfl rfl rfl (am_xx g9 g10) ?_
    refine ev_p (pc' := 23) (loc' := [.ref a0, .int i1, .int i2, .null, .null]) (st' := [.int (2 : Int32), .int (am_gi h b7 (Int32.toNatClampNeg i1))]) 1 am_q259 rfl ?_
    refine ev_jc (t := 33) am_q259 rfl rfl (fun hq => ?_) (fun hq => ?_)
    · replace H := H.1 hq
      refine ev_p (pc' := 34) (loc' := [.ref a0, .int i1, .int i2, .null, .null]) (st' := [.int i2]) 1 am_q259 rfl ?_
      refine ev_jz (t := 57) am_q259 rfl rfl (fun hq => ?_) (fun hq => ?_)
      · replace H := H.1 hq
        refine ev_p (pc' := 60) (loc' := [.ref a0, .null, .null, .null, .null]) (st' := [.int (12 : Int32), .ref a0]) 2 am_q259 rfl ?_
        obtain ⟨g13, H⟩ := H
        refine ev_c (vs := [.ref a0, .int (12 : Int32)]) (rest := []) 254 am_q259 rfl rfl rfl rfl rfl rfl rfl rfl rfl rfl rfl rfl (Or.inr (congrArg some g13)) (Cl.mono H (Nat.le_refl _) (fun r12 h11 H => ?_))
        obtain ⟨x14, rfl, H⟩ := H
        exact ev_r (v := some (.int x14)) am_q259 rfl rfl rfl rfl H
      · replace H := H.2 hq
        refine ev_p (pc' := 41) (loc' := [.ref a0, .int i1, .int i2, .null, .null]) (st' := [.ref a0, .int ((1 : Int32) + i2)]) 4 am_q259 rfl ?_
        obtain ⟨g15, b16, e17, H⟩ := H
        refine ev_s (pc' := 44) (loc' := [.ref a0, .int i1, .int i2, .null, .null]) (st' := [.ref b16, .int ((1 : Int32) + i2)]) (h1 := h) am_q259 rfl rfl rfl (am_gf2 g15 e17) ?_
        refine ev_p (pc' := 45) (loc' := [.ref a0, .int i1, .int i2, .null, .null]) (st' := [.int i1, .ref b16, .int ((1 : Int32) + i2)]) 1 am_q259 rfl ?_
        obtain ⟨g18, g19, H⟩ := H
        refine ev_s (pc' := 46) (loc' := [.ref a0, .int i1, .int i2, .null, .null]) (st' := [.int (am_gi h b16 (Int32.toNatClampNeg i1)), .int ((1 : Int32) + i2)]) (h1 := h) am_q259 rfl rfl rfl (am_xx g18 g19) ?_
        refine ev_jc (t := 57) am_q259 rfl rfl (fun hq => ?_) (fun hq => ?_)
        · replace H := H.1 hq
          refine ev_p (pc' := 60) (loc' := [.ref a0, .null, .null, .null, .null]) (st' := [.int (12 : Int32), .ref a0]) 2 am_q259 rfl ?_
          obtain ⟨g22, H⟩ := H
          refine ev_c (vs := [.ref a0, .int (12 : Int32)]) (rest := []) 254 am_q259 rfl rfl rfl rfl rfl rfl rfl rfl rfl rfl rfl rfl (Or.inr (congrArg some g22)) (Cl.mono H (Nat.le_refl _) (fun r21 h20 H => ?_))
          obtain ⟨x23, rfl, H⟩ := H
          exact ev_r (v := some (.int x23)) am_q259 rfl rfl rfl rfl H
        · replace H := H.2 hq
          refine ev_p (pc' := 54) (loc' := [.ref a0, .int i1, .int i2, .null, .null]) (st' := [.int (9 : Int32), .int ((2 : Int32) * i2)]) 4 am_q259 rfl ?_
          refine ev_jc (t := 64) am_q259 rfl rfl (fun hq => ?_) (fun hq => ?_)
          · replace H := H.1 hq
            refine ev_p (pc' := 69) (loc' := [.ref a0, .int i1, .int i2, .int (0 : Int32), .int (0 : Int32)]) (st' := []) 4 am_q259 rfl ?_
            exact ev_m (loc' := [.ref a0, .int i1, .int i2, .int (0 : Int32), .int (0 : Int32)]) am_q259 rfl rfl H
          · replace H := H.2 hq
            refine ev_p (pc' := 60) (loc' := [.ref a0, .null, .null, .null, .null]) (st' := [.int (12 : Int32), .ref a0]) 2 am_q259 rfl ?_
            obtain ⟨g26, H⟩ := H
            refine ev_c (vs := [.ref a0, .int (12 : Int32)]) (rest := []) 254 am_q259 rfl rfl rfl rfl rfl rfl rfl rfl rfl rfl rfl rfl (Or.inr (congrArg some g26)) (Cl.mono H (Nat.le_refl _) (fun r25 h24 H => ?_))
            obtain ⟨x27, rfl, H⟩ := H
            exact ev_r (v := some (.int x27)) am_q259 rfl rfl rfl rfl H
    · replace H := H.2 hq
      refine ev_p (pc' := 29) (loc' := [.ref a0, .int i1, .int i2, .null, .null]) (st' := [.int (11 : Int32), .ref a0]) 2 am_q259 rfl ?_
      obtain ⟨g30, H⟩ := H
      refine ev_c (vs := [.ref a0, .int (11 : Int32)]) (rest := []) 254 am_q259 rfl rfl rfl rfl rfl rfl rfl rfl rfl rfl rfl rfl (Or.inr (congrArg some g30)) (Cl.mono H (Nat.le_refl _) (fun r29 h28 H => ?_))
      obtain ⟨x31, rfl, H⟩ := H
      exact ev_r (v := some (.int x31)) am_q259 rfl rfl rfl rfl H
  · replace H := H.2 hq
    refine ev_p (pc' := 12) (loc' := [.ref a0, .int i1, .int i2, .null, .null]) (st' := [.int (10 : Int32), .ref a0]) 2 am_q259 rfl ?_
    obtain ⟨g34, H⟩ := H
    refine ev_c (vs := [.ref a0, .int (10 : Int32)]) (rest := []) 254 am_q259 rfl rfl rfl rfl rfl rfl rfl rfl rfl rfl rfl rfl (Or.inr (congrArg some g34)) (Cl.mono H (Nat.le_refl _) (fun r33 h32 H => ?_))
    obtain ⟨x35, rfl, H⟩ := H
    exact ev_r (v := some (.int x35)) am_q259 rfl rfl rfl rfl H
set_option maxRecDepth 20000 in
set_option maxHeartbeats 2000000 in
theorem wp259_69 {d : Nat} (a0 : Nat) (i1 : Int32) (i2 : Int32) (i3 : Int32) (i4 : Int32) {h : AH} {Q : Option Value → AH → Prop} (H : (i2 ≤ i4 → am_kd h a0 = 12 ∧ Cl d 253 [.ref a0, .int i3] h (fun r2 h1 => ∃ x4, r2 = some (.int x4) ∧ Q (some (.int x4)) h1)) ∧ (¬ i2 ≤ i4 → am_kd h a0 = 12 ∧ ∃ b6, am_gr h a0 46 = some b6 ∧ am_kd h b6 = 101 ∧ am_in ((((400 : Int32) * i1) + (1 : Int32)) + i4) (am_ln h b6) ∧ Ev (d + 1) 259 69 [.ref a0, .int i1, .int i2, .int (i3 + (Int64.toInt32 (am_gl h b6 (Int32.toNatClampNeg ((((400 : Int32) * i1) + (1 : Int32)) + i4))))), .int (i4 + (1 : Int32))] [] h Q)) : Ev (d + 1) 259 69 [.ref a0, .int i1, .int i2, .int i3, .int i4] [] h Q := by
  refine ev_p (pc' := 72) (loc' := [.ref a0, .int i1, .int i2, .int i3, .int i4]) (st' := [.int i2, .int i4]) 2 am_q259 rfl ?_
  refine ev_jc (t := 100) am_q259 rfl rfl (fun hq => ?_) (fun hq => ?_)
  · replace H := H.1 hq
    refine ev_p (pc' := 102) (loc' := [.ref a0, .int i1, .int i2, .int i3, .int i4]) (st' := [.int i3, .ref a0]) 2 am_q259 rfl ?_
    obtain ⟨g3, H⟩ := H
    refine ev_c (vs := [.ref a0, .int i3]) (rest := []) 253 am_q259 rfl rfl rfl rfl rfl rfl rfl rfl rfl rfl rfl rfl (Or.inr (congrArg some g3)) (Cl.mono H (Nat.le_refl _) (fun r2 h1 H => ?_))
    obtain ⟨x4, rfl, H⟩ := H
    exact ev_r (v := some (.int x4)) am_q259 rfl rfl rfl rfl H
  · replace H := H.2 hq
    refine ev_p (pc' := 77) (loc' := [.ref a0, .int i1, .int i2, .int i3, .int i4]) (st' := [.ref a0, .int i3]) 2 am_q259 rfl ?_
    obtain ⟨g5, b6, e7, H⟩ := H
    refine ev_s (pc' := 80) (loc' := [.ref a0, .int i1, .int i2, .int i3, .int i4]) (st' := [.ref b6, .int i3]) (h1 := h) am_q259 rfl rfl rfl (am_gf2 g5 e7) ?_
    refine ev_p (pc' := 90) (loc' := [.ref a0, .int i1, .int i2, .int i3, .int i4]) (st' := [.int ((((400 : Int32) * i1) + (1 : Int32)) + i4), .ref b6, .int i3]) 7 am_q259 rfl ?_
    obtain ⟨g8, g9, H⟩ := H
    refine ev_s (pc' := 91) (loc' := [.ref a0, .int i1, .int i2, .int i3, .int i4]) (st' := [.long (am_gl h b6 (Int32.toNatClampNeg ((((400 : Int32) * i1) + (1 : Int32)) + i4))), .int i3]) (h1 := h) am_q259 rfl rfl rfl (am_xx g8 g9) ?_
    refine ev_p (pc' := 69) (loc' := [.ref a0, .int i1, .int i2, .int (i3 + (Int64.toInt32 (am_gl h b6 (Int32.toNatClampNeg ((((400 : Int32) * i1) + (1 : Int32)) + i4))))), .int (i4 + (1 : Int32))]) (st' := []) 5 am_q259 rfl ?_
    exact ev_m (loc' := [.ref a0, .int i1, .int i2, .int (i3 + (Int64.toInt32 (am_gl h b6 (Int32.toNatClampNeg ((((400 : Int32) * i1) + (1 : Int32)) + i4))))), .int (i4 + (1 : Int32))]) am_q259 rfl rfl H
/-! 260: X12_forge -/
theorem am_q260 : (am_mt 260).2.2.2.2.2 = am_m260.2.2.2.2.2 := rfl
set_option maxRecDepth 20000 in
set_option maxHeartbeats 2000000 in
theorem wp260 {d : Nat} (a0 : Nat) (i1 : Int32) (i2 : Int32) (i3 : Int32) {h : AH} {Q : Option Value → AH → Prop} (H : Cl d 167 [.int i1, .int (0 : Int32), .int (5 : Int32)] h (fun r2 h1 => ∃ x3, r2 = some (.int x3) ∧ (x3 = (0 : Int32) → am_kd h1 a0 = 12 ∧ Cl d 254 [.ref a0, .int (1 : Int32)] h1 (fun r5 h4 => ∃ x7, r5 = some (.int x7) ∧ Q (some (.int x7)) h4)) ∧ (¬ x3 = (0 : Int32) → Cl d 167 [.int i2, .int (0 : Int32), .int (8 : Int32)] h1 (fun r9 h8 => ∃ x10, r9 = some (.int x10) ∧ (x10 = (0 : Int32) → am_kd h8 a0 = 12 ∧ Cl d 254 [.ref a0, .int (1 : Int32)] h8 (fun r12 h11 => ∃ x14, r12 = some (.int x14) ∧ Q (some (.int x14)) h11)) ∧ (¬ x10 = (0 : Int32) → Cl d 167 [.int i3, .int (-100 : Int32), .int (100 : Int32)] h8 (fun r16 h15 => ∃ x17, r16 = some (.int x17) ∧ ((¬ x17 = (0 : Int32)) → (i2 = (0 : Int32) → ¬ (5 : Int32) = (0 : Int32) ∧ ¬ (5 : Int32) = (0 : Int32) ∧ am_kd h15 a0 = 12 ∧ Cl d 257 [.ref a0, .int i1, .int (((i3 - i3 / (5 : Int32) * (5 : Int32)) + (5 : Int32)) - ((i3 - i3 / (5 : Int32) * (5 : Int32)) + (5 : Int32)) / (5 : Int32) * (5 : Int32)), .int (11 : Int32)] h15 (fun r21 h20 => ∃ x23, r21 = some (.int x23) ∧ Q (some (.int x23)) h20)) ∧ (i2 = (1 : Int32) → am_kd h15 a0 = 12 ∧ Cl d 258 [.ref a0, .int i1, .int (2 : Int32), .int i3] h15 (fun r26 h25 => ∃ x28, r26 = some (.int x28) ∧ Q (some (.int x28)) h25)) ∧ (i2 = (2 : Int32) → am_kd h15 a0 = 12 ∧ Cl d 258 [.ref a0, .int i1, .int (3 : Int32), .int i3] h15 (fun r31 h30 => ∃ x33, r31 = some (.int x33) ∧ Q (some (.int x33)) h30)) ∧ (i2 = (3 : Int32) → am_kd h15 a0 = 12 ∧ Cl d 258 [.ref a0, .int i1, .int (4 : Int32), .int i3] h15 (fun r36 h35 => ∃ x38, r36 = some (.int x38) ∧ Q (some (.int x38)) h35)) ∧ (i2 = (4 : Int32) → ((0 : Int32) ≤ i3 → am_kd h15 a0 = 12 ∧ Cl d 253 [.ref a0, .int i3] h15 (fun r41 h40 => ∃ x43, r41 = some (.int x43) ∧ Q (some (.int x43)) h40)) ∧ (¬ (0 : Int32) ≤ i3 → am_kd h15 a0 = 12 ∧ Cl d 254 [.ref a0, .int (13 : Int32)] h15 (fun r45 h44 => ∃ x47, r45 = some (.int x47) ∧ Q (some (.int x47)) h44))) ∧ (i2 = (5 : Int32) → am_kd h15 a0 = 12 ∧ Cl d 259 [.ref a0, .int i1, .int i3] h15 (fun r50 h49 => ∃ x52, r50 = some (.int x52) ∧ Q (some (.int x52)) h49)) ∧ (i2 = (6 : Int32) → am_kd h15 a0 = 12 ∧ Cl d 257 [.ref a0, .int i1, .int (1 : Int32), .int (14 : Int32)] h15 (fun r55 h54 => ∃ x57, r55 = some (.int x57) ∧ Q (some (.int x57)) h54)) ∧ (i2 = (7 : Int32) → ((¬ i3 = (0 : Int32)) → ¬ i3 = (0 : Int32) ∧ am_kd h15 a0 = 12 ∧ Cl d 253 [.ref a0, .int ((1000 : Int32) / i3)] h15 (fun r61 h60 => ∃ x63, r61 = some (.int x63) ∧ Q (some (.int x63)) h60)) ∧ (¬ (¬ i3 = (0 : Int32)) → am_kd h15 a0 = 12 ∧ Cl d 254 [.ref a0, .int (15 : Int32)] h15 (fun r65 h64 => ∃ x67, r65 = some (.int x67) ∧ Q (some (.int x67)) h64))) ∧ (¬ i2 = (0 : Int32) ∧ ¬ i2 = (1 : Int32) ∧ ¬ i2 = (2 : Int32) ∧ ¬ i2 = (3 : Int32) ∧ ¬ i2 = (4 : Int32) ∧ ¬ i2 = (5 : Int32) ∧ ¬ i2 = (6 : Int32) ∧ ¬ i2 = (7 : Int32) → am_kd h15 a0 = 12 ∧ Cl d 254 [.ref a0, .int (10 : Int32)] h15 (fun r70 h69 => ∃ x72, r70 = some (.int x72) ∧ Q (some (.int x72)) h69))) ∧ (¬ (¬ x17 = (0 : Int32)) → am_kd h15 a0 = 12 ∧ Cl d 254 [.ref a0, .int (1 : Int32)] h15 (fun r74 h73 => ∃ x76, r74 = some (.int x76) ∧ Q (some (.int x76)) h73)))))))) : Cl (d + 1) 260 [.ref a0, .int i1, .int i2, .int i3] h Q := by
  show Ev (d + 1) 260 0 [.ref a0, .int i1, .int i2, .int i3] [] h Q
  refine ev_p (pc' := 3) (loc' := [.ref a0, .int i1, .int i2, .int i3]) (st' := [.int (5 : Int32), .int (0 : Int32), .int i1]) 3 am_q260 rfl ?_
  refine ev_c (vs := [.int i1, .int (0 : Int32), .int (5 : Int32)]) (rest := []) 167 am_q260 rfl rfl rfl rfl rfl rfl rfl rfl rfl rfl rfl rfl (Or.inl rfl) (Cl.mono H (Nat.le_refl _) (fun r2 h1 H => ?_))
  obtain ⟨x3, rfl, H⟩ := H
  refine ev_jz (t := 30) am_q260 rfl rfl (fun hq => ?_) (fun hq => ?_)
  · replace H := H.1 hq
    refine ev_p (pc' := 32) (loc' := [.ref a0, .null, .null, .null]) (st' := [.int (1 : Int32), .ref a0]) 2 am_q260 rfl ?_
    obtain ⟨g6, H⟩ := H
    refine ev_c (vs := [.ref a0, .int (1 : Int32)]) (rest := []) 254 am_q260 rfl rfl rfl rfl rfl rfl rfl rfl rfl rfl rfl rfl (Or.inr (congrArg some g6)) (Cl.mono H (Nat.le_refl _) (fun r5 h4 H => ?_))
    obtain ⟨x7, rfl, H⟩ := H
    exact ev_r (v := some (.int x7)) am_q260 rfl rfl rfl rfl H
  · replace H := H.2 hq
    refine ev_p (pc' := 13) (loc' := [.ref a0, .int i1, .int i2, .int i3]) (st' := [.int (8 : Int32), .int (0 : Int32), .int i2]) 3 am_q260 rfl ?_
    refine ev_c (vs := [.int i2, .int (0 : Int32), .int (8 : Int32)]) (rest := []) 167 am_q260 rfl rfl rfl rfl rfl rfl rfl rfl rfl rfl rfl rfl (Or.inl rfl) (Cl.mono H (Nat.le_refl _) (fun r9 h8 H => ?_))
    obtain ⟨x10, rfl, H⟩ := H
    refine ev_jz (t := 30) am_q260 rfl rfl (fun hq => ?_) (fun hq => ?_)
    · replace H := H.1 hq
      refine ev_p (pc' := 32) (loc' := [.ref a0, .null, .null, .null]) (st' := [.int (1 : Int32), .ref a0]) 2 am_q260 rfl ?_
      obtain ⟨g13, H⟩ := H
      refine ev_c (vs := [.ref a0, .int (1 : Int32)]) (rest := []) 254 am_q260 rfl rfl rfl rfl rfl rfl rfl rfl rfl rfl rfl rfl (Or.inr (congrArg some g13)) (Cl.mono H (Nat.le_refl _) (fun r12 h11 H => ?_))
      obtain ⟨x14, rfl, H⟩ := H
      exact ev_r (v := some (.int x14)) am_q260 rfl rfl rfl rfl H
    · replace H := H.2 hq
      refine ev_p (pc' := 24) (loc' := [.ref a0, .int i1, .int i2, .int i3]) (st' := [.int (100 : Int32), .int (-100 : Int32), .int i3]) 3 am_q260 rfl ?_
      refine ev_c (vs := [.int i3, .int (-100 : Int32), .int (100 : Int32)]) (rest := []) 167 am_q260 rfl rfl rfl rfl rfl rfl rfl rfl rfl rfl rfl rfl (Or.inl rfl) (Cl.mono H (Nat.le_refl _) (fun r16 h15 H => ?_))
      obtain ⟨x17, rfl, H⟩ := H
      refine ev_jz (t := 36) am_q260 rfl rfl (fun hq => ?_) (fun hq => ?_)
      · replace H := H.1 hq
        refine ev_p (pc' := 37) (loc' := [.ref a0, .int i1, .int i2, .int i3]) (st' := [.int i2]) 1 am_q260 rfl ?_
        by_cases k24 : i2 = (0 : Int32)
        · replace H := H.1 k24
          refine ev_s (pc' := 84) (loc' := [.ref a0, .int i1, .int i2, .int i3]) (st' := []) (h1 := h15) am_q260 rfl rfl rfl (by rw [k24]; rfl) ?_
          refine ev_p (pc' := 88) (loc' := [.ref a0, .int i1, .int i2, .int i3]) (st' := [.int (5 : Int32), .int i3, .int i1, .ref a0]) 4 am_q260 rfl ?_
          obtain ⟨g18, H⟩ := H
          refine ev_s (pc' := 89) (loc' := [.ref a0, .int i1, .int i2, .int i3]) (st' := [.int (i3 - i3 / (5 : Int32) * (5 : Int32)), .int i1, .ref a0]) (h1 := h15) am_q260 rfl rfl rfl (if_neg (t := none) g18) ?_
          refine ev_p (pc' := 92) (loc' := [.ref a0, .int i1, .int i2, .int i3]) (st' := [.int (5 : Int32), .int ((i3 - i3 / (5 : Int32) * (5 : Int32)) + (5 : Int32)), .int i1, .ref a0]) 3 am_q260 rfl ?_
          obtain ⟨g19, H⟩ := H
          refine ev_s (pc' := 93) (loc' := [.ref a0, .int i1, .int i2, .int i3]) (st' := [.int (((i3 - i3 / (5 : Int32) * (5 : Int32)) + (5 : Int32)) - ((i3 - i3 / (5 : Int32) * (5 : Int32)) + (5 : Int32)) / (5 : Int32) * (5 : Int32)), .int i1, .ref a0]) (h1 := h15) am_q260 rfl rfl rfl (if_neg (t := none) g19) ?_
          refine ev_p (pc' := 95) (loc' := [.ref a0, .int i1, .int i2, .int i3]) (st' := [.int (11 : Int32), .int (((i3 - i3 / (5 : Int32) * (5 : Int32)) + (5 : Int32)) - ((i3 - i3 / (5 : Int32) * (5 : Int32)) + (5 : Int32)) / (5 : Int32) * (5 : Int32)), .int i1, .ref a0]) 1 am_q260 rfl ?_
          obtain ⟨g22, H⟩ := H
          refine ev_c (vs := [.ref a0, .int i1, .int (((i3 - i3 / (5 : Int32) * (5 : Int32)) + (5 : Int32)) - ((i3 - i3 / (5 : Int32) * (5 : Int32)) + (5 : Int32)) / (5 : Int32) * (5 : Int32)), .int (11 : Int32)]) (rest := []) 257 am_q260 rfl rfl rfl rfl rfl rfl rfl rfl rfl rfl rfl rfl (Or.inr (congrArg some g22)) (Cl.mono H (Nat.le_refl _) (fun r21 h20 H => ?_))
          obtain ⟨x23, rfl, H⟩ := H
          exact ev_r (v := some (.int x23)) am_q260 rfl rfl rfl rfl H
        replace H := H.2
        by_cases k29 : i2 = (1 : Int32)
        · replace H := H.1 k29
          refine ev_s (pc' := 99) (loc' := [.ref a0, .int i1, .int i2, .int i3]) (st' := []) (h1 := h15) am_q260 rfl rfl rfl (by rw [k29]; rfl) ?_
          refine ev_p (pc' := 103) (loc' := [.ref a0, .int i1, .int i2, .int i3]) (st' := [.int i3, .int (2 : Int32), .int i1, .ref a0]) 4 am_q260 rfl ?_
          obtain ⟨g27, H⟩ := H
          refine ev_c (vs := [.ref a0, .int i1, .int (2 : Int32), .int i3]) (rest := []) 258 am_q260 rfl rfl rfl rfl rfl rfl rfl rfl rfl rfl rfl rfl (Or.inr (congrArg some g27)) (Cl.mono H (Nat.le_refl _) (fun r26 h25 H => ?_))
          obtain ⟨x28, rfl, H⟩ := H
          exact ev_r (v := some (.int x28)) am_q260 rfl rfl rfl rfl H
        replace H := H.2
        by_cases k34 : i2 = (2 : Int32)
        · replace H := H.1 k34
          refine ev_s (pc' := 107) (loc' := [.ref a0, .int i1, .int i2, .int i3]) (st' := []) (h1 := h15) am_q260 rfl rfl rfl (by rw [k34]; rfl) ?_
          refine ev_p (pc' := 111) (loc' := [.ref a0, .int i1, .int i2, .int i3]) (st' := [.int i3, .int (3 : Int32), .int i1, .ref a0]) 4 am_q260 rfl ?_
          obtain ⟨g32, H⟩ := H
          refine ev_c (vs := [.ref a0, .int i1, .int (3 : Int32), .int i3]) (rest := []) 258 am_q260 rfl rfl rfl rfl rfl rfl rfl rfl rfl rfl rfl rfl (Or.inr (congrArg some g32)) (Cl.mono H (Nat.le_refl _) (fun r31 h30 H => ?_))
          obtain ⟨x33, rfl, H⟩ := H
          exact ev_r (v := some (.int x33)) am_q260 rfl rfl rfl rfl H
        replace H := H.2
        by_cases k39 : i2 = (3 : Int32)
        · replace H := H.1 k39
          refine ev_s (pc' := 115) (loc' := [.ref a0, .int i1, .int i2, .int i3]) (st' := []) (h1 := h15) am_q260 rfl rfl rfl (by rw [k39]; rfl) ?_
          refine ev_p (pc' := 119) (loc' := [.ref a0, .int i1, .int i2, .int i3]) (st' := [.int i3, .int (4 : Int32), .int i1, .ref a0]) 4 am_q260 rfl ?_
          obtain ⟨g37, H⟩ := H
          refine ev_c (vs := [.ref a0, .int i1, .int (4 : Int32), .int i3]) (rest := []) 258 am_q260 rfl rfl rfl rfl rfl rfl rfl rfl rfl rfl rfl rfl (Or.inr (congrArg some g37)) (Cl.mono H (Nat.le_refl _) (fun r36 h35 H => ?_))
          obtain ⟨x38, rfl, H⟩ := H
          exact ev_r (v := some (.int x38)) am_q260 rfl rfl rfl rfl H
        replace H := H.2
        by_cases k48 : i2 = (4 : Int32)
        · replace H := H.1 k48
          refine ev_s (pc' := 123) (loc' := [.ref a0, .int i1, .int i2, .int i3]) (st' := []) (h1 := h15) am_q260 rfl rfl rfl (by rw [k48]; rfl) ?_
          refine ev_p (pc' := 124) (loc' := [.ref a0, .int i1, .int i2, .int i3]) (st' := [.int i3]) 1 am_q260 rfl ?_
          refine ev_jz (t := 136) am_q260 rfl rfl (fun hq => ?_) (fun hq => ?_)
          · replace H := H.1 hq
            refine ev_p (pc' := 138) (loc' := [.ref a0, .int i1, .int i2, .int i3]) (st' := [.int i3, .ref a0]) 2 am_q260 rfl ?_
            obtain ⟨g42, H⟩ := H
            refine ev_c (vs := [.ref a0, .int i3]) (rest := []) 253 am_q260 rfl rfl rfl rfl rfl rfl rfl rfl rfl rfl rfl rfl (Or.inr (congrArg some g42)) (Cl.mono H (Nat.le_refl _) (fun r41 h40 H => ?_))
            obtain ⟨x43, rfl, H⟩ := H
            exact ev_r (v := some (.int x43)) am_q260 rfl rfl rfl rfl H
          · replace H := H.2 hq
            refine ev_p (pc' := 130) (loc' := [.ref a0, .int i1, .int i2, .int i3]) (st' := [.int (13 : Int32), .ref a0]) 2 am_q260 rfl ?_
            obtain ⟨g46, H⟩ := H
            refine ev_c (vs := [.ref a0, .int (13 : Int32)]) (rest := []) 254 am_q260 rfl rfl rfl rfl rfl rfl rfl rfl rfl rfl rfl rfl (Or.inr (congrArg some g46)) (Cl.mono H (Nat.le_refl _) (fun r45 h44 H => ?_))
            obtain ⟨x47, rfl, H⟩ := H
            refine ev_p (pc' := 141) (loc' := [.ref a0, .int i1, .int i2, .int i3]) (st' := [.int x47]) 1 am_q260 rfl ?_
            exact ev_r (v := some (.int x47)) am_q260 rfl rfl rfl rfl H
        replace H := H.2
        by_cases k53 : i2 = (5 : Int32)
        · replace H := H.1 k53
          refine ev_s (pc' := 142) (loc' := [.ref a0, .int i1, .int i2, .int i3]) (st' := []) (h1 := h15) am_q260 rfl rfl rfl (by rw [k53]; rfl) ?_
          refine ev_p (pc' := 145) (loc' := [.ref a0, .int i1, .int i2, .int i3]) (st' := [.int i3, .int i1, .ref a0]) 3 am_q260 rfl ?_
          obtain ⟨g51, H⟩ := H
          refine ev_c (vs := [.ref a0, .int i1, .int i3]) (rest := []) 259 am_q260 rfl rfl rfl rfl rfl rfl rfl rfl rfl rfl rfl rfl (Or.inr (congrArg some g51)) (Cl.mono H (Nat.le_refl _) (fun r50 h49 H => ?_))
          obtain ⟨x52, rfl, H⟩ := H
          exact ev_r (v := some (.int x52)) am_q260 rfl rfl rfl rfl H
        replace H := H.2
        by_cases k58 : i2 = (6 : Int32)
        · replace H := H.1 k58
          refine ev_s (pc' := 149) (loc' := [.ref a0, .int i1, .int i2, .int i3]) (st' := []) (h1 := h15) am_q260 rfl rfl rfl (by rw [k58]; rfl) ?_
          refine ev_p (pc' := 154) (loc' := [.ref a0, .int i1, .int i2, .int i3]) (st' := [.int (14 : Int32), .int (1 : Int32), .int i1, .ref a0]) 4 am_q260 rfl ?_
          obtain ⟨g56, H⟩ := H
          refine ev_c (vs := [.ref a0, .int i1, .int (1 : Int32), .int (14 : Int32)]) (rest := []) 257 am_q260 rfl rfl rfl rfl rfl rfl rfl rfl rfl rfl rfl rfl (Or.inr (congrArg some g56)) (Cl.mono H (Nat.le_refl _) (fun r55 h54 H => ?_))
          obtain ⟨x57, rfl, H⟩ := H
          exact ev_r (v := some (.int x57)) am_q260 rfl rfl rfl rfl H
        replace H := H.2
        by_cases k68 : i2 = (7 : Int32)
        · replace H := H.1 k68
          refine ev_s (pc' := 158) (loc' := [.ref a0, .int i1, .int i2, .int i3]) (st' := []) (h1 := h15) am_q260 rfl rfl rfl (by rw [k68]; rfl) ?_
          refine ev_p (pc' := 159) (loc' := [.ref a0, .int i1, .int i2, .int i3]) (st' := [.int i3]) 1 am_q260 rfl ?_
          refine ev_jz (t := 171) am_q260 rfl rfl (fun hq => ?_) (fun hq => ?_)
          · replace H := H.1 hq
            refine ev_p (pc' := 176) (loc' := [.ref a0, .int i1, .int i2, .int i3]) (st' := [.int i3, .int (1000 : Int32), .ref a0]) 3 am_q260 rfl ?_
            obtain ⟨g59, H⟩ := H
            refine ev_s (pc' := 177) (loc' := [.ref a0, .int i1, .int i2, .int i3]) (st' := [.int ((1000 : Int32) / i3), .ref a0]) (h1 := h15) am_q260 rfl rfl rfl (if_neg (t := none) g59) ?_
            obtain ⟨g62, H⟩ := H
            refine ev_c (vs := [.ref a0, .int ((1000 : Int32) / i3)]) (rest := []) 253 am_q260 rfl rfl rfl rfl rfl rfl rfl rfl rfl rfl rfl rfl (Or.inr (congrArg some g62)) (Cl.mono H (Nat.le_refl _) (fun r61 h60 H => ?_))
            obtain ⟨x63, rfl, H⟩ := H
            exact ev_r (v := some (.int x63)) am_q260 rfl rfl rfl rfl H
          · replace H := H.2 hq
            refine ev_p (pc' := 165) (loc' := [.ref a0, .int i1, .int i2, .int i3]) (st' := [.int (15 : Int32), .ref a0]) 2 am_q260 rfl ?_
            obtain ⟨g66, H⟩ := H
            refine ev_c (vs := [.ref a0, .int (15 : Int32)]) (rest := []) 254 am_q260 rfl rfl rfl rfl rfl rfl rfl rfl rfl rfl rfl rfl (Or.inr (congrArg some g66)) (Cl.mono H (Nat.le_refl _) (fun r65 h64 H => ?_))
            obtain ⟨x67, rfl, H⟩ := H
            refine ev_p (pc' := 180) (loc' := [.ref a0, .int i1, .int i2, .int i3]) (st' := [.int x67]) 1 am_q260 rfl ?_
            exact ev_r (v := some (.int x67)) am_q260 rfl rfl rfl rfl H
        replace H := H.2
        replace H := H ⟨k24, k29, k34, k39, k48, k53, k58, k68⟩
        refine ev_s (pc' := 181) (loc' := [.ref a0, .int i1, .int i2, .int i3]) (st' := []) (h1 := h15) am_q260 rfl rfl rfl (am_tso (x := (i2).toInt) (by have z0 : (i2).toInt ≠ 0 := am_tn k24 (by decide); have z1 : (i2).toInt ≠ 1 := am_tn k29 (by decide); have z2 : (i2).toInt ≠ 2 := am_tn k34 (by decide); have z3 : (i2).toInt ≠ 3 := am_tn k39 (by decide); have z4 : (i2).toInt ≠ 4 := am_tn k48 (by decide); have z5 : (i2).toInt ≠ 5 := am_tn k53 (by decide); have z6 : (i2).toInt ≠ 6 := am_tn k58 (by decide); have z7 : (i2).toInt ≠ 7 := am_tn k68 (by decide); omega)) ?_
        refine ev_p (pc' := 184) (loc' := [.ref a0, .int i1, .int i2, .int i3]) (st' := [.int (10 : Int32), .ref a0]) 2 am_q260 rfl ?_
        obtain ⟨g71, H⟩ := H
        refine ev_c (vs := [.ref a0, .int (10 : Int32)]) (rest := []) 254 am_q260 rfl rfl rfl rfl rfl rfl rfl rfl rfl rfl rfl rfl (Or.inr (congrArg some g71)) (Cl.mono H (Nat.le_refl _) (fun r70 h69 H => ?_))
        obtain ⟨x72, rfl, H⟩ := H
        exact ev_r (v := some (.int x72)) am_q260 rfl rfl rfl rfl H
      · replace H := H.2 hq
        refine ev_p (pc' := 32) (loc' := [.ref a0, .null, .null, .null]) (st' := [.int (1 : Int32), .ref a0]) 2 am_q260 rfl ?_
        obtain ⟨g75, H⟩ := H
        refine ev_c (vs := [.ref a0, .int (1 : Int32)]) (rest := []) 254 am_q260 rfl rfl rfl rfl rfl rfl rfl rfl rfl rfl rfl rfl (Or.inr (congrArg some g75)) (Cl.mono H (Nat.le_refl _) (fun r74 h73 H => ?_))
        obtain ⟨x76, rfl, H⟩ := H
        exact ev_r (v := some (.int x76)) am_q260 rfl rfl rfl rfl H
/-! 261: X12_status -/
theorem am_q261 : (am_mt 261).2.2.2.2.2 = am_m261.2.2.2.2.2 := rfl
set_option maxRecDepth 20000 in
set_option maxHeartbeats 2000000 in
theorem wp261 {d : Nat} (a0 : Nat) {h : AH} {Q : Option Value → AH → Prop} (H : am_kd h a0 = 12 ∧ Q (some (.int (am_gi h a0 47))) h) : Cl d 261 [.ref a0] h Q := by
  show Ev d 261 0 [.ref a0] [] h Q
  refine ev_p (pc' := 1) (loc' := [.ref a0]) (st' := [.ref a0]) 1 am_q261 rfl ?_
  obtain ⟨g1, H⟩ := H
  refine ev_s (pc' := 4) (loc' := [.ref a0]) (st' := [.int (am_gi h a0 47)]) (h1 := h) am_q261 rfl rfl rfl (if_pos (e := none) g1) ?_
  exact ev_r (v := some (.int (am_gi h a0 47))) am_q261 rfl rfl rfl rfl H
