/-! 11: X1_init -/
theorem am_q11 : (am_mt 11).2.2.2.2.2 = am_m11.2.2.2.2.2 := rfl
set_option maxRecDepth 20000 in
set_option maxHeartbeats 2000000 in
theorem wp11 {d : Nat} (a0 : Nat) {h : AH} {Q : Option Value → AH → Prop} (H : (¬ (40 : Int32) < (0 : Int32) ∧ (Int32.toNatClampNeg (40 : Int32)) ≤ 100000) ∧ ∀ b3, b3 = am_sz h → ∀ h2, h2 = am_nw h 100 (Int32.toNatClampNeg (40 : Int32)) (Int32.toNatClampNeg (40 : Int32)) → am_kd h2 a0 = 1 ∧ ∀ h6, h6 = am_sr h2 a0 0 (some b3) → Q none h6) : Cl d 11 [.ref a0] h Q := by
  show Ev d 11 0 [.ref a0] [] h Q
  refine ev_p (pc' := 1) (loc' := [.ref a0]) (st' := [.ref a0]) 1 am_q11 rfl ?_
  refine ev_b (st' := []) (h1 := h) am_q11 rfl rfl rfl rfl (rfl) rfl ?_
  refine ev_p (pc' := 7) (loc' := [.ref a0]) (st' := [.int (40 : Int32), .ref a0]) 2 am_q11 rfl ?_
  obtain ⟨g4, H⟩ := H
  refine ev_s (pc' := 9) (loc' := [.ref a0]) (st' := [.ref (am_sz h), .ref a0]) (h1 := am_nw h 100 (Int32.toNatClampNeg (40 : Int32)) (Int32.toNatClampNeg (40 : Int32))) am_q11 rfl rfl rfl (if_pos (e := none) g4) ?_
  replace H := H _ rfl _ rfl
  generalize am_nw h 100 (Int32.toNatClampNeg (40 : Int32)) (Int32.toNatClampNeg (40 : Int32)) = h2 at H ⊢
  generalize am_sz h = b3 at H ⊢
  obtain ⟨g5, H⟩ := H
  refine ev_s (pc' := 12) (loc' := [.ref a0]) (st' := []) (h1 := am_sr h2 a0 0 (some b3)) am_q11 rfl rfl rfl (if_pos (e := none) g5) ?_
  replace H := H _ rfl
  generalize am_sr h2 a0 0 (some b3) = h6 at H ⊢
  exact ev_r (v := none) am_q11 rfl rfl rfl rfl H
/-! 12: X1_hasYear -/
theorem am_q12 : (am_mt 12).2.2.2.2.2 = am_m12.2.2.2.2.2 := rfl
set_option maxRecDepth 20000 in
set_option maxHeartbeats 2000000 in
theorem wp12 {d : Nat} (a0 : Nat) (i1 : Int32) {h : AH} {Q : Option Value → AH → Prop} (H : (i1 < (0 : Int32) → Q (some (.int (0 : Int32))) h) ∧ (¬ i1 < (0 : Int32) → ((40 : Int32) ≤ i1 → Q (some (.int (0 : Int32))) h) ∧ (¬ (40 : Int32) ≤ i1 → Q (some (.int (1 : Int32))) h))) : Cl d 12 [.ref a0, .int i1] h Q := by
  show Ev d 12 0 [.ref a0, .int i1] [] h Q
  refine ev_p (pc' := 1) (loc' := [.ref a0, .int i1]) (st' := [.int i1]) 1 am_q12 rfl ?_
  refine ev_jz (t := 14) am_q12 rfl rfl (fun hq => ?_) (fun hq => ?_)
  · replace H := H.1 hq
    refine ev_p (pc' := 15) (loc' := [.null, .null]) (st' := [.int (0 : Int32)]) 1 am_q12 rfl ?_
    exact ev_r (v := some (.int (0 : Int32))) am_q12 rfl rfl rfl rfl H
  · replace H := H.2 hq
    refine ev_p (pc' := 7) (loc' := [.ref a0, .int i1]) (st' := [.int (40 : Int32), .int i1]) 2 am_q12 rfl ?_
    refine ev_jc (t := 14) am_q12 rfl rfl (fun hq => ?_) (fun hq => ?_)
    · replace H := H.1 hq
      refine ev_p (pc' := 15) (loc' := [.null, .null]) (st' := [.int (0 : Int32)]) 1 am_q12 rfl ?_
      exact ev_r (v := some (.int (0 : Int32))) am_q12 rfl rfl rfl rfl H
    · replace H := H.2 hq
      refine ev_p (pc' := 15) (loc' := [.ref a0, .int i1]) (st' := [.int (1 : Int32)]) 2 am_q12 rfl ?_
      exact ev_r (v := some (.int (1 : Int32))) am_q12 rfl rfl rfl rfl H
/-! 13: X1_behindYear -/
theorem am_q13 : (am_mt 13).2.2.2.2.2 = am_m13.2.2.2.2.2 := rfl
set_option maxRecDepth 20000 in
set_option maxHeartbeats 2000000 in
theorem wp13 {d : Nat} (a0 : Nat) (i1 : Int32) (l2 : Int64) {h : AH} {Q : Option Value → AH → Prop} (H : Ev (d + 1) 13 6 [.ref a0, .int i1, .long l2, .null, .long (0 : Int64), .null, .int (0 : Int32)] [] h Q) : Cl (d + 1) 13 [.ref a0, .int i1, .long l2] h Q := by
  show Ev (d + 1) 13 0 [.ref a0, .int i1, .long l2, .null, .null, .null, .null] [] h Q
  refine ev_p (pc' := 6) (loc' := [.ref a0, .int i1, .long l2, .null, .long (0 : Int64), .null, .int (0 : Int32)]) (st' := []) 4 am_q13 rfl ?_
  exact ev_m (loc' := [.ref a0, .int i1, .long l2, .null, .long (0 : Int64), .null, .int (0 : Int32)]) am_q13 rfl rfl H
set_option maxRecDepth 20000 in
set_option maxHeartbeats 2000000 in
theorem wp13_6 {d : Nat} (a0 : Nat) (i1 : Int32) (l2 : Int64) (l4 : Int64) (i6 : Int32) {h : AH} {Q : Option Value → AH → Prop} (H : (i1 < i6 → Q (some (.long l4)) h) ∧ (¬ i1 < i6 → ((40 : Int32) ≤ i6 → Q (some (.long l4)) h) ∧ (¬ (40 : Int32) ≤ i6 → am_kd h a0 = 1 ∧ Cl d 16 [.ref a0, .long l4, .int i6, .long l2] h (fun r2 h1 => ∃ y4, r2 = some (.long y4) ∧ Ev (d + 1) 13 6 [.ref a0, .int i1, .long l2, .null, .long y4, .null, .int (i6 + (1 : Int32))] [] h1 Q)))) : Ev (d + 1) 13 6 [.ref a0, .int i1, .long l2, .null, .long l4, .null, .int i6] [] h Q := by
  refine ev_p (pc' := 9) (loc' := [.ref a0, .int i1, .long l2, .null, .long l4, .null, .int i6]) (st' := [.int i1, .int i6]) 2 am_q13 rfl ?_
  refine ev_jc (t := 36) am_q13 rfl rfl (fun hq => ?_) (fun hq => ?_)
  · replace H := H.1 hq
    refine ev_p (pc' := 38) (loc' := [.null, .null, .null, .null, .long l4, .null, .null]) (st' := [.long l4]) 1 am_q13 rfl ?_
    exact ev_r (v := some (.long l4)) am_q13 rfl rfl rfl rfl H
  · replace H := H.2 hq
    refine ev_p (pc' := 16) (loc' := [.ref a0, .int i1, .long l2, .null, .long l4, .null, .int i6]) (st' := [.int (40 : Int32), .int i6]) 2 am_q13 rfl ?_
    refine ev_jc (t := 36) am_q13 rfl rfl (fun hq => ?_) (fun hq => ?_)
    · replace H := H.1 hq
      refine ev_p (pc' := 38) (loc' := [.null, .null, .null, .null, .long l4, .null, .null]) (st' := [.long l4]) 1 am_q13 rfl ?_
      exact ev_r (v := some (.long l4)) am_q13 rfl rfl rfl rfl H
    · replace H := H.2 hq
      refine ev_p (pc' := 25) (loc' := [.ref a0, .int i1, .long l2, .null, .long l4, .null, .int i6]) (st' := [.long l2, .int i6, .long l4, .ref a0]) 4 am_q13 rfl ?_
      obtain ⟨g3, H⟩ := H
      refine ev_c (vs := [.ref a0, .long l4, .int i6, .long l2]) (rest := []) 16 am_q13 rfl rfl rfl rfl rfl rfl rfl rfl rfl rfl rfl rfl (Or.inr (congrArg some g3)) (Cl.mono H (Nat.le_refl _) (fun r2 h1 H => ?_))
      obtain ⟨y4, rfl, H⟩ := H
      refine ev_p (pc' := 6) (loc' := [.ref a0, .int i1, .long l2, .null, .long y4, .null, .int (i6 + (1 : Int32))]) (st' := []) 3 am_q13 rfl ?_
      exact ev_m (loc' := [.ref a0, .int i1, .long l2, .null, .long y4, .null, .int (i6 + (1 : Int32))]) am_q13 rfl rfl H
/-! 14: X1_leastDue -/
theorem am_q14 : (am_mt 14).2.2.2.2.2 = am_m14.2.2.2.2.2 := rfl
set_option maxRecDepth 20000 in
set_option maxHeartbeats 2000000 in
theorem wp14 {d : Nat} (a0 : Nat) {h : AH} {Q : Option Value → AH → Prop} (H : Ev (d + 1) 14 7 [.ref a0, .int (0 : Int32), .int (1000000 : Int32), .int (0 : Int32), .null] [] h Q) : Cl (d + 1) 14 [.ref a0] h Q := by
  show Ev (d + 1) 14 0 [.ref a0, .null, .null, .null, .null] [] h Q
  refine ev_p (pc' := 7) (loc' := [.ref a0, .int (0 : Int32), .int (1000000 : Int32), .int (0 : Int32), .null]) (st' := []) 6 am_q14 rfl ?_
  exact ev_m (loc' := [.ref a0, .int (0 : Int32), .int (1000000 : Int32), .int (0 : Int32), .null]) am_q14 rfl rfl H
set_option maxRecDepth 20000 in
set_option maxHeartbeats 2000000 in
theorem wp14_7 {d : Nat} (a0 : Nat) (i1 : Int32) (i2 : Int32) (i3 : Int32) {h : AH} {Q : Option Value → AH → Prop} (H : ((32 : Int32) ≤ i3 → Q (some (.int i1)) h) ∧ (¬ (32 : Int32) ≤ i3 → (i2 ≤ i1 → Q (some (.int i1)) h) ∧ (¬ i2 ≤ i1 → ¬ (2 : Int32) = (0 : Int32) ∧ am_kd h a0 = 1 ∧ Cl d 15 [.ref a0, .int ((i1 + i2) / (2 : Int32))] h (fun r3 h2 => ∃ x5, r3 = some (.int x5) ∧ (x5 = (0 : Int32) → Ev (d + 1) 14 7 [.ref a0, .int (((i1 + i2) / (2 : Int32)) + (1 : Int32)), .int i2, .int (i3 + (1 : Int32)), .null] [] h2 Q) ∧ (¬ x5 = (0 : Int32) → Ev (d + 1) 14 7 [.ref a0, .int i1, .int ((i1 + i2) / (2 : Int32)), .int (i3 + (1 : Int32)), .null] [] h2 Q))))) : Ev (d + 1) 14 7 [.ref a0, .int i1, .int i2, .int i3, .null] [] h Q := by
  refine ev_p (pc' := 10) (loc' := [.ref a0, .int i1, .int i2, .int i3, .null]) (st' := [.int (32 : Int32), .int i3]) 2 am_q14 rfl ?_
  refine ev_jc (t := 51) am_q14 rfl rfl (fun hq => ?_) (fun hq => ?_)
  · replace H := H.1 hq
    refine ev_p (pc' := 52) (loc' := [.null, .int i1, .null, .null, .null]) (st' := [.int i1]) 1 am_q14 rfl ?_
    exact ev_r (v := some (.int i1)) am_q14 rfl rfl rfl rfl H
  · replace H := H.2 hq
    refine ev_p (pc' := 15) (loc' := [.ref a0, .int i1, .int i2, .int i3, .null]) (st' := [.int i2, .int i1]) 2 am_q14 rfl ?_
    refine ev_jc (t := 51) am_q14 rfl rfl (fun hq => ?_) (fun hq => ?_)
    · replace H := H.1 hq
      refine ev_p (pc' := 52) (loc' := [.null, .int i1, .null, .null, .null]) (st' := [.int i1]) 1 am_q14 rfl ?_
      exact ev_r (v := some (.int i1)) am_q14 rfl rfl rfl rfl H
    · replace H := H.2 hq
      refine ev_p (pc' := 22) (loc' := [.ref a0, .int i1, .int i2, .int i3, .null]) (st' := [.int (2 : Int32), .int (i1 + i2)]) 4 am_q14 rfl ?_
      obtain ⟨g1, H⟩ := H
      refine ev_s (pc' := 23) (loc' := [.ref a0, .int i1, .int i2, .int i3, .null]) (st' := [.int ((i1 + i2) / (2 : Int32))]) (h1 := h) am_q14 rfl rfl rfl (if_neg (t := none) g1) ?_
      refine ev_p (pc' := 28) (loc' := [.ref a0, .int i1, .int i2, .int i3, .int ((i1 + i2) / (2 : Int32))]) (st' := [.int ((i1 + i2) / (2 : Int32)), .ref a0]) 3 am_q14 rfl ?_
      obtain ⟨g4, H⟩ := H
      refine ev_c (vs := [.ref a0, .int ((i1 + i2) / (2 : Int32))]) (rest := []) 15 am_q14 rfl rfl rfl rfl rfl rfl rfl rfl rfl rfl rfl rfl (Or.inr (congrArg some g4)) (Cl.mono H (Nat.le_refl _) (fun r3 h2 H => ?_))
      obtain ⟨x5, rfl, H⟩ := H
      refine ev_jz (t := 40) am_q14 rfl rfl (fun hq => ?_) (fun hq => ?_)
      · replace H := H.1 hq
        refine ev_p (pc' := 7) (loc' := [.ref a0, .int (((i1 + i2) / (2 : Int32)) + (1 : Int32)), .int i2, .int (i3 + (1 : Int32)), .null]) (st' := []) 6 am_q14 rfl ?_
        exact ev_m (loc' := [.ref a0, .int (((i1 + i2) / (2 : Int32)) + (1 : Int32)), .int i2, .int (i3 + (1 : Int32)), .null]) am_q14 rfl rfl H
      · replace H := H.2 hq
        refine ev_p (pc' := 7) (loc' := [.ref a0, .int i1, .int ((i1 + i2) / (2 : Int32)), .int (i3 + (1 : Int32)), .null]) (st' := []) 5 am_q14 rfl ?_
        exact ev_m (loc' := [.ref a0, .int i1, .int ((i1 + i2) / (2 : Int32)), .int (i3 + (1 : Int32)), .null]) am_q14 rfl rfl H
/-! 15: X1_isEnough -/
theorem am_q15 : (am_mt 15).2.2.2.2.2 = am_m15.2.2.2.2.2 := rfl
set_option maxRecDepth 20000 in
set_option maxHeartbeats 2000000 in
theorem wp15 {d : Nat} (a0 : Nat) (i1 : Int32) {h : AH} {Q : Option Value → AH → Prop} (H : Ev (d + 1) 15 5 [.ref a0, .int i1, .long (0 : Int64), .null, .int (0 : Int32)] [] h Q) : Cl (d + 1) 15 [.ref a0, .int i1] h Q := by
  show Ev (d + 1) 15 0 [.ref a0, .int i1, .null, .null, .null] [] h Q
  refine ev_p (pc' := 5) (loc' := [.ref a0, .int i1, .long (0 : Int64), .null, .int (0 : Int32)]) (st' := []) 4 am_q15 rfl ?_
  exact ev_m (loc' := [.ref a0, .int i1, .long (0 : Int64), .null, .int (0 : Int32)]) am_q15 rfl rfl H
set_option maxRecDepth 20000 in
set_option maxHeartbeats 2000000 in
theorem wp15_5 {d : Nat} (a0 : Nat) (i1 : Int32) (l2 : Int64) (i4 : Int32) {h : AH} {Q : Option Value → AH → Prop} (H : ((40 : Int32) ≤ i4 → Q (some (.int (1 : Int32))) h) ∧ (¬ (40 : Int32) ≤ i4 → am_kd h a0 = 1 ∧ Cl d 16 [.ref a0, .long l2, .int i4, .long (Int32.toInt64 i1)] h (fun r2 h1 => ∃ y4, r2 = some (.long y4) ∧ ((0 : Int32) ≤ (lg_cmp y4 (0 : Int64)) → Ev (d + 1) 15 5 [.ref a0, .int i1, .long y4, .null, .int (i4 + (1 : Int32))] [] h1 Q) ∧ (¬ (0 : Int32) ≤ (lg_cmp y4 (0 : Int64)) → Q (some (.int (0 : Int32))) h1)))) : Ev (d + 1) 15 5 [.ref a0, .int i1, .long l2, .null, .int i4] [] h Q := by
  refine ev_p (pc' := 9) (loc' := [.ref a0, .int i1, .long l2, .null, .int i4]) (st' := [.int (40 : Int32), .int i4]) 2 am_q15 rfl ?_
  refine ev_jc (t := 36) am_q15 rfl rfl (fun hq => ?_) (fun hq => ?_)
  · replace H := H.1 hq
    refine ev_p (pc' := 37) (loc' := [.ref a0, .int i1, .long l2, .null, .int i4]) (st' := [.int (1 : Int32)]) 1 am_q15 rfl ?_
    exact ev_r (v := some (.int (1 : Int32))) am_q15 rfl rfl rfl rfl H
  · replace H := H.2 hq
    refine ev_p (pc' := 18) (loc' := [.ref a0, .int i1, .long l2, .null, .int i4]) (st' := [.long (Int32.toInt64 i1), .int i4, .long l2, .ref a0]) 5 am_q15 rfl ?_
    obtain ⟨g3, H⟩ := H
    refine ev_c (vs := [.ref a0, .long l2, .int i4, .long (Int32.toInt64 i1)]) (rest := []) 16 am_q15 rfl rfl rfl rfl rfl rfl rfl rfl rfl rfl rfl rfl (Or.inr (congrArg some g3)) (Cl.mono H (Nat.le_refl _) (fun r2 h1 H => ?_))
    obtain ⟨y4, rfl, H⟩ := H
    refine ev_p (pc' := 25) (loc' := [.ref a0, .int i1, .long y4, .null, .int i4]) (st' := [.int (lg_cmp y4 (0 : Int64))]) 4 am_q15 rfl ?_
    refine ev_jz (t := 30) am_q15 rfl rfl (fun hq => ?_) (fun hq => ?_)
    · replace H := H.1 hq
      refine ev_p (pc' := 5) (loc' := [.ref a0, .int i1, .long y4, .null, .int (i4 + (1 : Int32))]) (st' := []) 2 am_q15 rfl ?_
      exact ev_m (loc' := [.ref a0, .int i1, .long y4, .null, .int (i4 + (1 : Int32))]) am_q15 rfl rfl H
    · replace H := H.2 hq
      refine ev_p (pc' := 29) (loc' := [.ref a0, .int i1, .long y4, .null, .int i4]) (st' := [.int (0 : Int32)]) 1 am_q15 rfl ?_
      exact ev_r (v := some (.int (0 : Int32))) am_q15 rfl rfl rfl rfl H
/-! 16: X1_behindNext -/
theorem am_q16 : (am_mt 16).2.2.2.2.2 = am_m16.2.2.2.2.2 := rfl
set_option maxRecDepth 20000 in
set_option maxHeartbeats 2000000 in
theorem wp16 {d : Nat} (a0 : Nat) (l1 : Int64) (i3 : Int32) (l4 : Int64) {h : AH} {Q : Option Value → AH → Prop} (H : am_kd h a0 = 1 ∧ ¬ (1000 : Int64) = (0 : Int64) ∧ am_kd h a0 = 1 ∧ ∃ b4, am_gr h a0 0 = some b4 ∧ am_kd h b4 = 100 ∧ am_in i3 (am_ln h b4) ∧ Q (some (.long (((l1 + l4) + (((l1 + l4) * (Int32.toInt64 (am_gi h a0 1))) / (1000 : Int64))) - (Int32.toInt64 (am_gi h b4 (Int32.toNatClampNeg i3)))))) h) : Cl d 16 [.ref a0, .long l1, .int i3, .long l4] h Q := by
  show Ev d 16 0 [.ref a0, .long l1, .null, .int i3, .long l4, .null, .null, .null] [] h Q
  refine ev_p (pc' := 11) (loc' := [.ref a0, .long l1, .null, .int i3, .long l4, .null, .long (l1 + l4), .null]) (st' := [.ref a0, .long (l1 + l4), .long (l1 + l4)]) 7 am_q16 rfl ?_
  obtain ⟨g1, H⟩ := H
  refine ev_s (pc' := 14) (loc' := [.ref a0, .long l1, .null, .int i3, .long l4, .null, .long (l1 + l4), .null]) (st' := [.int (am_gi h a0 1), .long (l1 + l4), .long (l1 + l4)]) (h1 := h) am_q16 rfl rfl rfl (if_pos (e := none) g1) ?_
  refine ev_p (pc' := 19) (loc' := [.ref a0, .long l1, .null, .int i3, .long l4, .null, .long (l1 + l4), .null]) (st' := [.long (1000 : Int64), .long ((l1 + l4) * (Int32.toInt64 (am_gi h a0 1))), .long (l1 + l4)]) 3 am_q16 rfl ?_
  obtain ⟨g2, H⟩ := H
  refine ev_s (pc' := 20) (loc' := [.ref a0, .long l1, .null, .int i3, .long l4, .null, .long (l1 + l4), .null]) (st' := [.long (((l1 + l4) * (Int32.toInt64 (am_gi h a0 1))) / (1000 : Int64)), .long (l1 + l4)]) (h1 := h) am_q16 rfl rfl rfl (if_neg (t := none) g2) ?_
  refine ev_p (pc' := 22) (loc' := [.ref a0, .long l1, .null, .int i3, .long l4, .null, .long (l1 + l4), .null]) (st' := [.ref a0, .long ((l1 + l4) + (((l1 + l4) * (Int32.toInt64 (am_gi h a0 1))) / (1000 : Int64)))]) 2 am_q16 rfl ?_
  obtain ⟨g3, b4, e5, H⟩ := H
  refine ev_s (pc' := 25) (loc' := [.ref a0, .long l1, .null, .int i3, .long l4, .null, .long (l1 + l4), .null]) (st' := [.ref b4, .long ((l1 + l4) + (((l1 + l4) * (Int32.toInt64 (am_gi h a0 1))) / (1000 : Int64)))]) (h1 := h) am_q16 rfl rfl rfl (am_gf2 g3 e5) ?_
  refine ev_p (pc' := 26) (loc' := [.ref a0, .long l1, .null, .int i3, .long l4, .null, .long (l1 + l4), .null]) (st' := [.int i3, .ref b4, .long ((l1 + l4) + (((l1 + l4) * (Int32.toInt64 (am_gi h a0 1))) / (1000 : Int64)))]) 1 am_q16 rfl ?_
  obtain ⟨g6, g7, H⟩ := H
  refine ev_s (pc' := 27) (loc' := [.ref a0, .long l1, .null, .int i3, .long l4, .null, .long (l1 + l4), .null]) (st' := [.int (am_gi h b4 (Int32.toNatClampNeg i3)), .long ((l1 + l4) + (((l1 + l4) * (Int32.toInt64 (am_gi h a0 1))) / (1000 : Int64)))]) (h1 := h) am_q16 rfl rfl rfl (am_xx g6 g7) ?_
  refine ev_p (pc' := 29) (loc' := [.ref a0, .long l1, .null, .int i3, .long l4, .null, .long (l1 + l4), .null]) (st' := [.long (((l1 + l4) + (((l1 + l4) * (Int32.toInt64 (am_gi h a0 1))) / (1000 : Int64))) - (Int32.toInt64 (am_gi h b4 (Int32.toNatClampNeg i3))))]) 2 am_q16 rfl ?_
  exact ev_r (v := some (.long (((l1 + l4) + (((l1 + l4) * (Int32.toInt64 (am_gi h a0 1))) / (1000 : Int64))) - (Int32.toInt64 (am_gi h b4 (Int32.toNatClampNeg i3)))))) am_q16 rfl rfl rfl rfl H
/-! 17: X2_init -/
theorem am_q17 : (am_mt 17).2.2.2.2.2 = am_m17.2.2.2.2.2 := rfl
set_option maxRecDepth 20000 in
set_option maxHeartbeats 2000000 in
theorem wp17 {d : Nat} (a0 : Nat) {h : AH} {Q : Option Value → AH → Prop} (H : Q none h) : Cl d 17 [.ref a0] h Q := by
  show Ev d 17 0 [.ref a0] [] h Q
  refine ev_p (pc' := 1) (loc' := [.ref a0]) (st' := [.ref a0]) 1 am_q17 rfl ?_
  refine ev_b (st' := []) (h1 := h) am_q17 rfl rfl rfl rfl (rfl) rfl ?_
  exact ev_r (v := none) am_q17 rfl rfl rfl rfl H
/-! 18: X2_build -/
theorem am_q18 : (am_mt 18).2.2.2.2.2 = am_m18.2.2.2.2.2 := rfl
set_option maxRecDepth 20000 in
set_option maxHeartbeats 2000000 in
theorem wp18 {d : Nat} (a0 : Nat) (i1 : Int32) (i2 : Int32) (i3 : Int32) {h : AH} {Q : Option Value → AH → Prop} (H : am_kd h a0 = 2 ∧ ∀ h2, h2 = am_si h a0 0 i1 → am_kd h2 a0 = 2 ∧ ∀ h4, h4 = am_si h2 a0 1 i2 → am_kd h4 a0 = 2 ∧ ∀ h6, h6 = am_si h4 a0 2 i3 → Q none h6) : Cl d 18 [.ref a0, .int i1, .int i2, .int i3] h Q := by
  show Ev d 18 0 [.ref a0, .int i1, .int i2, .int i3] [] h Q
  refine ev_p (pc' := 2) (loc' := [.ref a0, .int i1, .int i2, .int i3]) (st' := [.int i1, .ref a0]) 2 am_q18 rfl ?_
  obtain ⟨g1, H⟩ := H
  refine ev_s (pc' := 5) (loc' := [.ref a0, .int i1, .int i2, .int i3]) (st' := []) (h1 := am_si h a0 0 i1) am_q18 rfl rfl rfl (if_pos (e := none) g1) ?_
  replace H := H _ rfl
  generalize am_si h a0 0 i1 = h2 at H ⊢
  refine ev_p (pc' := 7) (loc' := [.ref a0, .int i1, .int i2, .int i3]) (st' := [.int i2, .ref a0]) 2 am_q18 rfl ?_
  obtain ⟨g3, H⟩ := H
  refine ev_s (pc' := 10) (loc' := [.ref a0, .int i1, .int i2, .int i3]) (st' := []) (h1 := am_si h2 a0 1 i2) am_q18 rfl rfl rfl (if_pos (e := none) g3) ?_
  replace H := H _ rfl
  generalize am_si h2 a0 1 i2 = h4 at H ⊢
  refine ev_p (pc' := 12) (loc' := [.ref a0, .int i1, .int i2, .int i3]) (st' := [.int i3, .ref a0]) 2 am_q18 rfl ?_
  obtain ⟨g5, H⟩ := H
  refine ev_s (pc' := 15) (loc' := [.ref a0, .int i1, .int i2, .int i3]) (st' := []) (h1 := am_si h4 a0 2 i3) am_q18 rfl rfl rfl (if_pos (e := none) g5) ?_
  replace H := H _ rfl
  generalize am_si h4 a0 2 i3 = h6 at H ⊢
  exact ev_r (v := none) am_q18 rfl rfl rfl rfl H
/-! 19: X3_init -/
theorem am_q19 : (am_mt 19).2.2.2.2.2 = am_m19.2.2.2.2.2 := rfl
set_option maxRecDepth 20000 in
set_option maxHeartbeats 2000000 in
theorem wp19 {d : Nat} (a0 : Nat) {h : AH} {Q : Option Value → AH → Prop} (H : am_kd h a0 = 3 ∧ ∀ h3, h3 = am_si h a0 2 (-1 : Int32) → am_kd h3 a0 = 3 ∧ ∀ h5, h5 = am_si h3 a0 3 (-1 : Int32) → Q none h5) : Cl d 19 [.ref a0] h Q := by
  show Ev d 19 0 [.ref a0] [] h Q
  refine ev_p (pc' := 1) (loc' := [.ref a0]) (st' := [.ref a0]) 1 am_q19 rfl ?_
  refine ev_b (st' := []) (h1 := h) am_q19 rfl rfl rfl rfl (rfl) rfl ?_
  refine ev_p (pc' := 6) (loc' := [.ref a0]) (st' := [.int (-1 : Int32), .ref a0]) 2 am_q19 rfl ?_
  obtain ⟨g2, H⟩ := H
  refine ev_s (pc' := 9) (loc' := [.ref a0]) (st' := []) (h1 := am_si h a0 2 (-1 : Int32)) am_q19 rfl rfl rfl (if_pos (e := none) g2) ?_
  replace H := H _ rfl
  generalize am_si h a0 2 (-1 : Int32) = h3 at H ⊢
  refine ev_p (pc' := 11) (loc' := [.ref a0]) (st' := [.int (-1 : Int32), .ref a0]) 2 am_q19 rfl ?_
  obtain ⟨g4, H⟩ := H
  refine ev_s (pc' := 14) (loc' := [.ref a0]) (st' := []) (h1 := am_si h3 a0 3 (-1 : Int32)) am_q19 rfl rfl rfl (if_pos (e := none) g4) ?_
  replace H := H _ rfl
  generalize am_si h3 a0 3 (-1 : Int32) = h5 at H ⊢
  exact ev_r (v := none) am_q19 rfl rfl rfl rfl H
/-! 20: X3_arrive -/
theorem am_q20 : (am_mt 20).2.2.2.2.2 = am_m20.2.2.2.2.2 := rfl
set_option maxRecDepth 20000 in
set_option maxHeartbeats 2000000 in
theorem wp20 {d : Nat} (a0 : Nat) (i1 : Int32) (i2 : Int32) {h : AH} {Q : Option Value → AH → Prop} (H : am_kd h a0 = 3 ∧ ∀ h2, h2 = am_si h a0 0 i1 → am_kd h2 a0 = 3 ∧ ∀ h4, h4 = am_si h2 a0 1 i2 → Q none h4) : Cl d 20 [.ref a0, .int i1, .int i2] h Q := by
  show Ev d 20 0 [.ref a0, .int i1, .int i2] [] h Q
  refine ev_p (pc' := 2) (loc' := [.ref a0, .int i1, .int i2]) (st' := [.int i1, .ref a0]) 2 am_q20 rfl ?_
  obtain ⟨g1, H⟩ := H
  refine ev_s (pc' := 5) (loc' := [.ref a0, .int i1, .int i2]) (st' := []) (h1 := am_si h a0 0 i1) am_q20 rfl rfl rfl (if_pos (e := none) g1) ?_
  replace H := H _ rfl
  generalize am_si h a0 0 i1 = h2 at H ⊢
  refine ev_p (pc' := 7) (loc' := [.ref a0, .int i1, .int i2]) (st' := [.int i2, .ref a0]) 2 am_q20 rfl ?_
  obtain ⟨g3, H⟩ := H
  refine ev_s (pc' := 10) (loc' := [.ref a0, .int i1, .int i2]) (st' := []) (h1 := am_si h2 a0 1 i2) am_q20 rfl rfl rfl (if_pos (e := none) g3) ?_
  replace H := H _ rfl
  generalize am_si h2 a0 1 i2 = h4 at H ⊢
  exact ev_r (v := none) am_q20 rfl rfl rfl rfl H
/-! 21: X3_depart -/
theorem am_q21 : (am_mt 21).2.2.2.2.2 = am_m21.2.2.2.2.2 := rfl
set_option maxRecDepth 20000 in
set_option maxHeartbeats 2000000 in
theorem wp21 {d : Nat} (a0 : Nat) (i1 : Int32) {h : AH} {Q : Option Value → AH → Prop} (H : am_kd h a0 = 3 ∧ ∀ h2, h2 = am_si h a0 2 i1 → am_kd h2 a0 = 3 ∧ ∀ h4, h4 = am_si h2 a0 3 (-1 : Int32) → am_kd h4 a0 = 3 ∧ ∀ h6, h6 = am_si h4 a0 4 (0 : Int32) → Q none h6) : Cl d 21 [.ref a0, .int i1] h Q := by
  show Ev d 21 0 [.ref a0, .int i1] [] h Q
  refine ev_p (pc' := 2) (loc' := [.ref a0, .int i1]) (st' := [.int i1, .ref a0]) 2 am_q21 rfl ?_
  obtain ⟨g1, H⟩ := H
  refine ev_s (pc' := 5) (loc' := [.ref a0, .int i1]) (st' := []) (h1 := am_si h a0 2 i1) am_q21 rfl rfl rfl (if_pos (e := none) g1) ?_
  replace H := H _ rfl
  generalize am_si h a0 2 i1 = h2 at H ⊢
  refine ev_p (pc' := 7) (loc' := [.ref a0, .int i1]) (st' := [.int (-1 : Int32), .ref a0]) 2 am_q21 rfl ?_
  obtain ⟨g3, H⟩ := H
  refine ev_s (pc' := 10) (loc' := [.ref a0, .int i1]) (st' := []) (h1 := am_si h2 a0 3 (-1 : Int32)) am_q21 rfl rfl rfl (if_pos (e := none) g3) ?_
  replace H := H _ rfl
  generalize am_si h2 a0 3 (-1 : Int32) = h4 at H ⊢
  refine ev_p (pc' := 12) (loc' := [.ref a0, .int i1]) (st' := [.int (0 : Int32), .ref a0]) 2 am_q21 rfl ?_
  obtain ⟨g5, H⟩ := H
  refine ev_s (pc' := 15) (loc' := [.ref a0, .int i1]) (st' := []) (h1 := am_si h4 a0 4 (0 : Int32)) am_q21 rfl rfl rfl (if_pos (e := none) g5) ?_
  replace H := H _ rfl
  generalize am_si h4 a0 4 (0 : Int32) = h6 at H ⊢
  exact ev_r (v := none) am_q21 rfl rfl rfl rfl H
/-! 22: X3_isHere -/
theorem am_q22 : (am_mt 22).2.2.2.2.2 = am_m22.2.2.2.2.2 := rfl
set_option maxRecDepth 20000 in
set_option maxHeartbeats 2000000 in
theorem wp22 {d : Nat} (a0 : Nat) (i1 : Int32) {h : AH} {Q : Option Value → AH → Prop} (H : am_kd h a0 = 3 ∧ (i1 < (am_gi h a0 1) → Q (some (.int (0 : Int32))) h) ∧ (¬ i1 < (am_gi h a0 1) → am_kd h a0 = 3 ∧ ((am_gi h a0 2) = (-1 : Int32) → Q (some (.int (1 : Int32))) h) ∧ (¬ (am_gi h a0 2) = (-1 : Int32) → am_kd h a0 = 3 ∧ ((am_gi h a0 2) ≤ i1 → Q (some (.int (0 : Int32))) h) ∧ (¬ (am_gi h a0 2) ≤ i1 → Q (some (.int (1 : Int32))) h)))) : Cl d 22 [.ref a0, .int i1] h Q := by
  show Ev d 22 0 [.ref a0, .int i1] [] h Q
  refine ev_p (pc' := 1) (loc' := [.ref a0, .int i1]) (st' := [.ref a0]) 1 am_q22 rfl ?_
  obtain ⟨g1, H⟩ := H
  refine ev_s (pc' := 4) (loc' := [.ref a0, .int i1]) (st' := [.int (am_gi h a0 1)]) (h1 := h) am_q22 rfl rfl rfl (if_pos (e := none) g1) ?_
  refine ev_p (pc' := 5) (loc' := [.ref a0, .int i1]) (st' := [.int i1, .int (am_gi h a0 1)]) 1 am_q22 rfl ?_
  refine ev_jc (t := 28) am_q22 rfl rfl (fun hq => ?_) (fun hq => ?_)
  · replace H := H.1 hq
    refine ev_p (pc' := 29) (loc' := [.null, .null]) (st' := [.int (0 : Int32)]) 1 am_q22 rfl ?_
    exact ev_r (v := some (.int (0 : Int32))) am_q22 rfl rfl rfl rfl H
  · replace H := H.2 hq
    refine ev_p (pc' := 9) (loc' := [.ref a0, .int i1]) (st' := [.ref a0]) 1 am_q22 rfl ?_
    obtain ⟨g2, H⟩ := H
    refine ev_s (pc' := 12) (loc' := [.ref a0, .int i1]) (st' := [.int (am_gi h a0 2)]) (h1 := h) am_q22 rfl rfl rfl (if_pos (e := none) g2) ?_
    refine ev_p (pc' := 13) (loc' := [.ref a0, .int i1]) (st' := [.int (-1 : Int32), .int (am_gi h a0 2)]) 1 am_q22 rfl ?_
    refine ev_jc (t := 24) am_q22 rfl rfl (fun hq => ?_) (fun hq => ?_)
    · replace H := H.1 hq
      refine ev_p (pc' := 29) (loc' := [.null, .null]) (st' := [.int (1 : Int32)]) 2 am_q22 rfl ?_
      exact ev_r (v := some (.int (1 : Int32))) am_q22 rfl rfl rfl rfl H
    · replace H := H.2 hq
      refine ev_p (pc' := 18) (loc' := [.ref a0, .int i1]) (st' := [.ref a0, .int i1]) 2 am_q22 rfl ?_
      obtain ⟨g3, H⟩ := H
      refine ev_s (pc' := 21) (loc' := [.ref a0, .int i1]) (st' := [.int (am_gi h a0 2), .int i1]) (h1 := h) am_q22 rfl rfl rfl (if_pos (e := none) g3) ?_
      refine ev_jc (t := 28) am_q22 rfl rfl (fun hq => ?_) (fun hq => ?_)
      · replace H := H.1 hq
        refine ev_p (pc' := 29) (loc' := [.null, .null]) (st' := [.int (0 : Int32)]) 1 am_q22 rfl ?_
        exact ev_r (v := some (.int (0 : Int32))) am_q22 rfl rfl rfl rfl H
      · replace H := H.2 hq
        refine ev_p (pc' := 29) (loc' := [.null, .null]) (st' := [.int (1 : Int32)]) 2 am_q22 rfl ?_
        exact ev_r (v := some (.int (1 : Int32))) am_q22 rfl rfl rfl rfl H
/-! 23: X3_waits -/
theorem am_q23 : (am_mt 23).2.2.2.2.2 = am_m23.2.2.2.2.2 := rfl
set_option maxRecDepth 20000 in
set_option maxHeartbeats 2000000 in
theorem wp23 {d : Nat} (a0 : Nat) {h : AH} {Q : Option Value → AH → Prop} (H : am_kd h a0 = 3 ∧ ((am_gi h a0 3) = (-1 : Int32) → Q (some (.int (0 : Int32))) h) ∧ (¬ (am_gi h a0 3) = (-1 : Int32) → Q (some (.int (1 : Int32))) h)) : Cl d 23 [.ref a0] h Q := by
  show Ev d 23 0 [.ref a0] [] h Q
  refine ev_p (pc' := 1) (loc' := [.ref a0]) (st' := [.ref a0]) 1 am_q23 rfl ?_
  obtain ⟨g1, H⟩ := H
  refine ev_s (pc' := 4) (loc' := [.ref a0]) (st' := [.int (am_gi h a0 3)]) (h1 := h) am_q23 rfl rfl rfl (if_pos (e := none) g1) ?_
  refine ev_p (pc' := 5) (loc' := [.ref a0]) (st' := [.int (-1 : Int32), .int (am_gi h a0 3)]) 1 am_q23 rfl ?_
  refine ev_jc (t := 12) am_q23 rfl rfl (fun hq => ?_) (fun hq => ?_)
  · replace H := H.1 hq
    refine ev_p (pc' := 13) (loc' := [.ref a0]) (st' := [.int (0 : Int32)]) 1 am_q23 rfl ?_
    exact ev_r (v := some (.int (0 : Int32))) am_q23 rfl rfl rfl rfl H
  · replace H := H.2 hq
    refine ev_p (pc' := 13) (loc' := [.ref a0]) (st' := [.int (1 : Int32)]) 2 am_q23 rfl ?_
    exact ev_r (v := some (.int (1 : Int32))) am_q23 rfl rfl rfl rfl H
/-! 24: X4_init -/
theorem am_q24 : (am_mt 24).2.2.2.2.2 = am_m24.2.2.2.2.2 := rfl
set_option maxRecDepth 20000 in
set_option maxHeartbeats 2000000 in
theorem wp24 {d : Nat} (a0 : Nat) {h : AH} {Q : Option Value → AH → Prop} (H : (¬ (360 : Int32) < (0 : Int32) ∧ (Int32.toNatClampNeg (360 : Int32)) ≤ 100000) ∧ ∀ b3, b3 = am_sz h → ∀ h2, h2 = am_nw h 100 (Int32.toNatClampNeg (360 : Int32)) (Int32.toNatClampNeg (360 : Int32)) → am_kd h2 a0 = 4 ∧ ∀ h6, h6 = am_sr h2 a0 0 (some b3) → (¬ (12 : Int32) < (0 : Int32) ∧ (Int32.toNatClampNeg (12 : Int32)) ≤ 100000) ∧ ∀ b8, b8 = am_sz h6 → ∀ h7, h7 = am_nw h6 101 (Int32.toNatClampNeg (12 : Int32)) (Int32.toNatClampNeg (12 : Int32)) → am_kd h7 a0 = 4 ∧ ∀ h11, h11 = am_sr h7 a0 2 (some b8) → (¬ (12 : Int32) < (0 : Int32) ∧ (Int32.toNatClampNeg (12 : Int32)) ≤ 100000) ∧ ∀ b13, b13 = am_sz h11 → ∀ h12, h12 = am_nw h11 101 (Int32.toNatClampNeg (12 : Int32)) (Int32.toNatClampNeg (12 : Int32)) → am_kd h12 a0 = 4 ∧ ∀ h16, h16 = am_sr h12 a0 3 (some b13) → Q none h16) : Cl d 24 [.ref a0] h Q := by
  show Ev d 24 0 [.ref a0] [] h Q
  refine ev_p (pc' := 1) (loc' := [.ref a0]) (st' := [.ref a0]) 1 am_q24 rfl ?_
  refine ev_b (st' := []) (h1 := h) am_q24 rfl rfl rfl rfl (rfl) rfl ?_
  refine ev_p (pc' := 8) (loc' := [.ref a0]) (st' := [.int (360 : Int32), .ref a0]) 2 am_q24 rfl ?_
  obtain ⟨g4, H⟩ := H
  refine ev_s (pc' := 10) (loc' := [.ref a0]) (st' := [.ref (am_sz h), .ref a0]) (h1 := am_nw h 100 (Int32.toNatClampNeg (360 : Int32)) (Int32.toNatClampNeg (360 : Int32))) am_q24 rfl rfl rfl (if_pos (e := none) g4) ?_
  replace H := H _ rfl _ rfl
  generalize am_nw h 100 (Int32.toNatClampNeg (360 : Int32)) (Int32.toNatClampNeg (360 : Int32)) = h2 at H ⊢
  generalize am_sz h = b3 at H ⊢
  obtain ⟨g5, H⟩ := H
  refine ev_s (pc' := 13) (loc' := [.ref a0]) (st' := []) (h1 := am_sr h2 a0 0 (some b3)) am_q24 rfl rfl rfl (if_pos (e := none) g5) ?_
  replace H := H _ rfl
  generalize am_sr h2 a0 0 (some b3) = h6 at H ⊢
  refine ev_p (pc' := 16) (loc' := [.ref a0]) (st' := [.int (12 : Int32), .ref a0]) 2 am_q24 rfl ?_
  obtain ⟨g9, H⟩ := H
  refine ev_s (pc' := 18) (loc' := [.ref a0]) (st' := [.ref (am_sz h6), .ref a0]) (h1 := am_nw h6 101 (Int32.toNatClampNeg (12 : Int32)) (Int32.toNatClampNeg (12 : Int32))) am_q24 rfl rfl rfl (if_pos (e := none) g9) ?_
  replace H := H _ rfl _ rfl
  generalize am_nw h6 101 (Int32.toNatClampNeg (12 : Int32)) (Int32.toNatClampNeg (12 : Int32)) = h7 at H ⊢
  generalize am_sz h6 = b8 at H ⊢
  obtain ⟨g10, H⟩ := H
  refine ev_s (pc' := 21) (loc' := [.ref a0]) (st' := []) (h1 := am_sr h7 a0 2 (some b8)) am_q24 rfl rfl rfl (if_pos (e := none) g10) ?_
  replace H := H _ rfl
  generalize am_sr h7 a0 2 (some b8) = h11 at H ⊢
  refine ev_p (pc' := 24) (loc' := [.ref a0]) (st' := [.int (12 : Int32), .ref a0]) 2 am_q24 rfl ?_
  obtain ⟨g14, H⟩ := H
  refine ev_s (pc' := 26) (loc' := [.ref a0]) (st' := [.ref (am_sz h11), .ref a0]) (h1 := am_nw h11 101 (Int32.toNatClampNeg (12 : Int32)) (Int32.toNatClampNeg (12 : Int32))) am_q24 rfl rfl rfl (if_pos (e := none) g14) ?_
  replace H := H _ rfl _ rfl
  generalize am_nw h11 101 (Int32.toNatClampNeg (12 : Int32)) (Int32.toNatClampNeg (12 : Int32)) = h12 at H ⊢
  generalize am_sz h11 = b13 at H ⊢
  obtain ⟨g15, H⟩ := H
  refine ev_s (pc' := 29) (loc' := [.ref a0]) (st' := []) (h1 := am_sr h12 a0 3 (some b13)) am_q24 rfl rfl rfl (if_pos (e := none) g15) ?_
  replace H := H _ rfl
  generalize am_sr h12 a0 3 (some b13) = h16 at H ⊢
  exact ev_r (v := none) am_q24 rfl rfl rfl rfl H
/-! 25: X4_begin -/
theorem am_q25 : (am_mt 25).2.2.2.2.2 = am_m25.2.2.2.2.2 := rfl
set_option maxRecDepth 20000 in
set_option maxHeartbeats 2000000 in
theorem wp25 {d : Nat} (a0 : Nat) {h : AH} {Q : Option Value → AH → Prop} (H : am_kd h a0 = 4 ∧ ∀ h2, h2 = am_sl h a0 4 (0 : Int64) → Ev d 25 7 [.ref a0, .int (0 : Int32)] [] h2 Q) : Cl d 25 [.ref a0] h Q := by
  show Ev d 25 0 [.ref a0, .null] [] h Q
  refine ev_p (pc' := 2) (loc' := [.ref a0, .null]) (st' := [.long (0 : Int64), .ref a0]) 2 am_q25 rfl ?_
  obtain ⟨g1, H⟩ := H
  refine ev_s (pc' := 5) (loc' := [.ref a0, .null]) (st' := []) (h1 := am_sl h a0 4 (0 : Int64)) am_q25 rfl rfl rfl (if_pos (e := none) g1) ?_
  replace H := H _ rfl
  generalize am_sl h a0 4 (0 : Int64) = h2 at H ⊢
  refine ev_p (pc' := 7) (loc' := [.ref a0, .int (0 : Int32)]) (st' := []) 2 am_q25 rfl ?_
  exact ev_m (loc' := [.ref a0, .int (0 : Int32)]) am_q25 rfl rfl H
set_option maxRecDepth 20000 in
set_option maxHeartbeats 2000000 in
theorem wp25_7 {d : Nat} (a0 : Nat) (i1 : Int32) {h : AH} {Q : Option Value → AH → Prop} (H : ((12 : Int32) ≤ i1 → Q none h) ∧ (¬ (12 : Int32) ≤ i1 → am_kd h a0 = 4 ∧ ∃ b2, am_gr h a0 2 = some b2 ∧ am_kd h b2 = 101 ∧ am_in i1 (am_ln h b2) ∧ ∀ h6, h6 = am_sl h b2 (Int32.toNatClampNeg i1) (0 : Int64) → Ev d 25 7 [.ref a0, .int (i1 + (1 : Int32))] [] h6 Q)) : Ev d 25 7 [.ref a0, .int i1] [] h Q := by
  refine ev_p (pc' := 10) (loc' := [.ref a0, .int i1]) (st' := [.int (12 : Int32), .int i1]) 2 am_q25 rfl ?_
  refine ev_jc (t := 26) am_q25 rfl rfl (fun hq => ?_) (fun hq => ?_)
  · replace H := H.1 hq
    exact ev_r (v := none) am_q25 rfl rfl rfl rfl H
  · replace H := H.2 hq
    refine ev_p (pc' := 14) (loc' := [.ref a0, .int i1]) (st' := [.ref a0]) 1 am_q25 rfl ?_
    obtain ⟨g1, b2, e3, H⟩ := H
    refine ev_s (pc' := 17) (loc' := [.ref a0, .int i1]) (st' := [.ref b2]) (h1 := h) am_q25 rfl rfl rfl (am_gf2 g1 e3) ?_
    refine ev_p (pc' := 19) (loc' := [.ref a0, .int i1]) (st' := [.long (0 : Int64), .int i1, .ref b2]) 2 am_q25 rfl ?_
    obtain ⟨g4, g5, H⟩ := H
    refine ev_s (pc' := 20) (loc' := [.ref a0, .int i1]) (st' := []) (h1 := am_sl h b2 (Int32.toNatClampNeg i1) (0 : Int64)) am_q25 rfl rfl rfl (am_xx g4 g5) ?_
    replace H := H _ rfl
    generalize am_sl h b2 (Int32.toNatClampNeg i1) (0 : Int64) = h6 at H ⊢
    refine ev_p (pc' := 7) (loc' := [.ref a0, .int (i1 + (1 : Int32))]) (st' := []) 2 am_q25 rfl ?_
    exact ev_m (loc' := [.ref a0, .int (i1 + (1 : Int32))]) am_q25 rfl rfl H
/-! 26: X4_weigh -/
theorem am_q26 : (am_mt 26).2.2.2.2.2 = am_m26.2.2.2.2.2 := rfl
set_option maxRecDepth 20000 in
set_option maxHeartbeats 2000000 in
theorem wp26 {d : Nat} (a0 : Nat) (i1 : Int32) (l2 : Int64) {h : AH} {Q : Option Value → AH → Prop} (H : am_kd h a0 = 4 ∧ ∃ b2, am_gr h a0 2 = some b2 ∧ Cl d 266 [.long l2, .long (1000000 : Int64)] h (fun r5 h4 => ∃ y6, r5 = some (.long y6) ∧ Cl d 264 [.long (0 : Int64), .long y6] h4 (fun r8 h7 => ∃ y9, r8 = some (.long y9) ∧ am_kd h7 b2 = 101 ∧ am_in i1 (am_ln h7 b2) ∧ ∀ h12, h12 = am_sl h7 b2 (Int32.toNatClampNeg i1) y9 → am_kd h12 a0 = 4 ∧ am_kd h12 a0 = 4 ∧ ∃ b15, am_gr h12 a0 2 = some b15 ∧ am_kd h12 b15 = 101 ∧ am_in i1 (am_ln h12 b15) ∧ am_kd h12 a0 = 4 ∧ ∀ h20, h20 = am_sl h12 a0 4 ((am_gl h12 a0 4) + (am_gl h12 b15 (Int32.toNatClampNeg i1))) → Q none h20))) : Cl (d + 1) 26 [.ref a0, .int i1, .long l2] h Q := by
  show Ev (d + 1) 26 0 [.ref a0, .int i1, .long l2, .null] [] h Q
  refine ev_p (pc' := 1) (loc' := [.ref a0, .int i1, .long l2, .null]) (st' := [.ref a0]) 1 am_q26 rfl ?_
  obtain ⟨g1, b2, e3, H⟩ := H
  refine ev_s (pc' := 4) (loc' := [.ref a0, .int i1, .long l2, .null]) (st' := [.ref b2]) (h1 := h) am_q26 rfl rfl rfl (am_gf2 g1 e3) ?_
  refine ev_p (pc' := 10) (loc' := [.ref a0, .int i1, .long l2, .null]) (st' := [.long (1000000 : Int64), .long l2, .long (0 : Int64), .int i1, .ref b2]) 4 am_q26 rfl ?_
  refine ev_c (vs := [.long l2, .long (1000000 : Int64)]) (rest := [.long (0 : Int64), .int i1, .ref b2]) 266 am_q26 rfl rfl rfl rfl rfl rfl rfl rfl rfl rfl rfl rfl (Or.inl rfl) (Cl.mono H (Nat.le_refl _) (fun r5 h4 H => ?_))
  obtain ⟨y6, rfl, H⟩ := H
  refine ev_c (vs := [.long (0 : Int64), .long y6]) (rest := [.int i1, .ref b2]) 264 am_q26 rfl rfl rfl rfl rfl rfl rfl rfl rfl rfl rfl rfl (Or.inl rfl) (Cl.mono H (Nat.le_refl _) (fun r8 h7 H => ?_))
  obtain ⟨y9, rfl, H⟩ := H
  obtain ⟨g10, g11, H⟩ := H
  refine ev_s (pc' := 17) (loc' := [.ref a0, .int i1, .long l2, .null]) (st' := []) (h1 := am_sl h7 b2 (Int32.toNatClampNeg i1) y9) am_q26 rfl rfl rfl (am_xx g10 g11) ?_
  replace H := H _ rfl
  generalize am_sl h7 b2 (Int32.toNatClampNeg i1) y9 = h12 at H ⊢
  refine ev_p (pc' := 19) (loc' := [.ref a0, .int i1, .long l2, .null]) (st' := [.ref a0, .ref a0]) 2 am_q26 rfl ?_
  obtain ⟨g13, H⟩ := H
  refine ev_s (pc' := 22) (loc' := [.ref a0, .int i1, .long l2, .null]) (st' := [.long (am_gl h12 a0 4), .ref a0]) (h1 := h12) am_q26 rfl rfl rfl (if_pos (e := none) g13) ?_
  refine ev_p (pc' := 23) (loc' := [.ref a0, .int i1, .long l2, .null]) (st' := [.ref a0, .long (am_gl h12 a0 4), .ref a0]) 1 am_q26 rfl ?_
  obtain ⟨g14, b15, e16, H⟩ := H
  refine ev_s (pc' := 26) (loc' := [.ref a0, .int i1, .long l2, .null]) (st' := [.ref b15, .long (am_gl h12 a0 4), .ref a0]) (h1 := h12) am_q26 rfl rfl rfl (am_gf2 g14 e16) ?_
  refine ev_p (pc' := 27) (loc' := [.ref a0, .int i1, .long l2, .null]) (st' := [.int i1, .ref b15, .long (am_gl h12 a0 4), .ref a0]) 1 am_q26 rfl ?_
  obtain ⟨g17, g18, H⟩ := H
  refine ev_s (pc' := 28) (loc' := [.ref a0, .int i1, .long l2, .null]) (st' := [.long (am_gl h12 b15 (Int32.toNatClampNeg i1)), .long (am_gl h12 a0 4), .ref a0]) (h1 := h12) am_q26 rfl rfl rfl (am_xx g17 g18) ?_
  refine ev_p (pc' := 29) (loc' := [.ref a0, .int i1, .long l2, .null]) (st' := [.long ((am_gl h12 a0 4) + (am_gl h12 b15 (Int32.toNatClampNeg i1))), .ref a0]) 1 am_q26 rfl ?_
  obtain ⟨g19, H⟩ := H
  refine ev_s (pc' := 32) (loc' := [.ref a0, .int i1, .long l2, .null]) (st' := []) (h1 := am_sl h12 a0 4 ((am_gl h12 a0 4) + (am_gl h12 b15 (Int32.toNatClampNeg i1)))) am_q26 rfl rfl rfl (if_pos (e := none) g19) ?_
  replace H := H _ rfl
  generalize am_sl h12 a0 4 ((am_gl h12 a0 4) + (am_gl h12 b15 (Int32.toNatClampNeg i1))) = h20 at H ⊢
  exact ev_r (v := none) am_q26 rfl rfl rfl rfl H
/-! 27: X4_divide -/
theorem am_q27 : (am_mt 27).2.2.2.2.2 = am_m27.2.2.2.2.2 := rfl
set_option maxRecDepth 20000 in
set_option maxHeartbeats 2000000 in
theorem wp27 {d : Nat} (a0 : Nat) (i1 : Int32) {h : AH} {Q : Option Value → AH → Prop} (H : am_kd h a0 = 4 ∧ ((30 : Int32) ≤ (am_gi h a0 1) → Q (some (.int (-1 : Int32))) h) ∧ (¬ (30 : Int32) ≤ (am_gi h a0 1) → am_kd h a0 = 4 ∧ ((0 : Int32) < (lg_cmp (am_gl h a0 4) (0 : Int64)) → am_kd h a0 = 4 ∧ Ev (d + 1) 27 33 [.ref a0, .int i1, .int ((am_gi h a0 1) * (12 : Int32)), .int i1, .int (0 : Int32), .null] [] h Q) ∧ (¬ (0 : Int32) < (lg_cmp (am_gl h a0 4) (0 : Int64)) → Q (some (.int (-1 : Int32))) h))) : Cl (d + 1) 27 [.ref a0, .int i1] h Q := by
  show Ev (d + 1) 27 0 [.ref a0, .int i1, .null, .null, .null, .null] [] h Q
  refine ev_p (pc' := 1) (loc' := [.ref a0, .int i1, .null, .null, .null, .null]) (st' := [.ref a0]) 1 am_q27 rfl ?_
  obtain ⟨g1, H⟩ := H
  refine ev_s (pc' := 4) (loc' := [.ref a0, .int i1, .null, .null, .null, .null]) (st' := [.int (am_gi h a0 1)]) (h1 := h) am_q27 rfl rfl rfl (if_pos (e := none) g1) ?_
  refine ev_p (pc' := 6) (loc' := [.ref a0, .int i1, .null, .null, .null, .null]) (st' := [.int (30 : Int32), .int (am_gi h a0 1)]) 1 am_q27 rfl ?_
  refine ev_jc (t := 18) am_q27 rfl rfl (fun hq => ?_) (fun hq => ?_)
  · replace H := H.1 hq
    refine ev_p (pc' := 19) (loc' := [.null, .null, .null, .null, .null, .null]) (st' := [.int (-1 : Int32)]) 1 am_q27 rfl ?_
    exact ev_r (v := some (.int (-1 : Int32))) am_q27 rfl rfl rfl rfl H
  · replace H := H.2 hq
    refine ev_p (pc' := 10) (loc' := [.ref a0, .int i1, .null, .null, .null, .null]) (st' := [.ref a0]) 1 am_q27 rfl ?_
    obtain ⟨g2, H⟩ := H
    refine ev_s (pc' := 13) (loc' := [.ref a0, .int i1, .null, .null, .null, .null]) (st' := [.long (am_gl h a0 4)]) (h1 := h) am_q27 rfl rfl rfl (if_pos (e := none) g2) ?_
    refine ev_p (pc' := 15) (loc' := [.ref a0, .int i1, .null, .null, .null, .null]) (st' := [.int (lg_cmp (am_gl h a0 4) (0 : Int64))]) 2 am_q27 rfl ?_
    refine ev_jz (t := 20) am_q27 rfl rfl (fun hq => ?_) (fun hq => ?_)
    · replace H := H.1 hq
      refine ev_p (pc' := 21) (loc' := [.ref a0, .int i1, .null, .null, .null, .null]) (st' := [.ref a0]) 1 am_q27 rfl ?_
      obtain ⟨g3, H⟩ := H
      refine ev_s (pc' := 24) (loc' := [.ref a0, .int i1, .null, .null, .null, .null]) (st' := [.int (am_gi h a0 1)]) (h1 := h) am_q27 rfl rfl rfl (if_pos (e := none) g3) ?_
      refine ev_p (pc' := 33) (loc' := [.ref a0, .int i1, .int ((am_gi h a0 1) * (12 : Int32)), .int i1, .int (0 : Int32), .null]) (st' := []) 7 am_q27 rfl ?_
      exact ev_m (loc' := [.ref a0, .int i1, .int ((am_gi h a0 1) * (12 : Int32)), .int i1, .int (0 : Int32), .null]) am_q27 rfl rfl H
    · replace H := H.2 hq
      refine ev_p (pc' := 19) (loc' := [.null, .null, .null, .null, .null, .null]) (st' := [.int (-1 : Int32)]) 1 am_q27 rfl ?_
      exact ev_r (v := some (.int (-1 : Int32))) am_q27 rfl rfl rfl rfl H
set_option maxRecDepth 20000 in
set_option maxHeartbeats 2000000 in
theorem wp27_33 {d : Nat} (a0 : Nat) (i1 : Int32) (i2 : Int32) (i3 : Int32) (i4 : Int32) {h : AH} {Q : Option Value → AH → Prop} (H : ((12 : Int32) ≤ i4 → Ev (d + 1) 27 105 [.ref a0, .null, .int i2, .int i3, .int (0 : Int32), .null] [] h Q) ∧ (¬ (12 : Int32) ≤ i4 → am_kd h a0 = 4 ∧ ∃ b2, am_gr h a0 2 = some b2 ∧ am_kd h b2 = 101 ∧ am_in i4 (am_ln h b2) ∧ am_kd h a0 = 4 ∧ ¬ (am_gl h a0 4) = (0 : Int64) ∧ am_kd h a0 = 4 ∧ ∃ b9, am_gr h a0 0 = some b9 ∧ (am_kd h b9 = 100 ∧ 6 ≤ b9) ∧ am_in (i2 + i4) (am_ln h b9) ∧ ∀ h13, h13 = am_si h b9 (Int32.toNatClampNeg (i2 + i4)) (Int64.toInt32 (((Int32.toInt64 i1) * (am_gl h b2 (Int32.toNatClampNeg i4))) / (am_gl h a0 4))) → am_kd h13 a0 = 4 ∧ ∃ b15, am_gr h13 a0 3 = some b15 ∧ am_kd h13 a0 = 4 ∧ ∃ b18, am_gr h13 a0 2 = some b18 ∧ am_kd h13 b18 = 101 ∧ am_in i4 (am_ln h13 b18) ∧ am_kd h13 a0 = 4 ∧ ¬ (am_gl h13 a0 4) = (0 : Int64) ∧ am_kd h13 b15 = 101 ∧ am_in i4 (am_ln h13 b15) ∧ ∀ h26, h26 = am_sl h13 b15 (Int32.toNatClampNeg i4) (((Int32.toInt64 i1) * (am_gl h13 b18 (Int32.toNatClampNeg i4))) - ((Int32.toInt64 i1) * (am_gl h13 b18 (Int32.toNatClampNeg i4))) / (am_gl h13 a0 4) * (am_gl h13 a0 4)) → Ev (d + 1) 27 33 [.ref a0, .int i1, .int i2, .int (i3 - (Int64.toInt32 (((Int32.toInt64 i1) * (am_gl h b2 (Int32.toNatClampNeg i4))) / (am_gl h a0 4)))), .int (i4 + (1 : Int32)), .null] [] h26 Q)) : Ev (d + 1) 27 33 [.ref a0, .int i1, .int i2, .int i3, .int i4, .null] [] h Q := by
  refine ev_p (pc' := 37) (loc' := [.ref a0, .int i1, .int i2, .int i3, .int i4, .null]) (st' := [.int (12 : Int32), .int i4]) 2 am_q27 rfl ?_
  refine ev_jc (t := 102) am_q27 rfl rfl (fun hq => ?_) (fun hq => ?_)
  · replace H := H.1 hq
    refine ev_p (pc' := 105) (loc' := [.ref a0, .int i1, .int i2, .int i3, .int (0 : Int32), .null]) (st' := []) 2 am_q27 rfl ?_
    exact ev_m (loc' := [.ref a0, .null, .int i2, .int i3, .int (0 : Int32), .null]) am_q27 rfl rfl H
  · replace H := H.2 hq
    refine ev_p (pc' := 43) (loc' := [.ref a0, .int i1, .int i2, .int i3, .int i4, .null]) (st' := [.ref a0, .long (Int32.toInt64 i1)]) 3 am_q27 rfl ?_
    obtain ⟨g1, b2, e3, H⟩ := H
    refine ev_s (pc' := 46) (loc' := [.ref a0, .int i1, .int i2, .int i3, .int i4, .null]) (st' := [.ref b2, .long (Int32.toInt64 i1)]) (h1 := h) am_q27 rfl rfl rfl (am_gf2 g1 e3) ?_
    refine ev_p (pc' := 48) (loc' := [.ref a0, .int i1, .int i2, .int i3, .int i4, .null]) (st' := [.int i4, .ref b2, .long (Int32.toInt64 i1)]) 1 am_q27 rfl ?_
    obtain ⟨g4, g5, H⟩ := H
    refine ev_s (pc' := 49) (loc' := [.ref a0, .int i1, .int i2, .int i3, .int i4, .null]) (st' := [.long (am_gl h b2 (Int32.toNatClampNeg i4)), .long (Int32.toInt64 i1)]) (h1 := h) am_q27 rfl rfl rfl (am_xx g4 g5) ?_
    refine ev_p (pc' := 51) (loc' := [.ref a0, .int i1, .int i2, .int i3, .int i4, .null]) (st' := [.ref a0, .long ((Int32.toInt64 i1) * (am_gl h b2 (Int32.toNatClampNeg i4)))]) 2 am_q27 rfl ?_
    obtain ⟨g6, H⟩ := H
    refine ev_s (pc' := 54) (loc' := [.ref a0, .int i1, .int i2, .int i3, .int i4, .null]) (st' := [.long (am_gl h a0 4), .long ((Int32.toInt64 i1) * (am_gl h b2 (Int32.toNatClampNeg i4)))]) (h1 := h) am_q27 rfl rfl rfl (if_pos (e := none) g6) ?_
    obtain ⟨g7, H⟩ := H
    refine ev_s (pc' := 55) (loc' := [.ref a0, .int i1, .int i2, .int i3, .int i4, .null]) (st' := [.long (((Int32.toInt64 i1) * (am_gl h b2 (Int32.toNatClampNeg i4))) / (am_gl h a0 4))]) (h1 := h) am_q27 rfl rfl rfl (if_neg (t := none) g7) ?_
    refine ev_p (pc' := 59) (loc' := [.ref a0, .int i1, .int i2, .int i3, .int i4, .int (Int64.toInt32 (((Int32.toInt64 i1) * (am_gl h b2 (Int32.toNatClampNeg i4))) / (am_gl h a0 4)))]) (st' := [.ref a0]) 3 am_q27 rfl ?_
    obtain ⟨g8, b9, e10, H⟩ := H
    refine ev_s (pc' := 62) (loc' := [.ref a0, .int i1, .int i2, .int i3, .int i4, .int (Int64.toInt32 (((Int32.toInt64 i1) * (am_gl h b2 (Int32.toNatClampNeg i4))) / (am_gl h a0 4)))]) (st' := [.ref b9]) (h1 := h) am_q27 rfl rfl rfl (am_gf2 g8 e10) ?_
    refine ev_p (pc' := 68) (loc' := [.ref a0, .int i1, .int i2, .int i3, .int i4, .int (Int64.toInt32 (((Int32.toInt64 i1) * (am_gl h b2 (Int32.toNatClampNeg i4))) / (am_gl h a0 4)))]) (st' := [.int (Int64.toInt32 (((Int32.toInt64 i1) * (am_gl h b2 (Int32.toNatClampNeg i4))) / (am_gl h a0 4))), .int (i2 + i4), .ref b9]) 4 am_q27 rfl ?_
    obtain ⟨g11, g12, H⟩ := H
    refine ev_s (pc' := 69) (loc' := [.ref a0, .int i1, .int i2, .int i3, .int i4, .int (Int64.toInt32 (((Int32.toInt64 i1) * (am_gl h b2 (Int32.toNatClampNeg i4))) / (am_gl h a0 4)))]) (st' := []) (h1 := am_si h b9 (Int32.toNatClampNeg (i2 + i4)) (Int64.toInt32 (((Int32.toInt64 i1) * (am_gl h b2 (Int32.toNatClampNeg i4))) / (am_gl h a0 4)))) am_q27 rfl rfl rfl (am_xx g11 g12) ?_
    replace H := H _ rfl
    generalize am_si h b9 (Int32.toNatClampNeg (i2 + i4)) (Int64.toInt32 (((Int32.toInt64 i1) * (am_gl h b2 (Int32.toNatClampNeg i4))) / (am_gl h a0 4))) = h13 at H ⊢
    refine ev_p (pc' := 70) (loc' := [.ref a0, .int i1, .int i2, .int i3, .int i4, .int (Int64.toInt32 (((Int32.toInt64 i1) * (am_gl h b2 (Int32.toNatClampNeg i4))) / (am_gl h a0 4)))]) (st' := [.ref a0]) 1 am_q27 rfl ?_
    obtain ⟨g14, b15, e16, H⟩ := H
    refine ev_s (pc' := 73) (loc' := [.ref a0, .int i1, .int i2, .int i3, .int i4, .int (Int64.toInt32 (((Int32.toInt64 i1) * (am_gl h b2 (Int32.toNatClampNeg i4))) / (am_gl h a0 4)))]) (st' := [.ref b15]) (h1 := h13) am_q27 rfl rfl rfl (am_gf2 g14 e16) ?_
    refine ev_p (pc' := 78) (loc' := [.ref a0, .int i1, .int i2, .int i3, .int i4, .int (Int64.toInt32 (((Int32.toInt64 i1) * (am_gl h b2 (Int32.toNatClampNeg i4))) / (am_gl h a0 4)))]) (st' := [.ref a0, .long (Int32.toInt64 i1), .int i4, .ref b15]) 4 am_q27 rfl ?_
    obtain ⟨g17, b18, e19, H⟩ := H
    refine ev_s (pc' := 81) (loc' := [.ref a0, .int i1, .int i2, .int i3, .int i4, .int (Int64.toInt32 (((Int32.toInt64 i1) * (am_gl h b2 (Int32.toNatClampNeg i4))) / (am_gl h a0 4)))]) (st' := [.ref b18, .long (Int32.toInt64 i1), .int i4, .ref b15]) (h1 := h13) am_q27 rfl rfl rfl (am_gf2 g17 e19) ?_
    refine ev_p (pc' := 83) (loc' := [.ref a0, .int i1, .int i2, .int i3, .int i4, .int (Int64.toInt32 (((Int32.toInt64 i1) * (am_gl h b2 (Int32.toNatClampNeg i4))) / (am_gl h a0 4)))]) (st' := [.int i4, .ref b18, .long (Int32.toInt64 i1), .int i4, .ref b15]) 1 am_q27 rfl ?_
    obtain ⟨g20, g21, H⟩ := H
    refine ev_s (pc' := 84) (loc' := [.ref a0, .int i1, .int i2, .int i3, .int i4, .int (Int64.toInt32 (((Int32.toInt64 i1) * (am_gl h b2 (Int32.toNatClampNeg i4))) / (am_gl h a0 4)))]) (st' := [.long (am_gl h13 b18 (Int32.toNatClampNeg i4)), .long (Int32.toInt64 i1), .int i4, .ref b15]) (h1 := h13) am_q27 rfl rfl rfl (am_xx g20 g21) ?_
    refine ev_p (pc' := 86) (loc' := [.ref a0, .int i1, .int i2, .int i3, .int i4, .int (Int64.toInt32 (((Int32.toInt64 i1) * (am_gl h b2 (Int32.toNatClampNeg i4))) / (am_gl h a0 4)))]) (st' := [.ref a0, .long ((Int32.toInt64 i1) * (am_gl h13 b18 (Int32.toNatClampNeg i4))), .int i4, .ref b15]) 2 am_q27 rfl ?_
    obtain ⟨g22, H⟩ := H
    refine ev_s (pc' := 89) (loc' := [.ref a0, .int i1, .int i2, .int i3, .int i4, .int (Int64.toInt32 (((Int32.toInt64 i1) * (am_gl h b2 (Int32.toNatClampNeg i4))) / (am_gl h a0 4)))]) (st' := [.long (am_gl h13 a0 4), .long ((Int32.toInt64 i1) * (am_gl h13 b18 (Int32.toNatClampNeg i4))), .int i4, .ref b15]) (h1 := h13) am_q27 rfl rfl rfl (if_pos (e := none) g22) ?_
    obtain ⟨g23, H⟩ := H
    refine ev_s (pc' := 90) (loc' := [.ref a0, .int i1, .int i2, .int i3, .int i4, .int (Int64.toInt32 (((Int32.toInt64 i1) * (am_gl h b2 (Int32.toNatClampNeg i4))) / (am_gl h a0 4)))]) (st' := [.long (((Int32.toInt64 i1) * (am_gl h13 b18 (Int32.toNatClampNeg i4))) - ((Int32.toInt64 i1) * (am_gl h13 b18 (Int32.toNatClampNeg i4))) / (am_gl h13 a0 4) * (am_gl h13 a0 4)), .int i4, .ref b15]) (h1 := h13) am_q27 rfl rfl rfl (if_neg (t := none) g23) ?_
    obtain ⟨g24, g25, H⟩ := H
    refine ev_s (pc' := 91) (loc' := [.ref a0, .int i1, .int i2, .int i3, .int i4, .int (Int64.toInt32 (((Int32.toInt64 i1) * (am_gl h b2 (Int32.toNatClampNeg i4))) / (am_gl h a0 4)))]) (st' := []) (h1 := am_sl h13 b15 (Int32.toNatClampNeg i4) (((Int32.toInt64 i1) * (am_gl h13 b18 (Int32.toNatClampNeg i4))) - ((Int32.toInt64 i1) * (am_gl h13 b18 (Int32.toNatClampNeg i4))) / (am_gl h13 a0 4) * (am_gl h13 a0 4))) am_q27 rfl rfl rfl (am_xx g24 g25) ?_
    replace H := H _ rfl
    generalize am_sl h13 b15 (Int32.toNatClampNeg i4) (((Int32.toInt64 i1) * (am_gl h13 b18 (Int32.toNatClampNeg i4))) - ((Int32.toInt64 i1) * (am_gl h13 b18 (Int32.toNatClampNeg i4))) / (am_gl h13 a0 4) * (am_gl h13 a0 4)) = h26 at H ⊢
    refine ev_p (pc' := 33) (loc' := [.ref a0, .int i1, .int i2, .int (i3 - (Int64.toInt32 (((Int32.toInt64 i1) * (am_gl h b2 (Int32.toNatClampNeg i4))) / (am_gl h a0 4)))), .int (i4 + (1 : Int32)), .int (Int64.toInt32 (((Int32.toInt64 i1) * (am_gl h b2 (Int32.toNatClampNeg i4))) / (am_gl h a0 4)))]) (st' := []) 6 am_q27 rfl ?_
    exact ev_m (loc' := [.ref a0, .int i1, .int i2, .int (i3 - (Int64.toInt32 (((Int32.toInt64 i1) * (am_gl h b2 (Int32.toNatClampNeg i4))) / (am_gl h a0 4)))), .int (i4 + (1 : Int32)), .null]) am_q27 rfl rfl H
set_option maxRecDepth 20000 in
set_option maxHeartbeats 2000000 in
theorem wp27_105 {d : Nat} (a0 : Nat) (i2 : Int32) (i3 : Int32) (i4 : Int32) {h : AH} {Q : Option Value → AH → Prop} (H : (i3 ≤ i4 → am_kd h a0 = 4 ∧ am_kd h a0 = 4 ∧ ∀ h3, h3 = am_si h a0 1 ((am_gi h a0 1) + (1 : Int32)) → am_kd h3 a0 = 4 ∧ Q (some (.int ((am_gi h3 a0 1) - (1 : Int32)))) h3) ∧ (¬ i3 ≤ i4 → ((12 : Int32) ≤ i4 → am_kd h a0 = 4 ∧ am_kd h a0 = 4 ∧ ∀ h7, h7 = am_si h a0 1 ((am_gi h a0 1) + (1 : Int32)) → am_kd h7 a0 = 4 ∧ Q (some (.int ((am_gi h7 a0 1) - (1 : Int32)))) h7) ∧ (¬ (12 : Int32) ≤ i4 → am_kd h a0 = 4 ∧ Cl d 28 [.ref a0] h (fun r10 h9 => ∃ x12, r10 = some (.int x12) ∧ am_kd h9 a0 = 4 ∧ ∃ b14, am_gr h9 a0 0 = some b14 ∧ am_kd h9 b14 = 100 ∧ am_in (i2 + x12) (am_ln h9 b14) ∧ (am_kd h9 b14 = 100 ∧ 6 ≤ b14) ∧ am_in (i2 + x12) (am_ln h9 b14) ∧ ∀ h20, h20 = am_si h9 b14 (Int32.toNatClampNeg (i2 + x12)) ((am_gi h9 b14 (Int32.toNatClampNeg (i2 + x12))) + (1 : Int32)) → am_kd h20 a0 = 4 ∧ ∃ b22, am_gr h20 a0 3 = some b22 ∧ am_kd h20 b22 = 101 ∧ am_in x12 (am_ln h20 b22) ∧ ∀ h26, h26 = am_sl h20 b22 (Int32.toNatClampNeg x12) (-1 : Int64) → Ev (d + 1) 27 105 [.ref a0, .null, .int i2, .int i3, .int (i4 + (1 : Int32)), .null] [] h26 Q)))) : Ev (d + 1) 27 105 [.ref a0, .null, .int i2, .int i3, .int i4, .null] [] h Q := by
  refine ev_p (pc' := 108) (loc' := [.ref a0, .null, .int i2, .int i3, .int i4, .null]) (st' := [.int i3, .int i4]) 2 am_q27 rfl ?_
  refine ev_jc (t := 153) am_q27 rfl rfl (fun hq => ?_) (fun hq => ?_)
  · replace H := H.1 hq
    refine ev_p (pc' := 155) (loc' := [.ref a0, .null, .null, .null, .null, .null]) (st' := [.ref a0, .ref a0]) 2 am_q27 rfl ?_
    obtain ⟨g1, H⟩ := H
    refine ev_s (pc' := 158) (loc' := [.ref a0, .null, .null, .null, .null, .null]) (st' := [.int (am_gi h a0 1), .ref a0]) (h1 := h) am_q27 rfl rfl rfl (if_pos (e := none) g1) ?_
    refine ev_p (pc' := 160) (loc' := [.ref a0, .null, .null, .null, .null, .null]) (st' := [.int ((am_gi h a0 1) + (1 : Int32)), .ref a0]) 2 am_q27 rfl ?_
    obtain ⟨g2, H⟩ := H
    refine ev_s (pc' := 163) (loc' := [.ref a0, .null, .null, .null, .null, .null]) (st' := []) (h1 := am_si h a0 1 ((am_gi h a0 1) + (1 : Int32))) am_q27 rfl rfl rfl (if_pos (e := none) g2) ?_
    replace H := H _ rfl
    generalize am_si h a0 1 ((am_gi h a0 1) + (1 : Int32)) = h3 at H ⊢
    refine ev_p (pc' := 164) (loc' := [.ref a0, .null, .null, .null, .null, .null]) (st' := [.ref a0]) 1 am_q27 rfl ?_
    obtain ⟨g4, H⟩ := H
    refine ev_s (pc' := 167) (loc' := [.ref a0, .null, .null, .null, .null, .null]) (st' := [.int (am_gi h3 a0 1)]) (h1 := h3) am_q27 rfl rfl rfl (if_pos (e := none) g4) ?_
    refine ev_p (pc' := 169) (loc' := [.ref a0, .null, .null, .null, .null, .null]) (st' := [.int ((am_gi h3 a0 1) - (1 : Int32))]) 2 am_q27 rfl ?_
    exact ev_r (v := some (.int ((am_gi h3 a0 1) - (1 : Int32)))) am_q27 rfl rfl rfl rfl H
  · replace H := H.2 hq
    refine ev_p (pc' := 115) (loc' := [.ref a0, .null, .int i2, .int i3, .int i4, .null]) (st' := [.int (12 : Int32), .int i4]) 2 am_q27 rfl ?_
    refine ev_jc (t := 153) am_q27 rfl rfl (fun hq => ?_) (fun hq => ?_)
    · replace H := H.1 hq
      refine ev_p (pc' := 155) (loc' := [.ref a0, .null, .null, .null, .null, .null]) (st' := [.ref a0, .ref a0]) 2 am_q27 rfl ?_
      obtain ⟨g5, H⟩ := H
      refine ev_s (pc' := 158) (loc' := [.ref a0, .null, .null, .null, .null, .null]) (st' := [.int (am_gi h a0 1), .ref a0]) (h1 := h) am_q27 rfl rfl rfl (if_pos (e := none) g5) ?_
      refine ev_p (pc' := 160) (loc' := [.ref a0, .null, .null, .null, .null, .null]) (st' := [.int ((am_gi h a0 1) + (1 : Int32)), .ref a0]) 2 am_q27 rfl ?_
      obtain ⟨g6, H⟩ := H
      refine ev_s (pc' := 163) (loc' := [.ref a0, .null, .null, .null, .null, .null]) (st' := []) (h1 := am_si h a0 1 ((am_gi h a0 1) + (1 : Int32))) am_q27 rfl rfl rfl (if_pos (e := none) g6) ?_
      replace H := H _ rfl
      generalize am_si h a0 1 ((am_gi h a0 1) + (1 : Int32)) = h7 at H ⊢
      refine ev_p (pc' := 164) (loc' := [.ref a0, .null, .null, .null, .null, .null]) (st' := [.ref a0]) 1 am_q27 rfl ?_
      obtain ⟨g8, H⟩ := H
      refine ev_s (pc' := 167) (loc' := [.ref a0, .null, .null, .null, .null, .null]) (st' := [.int (am_gi h7 a0 1)]) (h1 := h7) am_q27 rfl rfl rfl (if_pos (e := none) g8) ?_
      refine ev_p (pc' := 169) (loc' := [.ref a0, .null, .null, .null, .null, .null]) (st' := [.int ((am_gi h7 a0 1) - (1 : Int32))]) 2 am_q27 rfl ?_
      exact ev_r (v := some (.int ((am_gi h7 a0 1) - (1 : Int32)))) am_q27 rfl rfl rfl rfl H
    · replace H := H.2 hq
      refine ev_p (pc' := 119) (loc' := [.ref a0, .null, .int i2, .int i3, .int i4, .null]) (st' := [.ref a0]) 1 am_q27 rfl ?_
      obtain ⟨g11, H⟩ := H
      refine ev_c (vs := [.ref a0]) (rest := []) 28 am_q27 rfl rfl rfl rfl rfl rfl rfl rfl rfl rfl rfl rfl (Or.inr (congrArg some g11)) (Cl.mono H (Nat.le_refl _) (fun r10 h9 H => ?_))
      obtain ⟨x12, rfl, H⟩ := H
      refine ev_p (pc' := 125) (loc' := [.ref a0, .null, .int i2, .int i3, .int i4, .int x12]) (st' := [.ref a0]) 2 am_q27 rfl ?_
      obtain ⟨g13, b14, e15, H⟩ := H
      refine ev_s (pc' := 128) (loc' := [.ref a0, .null, .int i2, .int i3, .int i4, .int x12]) (st' := [.ref b14]) (h1 := h9) am_q27 rfl rfl rfl (am_gf2 g13 e15) ?_
      refine ev_p (pc' := 133) (loc' := [.ref a0, .null, .int i2, .int i3, .int i4, .int x12]) (st' := [.int (i2 + x12), .ref b14, .int (i2 + x12), .ref b14]) 4 am_q27 rfl ?_
      obtain ⟨g16, g17, H⟩ := H
      refine ev_s (pc' := 134) (loc' := [.ref a0, .null, .int i2, .int i3, .int i4, .int x12]) (st' := [.int (am_gi h9 b14 (Int32.toNatClampNeg (i2 + x12))), .int (i2 + x12), .ref b14]) (h1 := h9) am_q27 rfl rfl rfl (am_xx g16 g17) ?_
      refine ev_p (pc' := 136) (loc' := [.ref a0, .null, .int i2, .int i3, .int i4, .int x12]) (st' := [.int ((am_gi h9 b14 (Int32.toNatClampNeg (i2 + x12))) + (1 : Int32)), .int (i2 + x12), .ref b14]) 2 am_q27 rfl ?_
      obtain ⟨g18, g19, H⟩ := H
      refine ev_s (pc' := 137) (loc' := [.ref a0, .null, .int i2, .int i3, .int i4, .int x12]) (st' := []) (h1 := am_si h9 b14 (Int32.toNatClampNeg (i2 + x12)) ((am_gi h9 b14 (Int32.toNatClampNeg (i2 + x12))) + (1 : Int32))) am_q27 rfl rfl rfl (am_xx g18 g19) ?_
      replace H := H _ rfl
      generalize am_si h9 b14 (Int32.toNatClampNeg (i2 + x12)) ((am_gi h9 b14 (Int32.toNatClampNeg (i2 + x12))) + (1 : Int32)) = h20 at H ⊢
      refine ev_p (pc' := 138) (loc' := [.ref a0, .null, .int i2, .int i3, .int i4, .int x12]) (st' := [.ref a0]) 1 am_q27 rfl ?_
      obtain ⟨g21, b22, e23, H⟩ := H
      refine ev_s (pc' := 141) (loc' := [.ref a0, .null, .int i2, .int i3, .int i4, .int x12]) (st' := [.ref b22]) (h1 := h20) am_q27 rfl rfl rfl (am_gf2 g21 e23) ?_
      refine ev_p (pc' := 146) (loc' := [.ref a0, .null, .int i2, .int i3, .int i4, .int x12]) (st' := [.long (-1 : Int64), .int x12, .ref b22]) 2 am_q27 rfl ?_
      obtain ⟨g24, g25, H⟩ := H
      refine ev_s (pc' := 147) (loc' := [.ref a0, .null, .int i2, .int i3, .int i4, .int x12]) (st' := []) (h1 := am_sl h20 b22 (Int32.toNatClampNeg x12) (-1 : Int64)) am_q27 rfl rfl rfl (am_xx g24 g25) ?_
      replace H := H _ rfl
      generalize am_sl h20 b22 (Int32.toNatClampNeg x12) (-1 : Int64) = h26 at H ⊢
      refine ev_p (pc' := 105) (loc' := [.ref a0, .null, .int i2, .int i3, .int (i4 + (1 : Int32)), .int x12]) (st' := []) 2 am_q27 rfl ?_
      exact ev_m (loc' := [.ref a0, .null, .int i2, .int i3, .int (i4 + (1 : Int32)), .null]) am_q27 rfl rfl H
/-! 28: X4_mostLacking -/
theorem am_q28 : (am_mt 28).2.2.2.2.2 = am_m28.2.2.2.2.2 := rfl
set_option maxRecDepth 20000 in
set_option maxHeartbeats 2000000 in
theorem wp28 {d : Nat} (a0 : Nat) {h : AH} {Q : Option Value → AH → Prop} (H : Ev d 28 4 [.ref a0, .int (0 : Int32), .int (1 : Int32)] [] h Q) : Cl d 28 [.ref a0] h Q := by
  show Ev d 28 0 [.ref a0, .null, .null] [] h Q
  refine ev_p (pc' := 4) (loc' := [.ref a0, .int (0 : Int32), .int (1 : Int32)]) (st' := []) 4 am_q28 rfl ?_
  exact ev_m (loc' := [.ref a0, .int (0 : Int32), .int (1 : Int32)]) am_q28 rfl rfl H
set_option maxRecDepth 20000 in
set_option maxHeartbeats 2000000 in
theorem wp28_4 {d : Nat} (a0 : Nat) (i1 : Int32) (i2 : Int32) {h : AH} {Q : Option Value → AH → Prop} (H : ((12 : Int32) ≤ i2 → Q (some (.int i1)) h) ∧ (¬ (12 : Int32) ≤ i2 → am_kd h a0 = 4 ∧ ∃ b2, am_gr h a0 3 = some b2 ∧ am_kd h b2 = 101 ∧ am_in i2 (am_ln h b2) ∧ am_kd h a0 = 4 ∧ ∃ b7, am_gr h a0 3 = some b7 ∧ am_kd h b7 = 101 ∧ am_in i1 (am_ln h b7) ∧ ((lg_cmp (am_gl h b2 (Int32.toNatClampNeg i2)) (am_gl h b7 (Int32.toNatClampNeg i1))) ≤ (0 : Int32) → Ev d 28 4 [.ref a0, .int i1, .int (i2 + (1 : Int32))] [] h Q) ∧ (¬ (lg_cmp (am_gl h b2 (Int32.toNatClampNeg i2)) (am_gl h b7 (Int32.toNatClampNeg i1))) ≤ (0 : Int32) → Ev d 28 4 [.ref a0, .int i2, .int (i2 + (1 : Int32))] [] h Q))) : Ev d 28 4 [.ref a0, .int i1, .int i2] [] h Q := by
  refine ev_p (pc' := 7) (loc' := [.ref a0, .int i1, .int i2]) (st' := [.int (12 : Int32), .int i2]) 2 am_q28 rfl ?_
  refine ev_jc (t := 34) am_q28 rfl rfl (fun hq => ?_) (fun hq => ?_)
  · replace H := H.1 hq
    refine ev_p (pc' := 35) (loc' := [.ref a0, .int i1, .int i2]) (st' := [.int i1]) 1 am_q28 rfl ?_
    exact ev_r (v := some (.int i1)) am_q28 rfl rfl rfl rfl H
  · replace H := H.2 hq
    refine ev_p (pc' := 11) (loc' := [.ref a0, .int i1, .int i2]) (st' := [.ref a0]) 1 am_q28 rfl ?_
    obtain ⟨g1, b2, e3, H⟩ := H
    refine ev_s (pc' := 14) (loc' := [.ref a0, .int i1, .int i2]) (st' := [.ref b2]) (h1 := h) am_q28 rfl rfl rfl (am_gf2 g1 e3) ?_
    refine ev_p (pc' := 15) (loc' := [.ref a0, .int i1, .int i2]) (st' := [.int i2, .ref b2]) 1 am_q28 rfl ?_
    obtain ⟨g4, g5, H⟩ := H
    refine ev_s (pc' := 16) (loc' := [.ref a0, .int i1, .int i2]) (st' := [.long (am_gl h b2 (Int32.toNatClampNeg i2))]) (h1 := h) am_q28 rfl rfl rfl (am_xx g4 g5) ?_
    refine ev_p (pc' := 17) (loc' := [.ref a0, .int i1, .int i2]) (st' := [.ref a0, .long (am_gl h b2 (Int32.toNatClampNeg i2))]) 1 am_q28 rfl ?_
    obtain ⟨g6, b7, e8, H⟩ := H
    refine ev_s (pc' := 20) (loc' := [.ref a0, .int i1, .int i2]) (st' := [.ref b7, .long (am_gl h b2 (Int32.toNatClampNeg i2))]) (h1 := h) am_q28 rfl rfl rfl (am_gf2 g6 e8) ?_
    refine ev_p (pc' := 21) (loc' := [.ref a0, .int i1, .int i2]) (st' := [.int i1, .ref b7, .long (am_gl h b2 (Int32.toNatClampNeg i2))]) 1 am_q28 rfl ?_
    obtain ⟨g9, g10, H⟩ := H
    refine ev_s (pc' := 22) (loc' := [.ref a0, .int i1, .int i2]) (st' := [.long (am_gl h b7 (Int32.toNatClampNeg i1)), .long (am_gl h b2 (Int32.toNatClampNeg i2))]) (h1 := h) am_q28 rfl rfl rfl (am_xx g9 g10) ?_
    refine ev_p (pc' := 23) (loc' := [.ref a0, .int i1, .int i2]) (st' := [.int (lg_cmp (am_gl h b2 (Int32.toNatClampNeg i2)) (am_gl h b7 (Int32.toNatClampNeg i1)))]) 1 am_q28 rfl ?_
    refine ev_jz (t := 28) am_q28 rfl rfl (fun hq => ?_) (fun hq => ?_)
    · replace H := H.1 hq
      refine ev_p (pc' := 4) (loc' := [.ref a0, .int i1, .int (i2 + (1 : Int32))]) (st' := []) 2 am_q28 rfl ?_
      exact ev_m (loc' := [.ref a0, .int i1, .int (i2 + (1 : Int32))]) am_q28 rfl rfl H
    · replace H := H.2 hq
      refine ev_p (pc' := 4) (loc' := [.ref a0, .int i2, .int (i2 + (1 : Int32))]) (st' := []) 4 am_q28 rfl ?_
      exact ev_m (loc' := [.ref a0, .int i2, .int (i2 + (1 : Int32))]) am_q28 rfl rfl H
/-! 29: X4_share -/
theorem am_q29 : (am_mt 29).2.2.2.2.2 = am_m29.2.2.2.2.2 := rfl
set_option maxRecDepth 20000 in
set_option maxHeartbeats 2000000 in
theorem wp29 {d : Nat} (a0 : Nat) (i1 : Int32) (i2 : Int32) {h : AH} {Q : Option Value → AH → Prop} (H : (i1 < (0 : Int32) → Q (some (.int (0 : Int32))) h) ∧ (¬ i1 < (0 : Int32) → am_kd h a0 = 4 ∧ (i1 < (am_gi h a0 1) → am_kd h a0 = 4 ∧ ∃ b3, am_gr h a0 0 = some b3 ∧ am_kd h b3 = 100 ∧ am_in ((i1 * (12 : Int32)) + i2) (am_ln h b3) ∧ Q (some (.int (am_gi h b3 (Int32.toNatClampNeg ((i1 * (12 : Int32)) + i2))))) h) ∧ (¬ i1 < (am_gi h a0 1) → Q (some (.int (0 : Int32))) h))) : Cl d 29 [.ref a0, .int i1, .int i2] h Q := by
  show Ev d 29 0 [.ref a0, .int i1, .int i2] [] h Q
  refine ev_p (pc' := 1) (loc' := [.ref a0, .int i1, .int i2]) (st' := [.int i1]) 1 am_q29 rfl ?_
  refine ev_jz (t := 12) am_q29 rfl rfl (fun hq => ?_) (fun hq => ?_)
  · replace H := H.1 hq
    refine ev_p (pc' := 13) (loc' := [.null, .null, .null]) (st' := [.int (0 : Int32)]) 1 am_q29 rfl ?_
    exact ev_r (v := some (.int (0 : Int32))) am_q29 rfl rfl rfl rfl H
  · replace H := H.2 hq
    refine ev_p (pc' := 6) (loc' := [.ref a0, .int i1, .int i2]) (st' := [.ref a0, .int i1]) 2 am_q29 rfl ?_
    obtain ⟨g1, H⟩ := H
    refine ev_s (pc' := 9) (loc' := [.ref a0, .int i1, .int i2]) (st' := [.int (am_gi h a0 1), .int i1]) (h1 := h) am_q29 rfl rfl rfl (if_pos (e := none) g1) ?_
    refine ev_jc (t := 14) am_q29 rfl rfl (fun hq => ?_) (fun hq => ?_)
    · replace H := H.1 hq
      refine ev_p (pc' := 15) (loc' := [.ref a0, .int i1, .int i2]) (st' := [.ref a0]) 1 am_q29 rfl ?_
      obtain ⟨g2, b3, e4, H⟩ := H
      refine ev_s (pc' := 18) (loc' := [.ref a0, .int i1, .int i2]) (st' := [.ref b3]) (h1 := h) am_q29 rfl rfl rfl (am_gf2 g2 e4) ?_
      refine ev_p (pc' := 24) (loc' := [.ref a0, .int i1, .int i2]) (st' := [.int ((i1 * (12 : Int32)) + i2), .ref b3]) 5 am_q29 rfl ?_
      obtain ⟨g5, g6, H⟩ := H
      refine ev_s (pc' := 25) (loc' := [.ref a0, .int i1, .int i2]) (st' := [.int (am_gi h b3 (Int32.toNatClampNeg ((i1 * (12 : Int32)) + i2)))]) (h1 := h) am_q29 rfl rfl rfl (am_xx g5 g6) ?_
      exact ev_r (v := some (.int (am_gi h b3 (Int32.toNatClampNeg ((i1 * (12 : Int32)) + i2))))) am_q29 rfl rfl rfl rfl H
    · replace H := H.2 hq
      refine ev_p (pc' := 13) (loc' := [.null, .null, .null]) (st' := [.int (0 : Int32)]) 1 am_q29 rfl ?_
      exact ev_r (v := some (.int (0 : Int32))) am_q29 rfl rfl rfl rfl H
