/-! 131: X11_gain -/
theorem am_q131 : (am_mt 131).2.2.2.2.2 = am_m131.2.2.2.2.2 := rfl
set_option maxRecDepth 20000 in
set_option maxHeartbeats 2000000 in
theorem wp131 {d : Nat} (a0 : Nat) (i1 : Int32) {h : AH} {Q : Option Value → AH → Prop} (H : (i1 < (0 : Int32) → Q (some (.int (-2 : Int32))) h) ∧ (¬ i1 < (0 : Int32) → (i1 ≤ (100 : Int32) → am_kd h a0 = 11 ∧ ∃ b2, am_gr h a0 16 = some b2 ∧ am_kd h b2 = 1 ∧ am_kd h a0 = 11 ∧ ∃ b6, am_gr h a0 16 = some b6 ∧ am_kd h b6 = 1 ∧ ∀ h9, h9 = am_si h b6 1 i1 → Q (some (.int (am_gi h b2 1))) h9) ∧ (¬ i1 ≤ (100 : Int32) → Q (some (.int (-2 : Int32))) h))) : Cl d 131 [.ref a0, .int i1] h Q := by
  show Ev d 131 0 [.ref a0, .int i1, .null] [] h Q
  refine ev_p (pc' := 1) (loc' := [.ref a0, .int i1, .null]) (st' := [.int i1]) 1 am_q131 rfl ?_
  refine ev_jz (t := 10) am_q131 rfl rfl (fun hq => ?_) (fun hq => ?_)
  · replace H := H.1 hq
    refine ev_p (pc' := 12) (loc' := [.null, .null, .null]) (st' := [.int (-2 : Int32)]) 1 am_q131 rfl ?_
    exact ev_r (v := some (.int (-2 : Int32))) am_q131 rfl rfl rfl rfl H
  · replace H := H.2 hq
    refine ev_p (pc' := 7) (loc' := [.ref a0, .int i1, .null]) (st' := [.int (100 : Int32), .int i1]) 2 am_q131 rfl ?_
    refine ev_jc (t := 13) am_q131 rfl rfl (fun hq => ?_) (fun hq => ?_)
    · replace H := H.1 hq
      refine ev_p (pc' := 14) (loc' := [.ref a0, .int i1, .null]) (st' := [.ref a0]) 1 am_q131 rfl ?_
      obtain ⟨g1, b2, e3, H⟩ := H
      refine ev_s (pc' := 17) (loc' := [.ref a0, .int i1, .null]) (st' := [.ref b2]) (h1 := h) am_q131 rfl rfl rfl (am_gf2 g1 e3) ?_
      obtain ⟨g4, H⟩ := H
      refine ev_s (pc' := 20) (loc' := [.ref a0, .int i1, .null]) (st' := [.int (am_gi h b2 1)]) (h1 := h) am_q131 rfl rfl rfl (if_pos (e := none) g4) ?_
      refine ev_p (pc' := 22) (loc' := [.ref a0, .int i1, .int (am_gi h b2 1)]) (st' := [.ref a0]) 2 am_q131 rfl ?_
      obtain ⟨g5, b6, e7, H⟩ := H
      refine ev_s (pc' := 25) (loc' := [.ref a0, .int i1, .int (am_gi h b2 1)]) (st' := [.ref b6]) (h1 := h) am_q131 rfl rfl rfl (am_gf2 g5 e7) ?_
      refine ev_p (pc' := 26) (loc' := [.ref a0, .int i1, .int (am_gi h b2 1)]) (st' := [.int i1, .ref b6]) 1 am_q131 rfl ?_
      obtain ⟨g8, H⟩ := H
      refine ev_s (pc' := 29) (loc' := [.ref a0, .int i1, .int (am_gi h b2 1)]) (st' := []) (h1 := am_si h b6 1 i1) am_q131 rfl rfl rfl (if_pos (e := none) g8) ?_
      replace H := H _ rfl
      generalize am_si h b6 1 i1 = h9 at H ⊢
      refine ev_p (pc' := 30) (loc' := [.ref a0, .int i1, .int (am_gi h b2 1)]) (st' := [.int (am_gi h b2 1)]) 1 am_q131 rfl ?_
      exact ev_r (v := some (.int (am_gi h b2 1))) am_q131 rfl rfl rfl rfl H
    · replace H := H.2 hq
      refine ev_p (pc' := 12) (loc' := [.null, .null, .null]) (st' := [.int (-2 : Int32)]) 1 am_q131 rfl ?_
      exact ev_r (v := some (.int (-2 : Int32))) am_q131 rfl rfl rfl rfl H
/-! 132: X11_due -/
theorem am_q132 : (am_mt 132).2.2.2.2.2 = am_m132.2.2.2.2.2 := rfl
set_option maxRecDepth 20000 in
set_option maxHeartbeats 2000000 in
theorem wp132 {d : Nat} (a0 : Nat) {h : AH} {Q : Option Value → AH → Prop} (H : am_kd h a0 = 11 ∧ ∃ b2, am_gr h a0 16 = some b2 ∧ am_kd h b2 = 1 ∧ Cl d 14 [.ref b2] h (fun r5 h4 => ∃ x7, r5 = some (.int x7) ∧ Q (some (.int x7)) h4)) : Cl (d + 1) 132 [.ref a0] h Q := by
  show Ev (d + 1) 132 0 [.ref a0] [] h Q
  refine ev_p (pc' := 1) (loc' := [.ref a0]) (st' := [.ref a0]) 1 am_q132 rfl ?_
  obtain ⟨g1, b2, e3, H⟩ := H
  refine ev_s (pc' := 4) (loc' := [.ref a0]) (st' := [.ref b2]) (h1 := h) am_q132 rfl rfl rfl (am_gf2 g1 e3) ?_
  obtain ⟨g6, H⟩ := H
  refine ev_c (vs := [.ref b2]) (rest := []) 14 am_q132 rfl rfl rfl rfl rfl rfl rfl rfl rfl rfl rfl rfl (Or.inr (congrArg some g6)) (Cl.mono H (Nat.le_refl _) (fun r5 h4 H => ?_))
  obtain ⟨x7, rfl, H⟩ := H
  exact ev_r (v := some (.int x7)) am_q132 rfl rfl rfl rfl H
/-! 133: X11_fund -/
theorem am_q133 : (am_mt 133).2.2.2.2.2 = am_m133.2.2.2.2.2 := rfl
set_option maxRecDepth 20000 in
set_option maxHeartbeats 2000000 in
theorem wp133 {d : Nat} (a0 : Nat) (i1 : Int32) (i2 : Int32) {h : AH} {Q : Option Value → AH → Prop} (H : am_kd h a0 = 11 ∧ ∃ b2, am_gr h a0 16 = some b2 ∧ am_kd h b2 = 1 ∧ Cl d 12 [.ref b2, .int i1] h (fun r5 h4 => ∃ x7, r5 = some (.int x7) ∧ (x7 = (0 : Int32) → Q (some (.long (-4611686018427387904 : Int64))) h4) ∧ (¬ x7 = (0 : Int32) → Cl d 144 [.int i2] h4 (fun r9 h8 => ∃ x10, r9 = some (.int x10) ∧ ((¬ x10 = (0 : Int32)) → am_kd h8 a0 = 11 ∧ ∃ b12, am_gr h8 a0 16 = some b12 ∧ am_kd h8 b12 = 1 ∧ Cl d 13 [.ref b12, .int i1, .long (Int32.toInt64 i2)] h8 (fun r15 h14 => ∃ y17, r15 = some (.long y17) ∧ Q (some (.long y17)) h14)) ∧ (¬ (¬ x10 = (0 : Int32)) → Q (some (.long (-4611686018427387904 : Int64))) h8))))) : Cl (d + 1) 133 [.ref a0, .int i1, .int i2] h Q := by
  show Ev (d + 1) 133 0 [.ref a0, .int i1, .int i2] [] h Q
  refine ev_p (pc' := 1) (loc' := [.ref a0, .int i1, .int i2]) (st' := [.ref a0]) 1 am_q133 rfl ?_
  obtain ⟨g1, b2, e3, H⟩ := H
  refine ev_s (pc' := 4) (loc' := [.ref a0, .int i1, .int i2]) (st' := [.ref b2]) (h1 := h) am_q133 rfl rfl rfl (am_gf2 g1 e3) ?_
  refine ev_p (pc' := 5) (loc' := [.ref a0, .int i1, .int i2]) (st' := [.int i1, .ref b2]) 1 am_q133 rfl ?_
  obtain ⟨g6, H⟩ := H
  refine ev_c (vs := [.ref b2, .int i1]) (rest := []) 12 am_q133 rfl rfl rfl rfl rfl rfl rfl rfl rfl rfl rfl rfl (Or.inr (congrArg some g6)) (Cl.mono H (Nat.le_refl _) (fun r5 h4 H => ?_))
  obtain ⟨x7, rfl, H⟩ := H
  refine ev_jz (t := 18) am_q133 rfl rfl (fun hq => ?_) (fun hq => ?_)
  · replace H := H.1 hq
    refine ev_p (pc' := 21) (loc' := [.null, .null, .null]) (st' := [.long (-4611686018427387904 : Int64)]) 1 am_q133 rfl ?_
    exact ev_r (v := some (.long (-4611686018427387904 : Int64))) am_q133 rfl rfl rfl rfl H
  · replace H := H.2 hq
    refine ev_p (pc' := 12) (loc' := [.ref a0, .int i1, .int i2]) (st' := [.int i2]) 1 am_q133 rfl ?_
    refine ev_c (vs := [.int i2]) (rest := []) 144 am_q133 rfl rfl rfl rfl rfl rfl rfl rfl rfl rfl rfl rfl (Or.inl rfl) (Cl.mono H (Nat.le_refl _) (fun r9 h8 H => ?_))
    obtain ⟨x10, rfl, H⟩ := H
    refine ev_jz (t := 22) am_q133 rfl rfl (fun hq => ?_) (fun hq => ?_)
    · replace H := H.1 hq
      refine ev_p (pc' := 23) (loc' := [.ref a0, .int i1, .int i2]) (st' := [.ref a0]) 1 am_q133 rfl ?_
      obtain ⟨g11, b12, e13, H⟩ := H
      refine ev_s (pc' := 26) (loc' := [.ref a0, .int i1, .int i2]) (st' := [.ref b12]) (h1 := h8) am_q133 rfl rfl rfl (am_gf2 g11 e13) ?_
      refine ev_p (pc' := 29) (loc' := [.ref a0, .int i1, .int i2]) (st' := [.long (Int32.toInt64 i2), .int i1, .ref b12]) 3 am_q133 rfl ?_
      obtain ⟨g16, H⟩ := H
      refine ev_c (vs := [.ref b12, .int i1, .long (Int32.toInt64 i2)]) (rest := []) 13 am_q133 rfl rfl rfl rfl rfl rfl rfl rfl rfl rfl rfl rfl (Or.inr (congrArg some g16)) (Cl.mono H (Nat.le_refl _) (fun r15 h14 H => ?_))
      obtain ⟨y17, rfl, H⟩ := H
      exact ev_r (v := some (.long y17)) am_q133 rfl rfl rfl rfl H
    · replace H := H.2 hq
      refine ev_p (pc' := 21) (loc' := [.null, .null, .null]) (st' := [.long (-4611686018427387904 : Int64)]) 1 am_q133 rfl ?_
      exact ev_r (v := some (.long (-4611686018427387904 : Int64))) am_q133 rfl rfl rfl rfl H
/-! 134: X11_count -/
theorem am_q134 : (am_mt 134).2.2.2.2.2 = am_m134.2.2.2.2.2 := rfl
set_option maxRecDepth 20000 in
set_option maxHeartbeats 2000000 in
theorem wp134 {d : Nat} (a0 : Nat) (i1 : Int32) {h : AH} {Q : Option Value → AH → Prop} (H : (i1 = (0 : Int32) → am_kd h a0 = 11 ∧ Q (some (.int (am_gi h a0 2))) h) ∧ (i1 = (1 : Int32) → am_kd h a0 = 11 ∧ Q (some (.int (am_gi h a0 4))) h) ∧ (i1 = (2 : Int32) → am_kd h a0 = 11 ∧ Cl d 151 [.ref a0] h (fun r6 h5 => ∃ x8, r6 = some (.int x8) ∧ Q (some (.int x8)) h5)) ∧ (i1 = (3 : Int32) → am_kd h a0 = 11 ∧ ∃ b11, am_gr h a0 5 = some b11 ∧ am_kd h b11 = 6 ∧ Q (some (.int (am_gi h b11 1))) h) ∧ (i1 = (4 : Int32) → am_kd h a0 = 11 ∧ ∃ b16, am_gr h a0 5 = some b16 ∧ am_kd h a0 = 11 ∧ am_kd h b16 = 6 ∧ Cl d 59 [.ref b16, .int (am_gi h a0 0)] h (fun r20 h19 => ∃ x22, r20 = some (.int x22) ∧ Q (some (.int x22)) h19)) ∧ (i1 = (5 : Int32) → am_kd h a0 = 11 ∧ Q (some (.int (am_gi h a0 9))) h) ∧ (i1 = (6 : Int32) → am_kd h a0 = 11 ∧ ∃ b27, am_gr h a0 15 = some b27 ∧ am_kd h b27 = 4 ∧ Q (some (.int (am_gi h b27 1))) h) ∧ (i1 = (7 : Int32) → am_kd h a0 = 11 ∧ ∃ b32, am_gr h a0 6 = some b32 ∧ am_kd h b32 = 5 ∧ Q (some (.int (am_gi h b32 1))) h) ∧ (i1 = (8 : Int32) → am_kd h a0 = 11 ∧ Q (some (.int (am_gi h a0 0))) h) ∧ (i1 = (9 : Int32) → am_kd h a0 = 11 ∧ Cl d 152 [.ref a0] h (fun r39 h38 => ∃ x41, r39 = some (.int x41) ∧ Q (some (.int x41)) h38)) ∧ (i1 = (10 : Int32) → am_kd h a0 = 11 ∧ Cl d 153 [.ref a0] h (fun r44 h43 => ∃ x46, r44 = some (.int x46) ∧ Cl d 262 [.int x46] h43 (fun r48 h47 => ∃ x49, r48 = some (.int x49) ∧ Q (some (.int x49)) h47))) ∧ (i1 = (11 : Int32) → am_kd h a0 = 11 ∧ ∃ b52, am_gr h a0 16 = some b52 ∧ am_kd h b52 = 1 ∧ Q (some (.int (am_gi h b52 1))) h) ∧ (¬ i1 = (0 : Int32) ∧ ¬ i1 = (1 : Int32) ∧ ¬ i1 = (2 : Int32) ∧ ¬ i1 = (3 : Int32) ∧ ¬ i1 = (4 : Int32) ∧ ¬ i1 = (5 : Int32) ∧ ¬ i1 = (6 : Int32) ∧ ¬ i1 = (7 : Int32) ∧ ¬ i1 = (8 : Int32) ∧ ¬ i1 = (9 : Int32) ∧ ¬ i1 = (10 : Int32) ∧ ¬ i1 = (11 : Int32) → Q (some (.int (-2 : Int32))) h)) : Cl (d + 1) 134 [.ref a0, .int i1] h Q := by
  show Ev (d + 1) 134 0 [.ref a0, .int i1] [] h Q
  refine ev_p (pc' := 1) (loc' := [.ref a0, .int i1]) (st' := [.int i1]) 1 am_q134 rfl ?_
  by_cases k2 : i1 = (0 : Int32)
  · replace H := H.1 k2
    refine ev_s (pc' := 64) (loc' := [.ref a0, .int i1]) (st' := []) (h1 := h) am_q134 rfl rfl rfl (by rw [k2]; rfl) ?_
    refine ev_p (pc' := 65) (loc' := [.ref a0, .int i1]) (st' := [.ref a0]) 1 am_q134 rfl ?_
    obtain ⟨g1, H⟩ := H
    refine ev_s (pc' := 68) (loc' := [.ref a0, .int i1]) (st' := [.int (am_gi h a0 2)]) (h1 := h) am_q134 rfl rfl rfl (if_pos (e := none) g1) ?_
    exact ev_r (v := some (.int (am_gi h a0 2))) am_q134 rfl rfl rfl rfl H
  replace H := H.2
  by_cases k4 : i1 = (1 : Int32)
  · replace H := H.1 k4
    refine ev_s (pc' := 69) (loc' := [.ref a0, .int i1]) (st' := []) (h1 := h) am_q134 rfl rfl rfl (by rw [k4]; rfl) ?_
    refine ev_p (pc' := 70) (loc' := [.ref a0, .int i1]) (st' := [.ref a0]) 1 am_q134 rfl ?_
    obtain ⟨g3, H⟩ := H
    refine ev_s (pc' := 73) (loc' := [.ref a0, .int i1]) (st' := [.int (am_gi h a0 4)]) (h1 := h) am_q134 rfl rfl rfl (if_pos (e := none) g3) ?_
    exact ev_r (v := some (.int (am_gi h a0 4))) am_q134 rfl rfl rfl rfl H
  replace H := H.2
  by_cases k9 : i1 = (2 : Int32)
  · replace H := H.1 k9
    refine ev_s (pc' := 74) (loc' := [.ref a0, .int i1]) (st' := []) (h1 := h) am_q134 rfl rfl rfl (by rw [k9]; rfl) ?_
    refine ev_p (pc' := 75) (loc' := [.ref a0, .int i1]) (st' := [.ref a0]) 1 am_q134 rfl ?_
    obtain ⟨g7, H⟩ := H
    refine ev_c (vs := [.ref a0]) (rest := []) 151 am_q134 rfl rfl rfl rfl rfl rfl rfl rfl rfl rfl rfl rfl (Or.inr (congrArg some g7)) (Cl.mono H (Nat.le_refl _) (fun r6 h5 H => ?_))
    obtain ⟨x8, rfl, H⟩ := H
    exact ev_r (v := some (.int x8)) am_q134 rfl rfl rfl rfl H
  replace H := H.2
  by_cases k14 : i1 = (3 : Int32)
  · replace H := H.1 k14
    refine ev_s (pc' := 79) (loc' := [.ref a0, .int i1]) (st' := []) (h1 := h) am_q134 rfl rfl rfl (by rw [k14]; rfl) ?_
    refine ev_p (pc' := 80) (loc' := [.ref a0, .int i1]) (st' := [.ref a0]) 1 am_q134 rfl ?_
    obtain ⟨g10, b11, e12, H⟩ := H
    refine ev_s (pc' := 83) (loc' := [.ref a0, .int i1]) (st' := [.ref b11]) (h1 := h) am_q134 rfl rfl rfl (am_gf2 g10 e12) ?_
    obtain ⟨g13, H⟩ := H
    refine ev_s (pc' := 86) (loc' := [.ref a0, .int i1]) (st' := [.int (am_gi h b11 1)]) (h1 := h) am_q134 rfl rfl rfl (if_pos (e := none) g13) ?_
    exact ev_r (v := some (.int (am_gi h b11 1))) am_q134 rfl rfl rfl rfl H
  replace H := H.2
  by_cases k23 : i1 = (4 : Int32)
  · replace H := H.1 k23
    refine ev_s (pc' := 87) (loc' := [.ref a0, .int i1]) (st' := []) (h1 := h) am_q134 rfl rfl rfl (by rw [k23]; rfl) ?_
    refine ev_p (pc' := 88) (loc' := [.ref a0, .int i1]) (st' := [.ref a0]) 1 am_q134 rfl ?_
    obtain ⟨g15, b16, e17, H⟩ := H
    refine ev_s (pc' := 91) (loc' := [.ref a0, .int i1]) (st' := [.ref b16]) (h1 := h) am_q134 rfl rfl rfl (am_gf2 g15 e17) ?_
    refine ev_p (pc' := 92) (loc' := [.ref a0, .int i1]) (st' := [.ref a0, .ref b16]) 1 am_q134 rfl ?_
    obtain ⟨g18, H⟩ := H
    refine ev_s (pc' := 95) (loc' := [.ref a0, .int i1]) (st' := [.int (am_gi h a0 0), .ref b16]) (h1 := h) am_q134 rfl rfl rfl (if_pos (e := none) g18) ?_
    obtain ⟨g21, H⟩ := H
    refine ev_c (vs := [.ref b16, .int (am_gi h a0 0)]) (rest := []) 59 am_q134 rfl rfl rfl rfl rfl rfl rfl rfl rfl rfl rfl rfl (Or.inr (congrArg some g21)) (Cl.mono H (Nat.le_refl _) (fun r20 h19 H => ?_))
    obtain ⟨x22, rfl, H⟩ := H
    exact ev_r (v := some (.int x22)) am_q134 rfl rfl rfl rfl H
  replace H := H.2
  by_cases k25 : i1 = (5 : Int32)
  · replace H := H.1 k25
    refine ev_s (pc' := 99) (loc' := [.ref a0, .int i1]) (st' := []) (h1 := h) am_q134 rfl rfl rfl (by rw [k25]; rfl) ?_
    refine ev_p (pc' := 100) (loc' := [.ref a0, .int i1]) (st' := [.ref a0]) 1 am_q134 rfl ?_
    obtain ⟨g24, H⟩ := H
    refine ev_s (pc' := 103) (loc' := [.ref a0, .int i1]) (st' := [.int (am_gi h a0 9)]) (h1 := h) am_q134 rfl rfl rfl (if_pos (e := none) g24) ?_
    exact ev_r (v := some (.int (am_gi h a0 9))) am_q134 rfl rfl rfl rfl H
  replace H := H.2
  by_cases k30 : i1 = (6 : Int32)
  · replace H := H.1 k30
    refine ev_s (pc' := 104) (loc' := [.ref a0, .int i1]) (st' := []) (h1 := h) am_q134 rfl rfl rfl (by rw [k30]; rfl) ?_
    refine ev_p (pc' := 105) (loc' := [.ref a0, .int i1]) (st' := [.ref a0]) 1 am_q134 rfl ?_
    obtain ⟨g26, b27, e28, H⟩ := H
    refine ev_s (pc' := 108) (loc' := [.ref a0, .int i1]) (st' := [.ref b27]) (h1 := h) am_q134 rfl rfl rfl (am_gf2 g26 e28) ?_
    obtain ⟨g29, H⟩ := H
    refine ev_s (pc' := 111) (loc' := [.ref a0, .int i1]) (st' := [.int (am_gi h b27 1)]) (h1 := h) am_q134 rfl rfl rfl (if_pos (e := none) g29) ?_
    exact ev_r (v := some (.int (am_gi h b27 1))) am_q134 rfl rfl rfl rfl H
  replace H := H.2
  by_cases k35 : i1 = (7 : Int32)
  · replace H := H.1 k35
    refine ev_s (pc' := 112) (loc' := [.ref a0, .int i1]) (st' := []) (h1 := h) am_q134 rfl rfl rfl (by rw [k35]; rfl) ?_
    refine ev_p (pc' := 113) (loc' := [.ref a0, .int i1]) (st' := [.ref a0]) 1 am_q134 rfl ?_
    obtain ⟨g31, b32, e33, H⟩ := H
    refine ev_s (pc' := 116) (loc' := [.ref a0, .int i1]) (st' := [.ref b32]) (h1 := h) am_q134 rfl rfl rfl (am_gf2 g31 e33) ?_
    obtain ⟨g34, H⟩ := H
    refine ev_s (pc' := 119) (loc' := [.ref a0, .int i1]) (st' := [.int (am_gi h b32 1)]) (h1 := h) am_q134 rfl rfl rfl (if_pos (e := none) g34) ?_
    exact ev_r (v := some (.int (am_gi h b32 1))) am_q134 rfl rfl rfl rfl H
  replace H := H.2
  by_cases k37 : i1 = (8 : Int32)
  · replace H := H.1 k37
    refine ev_s (pc' := 120) (loc' := [.ref a0, .int i1]) (st' := []) (h1 := h) am_q134 rfl rfl rfl (by rw [k37]; rfl) ?_
    refine ev_p (pc' := 121) (loc' := [.ref a0, .int i1]) (st' := [.ref a0]) 1 am_q134 rfl ?_
    obtain ⟨g36, H⟩ := H
    refine ev_s (pc' := 124) (loc' := [.ref a0, .int i1]) (st' := [.int (am_gi h a0 0)]) (h1 := h) am_q134 rfl rfl rfl (if_pos (e := none) g36) ?_
    exact ev_r (v := some (.int (am_gi h a0 0))) am_q134 rfl rfl rfl rfl H
  replace H := H.2
  by_cases k42 : i1 = (9 : Int32)
  · replace H := H.1 k42
    refine ev_s (pc' := 125) (loc' := [.ref a0, .int i1]) (st' := []) (h1 := h) am_q134 rfl rfl rfl (by rw [k42]; rfl) ?_
    refine ev_p (pc' := 126) (loc' := [.ref a0, .int i1]) (st' := [.ref a0]) 1 am_q134 rfl ?_
    obtain ⟨g40, H⟩ := H
    refine ev_c (vs := [.ref a0]) (rest := []) 152 am_q134 rfl rfl rfl rfl rfl rfl rfl rfl rfl rfl rfl rfl (Or.inr (congrArg some g40)) (Cl.mono H (Nat.le_refl _) (fun r39 h38 H => ?_))
    obtain ⟨x41, rfl, H⟩ := H
    exact ev_r (v := some (.int x41)) am_q134 rfl rfl rfl rfl H
  replace H := H.2
  by_cases k50 : i1 = (10 : Int32)
  · replace H := H.1 k50
    refine ev_s (pc' := 130) (loc' := [.ref a0, .int i1]) (st' := []) (h1 := h) am_q134 rfl rfl rfl (by rw [k50]; rfl) ?_
    refine ev_p (pc' := 131) (loc' := [.ref a0, .int i1]) (st' := [.ref a0]) 1 am_q134 rfl ?_
    obtain ⟨g45, H⟩ := H
    refine ev_c (vs := [.ref a0]) (rest := []) 153 am_q134 rfl rfl rfl rfl rfl rfl rfl rfl rfl rfl rfl rfl (Or.inr (congrArg some g45)) (Cl.mono H (Nat.le_refl _) (fun r44 h43 H => ?_))
    obtain ⟨x46, rfl, H⟩ := H
    refine ev_c (vs := [.int x46]) (rest := []) 262 am_q134 rfl rfl rfl rfl rfl rfl rfl rfl rfl rfl rfl rfl (Or.inl rfl) (Cl.mono H (Nat.le_refl _) (fun r48 h47 H => ?_))
    obtain ⟨x49, rfl, H⟩ := H
    exact ev_r (v := some (.int x49)) am_q134 rfl rfl rfl rfl H
  replace H := H.2
  by_cases k55 : i1 = (11 : Int32)
  · replace H := H.1 k55
    refine ev_s (pc' := 138) (loc' := [.ref a0, .int i1]) (st' := []) (h1 := h) am_q134 rfl rfl rfl (by rw [k55]; rfl) ?_
    refine ev_p (pc' := 139) (loc' := [.ref a0, .int i1]) (st' := [.ref a0]) 1 am_q134 rfl ?_
    obtain ⟨g51, b52, e53, H⟩ := H
    refine ev_s (pc' := 142) (loc' := [.ref a0, .int i1]) (st' := [.ref b52]) (h1 := h) am_q134 rfl rfl rfl (am_gf2 g51 e53) ?_
    obtain ⟨g54, H⟩ := H
    refine ev_s (pc' := 145) (loc' := [.ref a0, .int i1]) (st' := [.int (am_gi h b52 1)]) (h1 := h) am_q134 rfl rfl rfl (if_pos (e := none) g54) ?_
    exact ev_r (v := some (.int (am_gi h b52 1))) am_q134 rfl rfl rfl rfl H
  replace H := H.2
  replace H := H ⟨k2, k4, k9, k14, k23, k25, k30, k35, k37, k42, k50, k55⟩
  refine ev_s (pc' := 146) (loc' := [.ref a0, .int i1]) (st' := []) (h1 := h) am_q134 rfl rfl rfl (am_tso (x := (i1).toInt) (by have z0 : (i1).toInt ≠ 0 := am_tn k2 (by decide); have z1 : (i1).toInt ≠ 1 := am_tn k4 (by decide); have z2 : (i1).toInt ≠ 2 := am_tn k9 (by decide); have z3 : (i1).toInt ≠ 3 := am_tn k14 (by decide); have z4 : (i1).toInt ≠ 4 := am_tn k23 (by decide); have z5 : (i1).toInt ≠ 5 := am_tn k25 (by decide); have z6 : (i1).toInt ≠ 6 := am_tn k30 (by decide); have z7 : (i1).toInt ≠ 7 := am_tn k35 (by decide); have z8 : (i1).toInt ≠ 8 := am_tn k37 (by decide); have z9 : (i1).toInt ≠ 9 := am_tn k42 (by decide); have z10 : (i1).toInt ≠ 10 := am_tn k50 (by decide); have z11 : (i1).toInt ≠ 11 := am_tn k55 (by decide); omega)) ?_
  refine ev_p (pc' := 148) (loc' := [.ref a0, .int i1]) (st' := [.int (-2 : Int32)]) 1 am_q134 rfl ?_
  exact ev_r (v := some (.int (-2 : Int32))) am_q134 rfl rfl rfl rfl H
/-! 135: X11_put -/
theorem am_q135 : (am_mt 135).2.2.2.2.2 = am_m135.2.2.2.2.2 := rfl
set_option maxRecDepth 20000 in
set_option maxHeartbeats 2000000 in
theorem wp135 {d : Nat} (a0 : Nat) (i1 : Int32) (i2 : Int32) (i3 : Int32) {h : AH} {Q : Option Value → AH → Prop} (H : Cl d 141 [.int i1] h (fun r2 h1 => ∃ x3, r2 = some (.int x3) ∧ (x3 = (0 : Int32) → am_kd h1 a0 = 11 ∧ ∀ h5, h5 = am_si h1 a0 18 (1 : Int32) → Q (some (.int (-1 : Int32))) h5) ∧ (¬ x3 = (0 : Int32) → ((¬ i2 = (1 : Int32)) → Ev (d + 1) 135 30 [.ref a0, .int i1, .int i2, .int i3, .null] [] h1 Q) ∧ (¬ (¬ i2 = (1 : Int32)) → am_kd h1 a0 = 11 ∧ ∃ b7, am_gr h1 a0 5 = some b7 ∧ am_kd h1 b7 = 6 ∧ Cl d 53 [.ref b7, .int i3] h1 (fun r10 h9 => ∃ x12, r10 = some (.int x12) ∧ ((¬ x12 = (0 : Int32)) → Ev (d + 1) 135 30 [.ref a0, .int i1, .int i2, .int i3, .null] [] h9 Q) ∧ (¬ (¬ x12 = (0 : Int32)) → am_kd h9 a0 = 11 ∧ ∀ h14, h14 = am_si h9 a0 18 (1 : Int32) → Q (some (.int (-1 : Int32))) h14)))))) : Cl (d + 1) 135 [.ref a0, .int i1, .int i2, .int i3] h Q := by
  show Ev (d + 1) 135 0 [.ref a0, .int i1, .int i2, .int i3, .null] [] h Q
  refine ev_p (pc' := 1) (loc' := [.ref a0, .int i1, .int i2, .int i3, .null]) (st' := [.int i1]) 1 am_q135 rfl ?_
  refine ev_c (vs := [.int i1]) (rest := []) 141 am_q135 rfl rfl rfl rfl rfl rfl rfl rfl rfl rfl rfl rfl (Or.inl rfl) (Cl.mono H (Nat.le_refl _) (fun r2 h1 H => ?_))
  obtain ⟨x3, rfl, H⟩ := H
  refine ev_jz (t := 23) am_q135 rfl rfl (fun hq => ?_) (fun hq => ?_)
  · replace H := H.1 hq
    refine ev_p (pc' := 25) (loc' := [.ref a0, .null, .null, .null, .null]) (st' := [.int (1 : Int32), .ref a0]) 2 am_q135 rfl ?_
    obtain ⟨g4, H⟩ := H
    refine ev_s (pc' := 28) (loc' := [.ref a0, .null, .null, .null, .null]) (st' := []) (h1 := am_si h1 a0 18 (1 : Int32)) am_q135 rfl rfl rfl (if_pos (e := none) g4) ?_
    replace H := H _ rfl
    generalize am_si h1 a0 18 (1 : Int32) = h5 at H ⊢
    refine ev_p (pc' := 29) (loc' := [.ref a0, .null, .null, .null, .null]) (st' := [.int (-1 : Int32)]) 1 am_q135 rfl ?_
    exact ev_r (v := some (.int (-1 : Int32))) am_q135 rfl rfl rfl rfl H
  · replace H := H.2 hq
    refine ev_p (pc' := 9) (loc' := [.ref a0, .int i1, .int i2, .int i3, .null]) (st' := [.int (1 : Int32), .int i2]) 2 am_q135 rfl ?_
    refine ev_jc (t := 30) am_q135 rfl rfl (fun hq => ?_) (fun hq => ?_)
    · replace H := H.1 hq
      exact ev_m (loc' := [.ref a0, .int i1, .int i2, .int i3, .null]) am_q135 rfl rfl H
    · replace H := H.2 hq
      refine ev_p (pc' := 13) (loc' := [.ref a0, .int i1, .int i2, .int i3, .null]) (st' := [.ref a0]) 1 am_q135 rfl ?_
      obtain ⟨g6, b7, e8, H⟩ := H
      refine ev_s (pc' := 16) (loc' := [.ref a0, .int i1, .int i2, .int i3, .null]) (st' := [.ref b7]) (h1 := h1) am_q135 rfl rfl rfl (am_gf2 g6 e8) ?_
      refine ev_p (pc' := 17) (loc' := [.ref a0, .int i1, .int i2, .int i3, .null]) (st' := [.int i3, .ref b7]) 1 am_q135 rfl ?_
      obtain ⟨g11, H⟩ := H
      refine ev_c (vs := [.ref b7, .int i3]) (rest := []) 53 am_q135 rfl rfl rfl rfl rfl rfl rfl rfl rfl rfl rfl rfl (Or.inr (congrArg some g11)) (Cl.mono H (Nat.le_refl _) (fun r10 h9 H => ?_))
      obtain ⟨x12, rfl, H⟩ := H
      refine ev_jz (t := 30) am_q135 rfl rfl (fun hq => ?_) (fun hq => ?_)
      · replace H := H.1 hq
        exact ev_m (loc' := [.ref a0, .int i1, .int i2, .int i3, .null]) am_q135 rfl rfl H
      · replace H := H.2 hq
        refine ev_p (pc' := 25) (loc' := [.ref a0, .null, .null, .null, .null]) (st' := [.int (1 : Int32), .ref a0]) 2 am_q135 rfl ?_
        obtain ⟨g13, H⟩ := H
        refine ev_s (pc' := 28) (loc' := [.ref a0, .null, .null, .null, .null]) (st' := []) (h1 := am_si h9 a0 18 (1 : Int32)) am_q135 rfl rfl rfl (if_pos (e := none) g13) ?_
        replace H := H _ rfl
        generalize am_si h9 a0 18 (1 : Int32) = h14 at H ⊢
        refine ev_p (pc' := 29) (loc' := [.ref a0, .null, .null, .null, .null]) (st' := [.int (-1 : Int32)]) 1 am_q135 rfl ?_
        exact ev_r (v := some (.int (-1 : Int32))) am_q135 rfl rfl rfl rfl H
set_option maxRecDepth 20000 in
set_option maxHeartbeats 2000000 in
theorem wp135_30 {d : Nat} (a0 : Nat) (i1 : Int32) (i2 : Int32) (i3 : Int32) {h : AH} {Q : Option Value → AH → Prop} (H : am_kd h a0 = 11 ∧ ∃ b2, am_gr h a0 17 = some b2 ∧ (104 ≤ am_kd h b2 ∧ am_kd h b2 ≤ 109) ∧ am_in i1 (am_ln h b2) ∧ ∃ b6, am_gr h b2 (Int32.toNatClampNeg i1) = some b6 ∧ am_kd h a0 = 11 ∧ ∀ h9, h9 = am_si h a0 18 (0 : Int32) → (i2 = (0 : Int32) → am_kd h9 b6 = 10 ∧ Cl d 83 [.ref b6] h9 (fun r11 h10 => r11 = none ∧ Q (some (.int (1 : Int32))) h10)) ∧ (i2 = (1 : Int32) → am_kd h9 a0 = 11 ∧ ∃ b15, am_gr h9 a0 5 = some b15 ∧ am_kd h9 b15 = 6 ∧ ∃ b18, am_gr h9 b15 0 = some b18 ∧ (104 ≤ am_kd h9 b18 ∧ am_kd h9 b18 ≤ 109) ∧ am_in i3 (am_ln h9 b18) ∧ ∃ b22, am_gr h9 b18 (Int32.toNatClampNeg i3) = some b22 ∧ am_kd h9 b6 = 10 ∧ Cl d 84 [.ref b6, .ref b22] h9 (fun r25 h24 => r25 = none ∧ Q (some (.int (1 : Int32))) h24)) ∧ (i2 = (2 : Int32) → am_kd h9 a0 = 11 ∧ ∃ b29, am_gr h9 a0 8 = some b29 ∧ am_kd h9 a0 = 11 ∧ am_kd h9 a0 = 11 ∧ Cl d 154 [.ref a0, .int (am_gi h9 a0 0)] h9 (fun r33 h32 => ∃ x35, r33 = some (.int x35) ∧ (104 ≤ am_kd h32 b29 ∧ am_kd h32 b29 ≤ 109) ∧ am_in x35 (am_ln h32 b29) ∧ ∃ b38, am_gr h32 b29 (Int32.toNatClampNeg x35) = some b38 ∧ am_kd h32 b6 = 10 ∧ Cl d 85 [.ref b6, .ref b38] h32 (fun r41 h40 => r41 = none ∧ Q (some (.int (1 : Int32))) h40))) ∧ (i2 = (3 : Int32) → am_kd h9 a0 = 11 ∧ ∃ b45, am_gr h9 a0 3 = some b45 ∧ am_kd h9 a0 = 11 ∧ am_kd h9 b6 = 10 ∧ Cl d 86 [.ref b6, .ref b45, .int (am_gi h9 a0 4)] h9 (fun r49 h48 => r49 = none ∧ Q (some (.int (1 : Int32))) h48)) ∧ (i2 = (4 : Int32) → am_kd h9 a0 = 11 ∧ Cl d 148 [.ref a0] h9 (fun r53 h52 => ∃ x55, r53 = some (.int x55) ∧ am_kd h52 a0 = 11 ∧ am_kd h52 b6 = 10 ∧ Cl d 87 [.ref b6, .int x55, .int (am_gi h52 a0 2)] h52 (fun r58 h57 => r58 = none ∧ Q (some (.int (1 : Int32))) h57))) ∧ (¬ i2 = (0 : Int32) ∧ ¬ i2 = (1 : Int32) ∧ ¬ i2 = (2 : Int32) ∧ ¬ i2 = (3 : Int32) ∧ ¬ i2 = (4 : Int32) → am_kd h9 a0 = 11 ∧ ∀ h62, h62 = am_si h9 a0 18 (1 : Int32) → Q (some (.int (-1 : Int32))) h62)) : Ev (d + 1) 135 30 [.ref a0, .int i1, .int i2, .int i3, .null] [] h Q := by
  refine ev_p (pc' := 31) (loc' := [.ref a0, .int i1, .int i2, .int i3, .null]) (st' := [.ref a0]) 1 am_q135 rfl ?_
  obtain ⟨g1, b2, e3, H⟩ := H
  refine ev_s (pc' := 34) (loc' := [.ref a0, .int i1, .int i2, .int i3, .null]) (st' := [.ref b2]) (h1 := h) am_q135 rfl rfl rfl (am_gf2 g1 e3) ?_
  refine ev_p (pc' := 35) (loc' := [.ref a0, .int i1, .int i2, .int i3, .null]) (st' := [.int i1, .ref b2]) 1 am_q135 rfl ?_
  obtain ⟨g4, g5, b6, e7, H⟩ := H
  refine ev_s (pc' := 36) (loc' := [.ref a0, .int i1, .int i2, .int i3, .null]) (st' := [.ref b6]) (h1 := h) am_q135 rfl rfl rfl (am_xa g4 g5 e7) ?_
  refine ev_p (pc' := 40) (loc' := [.ref a0, .int i1, .int i2, .int i3, .ref b6]) (st' := [.int (0 : Int32), .ref a0]) 3 am_q135 rfl ?_
  obtain ⟨g8, H⟩ := H
  refine ev_s (pc' := 43) (loc' := [.ref a0, .int i1, .int i2, .int i3, .ref b6]) (st' := []) (h1 := am_si h a0 18 (0 : Int32)) am_q135 rfl rfl rfl (if_pos (e := none) g8) ?_
  replace H := H _ rfl
  generalize am_si h a0 18 (0 : Int32) = h9 at H ⊢
  refine ev_p (pc' := 44) (loc' := [.ref a0, .int i1, .int i2, .int i3, .ref b6]) (st' := [.int i2]) 1 am_q135 rfl ?_
  by_cases k13 : i2 = (0 : Int32)
  · replace H := H.1 k13
    refine ev_s (pc' := 80) (loc' := [.ref a0, .int i1, .int i2, .int i3, .ref b6]) (st' := []) (h1 := h9) am_q135 rfl rfl rfl (by rw [k13]; rfl) ?_
    refine ev_p (pc' := 82) (loc' := [.ref a0, .int i1, .int i2, .int i3, .ref b6]) (st' := [.ref b6]) 1 am_q135 rfl ?_
    obtain ⟨g12, H⟩ := H
    refine ev_c (vs := [.ref b6]) (rest := []) 83 am_q135 rfl rfl rfl rfl rfl rfl rfl rfl rfl rfl rfl rfl (Or.inr (congrArg some g12)) (Cl.mono H (Nat.le_refl _) (fun r11 h10 H => ?_))
    obtain ⟨rfl, H⟩ := H
    refine ev_p (pc' := 86) (loc' := [.ref a0, .int i1, .int i2, .int i3, .ref b6]) (st' := [.int (1 : Int32)]) 1 am_q135 rfl ?_
    exact ev_r (v := some (.int (1 : Int32))) am_q135 rfl rfl rfl rfl H
  replace H := H.2
  by_cases k27 : i2 = (1 : Int32)
  · replace H := H.1 k27
    refine ev_s (pc' := 87) (loc' := [.ref a0, .int i1, .int i2, .int i3, .ref b6]) (st' := []) (h1 := h9) am_q135 rfl rfl rfl (by rw [k27]; rfl) ?_
    refine ev_p (pc' := 90) (loc' := [.ref a0, .int i1, .int i2, .int i3, .ref b6]) (st' := [.ref a0, .ref b6]) 2 am_q135 rfl ?_
    obtain ⟨g14, b15, e16, H⟩ := H
    refine ev_s (pc' := 93) (loc' := [.ref a0, .int i1, .int i2, .int i3, .ref b6]) (st' := [.ref b15, .ref b6]) (h1 := h9) am_q135 rfl rfl rfl (am_gf2 g14 e16) ?_
    obtain ⟨g17, b18, e19, H⟩ := H
    refine ev_s (pc' := 96) (loc' := [.ref a0, .int i1, .int i2, .int i3, .ref b6]) (st' := [.ref b18, .ref b6]) (h1 := h9) am_q135 rfl rfl rfl (am_gf2 g17 e19) ?_
    refine ev_p (pc' := 97) (loc' := [.ref a0, .int i1, .int i2, .int i3, .ref b6]) (st' := [.int i3, .ref b18, .ref b6]) 1 am_q135 rfl ?_
    obtain ⟨g20, g21, b22, e23, H⟩ := H
    refine ev_s (pc' := 98) (loc' := [.ref a0, .int i1, .int i2, .int i3, .ref b6]) (st' := [.ref b22, .ref b6]) (h1 := h9) am_q135 rfl rfl rfl (am_xa g20 g21 e23) ?_
    obtain ⟨g26, H⟩ := H
    refine ev_c (vs := [.ref b6, .ref b22]) (rest := []) 84 am_q135 rfl rfl rfl rfl rfl rfl rfl rfl rfl rfl rfl rfl (Or.inr (congrArg some g26)) (Cl.mono H (Nat.le_refl _) (fun r25 h24 H => ?_))
    obtain ⟨rfl, H⟩ := H
    refine ev_p (pc' := 102) (loc' := [.ref a0, .int i1, .int i2, .int i3, .ref b6]) (st' := [.int (1 : Int32)]) 1 am_q135 rfl ?_
    exact ev_r (v := some (.int (1 : Int32))) am_q135 rfl rfl rfl rfl H
  replace H := H.2
  by_cases k43 : i2 = (2 : Int32)
  · replace H := H.1 k43
    refine ev_s (pc' := 103) (loc' := [.ref a0, .int i1, .int i2, .int i3, .ref b6]) (st' := []) (h1 := h9) am_q135 rfl rfl rfl (by rw [k43]; rfl) ?_
    refine ev_p (pc' := 106) (loc' := [.ref a0, .int i1, .int i2, .int i3, .ref b6]) (st' := [.ref a0, .ref b6]) 2 am_q135 rfl ?_
    obtain ⟨g28, b29, e30, H⟩ := H
    refine ev_s (pc' := 109) (loc' := [.ref a0, .int i1, .int i2, .int i3, .ref b6]) (st' := [.ref b29, .ref b6]) (h1 := h9) am_q135 rfl rfl rfl (am_gf2 g28 e30) ?_
    refine ev_p (pc' := 111) (loc' := [.ref a0, .int i1, .int i2, .int i3, .ref b6]) (st' := [.ref a0, .ref a0, .ref b29, .ref b6]) 2 am_q135 rfl ?_
    obtain ⟨g31, H⟩ := H
    refine ev_s (pc' := 114) (loc' := [.ref a0, .int i1, .int i2, .int i3, .ref b6]) (st' := [.int (am_gi h9 a0 0), .ref a0, .ref b29, .ref b6]) (h1 := h9) am_q135 rfl rfl rfl (if_pos (e := none) g31) ?_
    obtain ⟨g34, H⟩ := H
    refine ev_c (vs := [.ref a0, .int (am_gi h9 a0 0)]) (rest := [.ref b29, .ref b6]) 154 am_q135 rfl rfl rfl rfl rfl rfl rfl rfl rfl rfl rfl rfl (Or.inr (congrArg some g34)) (Cl.mono H (Nat.le_refl _) (fun r33 h32 H => ?_))
    obtain ⟨x35, rfl, H⟩ := H
    obtain ⟨g36, g37, b38, e39, H⟩ := H
    refine ev_s (pc' := 118) (loc' := [.ref a0, .int i1, .int i2, .int i3, .ref b6]) (st' := [.ref b38, .ref b6]) (h1 := h32) am_q135 rfl rfl rfl (am_xa g36 g37 e39) ?_
    obtain ⟨g42, H⟩ := H
    refine ev_c (vs := [.ref b6, .ref b38]) (rest := []) 85 am_q135 rfl rfl rfl rfl rfl rfl rfl rfl rfl rfl rfl rfl (Or.inr (congrArg some g42)) (Cl.mono H (Nat.le_refl _) (fun r41 h40 H => ?_))
    obtain ⟨rfl, H⟩ := H
    refine ev_p (pc' := 122) (loc' := [.ref a0, .int i1, .int i2, .int i3, .ref b6]) (st' := [.int (1 : Int32)]) 1 am_q135 rfl ?_
    exact ev_r (v := some (.int (1 : Int32))) am_q135 rfl rfl rfl rfl H
  replace H := H.2
  by_cases k51 : i2 = (3 : Int32)
  · replace H := H.1 k51
    refine ev_s (pc' := 123) (loc' := [.ref a0, .int i1, .int i2, .int i3, .ref b6]) (st' := []) (h1 := h9) am_q135 rfl rfl rfl (by rw [k51]; rfl) ?_
    refine ev_p (pc' := 126) (loc' := [.ref a0, .int i1, .int i2, .int i3, .ref b6]) (st' := [.ref a0, .ref b6]) 2 am_q135 rfl ?_
    obtain ⟨g44, b45, e46, H⟩ := H
    refine ev_s (pc' := 129) (loc' := [.ref a0, .int i1, .int i2, .int i3, .ref b6]) (st' := [.ref b45, .ref b6]) (h1 := h9) am_q135 rfl rfl rfl (am_gf2 g44 e46) ?_
    refine ev_p (pc' := 130) (loc' := [.ref a0, .int i1, .int i2, .int i3, .ref b6]) (st' := [.ref a0, .ref b45, .ref b6]) 1 am_q135 rfl ?_
    obtain ⟨g47, H⟩ := H
    refine ev_s (pc' := 133) (loc' := [.ref a0, .int i1, .int i2, .int i3, .ref b6]) (st' := [.int (am_gi h9 a0 4), .ref b45, .ref b6]) (h1 := h9) am_q135 rfl rfl rfl (if_pos (e := none) g47) ?_
    obtain ⟨g50, H⟩ := H
    refine ev_c (vs := [.ref b6, .ref b45, .int (am_gi h9 a0 4)]) (rest := []) 86 am_q135 rfl rfl rfl rfl rfl rfl rfl rfl rfl rfl rfl rfl (Or.inr (congrArg some g50)) (Cl.mono H (Nat.le_refl _) (fun r49 h48 H => ?_))
    obtain ⟨rfl, H⟩ := H
    refine ev_p (pc' := 137) (loc' := [.ref a0, .int i1, .int i2, .int i3, .ref b6]) (st' := [.int (1 : Int32)]) 1 am_q135 rfl ?_
    exact ev_r (v := some (.int (1 : Int32))) am_q135 rfl rfl rfl rfl H
  replace H := H.2
  by_cases k60 : i2 = (4 : Int32)
  · replace H := H.1 k60
    refine ev_s (pc' := 138) (loc' := [.ref a0, .int i1, .int i2, .int i3, .ref b6]) (st' := []) (h1 := h9) am_q135 rfl rfl rfl (by rw [k60]; rfl) ?_
    refine ev_p (pc' := 141) (loc' := [.ref a0, .int i1, .int i2, .int i3, .ref b6]) (st' := [.ref a0, .ref b6]) 2 am_q135 rfl ?_
    obtain ⟨g54, H⟩ := H
    refine ev_c (vs := [.ref a0]) (rest := [.ref b6]) 148 am_q135 rfl rfl rfl rfl rfl rfl rfl rfl rfl rfl rfl rfl (Or.inr (congrArg some g54)) (Cl.mono H (Nat.le_refl _) (fun r53 h52 H => ?_))
    obtain ⟨x55, rfl, H⟩ := H
    refine ev_p (pc' := 145) (loc' := [.ref a0, .int i1, .int i2, .int i3, .ref b6]) (st' := [.ref a0, .int x55, .ref b6]) 1 am_q135 rfl ?_
    obtain ⟨g56, H⟩ := H
    refine ev_s (pc' := 148) (loc' := [.ref a0, .int i1, .int i2, .int i3, .ref b6]) (st' := [.int (am_gi h52 a0 2), .int x55, .ref b6]) (h1 := h52) am_q135 rfl rfl rfl (if_pos (e := none) g56) ?_
    obtain ⟨g59, H⟩ := H
    refine ev_c (vs := [.ref b6, .int x55, .int (am_gi h52 a0 2)]) (rest := []) 87 am_q135 rfl rfl rfl rfl rfl rfl rfl rfl rfl rfl rfl rfl (Or.inr (congrArg some g59)) (Cl.mono H (Nat.le_refl _) (fun r58 h57 H => ?_))
    obtain ⟨rfl, H⟩ := H
    refine ev_p (pc' := 152) (loc' := [.ref a0, .int i1, .int i2, .int i3, .ref b6]) (st' := [.int (1 : Int32)]) 1 am_q135 rfl ?_
    exact ev_r (v := some (.int (1 : Int32))) am_q135 rfl rfl rfl rfl H
  replace H := H.2
  replace H := H ⟨k13, k27, k43, k51, k60⟩
  refine ev_s (pc' := 153) (loc' := [.ref a0, .int i1, .int i2, .int i3, .ref b6]) (st' := []) (h1 := h9) am_q135 rfl rfl rfl (am_tso (x := (i2).toInt) (by have z0 : (i2).toInt ≠ 0 := am_tn k13 (by decide); have z1 : (i2).toInt ≠ 1 := am_tn k27 (by decide); have z2 : (i2).toInt ≠ 2 := am_tn k43 (by decide); have z3 : (i2).toInt ≠ 3 := am_tn k51 (by decide); have z4 : (i2).toInt ≠ 4 := am_tn k60 (by decide); omega)) ?_
  refine ev_p (pc' := 155) (loc' := [.ref a0, .int i1, .int i2, .int i3, .ref b6]) (st' := [.int (1 : Int32), .ref a0]) 2 am_q135 rfl ?_
  obtain ⟨g61, H⟩ := H
  refine ev_s (pc' := 158) (loc' := [.ref a0, .int i1, .int i2, .int i3, .ref b6]) (st' := []) (h1 := am_si h9 a0 18 (1 : Int32)) am_q135 rfl rfl rfl (if_pos (e := none) g61) ?_
  replace H := H _ rfl
  generalize am_si h9 a0 18 (1 : Int32) = h62 at H ⊢
  refine ev_p (pc' := 159) (loc' := [.ref a0, .int i1, .int i2, .int i3, .ref b6]) (st' := [.int (-1 : Int32)]) 1 am_q135 rfl ?_
  exact ev_r (v := some (.int (-1 : Int32))) am_q135 rfl rfl rfl rfl H
/-! 136: X11_forge -/
theorem am_q136 : (am_mt 136).2.2.2.2.2 = am_m136.2.2.2.2.2 := rfl
set_option maxRecDepth 20000 in
set_option maxHeartbeats 2000000 in
theorem wp136 {d : Nat} (a0 : Nat) (i1 : Int32) (i2 : Int32) (i3 : Int32) {h : AH} {Q : Option Value → AH → Prop} (H : Cl d 141 [.int i1] h (fun r2 h1 => ∃ x3, r2 = some (.int x3) ∧ (x3 = (0 : Int32) → am_kd h1 a0 = 11 ∧ ∀ h5, h5 = am_si h1 a0 18 (1 : Int32) → Q (some (.int (-1 : Int32))) h5) ∧ (¬ x3 = (0 : Int32) → (i3 < (-100 : Int32) → am_kd h1 a0 = 11 ∧ ∀ h7, h7 = am_si h1 a0 18 (1 : Int32) → Q (some (.int (-1 : Int32))) h7) ∧ (¬ i3 < (-100 : Int32) → (i3 ≤ (100 : Int32) → am_kd h1 a0 = 11 ∧ ∃ b9, am_gr h1 a0 17 = some b9 ∧ (104 ≤ am_kd h1 b9 ∧ am_kd h1 b9 ≤ 109) ∧ am_in i1 (am_ln h1 b9) ∧ ∃ b13, am_gr h1 b9 (Int32.toNatClampNeg i1) = some b13 ∧ am_kd h1 b13 = 10 ∧ Cl d 88 [.ref b13, .int i2, .int i3] h1 (fun r16 h15 => ∃ x18, r16 = some (.int x18) ∧ am_kd h15 a0 = 11 ∧ ∃ b20, am_gr h15 a0 17 = some b20 ∧ (104 ≤ am_kd h15 b20 ∧ am_kd h15 b20 ≤ 109) ∧ am_in i1 (am_ln h15 b20) ∧ ∃ b24, am_gr h15 b20 (Int32.toNatClampNeg i1) = some b24 ∧ am_kd h15 b24 = 10 ∧ am_kd h15 a0 = 11 ∧ ∀ h28, h28 = am_si h15 a0 18 (am_gi h15 b24 7) → Q (some (.int x18)) h28)) ∧ (¬ i3 ≤ (100 : Int32) → am_kd h1 a0 = 11 ∧ ∀ h30, h30 = am_si h1 a0 18 (1 : Int32) → Q (some (.int (-1 : Int32))) h30))))) : Cl (d + 1) 136 [.ref a0, .int i1, .int i2, .int i3] h Q := by
  show Ev (d + 1) 136 0 [.ref a0, .int i1, .int i2, .int i3, .null] [] h Q
  refine ev_p (pc' := 1) (loc' := [.ref a0, .int i1, .int i2, .int i3, .null]) (st' := [.int i1]) 1 am_q136 rfl ?_
  refine ev_c (vs := [.int i1]) (rest := []) 141 am_q136 rfl rfl rfl rfl rfl rfl rfl rfl rfl rfl rfl rfl (Or.inl rfl) (Cl.mono H (Nat.le_refl _) (fun r2 h1 H => ?_))
  obtain ⟨x3, rfl, H⟩ := H
  refine ev_jz (t := 19) am_q136 rfl rfl (fun hq => ?_) (fun hq => ?_)
  · replace H := H.1 hq
    refine ev_p (pc' := 21) (loc' := [.ref a0, .null, .null, .null, .null]) (st' := [.int (1 : Int32), .ref a0]) 2 am_q136 rfl ?_
    obtain ⟨g4, H⟩ := H
    refine ev_s (pc' := 24) (loc' := [.ref a0, .null, .null, .null, .null]) (st' := []) (h1 := am_si h1 a0 18 (1 : Int32)) am_q136 rfl rfl rfl (if_pos (e := none) g4) ?_
    replace H := H _ rfl
    generalize am_si h1 a0 18 (1 : Int32) = h5 at H ⊢
    refine ev_p (pc' := 25) (loc' := [.ref a0, .null, .null, .null, .null]) (st' := [.int (-1 : Int32)]) 1 am_q136 rfl ?_
    exact ev_r (v := some (.int (-1 : Int32))) am_q136 rfl rfl rfl rfl H
  · replace H := H.2 hq
    refine ev_p (pc' := 10) (loc' := [.ref a0, .int i1, .int i2, .int i3, .null]) (st' := [.int (-100 : Int32), .int i3]) 2 am_q136 rfl ?_
    refine ev_jc (t := 19) am_q136 rfl rfl (fun hq => ?_) (fun hq => ?_)
    · replace H := H.1 hq
      refine ev_p (pc' := 21) (loc' := [.ref a0, .null, .null, .null, .null]) (st' := [.int (1 : Int32), .ref a0]) 2 am_q136 rfl ?_
      obtain ⟨g6, H⟩ := H
      refine ev_s (pc' := 24) (loc' := [.ref a0, .null, .null, .null, .null]) (st' := []) (h1 := am_si h1 a0 18 (1 : Int32)) am_q136 rfl rfl rfl (if_pos (e := none) g6) ?_
      replace H := H _ rfl
      generalize am_si h1 a0 18 (1 : Int32) = h7 at H ⊢
      refine ev_p (pc' := 25) (loc' := [.ref a0, .null, .null, .null, .null]) (st' := [.int (-1 : Int32)]) 1 am_q136 rfl ?_
      exact ev_r (v := some (.int (-1 : Int32))) am_q136 rfl rfl rfl rfl H
    · replace H := H.2 hq
      refine ev_p (pc' := 16) (loc' := [.ref a0, .int i1, .int i2, .int i3, .null]) (st' := [.int (100 : Int32), .int i3]) 2 am_q136 rfl ?_
      refine ev_jc (t := 26) am_q136 rfl rfl (fun hq => ?_) (fun hq => ?_)
      · replace H := H.1 hq
        refine ev_p (pc' := 27) (loc' := [.ref a0, .int i1, .int i2, .int i3, .null]) (st' := [.ref a0]) 1 am_q136 rfl ?_
        obtain ⟨g8, b9, e10, H⟩ := H
        refine ev_s (pc' := 30) (loc' := [.ref a0, .int i1, .int i2, .int i3, .null]) (st' := [.ref b9]) (h1 := h1) am_q136 rfl rfl rfl (am_gf2 g8 e10) ?_
        refine ev_p (pc' := 31) (loc' := [.ref a0, .int i1, .int i2, .int i3, .null]) (st' := [.int i1, .ref b9]) 1 am_q136 rfl ?_
        obtain ⟨g11, g12, b13, e14, H⟩ := H
        refine ev_s (pc' := 32) (loc' := [.ref a0, .int i1, .int i2, .int i3, .null]) (st' := [.ref b13]) (h1 := h1) am_q136 rfl rfl rfl (am_xa g11 g12 e14) ?_
        refine ev_p (pc' := 34) (loc' := [.ref a0, .int i1, .int i2, .int i3, .null]) (st' := [.int i3, .int i2, .ref b13]) 2 am_q136 rfl ?_
        obtain ⟨g17, H⟩ := H
        refine ev_c (vs := [.ref b13, .int i2, .int i3]) (rest := []) 88 am_q136 rfl rfl rfl rfl rfl rfl rfl rfl rfl rfl rfl rfl (Or.inr (congrArg some g17)) (Cl.mono H (Nat.le_refl _) (fun r16 h15 H => ?_))
        obtain ⟨x18, rfl, H⟩ := H
        refine ev_p (pc' := 41) (loc' := [.ref a0, .int i1, .int i2, .int i3, .int x18]) (st' := [.ref a0, .ref a0]) 3 am_q136 rfl ?_
        obtain ⟨g19, b20, e21, H⟩ := H
        refine ev_s (pc' := 44) (loc' := [.ref a0, .int i1, .int i2, .int i3, .int x18]) (st' := [.ref b20, .ref a0]) (h1 := h15) am_q136 rfl rfl rfl (am_gf2 g19 e21) ?_
        refine ev_p (pc' := 45) (loc' := [.ref a0, .int i1, .int i2, .int i3, .int x18]) (st' := [.int i1, .ref b20, .ref a0]) 1 am_q136 rfl ?_
        obtain ⟨g22, g23, b24, e25, H⟩ := H
        refine ev_s (pc' := 46) (loc' := [.ref a0, .int i1, .int i2, .int i3, .int x18]) (st' := [.ref b24, .ref a0]) (h1 := h15) am_q136 rfl rfl rfl (am_xa g22 g23 e25) ?_
        obtain ⟨g26, H⟩ := H
        refine ev_s (pc' := 49) (loc' := [.ref a0, .int i1, .int i2, .int i3, .int x18]) (st' := [.int (am_gi h15 b24 7), .ref a0]) (h1 := h15) am_q136 rfl rfl rfl (if_pos (e := none) g26) ?_
        obtain ⟨g27, H⟩ := H
        refine ev_s (pc' := 52) (loc' := [.ref a0, .int i1, .int i2, .int i3, .int x18]) (st' := []) (h1 := am_si h15 a0 18 (am_gi h15 b24 7)) am_q136 rfl rfl rfl (if_pos (e := none) g27) ?_
        replace H := H _ rfl
        generalize am_si h15 a0 18 (am_gi h15 b24 7) = h28 at H ⊢
        refine ev_p (pc' := 54) (loc' := [.ref a0, .int i1, .int i2, .int i3, .int x18]) (st' := [.int x18]) 1 am_q136 rfl ?_
        exact ev_r (v := some (.int x18)) am_q136 rfl rfl rfl rfl H
      · replace H := H.2 hq
        refine ev_p (pc' := 21) (loc' := [.ref a0, .null, .null, .null, .null]) (st' := [.int (1 : Int32), .ref a0]) 2 am_q136 rfl ?_
        obtain ⟨g29, H⟩ := H
        refine ev_s (pc' := 24) (loc' := [.ref a0, .null, .null, .null, .null]) (st' := []) (h1 := am_si h1 a0 18 (1 : Int32)) am_q136 rfl rfl rfl (if_pos (e := none) g29) ?_
        replace H := H _ rfl
        generalize am_si h1 a0 18 (1 : Int32) = h30 at H ⊢
        refine ev_p (pc' := 25) (loc' := [.ref a0, .null, .null, .null, .null]) (st' := [.int (-1 : Int32)]) 1 am_q136 rfl ?_
        exact ev_r (v := some (.int (-1 : Int32))) am_q136 rfl rfl rfl rfl H
/-! 137: X11_status -/
theorem am_q137 : (am_mt 137).2.2.2.2.2 = am_m137.2.2.2.2.2 := rfl
set_option maxRecDepth 20000 in
set_option maxHeartbeats 2000000 in
theorem wp137 {d : Nat} (a0 : Nat) {h : AH} {Q : Option Value → AH → Prop} (H : am_kd h a0 = 11 ∧ Q (some (.int (am_gi h a0 18))) h) : Cl d 137 [.ref a0] h Q := by
  show Ev d 137 0 [.ref a0] [] h Q
  refine ev_p (pc' := 1) (loc' := [.ref a0]) (st' := [.ref a0]) 1 am_q137 rfl ?_
  obtain ⟨g1, H⟩ := H
  refine ev_s (pc' := 4) (loc' := [.ref a0]) (st' := [.int (am_gi h a0 18)]) (h1 := h) am_q137 rfl rfl rfl (if_pos (e := none) g1) ?_
  exact ev_r (v := some (.int (am_gi h a0 18))) am_q137 rfl rfl rfl rfl H
/-! 138: X11_isHome -/
theorem am_q138 : (am_mt 138).2.2.2.2.2 = am_m138.2.2.2.2.2 := rfl
set_option maxRecDepth 20000 in
set_option maxHeartbeats 2000000 in
theorem wp138 {d : Nat} (a0 : Nat) (i1 : Int32) {h : AH} {Q : Option Value → AH → Prop} (H : (i1 < (0 : Int32) → Q (some (.int (0 : Int32))) h) ∧ (¬ i1 < (0 : Int32) → am_kd h a0 = 11 ∧ ((am_gi h a0 2) ≤ i1 → Q (some (.int (0 : Int32))) h) ∧ (¬ (am_gi h a0 2) ≤ i1 → Q (some (.int (1 : Int32))) h))) : Cl d 138 [.ref a0, .int i1] h Q := by
  show Ev d 138 0 [.ref a0, .int i1] [] h Q
  refine ev_p (pc' := 1) (loc' := [.ref a0, .int i1]) (st' := [.int i1]) 1 am_q138 rfl ?_
  refine ev_jz (t := 16) am_q138 rfl rfl (fun hq => ?_) (fun hq => ?_)
  · replace H := H.1 hq
    refine ev_p (pc' := 17) (loc' := [.null, .null]) (st' := [.int (0 : Int32)]) 1 am_q138 rfl ?_
    exact ev_r (v := some (.int (0 : Int32))) am_q138 rfl rfl rfl rfl H
  · replace H := H.2 hq
    refine ev_p (pc' := 6) (loc' := [.ref a0, .int i1]) (st' := [.ref a0, .int i1]) 2 am_q138 rfl ?_
    obtain ⟨g1, H⟩ := H
    refine ev_s (pc' := 9) (loc' := [.ref a0, .int i1]) (st' := [.int (am_gi h a0 2), .int i1]) (h1 := h) am_q138 rfl rfl rfl (if_pos (e := none) g1) ?_
    refine ev_jc (t := 16) am_q138 rfl rfl (fun hq => ?_) (fun hq => ?_)
    · replace H := H.1 hq
      refine ev_p (pc' := 17) (loc' := [.null, .null]) (st' := [.int (0 : Int32)]) 1 am_q138 rfl ?_
      exact ev_r (v := some (.int (0 : Int32))) am_q138 rfl rfl rfl rfl H
    · replace H := H.2 hq
      refine ev_p (pc' := 17) (loc' := [.ref a0, .int i1]) (st' := [.int (1 : Int32)]) 2 am_q138 rfl ?_
      exact ev_r (v := some (.int (1 : Int32))) am_q138 rfl rfl rfl rfl H
/-! 139: X11_isMember -/
theorem am_q139 : (am_mt 139).2.2.2.2.2 = am_m139.2.2.2.2.2 := rfl
set_option maxRecDepth 20000 in
set_option maxHeartbeats 2000000 in
theorem wp139 {d : Nat} (a0 : Nat) (i1 : Int32) {h : AH} {Q : Option Value → AH → Prop} (H : (i1 < (0 : Int32) → Q (some (.int (0 : Int32))) h) ∧ (¬ i1 < (0 : Int32) → am_kd h a0 = 11 ∧ ((am_gi h a0 4) ≤ i1 → Q (some (.int (0 : Int32))) h) ∧ (¬ (am_gi h a0 4) ≤ i1 → Q (some (.int (1 : Int32))) h))) : Cl d 139 [.ref a0, .int i1] h Q := by
  show Ev d 139 0 [.ref a0, .int i1] [] h Q
  refine ev_p (pc' := 1) (loc' := [.ref a0, .int i1]) (st' := [.int i1]) 1 am_q139 rfl ?_
  refine ev_jz (t := 16) am_q139 rfl rfl (fun hq => ?_) (fun hq => ?_)
  · replace H := H.1 hq
    refine ev_p (pc' := 17) (loc' := [.null, .null]) (st' := [.int (0 : Int32)]) 1 am_q139 rfl ?_
    exact ev_r (v := some (.int (0 : Int32))) am_q139 rfl rfl rfl rfl H
  · replace H := H.2 hq
    refine ev_p (pc' := 6) (loc' := [.ref a0, .int i1]) (st' := [.ref a0, .int i1]) 2 am_q139 rfl ?_
    obtain ⟨g1, H⟩ := H
    refine ev_s (pc' := 9) (loc' := [.ref a0, .int i1]) (st' := [.int (am_gi h a0 4), .int i1]) (h1 := h) am_q139 rfl rfl rfl (if_pos (e := none) g1) ?_
    refine ev_jc (t := 16) am_q139 rfl rfl (fun hq => ?_) (fun hq => ?_)
    · replace H := H.1 hq
      refine ev_p (pc' := 17) (loc' := [.null, .null]) (st' := [.int (0 : Int32)]) 1 am_q139 rfl ?_
      exact ev_r (v := some (.int (0 : Int32))) am_q139 rfl rfl rfl rfl H
    · replace H := H.2 hq
      refine ev_p (pc' := 17) (loc' := [.ref a0, .int i1]) (st' := [.int (1 : Int32)]) 2 am_q139 rfl ?_
      exact ev_r (v := some (.int (1 : Int32))) am_q139 rfl rfl rfl rfl H
/-! 140: X11_isText -/
theorem am_q140 : (am_mt 140).2.2.2.2.2 = am_m140.2.2.2.2.2 := rfl
set_option maxRecDepth 20000 in
set_option maxHeartbeats 2000000 in
theorem wp140 {d : Nat} (a0 : Nat) (i1 : Int32) {h : AH} {Q : Option Value → AH → Prop} (H : (i1 < (0 : Int32) → Q (some (.int (0 : Int32))) h) ∧ (¬ i1 < (0 : Int32) → am_kd h a0 = 11 ∧ ((am_gi h a0 9) ≤ i1 → Q (some (.int (0 : Int32))) h) ∧ (¬ (am_gi h a0 9) ≤ i1 → Q (some (.int (1 : Int32))) h))) : Cl d 140 [.ref a0, .int i1] h Q := by
  show Ev d 140 0 [.ref a0, .int i1] [] h Q
  refine ev_p (pc' := 1) (loc' := [.ref a0, .int i1]) (st' := [.int i1]) 1 am_q140 rfl ?_
  refine ev_jz (t := 16) am_q140 rfl rfl (fun hq => ?_) (fun hq => ?_)
  · replace H := H.1 hq
    refine ev_p (pc' := 17) (loc' := [.null, .null]) (st' := [.int (0 : Int32)]) 1 am_q140 rfl ?_
    exact ev_r (v := some (.int (0 : Int32))) am_q140 rfl rfl rfl rfl H
  · replace H := H.2 hq
    refine ev_p (pc' := 6) (loc' := [.ref a0, .int i1]) (st' := [.ref a0, .int i1]) 2 am_q140 rfl ?_
    obtain ⟨g1, H⟩ := H
    refine ev_s (pc' := 9) (loc' := [.ref a0, .int i1]) (st' := [.int (am_gi h a0 9), .int i1]) (h1 := h) am_q140 rfl rfl rfl (if_pos (e := none) g1) ?_
    refine ev_jc (t := 16) am_q140 rfl rfl (fun hq => ?_) (fun hq => ?_)
    · replace H := H.1 hq
      refine ev_p (pc' := 17) (loc' := [.null, .null]) (st' := [.int (0 : Int32)]) 1 am_q140 rfl ?_
      exact ev_r (v := some (.int (0 : Int32))) am_q140 rfl rfl rfl rfl H
    · replace H := H.2 hq
      refine ev_p (pc' := 17) (loc' := [.ref a0, .int i1]) (st' := [.int (1 : Int32)]) 2 am_q140 rfl ?_
      exact ev_r (v := some (.int (1 : Int32))) am_q140 rfl rfl rfl rfl H
/-! 141: X11_isTray -/
theorem am_q141 : (am_mt 141).2.2.2.2.2 = am_m141.2.2.2.2.2 := rfl
set_option maxRecDepth 20000 in
set_option maxHeartbeats 2000000 in
theorem wp141 {d : Nat} (i0 : Int32) {h : AH} {Q : Option Value → AH → Prop} (H : (i0 < (0 : Int32) → Q (some (.int (0 : Int32))) h) ∧ (¬ i0 < (0 : Int32) → ((6 : Int32) ≤ i0 → Q (some (.int (0 : Int32))) h) ∧ (¬ (6 : Int32) ≤ i0 → Q (some (.int (1 : Int32))) h))) : Cl d 141 [.int i0] h Q := by
  show Ev d 141 0 [.int i0] [] h Q
  refine ev_p (pc' := 1) (loc' := [.int i0]) (st' := [.int i0]) 1 am_q141 rfl ?_
  refine ev_jz (t := 14) am_q141 rfl rfl (fun hq => ?_) (fun hq => ?_)
  · replace H := H.1 hq
    refine ev_p (pc' := 15) (loc' := [.null]) (st' := [.int (0 : Int32)]) 1 am_q141 rfl ?_
    exact ev_r (v := some (.int (0 : Int32))) am_q141 rfl rfl rfl rfl H
  · replace H := H.2 hq
    refine ev_p (pc' := 7) (loc' := [.int i0]) (st' := [.int (6 : Int32), .int i0]) 2 am_q141 rfl ?_
    refine ev_jc (t := 14) am_q141 rfl rfl (fun hq => ?_) (fun hq => ?_)
    · replace H := H.1 hq
      refine ev_p (pc' := 15) (loc' := [.null]) (st' := [.int (0 : Int32)]) 1 am_q141 rfl ?_
      exact ev_r (v := some (.int (0 : Int32))) am_q141 rfl rfl rfl rfl H
    · replace H := H.2 hq
      refine ev_p (pc' := 15) (loc' := [.int i0]) (st' := [.int (1 : Int32)]) 2 am_q141 rfl ?_
      exact ev_r (v := some (.int (1 : Int32))) am_q141 rfl rfl rfl rfl H
/-! 142: X11_isFamily -/
theorem am_q142 : (am_mt 142).2.2.2.2.2 = am_m142.2.2.2.2.2 := rfl
set_option maxRecDepth 20000 in
set_option maxHeartbeats 2000000 in
theorem wp142 {d : Nat} (i0 : Int32) {h : AH} {Q : Option Value → AH → Prop} (H : (i0 < (1 : Int32) → Q (some (.int (0 : Int32))) h) ∧ (¬ i0 < (1 : Int32) → ((9 : Int32) < i0 → Q (some (.int (0 : Int32))) h) ∧ (¬ (9 : Int32) < i0 → Q (some (.int (1 : Int32))) h))) : Cl d 142 [.int i0] h Q := by
  show Ev d 142 0 [.int i0] [] h Q
  refine ev_p (pc' := 2) (loc' := [.int i0]) (st' := [.int (1 : Int32), .int i0]) 2 am_q142 rfl ?_
  refine ev_jc (t := 15) am_q142 rfl rfl (fun hq => ?_) (fun hq => ?_)
  · replace H := H.1 hq
    refine ev_p (pc' := 16) (loc' := [.null]) (st' := [.int (0 : Int32)]) 1 am_q142 rfl ?_
    exact ev_r (v := some (.int (0 : Int32))) am_q142 rfl rfl rfl rfl H
  · replace H := H.2 hq
    refine ev_p (pc' := 8) (loc' := [.int i0]) (st' := [.int (9 : Int32), .int i0]) 2 am_q142 rfl ?_
    refine ev_jc (t := 15) am_q142 rfl rfl (fun hq => ?_) (fun hq => ?_)
    · replace H := H.1 hq
      refine ev_p (pc' := 16) (loc' := [.null]) (st' := [.int (0 : Int32)]) 1 am_q142 rfl ?_
      exact ev_r (v := some (.int (0 : Int32))) am_q142 rfl rfl rfl rfl H
    · replace H := H.2 hq
      refine ev_p (pc' := 16) (loc' := [.int i0]) (st' := [.int (1 : Int32)]) 2 am_q142 rfl ?_
      exact ev_r (v := some (.int (1 : Int32))) am_q142 rfl rfl rfl rfl H
/-! 143: X11_isDay -/
theorem am_q143 : (am_mt 143).2.2.2.2.2 = am_m143.2.2.2.2.2 := rfl
set_option maxRecDepth 20000 in
set_option maxHeartbeats 2000000 in
theorem wp143 {d : Nat} (i0 : Int32) {h : AH} {Q : Option Value → AH → Prop} (H : (i0 < (0 : Int32) → Q (some (.int (0 : Int32))) h) ∧ (¬ i0 < (0 : Int32) → ((2000000 : Int32) < i0 → Q (some (.int (0 : Int32))) h) ∧ (¬ (2000000 : Int32) < i0 → Q (some (.int (1 : Int32))) h))) : Cl d 143 [.int i0] h Q := by
  show Ev d 143 0 [.int i0] [] h Q
  refine ev_p (pc' := 1) (loc' := [.int i0]) (st' := [.int i0]) 1 am_q143 rfl ?_
  refine ev_jz (t := 15) am_q143 rfl rfl (fun hq => ?_) (fun hq => ?_)
  · replace H := H.1 hq
    refine ev_p (pc' := 16) (loc' := [.null]) (st' := [.int (0 : Int32)]) 1 am_q143 rfl ?_
    exact ev_r (v := some (.int (0 : Int32))) am_q143 rfl rfl rfl rfl H
  · replace H := H.2 hq
    refine ev_p (pc' := 8) (loc' := [.int i0]) (st' := [.int (2000000 : Int32), .int i0]) 2 am_q143 rfl ?_
    refine ev_jc (t := 15) am_q143 rfl rfl (fun hq => ?_) (fun hq => ?_)
    · replace H := H.1 hq
      refine ev_p (pc' := 16) (loc' := [.null]) (st' := [.int (0 : Int32)]) 1 am_q143 rfl ?_
      exact ev_r (v := some (.int (0 : Int32))) am_q143 rfl rfl rfl rfl H
    · replace H := H.2 hq
      refine ev_p (pc' := 16) (loc' := [.int i0]) (st' := [.int (1 : Int32)]) 2 am_q143 rfl ?_
      exact ev_r (v := some (.int (1 : Int32))) am_q143 rfl rfl rfl rfl H
/-! 144: X11_areCoins -/
theorem am_q144 : (am_mt 144).2.2.2.2.2 = am_m144.2.2.2.2.2 := rfl
set_option maxRecDepth 20000 in
set_option maxHeartbeats 2000000 in
theorem wp144 {d : Nat} (i0 : Int32) {h : AH} {Q : Option Value → AH → Prop} (H : (i0 < (0 : Int32) → Q (some (.int (0 : Int32))) h) ∧ (¬ i0 < (0 : Int32) → ((1000000 : Int32) < i0 → Q (some (.int (0 : Int32))) h) ∧ (¬ (1000000 : Int32) < i0 → Q (some (.int (1 : Int32))) h))) : Cl d 144 [.int i0] h Q := by
  show Ev d 144 0 [.int i0] [] h Q
  refine ev_p (pc' := 1) (loc' := [.int i0]) (st' := [.int i0]) 1 am_q144 rfl ?_
  refine ev_jz (t := 14) am_q144 rfl rfl (fun hq => ?_) (fun hq => ?_)
  · replace H := H.1 hq
    refine ev_p (pc' := 15) (loc' := [.null]) (st' := [.int (0 : Int32)]) 1 am_q144 rfl ?_
    exact ev_r (v := some (.int (0 : Int32))) am_q144 rfl rfl rfl rfl H
  · replace H := H.2 hq
    refine ev_p (pc' := 7) (loc' := [.int i0]) (st' := [.int (1000000 : Int32), .int i0]) 2 am_q144 rfl ?_
    refine ev_jc (t := 14) am_q144 rfl rfl (fun hq => ?_) (fun hq => ?_)
    · replace H := H.1 hq
      refine ev_p (pc' := 15) (loc' := [.null]) (st' := [.int (0 : Int32)]) 1 am_q144 rfl ?_
      exact ev_r (v := some (.int (0 : Int32))) am_q144 rfl rfl rfl rfl H
    · replace H := H.2 hq
      refine ev_p (pc' := 15) (loc' := [.int i0]) (st' := [.int (1 : Int32)]) 2 am_q144 rfl ?_
      exact ev_r (v := some (.int (1 : Int32))) am_q144 rfl rfl rfl rfl H
/-! 145: X11_daysFit -/
theorem am_q145 : (am_mt 145).2.2.2.2.2 = am_m145.2.2.2.2.2 := rfl
set_option maxRecDepth 20000 in
set_option maxHeartbeats 2000000 in
theorem wp145 {d : Nat} (i0 : Int32) (i1 : Int32) {h : AH} {Q : Option Value → AH → Prop} (H : ((¬ i0 = (0 : Int32)) → (i1 < (1 : Int32) → Q (some (.int (0 : Int32))) h) ∧ (¬ i1 < (1 : Int32) → ((10000 : Int32) < i1 → Q (some (.int (0 : Int32))) h) ∧ (¬ (10000 : Int32) < i1 → Q (some (.int (1 : Int32))) h))) ∧ (¬ (¬ i0 = (0 : Int32)) → ((¬ i1 = (0 : Int32)) → Q (some (.int (0 : Int32))) h) ∧ (¬ (¬ i1 = (0 : Int32)) → Q (some (.int (1 : Int32))) h))) : Cl d 145 [.int i0, .int i1] h Q := by
  show Ev d 145 0 [.int i0, .int i1] [] h Q
  refine ev_p (pc' := 1) (loc' := [.int i0, .int i1]) (st' := [.int i0]) 1 am_q145 rfl ?_
  refine ev_jz (t := 16) am_q145 rfl rfl (fun hq => ?_) (fun hq => ?_)
  · replace H := H.1 hq
    refine ev_p (pc' := 18) (loc' := [.int i0, .int i1]) (st' := [.int (1 : Int32), .int i1]) 2 am_q145 rfl ?_
    refine ev_jc (t := 32) am_q145 rfl rfl (fun hq => ?_) (fun hq => ?_)
    · replace H := H.1 hq
      refine ev_p (pc' := 33) (loc' := [.null, .null]) (st' := [.int (0 : Int32)]) 1 am_q145 rfl ?_
      exact ev_r (v := some (.int (0 : Int32))) am_q145 rfl rfl rfl rfl H
    · replace H := H.2 hq
      refine ev_p (pc' := 25) (loc' := [.int i0, .int i1]) (st' := [.int (10000 : Int32), .int i1]) 2 am_q145 rfl ?_
      refine ev_jc (t := 32) am_q145 rfl rfl (fun hq => ?_) (fun hq => ?_)
      · replace H := H.1 hq
        refine ev_p (pc' := 33) (loc' := [.null, .null]) (st' := [.int (0 : Int32)]) 1 am_q145 rfl ?_
        exact ev_r (v := some (.int (0 : Int32))) am_q145 rfl rfl rfl rfl H
      · replace H := H.2 hq
        refine ev_p (pc' := 33) (loc' := [.int i0, .int i1]) (st' := [.int (1 : Int32)]) 2 am_q145 rfl ?_
        exact ev_r (v := some (.int (1 : Int32))) am_q145 rfl rfl rfl rfl H
  · replace H := H.2 hq
    refine ev_p (pc' := 5) (loc' := [.int i0, .int i1]) (st' := [.int i1]) 1 am_q145 rfl ?_
    refine ev_jz (t := 12) am_q145 rfl rfl (fun hq => ?_) (fun hq => ?_)
    · replace H := H.1 hq
      refine ev_p (pc' := 33) (loc' := [.int i0, .int i1]) (st' := [.int (0 : Int32)]) 2 am_q145 rfl ?_
      exact ev_r (v := some (.int (0 : Int32))) am_q145 rfl rfl rfl rfl H
    · replace H := H.2 hq
      refine ev_p (pc' := 33) (loc' := [.int i0, .int i1]) (st' := [.int (1 : Int32)]) 2 am_q145 rfl ?_
      exact ev_r (v := some (.int (1 : Int32))) am_q145 rfl rfl rfl rfl H
/-! 146: X11_isHere -/
theorem am_q146 : (am_mt 146).2.2.2.2.2 = am_m146.2.2.2.2.2 := rfl
set_option maxRecDepth 20000 in
set_option maxHeartbeats 2000000 in
theorem wp146 {d : Nat} (a0 : Nat) (i1 : Int32) {h : AH} {Q : Option Value → AH → Prop} (H : am_kd h a0 = 11 ∧ ∃ b2, am_gr h a0 3 = some b2 ∧ (104 ≤ am_kd h b2 ∧ am_kd h b2 ≤ 109) ∧ am_in i1 (am_ln h b2) ∧ ∃ b6, am_gr h b2 (Int32.toNatClampNeg i1) = some b6 ∧ am_kd h a0 = 11 ∧ am_kd h b6 = 3 ∧ Cl d 22 [.ref b6, .int (am_gi h a0 0)] h (fun r10 h9 => ∃ x12, r10 = some (.int x12) ∧ (x12 = (0 : Int32) ∨ x12 = (1 : Int32)) ∧ Q (some (.int x12)) h9)) : Cl (d + 1) 146 [.ref a0, .int i1] h Q := by
  show Ev (d + 1) 146 0 [.ref a0, .int i1] [] h Q
  refine ev_p (pc' := 1) (loc' := [.ref a0, .int i1]) (st' := [.ref a0]) 1 am_q146 rfl ?_
  obtain ⟨g1, b2, e3, H⟩ := H
  refine ev_s (pc' := 4) (loc' := [.ref a0, .int i1]) (st' := [.ref b2]) (h1 := h) am_q146 rfl rfl rfl (am_gf2 g1 e3) ?_
  refine ev_p (pc' := 5) (loc' := [.ref a0, .int i1]) (st' := [.int i1, .ref b2]) 1 am_q146 rfl ?_
  obtain ⟨g4, g5, b6, e7, H⟩ := H
  refine ev_s (pc' := 6) (loc' := [.ref a0, .int i1]) (st' := [.ref b6]) (h1 := h) am_q146 rfl rfl rfl (am_xa g4 g5 e7) ?_
  refine ev_p (pc' := 7) (loc' := [.ref a0, .int i1]) (st' := [.ref a0, .ref b6]) 1 am_q146 rfl ?_
  obtain ⟨g8, H⟩ := H
  refine ev_s (pc' := 10) (loc' := [.ref a0, .int i1]) (st' := [.int (am_gi h a0 0), .ref b6]) (h1 := h) am_q146 rfl rfl rfl (if_pos (e := none) g8) ?_
  obtain ⟨g11, H⟩ := H
  refine ev_c (vs := [.ref b6, .int (am_gi h a0 0)]) (rest := []) 22 am_q146 rfl rfl rfl rfl rfl rfl rfl rfl rfl rfl rfl rfl (Or.inr (congrArg some g11)) (Cl.mono H (Nat.le_refl _) (fun r10 h9 H => ?_))
  obtain ⟨x12, rfl, H⟩ := H
  exact ev_r (v := some (.int x12)) am_q146 rfl rfl rfl (decide_eq_true H.1) H.2
/-! 147: X11_isEmpty -/
theorem am_q147 : (am_mt 147).2.2.2.2.2 = am_m147.2.2.2.2.2 := rfl
set_option maxRecDepth 20000 in
set_option maxHeartbeats 2000000 in
theorem wp147 {d : Nat} (a0 : Nat) (i1 : Int32) {h : AH} {Q : Option Value → AH → Prop} (H : am_kd h a0 = 11 ∧ ∃ b2, am_gr h a0 5 = some b2 ∧ am_kd h a0 = 11 ∧ am_kd h b2 = 6 ∧ Cl d 56 [.ref b2, .int i1, .int (am_gi h a0 0)] h (fun r6 h5 => ∃ x8, r6 = some (.int x8) ∧ ((¬ x8 = (-1 : Int32)) → Q (some (.int (0 : Int32))) h5) ∧ (¬ (¬ x8 = (-1 : Int32)) → Q (some (.int (1 : Int32))) h5))) : Cl (d + 1) 147 [.ref a0, .int i1] h Q := by
  show Ev (d + 1) 147 0 [.ref a0, .int i1] [] h Q
  refine ev_p (pc' := 1) (loc' := [.ref a0, .int i1]) (st' := [.ref a0]) 1 am_q147 rfl ?_
  obtain ⟨g1, b2, e3, H⟩ := H
  refine ev_s (pc' := 4) (loc' := [.ref a0, .int i1]) (st' := [.ref b2]) (h1 := h) am_q147 rfl rfl rfl (am_gf2 g1 e3) ?_
  refine ev_p (pc' := 6) (loc' := [.ref a0, .int i1]) (st' := [.ref a0, .int i1, .ref b2]) 2 am_q147 rfl ?_
  obtain ⟨g4, H⟩ := H
  refine ev_s (pc' := 9) (loc' := [.ref a0, .int i1]) (st' := [.int (am_gi h a0 0), .int i1, .ref b2]) (h1 := h) am_q147 rfl rfl rfl (if_pos (e := none) g4) ?_
  obtain ⟨g7, H⟩ := H
  refine ev_c (vs := [.ref b2, .int i1, .int (am_gi h a0 0)]) (rest := []) 56 am_q147 rfl rfl rfl rfl rfl rfl rfl rfl rfl rfl rfl rfl (Or.inr (congrArg some g7)) (Cl.mono H (Nat.le_refl _) (fun r6 h5 H => ?_))
  obtain ⟨x8, rfl, H⟩ := H
  refine ev_p (pc' := 13) (loc' := [.ref a0, .int i1]) (st' := [.int (-1 : Int32), .int x8]) 1 am_q147 rfl ?_
  refine ev_jc (t := 20) am_q147 rfl rfl (fun hq => ?_) (fun hq => ?_)
  · replace H := H.1 hq
    refine ev_p (pc' := 21) (loc' := [.ref a0, .int i1]) (st' := [.int (0 : Int32)]) 1 am_q147 rfl ?_
    exact ev_r (v := some (.int (0 : Int32))) am_q147 rfl rfl rfl rfl H
  · replace H := H.2 hq
    refine ev_p (pc' := 21) (loc' := [.ref a0, .int i1]) (st' := [.int (1 : Int32)]) 2 am_q147 rfl ?_
    exact ev_r (v := some (.int (1 : Int32))) am_q147 rfl rfl rfl rfl H
/-! 148: X11_emptyHomes -/
theorem am_q148 : (am_mt 148).2.2.2.2.2 = am_m148.2.2.2.2.2 := rfl
set_option maxRecDepth 20000 in
set_option maxHeartbeats 2000000 in
theorem wp148 {d : Nat} (a0 : Nat) {h : AH} {Q : Option Value → AH → Prop} (H : Ev (d + 1) 148 4 [.ref a0, .int (0 : Int32), .int (0 : Int32)] [] h Q) : Cl (d + 1) 148 [.ref a0] h Q := by
  show Ev (d + 1) 148 0 [.ref a0, .null, .null] [] h Q
  refine ev_p (pc' := 4) (loc' := [.ref a0, .int (0 : Int32), .int (0 : Int32)]) (st' := []) 4 am_q148 rfl ?_
  exact ev_m (loc' := [.ref a0, .int (0 : Int32), .int (0 : Int32)]) am_q148 rfl rfl H
set_option maxRecDepth 20000 in
set_option maxHeartbeats 2000000 in
theorem wp148_4 {d : Nat} (a0 : Nat) (i1 : Int32) (i2 : Int32) {h : AH} {Q : Option Value → AH → Prop} (H : am_kd h a0 = 11 ∧ ((am_gi h a0 2) ≤ i2 → Q (some (.int i1)) h) ∧ (¬ (am_gi h a0 2) ≤ i2 → am_kd h a0 = 11 ∧ Cl d 147 [.ref a0, .int i2] h (fun r3 h2 => ∃ x5, r3 = some (.int x5) ∧ (x5 = (0 : Int32) → Ev (d + 1) 148 4 [.ref a0, .int i1, .int (i2 + (1 : Int32))] [] h2 Q) ∧ (¬ x5 = (0 : Int32) → Ev (d + 1) 148 4 [.ref a0, .int (i1 ||| ((1 : Int32) <<< (i2 &&& 31))), .int (i2 + (1 : Int32))] [] h2 Q)))) : Ev (d + 1) 148 4 [.ref a0, .int i1, .int i2] [] h Q := by
  refine ev_p (pc' := 6) (loc' := [.ref a0, .int i1, .int i2]) (st' := [.ref a0, .int i2]) 2 am_q148 rfl ?_
  obtain ⟨g1, H⟩ := H
  refine ev_s (pc' := 9) (loc' := [.ref a0, .int i1, .int i2]) (st' := [.int (am_gi h a0 2), .int i2]) (h1 := h) am_q148 rfl rfl rfl (if_pos (e := none) g1) ?_
  refine ev_jc (t := 32) am_q148 rfl rfl (fun hq => ?_) (fun hq => ?_)
  · replace H := H.1 hq
    refine ev_p (pc' := 33) (loc' := [.ref a0, .int i1, .int i2]) (st' := [.int i1]) 1 am_q148 rfl ?_
    exact ev_r (v := some (.int i1)) am_q148 rfl rfl rfl rfl H
  · replace H := H.2 hq
    refine ev_p (pc' := 14) (loc' := [.ref a0, .int i1, .int i2]) (st' := [.int i2, .ref a0]) 2 am_q148 rfl ?_
    obtain ⟨g4, H⟩ := H
    refine ev_c (vs := [.ref a0, .int i2]) (rest := []) 147 am_q148 rfl rfl rfl rfl rfl rfl rfl rfl rfl rfl rfl rfl (Or.inr (congrArg some g4)) (Cl.mono H (Nat.le_refl _) (fun r3 h2 H => ?_))
    obtain ⟨x5, rfl, H⟩ := H
    refine ev_jz (t := 26) am_q148 rfl rfl (fun hq => ?_) (fun hq => ?_)
    · replace H := H.1 hq
      refine ev_p (pc' := 4) (loc' := [.ref a0, .int i1, .int (i2 + (1 : Int32))]) (st' := []) 2 am_q148 rfl ?_
      exact ev_m (loc' := [.ref a0, .int i1, .int (i2 + (1 : Int32))]) am_q148 rfl rfl H
    · replace H := H.2 hq
      refine ev_p (pc' := 4) (loc' := [.ref a0, .int (i1 ||| ((1 : Int32) <<< (i2 &&& 31))), .int (i2 + (1 : Int32))]) (st' := []) 8 am_q148 rfl ?_
      exact ev_m (loc' := [.ref a0, .int (i1 ||| ((1 : Int32) <<< (i2 &&& 31))), .int (i2 + (1 : Int32))]) am_q148 rfl rfl H
/-! 149: X11_heldHome -/
theorem am_q149 : (am_mt 149).2.2.2.2.2 = am_m149.2.2.2.2.2 := rfl
set_option maxRecDepth 20000 in
set_option maxHeartbeats 2000000 in
theorem wp149 {d : Nat} (a0 : Nat) (i1 : Int32) {h : AH} {Q : Option Value → AH → Prop} (H : am_kd h a0 = 11 ∧ ∃ b2, am_gr h a0 5 = some b2 ∧ am_kd h a0 = 11 ∧ am_kd h b2 = 6 ∧ Cl d 57 [.ref b2, .int i1, .int (am_gi h a0 0)] h (fun r6 h5 => ∃ x8, r6 = some (.int x8) ∧ ((¬ x8 = (-1 : Int32)) → am_kd h5 a0 = 11 ∧ ∃ b10, am_gr h5 a0 5 = some b10 ∧ am_kd h5 b10 = 6 ∧ ∃ b13, am_gr h5 b10 0 = some b13 ∧ (104 ≤ am_kd h5 b13 ∧ am_kd h5 b13 ≤ 109) ∧ am_in x8 (am_ln h5 b13) ∧ ∃ b17, am_gr h5 b13 (Int32.toNatClampNeg x8) = some b17 ∧ am_kd h5 b17 = 7 ∧ Q (some (.int (am_gi h5 b17 1))) h5) ∧ (¬ (¬ x8 = (-1 : Int32)) → Q (some (.int (-1 : Int32))) h5))) : Cl (d + 1) 149 [.ref a0, .int i1] h Q := by
  show Ev (d + 1) 149 0 [.ref a0, .int i1, .null] [] h Q
  refine ev_p (pc' := 1) (loc' := [.ref a0, .int i1, .null]) (st' := [.ref a0]) 1 am_q149 rfl ?_
  obtain ⟨g1, b2, e3, H⟩ := H
  refine ev_s (pc' := 4) (loc' := [.ref a0, .int i1, .null]) (st' := [.ref b2]) (h1 := h) am_q149 rfl rfl rfl (am_gf2 g1 e3) ?_
  refine ev_p (pc' := 6) (loc' := [.ref a0, .int i1, .null]) (st' := [.ref a0, .int i1, .ref b2]) 2 am_q149 rfl ?_
  obtain ⟨g4, H⟩ := H
  refine ev_s (pc' := 9) (loc' := [.ref a0, .int i1, .null]) (st' := [.int (am_gi h a0 0), .int i1, .ref b2]) (h1 := h) am_q149 rfl rfl rfl (if_pos (e := none) g4) ?_
  obtain ⟨g7, H⟩ := H
  refine ev_c (vs := [.ref b2, .int i1, .int (am_gi h a0 0)]) (rest := []) 57 am_q149 rfl rfl rfl rfl rfl rfl rfl rfl rfl rfl rfl rfl (Or.inr (congrArg some g7)) (Cl.mono H (Nat.le_refl _) (fun r6 h5 H => ?_))
  obtain ⟨x8, rfl, H⟩ := H
  refine ev_p (pc' := 15) (loc' := [.ref a0, .int i1, .int x8]) (st' := [.int (-1 : Int32), .int x8]) 3 am_q149 rfl ?_
  refine ev_jc (t := 22) am_q149 rfl rfl (fun hq => ?_) (fun hq => ?_)
  · replace H := H.1 hq
    refine ev_p (pc' := 23) (loc' := [.ref a0, .int i1, .int x8]) (st' := [.ref a0]) 1 am_q149 rfl ?_
    obtain ⟨g9, b10, e11, H⟩ := H
    refine ev_s (pc' := 26) (loc' := [.ref a0, .int i1, .int x8]) (st' := [.ref b10]) (h1 := h5) am_q149 rfl rfl rfl (am_gf2 g9 e11) ?_
    obtain ⟨g12, b13, e14, H⟩ := H
    refine ev_s (pc' := 29) (loc' := [.ref a0, .int i1, .int x8]) (st' := [.ref b13]) (h1 := h5) am_q149 rfl rfl rfl (am_gf2 g12 e14) ?_
    refine ev_p (pc' := 30) (loc' := [.ref a0, .int i1, .int x8]) (st' := [.int x8, .ref b13]) 1 am_q149 rfl ?_
    obtain ⟨g15, g16, b17, e18, H⟩ := H
    refine ev_s (pc' := 31) (loc' := [.ref a0, .int i1, .int x8]) (st' := [.ref b17]) (h1 := h5) am_q149 rfl rfl rfl (am_xa g15 g16 e18) ?_
    obtain ⟨g19, H⟩ := H
    refine ev_s (pc' := 34) (loc' := [.ref a0, .int i1, .int x8]) (st' := [.int (am_gi h5 b17 1)]) (h1 := h5) am_q149 rfl rfl rfl (if_pos (e := none) g19) ?_
    exact ev_r (v := some (.int (am_gi h5 b17 1))) am_q149 rfl rfl rfl rfl H
  · replace H := H.2 hq
    refine ev_p (pc' := 34) (loc' := [.ref a0, .int i1, .int x8]) (st' := [.int (-1 : Int32)]) 2 am_q149 rfl ?_
    exact ev_r (v := some (.int (-1 : Int32))) am_q149 rfl rfl rfl rfl H
/-! 150: X11_mayHave -/
theorem am_q150 : (am_mt 150).2.2.2.2.2 = am_m150.2.2.2.2.2 := rfl
set_option maxRecDepth 20000 in
set_option maxHeartbeats 2000000 in
theorem wp150 {d : Nat} (a0 : Nat) (i1 : Int32) (i2 : Int32) (i3 : Int32) {h : AH} {Q : Option Value → AH → Prop} (H : am_kd h a0 = 11 ∧ Cl d 149 [.ref a0, .int i3] h (fun r2 h1 => ∃ x4, r2 = some (.int x4) ∧ ((¬ i1 = (2 : Int32)) → ((¬ x4 = (-1 : Int32)) → Q (some (.int (0 : Int32))) h1) ∧ (¬ (¬ x4 = (-1 : Int32)) → am_kd h1 a0 = 11 ∧ Cl d 147 [.ref a0, .int i2] h1 (fun r6 h5 => ∃ x8, r6 = some (.int x8) ∧ (x8 = (0 : Int32) → Q (some (.int (0 : Int32))) h5) ∧ (¬ x8 = (0 : Int32) → am_kd h5 a0 = 11 ∧ ∃ b10, am_gr h5 a0 1 = some b10 ∧ (104 ≤ am_kd h5 b10 ∧ am_kd h5 b10 ≤ 109) ∧ am_in i2 (am_ln h5 b10) ∧ ∃ b14, am_gr h5 b10 (Int32.toNatClampNeg i2) = some b14 ∧ am_kd h5 b14 = 2 ∧ ((¬ (am_gi h5 b14 3) = (0 : Int32)) → Q (some (.int (0 : Int32))) h5) ∧ (¬ (¬ (am_gi h5 b14 3) = (0 : Int32)) → Q (some (.int (1 : Int32))) h5))))) ∧ (¬ (¬ i1 = (2 : Int32)) → (x4 = i2 → Q (some (.int (0 : Int32))) h1) ∧ (¬ x4 = i2 → Q (some (.int (1 : Int32))) h1)))) : Cl (d + 1) 150 [.ref a0, .int i1, .int i2, .int i3] h Q := by
  show Ev (d + 1) 150 0 [.ref a0, .int i1, .int i2, .int i3, .null] [] h Q
  refine ev_p (pc' := 2) (loc' := [.ref a0, .int i1, .int i2, .int i3, .null]) (st' := [.int i3, .ref a0]) 2 am_q150 rfl ?_
  obtain ⟨g3, H⟩ := H
  refine ev_c (vs := [.ref a0, .int i3]) (rest := []) 149 am_q150 rfl rfl rfl rfl rfl rfl rfl rfl rfl rfl rfl rfl (Or.inr (congrArg some g3)) (Cl.mono H (Nat.le_refl _) (fun r2 h1 H => ?_))
  obtain ⟨x4, rfl, H⟩ := H
  refine ev_p (pc' := 9) (loc' := [.ref a0, .int i1, .int i2, .int i3, .int x4]) (st' := [.int (2 : Int32), .int i1]) 3 am_q150 rfl ?_
  refine ev_jc (t := 24) am_q150 rfl rfl (fun hq => ?_) (fun hq => ?_)
  · replace H := H.1 hq
    refine ev_p (pc' := 27) (loc' := [.ref a0, .int i1, .int i2, .int i3, .int x4]) (st' := [.int (-1 : Int32), .int x4]) 2 am_q150 rfl ?_
    refine ev_jc (t := 54) am_q150 rfl rfl (fun hq => ?_) (fun hq => ?_)
    · replace H := H.1 hq
      refine ev_p (pc' := 55) (loc' := [.null, .null, .null, .null, .null]) (st' := [.int (0 : Int32)]) 1 am_q150 rfl ?_
      exact ev_r (v := some (.int (0 : Int32))) am_q150 rfl rfl rfl rfl H
    · replace H := H.2 hq
      refine ev_p (pc' := 32) (loc' := [.ref a0, .int i1, .int i2, .int i3, .int x4]) (st' := [.int i2, .ref a0]) 2 am_q150 rfl ?_
      obtain ⟨g7, H⟩ := H
      refine ev_c (vs := [.ref a0, .int i2]) (rest := []) 147 am_q150 rfl rfl rfl rfl rfl rfl rfl rfl rfl rfl rfl rfl (Or.inr (congrArg some g7)) (Cl.mono H (Nat.le_refl _) (fun r6 h5 H => ?_))
      obtain ⟨x8, rfl, H⟩ := H
      refine ev_jz (t := 54) am_q150 rfl rfl (fun hq => ?_) (fun hq => ?_)
      · replace H := H.1 hq
        refine ev_p (pc' := 55) (loc' := [.null, .null, .null, .null, .null]) (st' := [.int (0 : Int32)]) 1 am_q150 rfl ?_
        exact ev_r (v := some (.int (0 : Int32))) am_q150 rfl rfl rfl rfl H
      · replace H := H.2 hq
        refine ev_p (pc' := 39) (loc' := [.ref a0, .int i1, .int i2, .int i3, .int x4]) (st' := [.ref a0]) 1 am_q150 rfl ?_
        obtain ⟨g9, b10, e11, H⟩ := H
        refine ev_s (pc' := 42) (loc' := [.ref a0, .int i1, .int i2, .int i3, .int x4]) (st' := [.ref b10]) (h1 := h5) am_q150 rfl rfl rfl (am_gf2 g9 e11) ?_
        refine ev_p (pc' := 43) (loc' := [.ref a0, .int i1, .int i2, .int i3, .int x4]) (st' := [.int i2, .ref b10]) 1 am_q150 rfl ?_
        obtain ⟨g12, g13, b14, e15, H⟩ := H
        refine ev_s (pc' := 44) (loc' := [.ref a0, .int i1, .int i2, .int i3, .int x4]) (st' := [.ref b14]) (h1 := h5) am_q150 rfl rfl rfl (am_xa g12 g13 e15) ?_
        obtain ⟨g16, H⟩ := H
        refine ev_s (pc' := 47) (loc' := [.ref a0, .int i1, .int i2, .int i3, .int x4]) (st' := [.int (am_gi h5 b14 3)]) (h1 := h5) am_q150 rfl rfl rfl (if_pos (e := none) g16) ?_
        refine ev_jz (t := 54) am_q150 rfl rfl (fun hq => ?_) (fun hq => ?_)
        · replace H := H.1 hq
          refine ev_p (pc' := 55) (loc' := [.null, .null, .null, .null, .null]) (st' := [.int (0 : Int32)]) 1 am_q150 rfl ?_
          exact ev_r (v := some (.int (0 : Int32))) am_q150 rfl rfl rfl rfl H
        · replace H := H.2 hq
          refine ev_p (pc' := 55) (loc' := [.ref a0, .int i1, .int i2, .int i3, .int x4]) (st' := [.int (1 : Int32)]) 2 am_q150 rfl ?_
          exact ev_r (v := some (.int (1 : Int32))) am_q150 rfl rfl rfl rfl H
  · replace H := H.2 hq
    refine ev_p (pc' := 15) (loc' := [.ref a0, .int i1, .int i2, .int i3, .int x4]) (st' := [.int i2, .int x4]) 2 am_q150 rfl ?_
    refine ev_jc (t := 22) am_q150 rfl rfl (fun hq => ?_) (fun hq => ?_)
    · replace H := H.1 hq
      refine ev_p (pc' := 23) (loc' := [.ref a0, .int i1, .int i2, .int i3, .int x4]) (st' := [.int (0 : Int32)]) 1 am_q150 rfl ?_
      exact ev_r (v := some (.int (0 : Int32))) am_q150 rfl rfl rfl rfl H
    · replace H := H.2 hq
      refine ev_p (pc' := 23) (loc' := [.ref a0, .int i1, .int i2, .int i3, .int x4]) (st' := [.int (1 : Int32)]) 2 am_q150 rfl ?_
      exact ev_r (v := some (.int (1 : Int32))) am_q150 rfl rfl rfl rfl H
/-! 151: X11_membersHere -/
theorem am_q151 : (am_mt 151).2.2.2.2.2 = am_m151.2.2.2.2.2 := rfl
set_option maxRecDepth 20000 in
set_option maxHeartbeats 2000000 in
theorem wp151 {d : Nat} (a0 : Nat) {h : AH} {Q : Option Value → AH → Prop} (H : Ev (d + 1) 151 4 [.ref a0, .int (0 : Int32), .int (0 : Int32)] [] h Q) : Cl (d + 1) 151 [.ref a0] h Q := by
  show Ev (d + 1) 151 0 [.ref a0, .null, .null] [] h Q
  refine ev_p (pc' := 4) (loc' := [.ref a0, .int (0 : Int32), .int (0 : Int32)]) (st' := []) 4 am_q151 rfl ?_
  exact ev_m (loc' := [.ref a0, .int (0 : Int32), .int (0 : Int32)]) am_q151 rfl rfl H
set_option maxRecDepth 20000 in
set_option maxHeartbeats 2000000 in
theorem wp151_4 {d : Nat} (a0 : Nat) (i1 : Int32) (i2 : Int32) {h : AH} {Q : Option Value → AH → Prop} (H : am_kd h a0 = 11 ∧ ((am_gi h a0 4) ≤ i2 → Q (some (.int i1)) h) ∧ (¬ (am_gi h a0 4) ≤ i2 → am_kd h a0 = 11 ∧ Cl d 146 [.ref a0, .int i2] h (fun r3 h2 => ∃ x5, r3 = some (.int x5) ∧ (x5 = (0 : Int32) → Ev (d + 1) 151 4 [.ref a0, .int i1, .int (i2 + (1 : Int32))] [] h2 Q) ∧ (¬ x5 = (0 : Int32) → Ev (d + 1) 151 4 [.ref a0, .int (i1 + (1 : Int32)), .int (i2 + (1 : Int32))] [] h2 Q)))) : Ev (d + 1) 151 4 [.ref a0, .int i1, .int i2] [] h Q := by
  refine ev_p (pc' := 6) (loc' := [.ref a0, .int i1, .int i2]) (st' := [.ref a0, .int i2]) 2 am_q151 rfl ?_
  obtain ⟨g1, H⟩ := H
  refine ev_s (pc' := 9) (loc' := [.ref a0, .int i1, .int i2]) (st' := [.int (am_gi h a0 4), .int i2]) (h1 := h) am_q151 rfl rfl rfl (if_pos (e := none) g1) ?_
  refine ev_jc (t := 29) am_q151 rfl rfl (fun hq => ?_) (fun hq => ?_)
  · replace H := H.1 hq
    refine ev_p (pc' := 30) (loc' := [.ref a0, .int i1, .int i2]) (st' := [.int i1]) 1 am_q151 rfl ?_
    exact ev_r (v := some (.int i1)) am_q151 rfl rfl rfl rfl H
  · replace H := H.2 hq
    refine ev_p (pc' := 14) (loc' := [.ref a0, .int i1, .int i2]) (st' := [.int i2, .ref a0]) 2 am_q151 rfl ?_
    obtain ⟨g4, H⟩ := H
    refine ev_c (vs := [.ref a0, .int i2]) (rest := []) 146 am_q151 rfl rfl rfl rfl rfl rfl rfl rfl rfl rfl rfl rfl (Or.inr (congrArg some g4)) (Cl.mono H (Nat.le_refl _) (fun r3 h2 H => ?_))
    obtain ⟨x5, rfl, H⟩ := H
    refine ev_jz (t := 23) am_q151 rfl rfl (fun hq => ?_) (fun hq => ?_)
    · replace H := H.1 hq
      refine ev_p (pc' := 4) (loc' := [.ref a0, .int i1, .int (i2 + (1 : Int32))]) (st' := []) 2 am_q151 rfl ?_
      exact ev_m (loc' := [.ref a0, .int i1, .int (i2 + (1 : Int32))]) am_q151 rfl rfl H
    · replace H := H.2 hq
      refine ev_p (pc' := 4) (loc' := [.ref a0, .int (i1 + (1 : Int32)), .int (i2 + (1 : Int32))]) (st' := []) 3 am_q151 rfl ?_
      exact ev_m (loc' := [.ref a0, .int (i1 + (1 : Int32)), .int (i2 + (1 : Int32))]) am_q151 rfl rfl H
/-! 152: X11_membersWaiting -/
theorem am_q152 : (am_mt 152).2.2.2.2.2 = am_m152.2.2.2.2.2 := rfl
set_option maxRecDepth 20000 in
set_option maxHeartbeats 2000000 in
theorem wp152 {d : Nat} (a0 : Nat) {h : AH} {Q : Option Value → AH → Prop} (H : Ev (d + 1) 152 4 [.ref a0, .int (0 : Int32), .int (0 : Int32)] [] h Q) : Cl (d + 1) 152 [.ref a0] h Q := by
  show Ev (d + 1) 152 0 [.ref a0, .null, .null] [] h Q
  refine ev_p (pc' := 4) (loc' := [.ref a0, .int (0 : Int32), .int (0 : Int32)]) (st' := []) 4 am_q152 rfl ?_
  exact ev_m (loc' := [.ref a0, .int (0 : Int32), .int (0 : Int32)]) am_q152 rfl rfl H
set_option maxRecDepth 20000 in
set_option maxHeartbeats 2000000 in
theorem wp152_4 {d : Nat} (a0 : Nat) (i1 : Int32) (i2 : Int32) {h : AH} {Q : Option Value → AH → Prop} (H : am_kd h a0 = 11 ∧ ((am_gi h a0 4) ≤ i2 → Q (some (.int i1)) h) ∧ (¬ (am_gi h a0 4) ≤ i2 → am_kd h a0 = 11 ∧ ∃ b3, am_gr h a0 3 = some b3 ∧ (104 ≤ am_kd h b3 ∧ am_kd h b3 ≤ 109) ∧ am_in i2 (am_ln h b3) ∧ ∃ b7, am_gr h b3 (Int32.toNatClampNeg i2) = some b7 ∧ am_kd h b7 = 3 ∧ Cl d 23 [.ref b7] h (fun r10 h9 => ∃ x12, r10 = some (.int x12) ∧ (x12 = (0 : Int32) → Ev (d + 1) 152 4 [.ref a0, .int i1, .int (i2 + (1 : Int32))] [] h9 Q) ∧ (¬ x12 = (0 : Int32) → Ev (d + 1) 152 4 [.ref a0, .int (i1 + (1 : Int32)), .int (i2 + (1 : Int32))] [] h9 Q)))) : Ev (d + 1) 152 4 [.ref a0, .int i1, .int i2] [] h Q := by
  refine ev_p (pc' := 6) (loc' := [.ref a0, .int i1, .int i2]) (st' := [.ref a0, .int i2]) 2 am_q152 rfl ?_
  obtain ⟨g1, H⟩ := H
  refine ev_s (pc' := 9) (loc' := [.ref a0, .int i1, .int i2]) (st' := [.int (am_gi h a0 4), .int i2]) (h1 := h) am_q152 rfl rfl rfl (if_pos (e := none) g1) ?_
  refine ev_jc (t := 33) am_q152 rfl rfl (fun hq => ?_) (fun hq => ?_)
  · replace H := H.1 hq
    refine ev_p (pc' := 34) (loc' := [.ref a0, .int i1, .int i2]) (st' := [.int i1]) 1 am_q152 rfl ?_
    exact ev_r (v := some (.int i1)) am_q152 rfl rfl rfl rfl H
  · replace H := H.2 hq
    refine ev_p (pc' := 13) (loc' := [.ref a0, .int i1, .int i2]) (st' := [.ref a0]) 1 am_q152 rfl ?_
    obtain ⟨g2, b3, e4, H⟩ := H
    refine ev_s (pc' := 16) (loc' := [.ref a0, .int i1, .int i2]) (st' := [.ref b3]) (h1 := h) am_q152 rfl rfl rfl (am_gf2 g2 e4) ?_
    refine ev_p (pc' := 17) (loc' := [.ref a0, .int i1, .int i2]) (st' := [.int i2, .ref b3]) 1 am_q152 rfl ?_
    obtain ⟨g5, g6, b7, e8, H⟩ := H
    refine ev_s (pc' := 18) (loc' := [.ref a0, .int i1, .int i2]) (st' := [.ref b7]) (h1 := h) am_q152 rfl rfl rfl (am_xa g5 g6 e8) ?_
    obtain ⟨g11, H⟩ := H
    refine ev_c (vs := [.ref b7]) (rest := []) 23 am_q152 rfl rfl rfl rfl rfl rfl rfl rfl rfl rfl rfl rfl (Or.inr (congrArg some g11)) (Cl.mono H (Nat.le_refl _) (fun r10 h9 H => ?_))
    obtain ⟨x12, rfl, H⟩ := H
    refine ev_jz (t := 27) am_q152 rfl rfl (fun hq => ?_) (fun hq => ?_)
    · replace H := H.1 hq
      refine ev_p (pc' := 4) (loc' := [.ref a0, .int i1, .int (i2 + (1 : Int32))]) (st' := []) 2 am_q152 rfl ?_
      exact ev_m (loc' := [.ref a0, .int i1, .int (i2 + (1 : Int32))]) am_q152 rfl rfl H
    · replace H := H.2 hq
      refine ev_p (pc' := 4) (loc' := [.ref a0, .int (i1 + (1 : Int32)), .int (i2 + (1 : Int32))]) (st' := []) 3 am_q152 rfl ?_
      exact ev_m (loc' := [.ref a0, .int (i1 + (1 : Int32)), .int (i2 + (1 : Int32))]) am_q152 rfl rfl H
/-! 153: X11_homesOnOffer -/
theorem am_q153 : (am_mt 153).2.2.2.2.2 = am_m153.2.2.2.2.2 := rfl
set_option maxRecDepth 20000 in
set_option maxHeartbeats 2000000 in
theorem wp153 {d : Nat} (a0 : Nat) {h : AH} {Q : Option Value → AH → Prop} (H : Ev d 153 4 [.ref a0, .int (0 : Int32), .int (0 : Int32)] [] h Q) : Cl d 153 [.ref a0] h Q := by
  show Ev d 153 0 [.ref a0, .null, .null] [] h Q
  refine ev_p (pc' := 4) (loc' := [.ref a0, .int (0 : Int32), .int (0 : Int32)]) (st' := []) 4 am_q153 rfl ?_
  exact ev_m (loc' := [.ref a0, .int (0 : Int32), .int (0 : Int32)]) am_q153 rfl rfl H
set_option maxRecDepth 20000 in
set_option maxHeartbeats 2000000 in
theorem wp153_4 {d : Nat} (a0 : Nat) (i1 : Int32) (i2 : Int32) {h : AH} {Q : Option Value → AH → Prop} (H : am_kd h a0 = 11 ∧ ((am_gi h a0 2) ≤ i2 → Q (some (.int i1)) h) ∧ (¬ (am_gi h a0 2) ≤ i2 → am_kd h a0 = 11 ∧ ∃ b3, am_gr h a0 1 = some b3 ∧ (104 ≤ am_kd h b3 ∧ am_kd h b3 ≤ 109) ∧ am_in i2 (am_ln h b3) ∧ ∃ b7, am_gr h b3 (Int32.toNatClampNeg i2) = some b7 ∧ am_kd h b7 = 2 ∧ ((am_gi h b7 3) = (0 : Int32) → Ev d 153 4 [.ref a0, .int i1, .int (i2 + (1 : Int32))] [] h Q) ∧ (¬ (am_gi h b7 3) = (0 : Int32) → Ev d 153 4 [.ref a0, .int (i1 ||| ((1 : Int32) <<< (i2 &&& 31))), .int (i2 + (1 : Int32))] [] h Q))) : Ev d 153 4 [.ref a0, .int i1, .int i2] [] h Q := by
  refine ev_p (pc' := 6) (loc' := [.ref a0, .int i1, .int i2]) (st' := [.ref a0, .int i2]) 2 am_q153 rfl ?_
  obtain ⟨g1, H⟩ := H
  refine ev_s (pc' := 9) (loc' := [.ref a0, .int i1, .int i2]) (st' := [.int (am_gi h a0 2), .int i2]) (h1 := h) am_q153 rfl rfl rfl (if_pos (e := none) g1) ?_
  refine ev_jc (t := 36) am_q153 rfl rfl (fun hq => ?_) (fun hq => ?_)
  · replace H := H.1 hq
    refine ev_p (pc' := 37) (loc' := [.ref a0, .int i1, .int i2]) (st' := [.int i1]) 1 am_q153 rfl ?_
    exact ev_r (v := some (.int i1)) am_q153 rfl rfl rfl rfl H
  · replace H := H.2 hq
    refine ev_p (pc' := 13) (loc' := [.ref a0, .int i1, .int i2]) (st' := [.ref a0]) 1 am_q153 rfl ?_
    obtain ⟨g2, b3, e4, H⟩ := H
    refine ev_s (pc' := 16) (loc' := [.ref a0, .int i1, .int i2]) (st' := [.ref b3]) (h1 := h) am_q153 rfl rfl rfl (am_gf2 g2 e4) ?_
    refine ev_p (pc' := 17) (loc' := [.ref a0, .int i1, .int i2]) (st' := [.int i2, .ref b3]) 1 am_q153 rfl ?_
    obtain ⟨g5, g6, b7, e8, H⟩ := H
    refine ev_s (pc' := 18) (loc' := [.ref a0, .int i1, .int i2]) (st' := [.ref b7]) (h1 := h) am_q153 rfl rfl rfl (am_xa g5 g6 e8) ?_
    obtain ⟨g9, H⟩ := H
    refine ev_s (pc' := 21) (loc' := [.ref a0, .int i1, .int i2]) (st' := [.int (am_gi h b7 3)]) (h1 := h) am_q153 rfl rfl rfl (if_pos (e := none) g9) ?_
    refine ev_jz (t := 30) am_q153 rfl rfl (fun hq => ?_) (fun hq => ?_)
    · replace H := H.1 hq
      refine ev_p (pc' := 4) (loc' := [.ref a0, .int i1, .int (i2 + (1 : Int32))]) (st' := []) 2 am_q153 rfl ?_
      exact ev_m (loc' := [.ref a0, .int i1, .int (i2 + (1 : Int32))]) am_q153 rfl rfl H
    · replace H := H.2 hq
      refine ev_p (pc' := 4) (loc' := [.ref a0, .int (i1 ||| ((1 : Int32) <<< (i2 &&& 31))), .int (i2 + (1 : Int32))]) (st' := []) 8 am_q153 rfl ?_
      exact ev_m (loc' := [.ref a0, .int (i1 ||| ((1 : Int32) <<< (i2 &&& 31))), .int (i2 + (1 : Int32))]) am_q153 rfl rfl H
/-! 154: X11_textOn -/
theorem am_q154 : (am_mt 154).2.2.2.2.2 = am_m154.2.2.2.2.2 := rfl
set_option maxRecDepth 20000 in
set_option maxHeartbeats 2000000 in
theorem wp154 {d : Nat} (a0 : Nat) (i1 : Int32) {h : AH} {Q : Option Value → AH → Prop} (H : Ev (d + 1) 154 4 [.ref a0, .int i1, .int (0 : Int32), .int (1 : Int32)] [] h Q) : Cl (d + 1) 154 [.ref a0, .int i1] h Q := by
  show Ev (d + 1) 154 0 [.ref a0, .int i1, .null, .null] [] h Q
  refine ev_p (pc' := 4) (loc' := [.ref a0, .int i1, .int (0 : Int32), .int (1 : Int32)]) (st' := []) 4 am_q154 rfl ?_
  exact ev_m (loc' := [.ref a0, .int i1, .int (0 : Int32), .int (1 : Int32)]) am_q154 rfl rfl H
set_option maxRecDepth 20000 in
set_option maxHeartbeats 2000000 in
theorem wp154_4 {d : Nat} (a0 : Nat) (i1 : Int32) (i2 : Int32) (i3 : Int32) {h : AH} {Q : Option Value → AH → Prop} (H : am_kd h a0 = 11 ∧ ((am_gi h a0 9) ≤ i3 → Q (some (.int i2)) h) ∧ (¬ (am_gi h a0 9) ≤ i3 → am_kd h a0 = 11 ∧ ∃ b3, am_gr h a0 8 = some b3 ∧ (104 ≤ am_kd h b3 ∧ am_kd h b3 ≤ 109) ∧ am_in i3 (am_ln h b3) ∧ ∃ b7, am_gr h b3 (Int32.toNatClampNeg i3) = some b7 ∧ am_kd h b7 = 9 ∧ Cl d 78 [.ref b7, .int i1] h (fun r10 h9 => ∃ x12, r10 = some (.int x12) ∧ (x12 = (0 : Int32) → Ev (d + 1) 154 4 [.ref a0, .int i1, .int i2, .int (i3 + (1 : Int32))] [] h9 Q) ∧ (¬ x12 = (0 : Int32) → am_kd h9 a0 = 11 ∧ ∃ b14, am_gr h9 a0 8 = some b14 ∧ (104 ≤ am_kd h9 b14 ∧ am_kd h9 b14 ≤ 109) ∧ am_in i3 (am_ln h9 b14) ∧ ∃ b18, am_gr h9 b14 (Int32.toNatClampNeg i3) = some b18 ∧ am_kd h9 b18 = 9 ∧ am_kd h9 a0 = 11 ∧ ∃ b22, am_gr h9 a0 8 = some b22 ∧ (104 ≤ am_kd h9 b22 ∧ am_kd h9 b22 ≤ 109) ∧ am_in i2 (am_ln h9 b22) ∧ ∃ b26, am_gr h9 b22 (Int32.toNatClampNeg i2) = some b26 ∧ am_kd h9 b26 = 9 ∧ ((am_gi h9 b18 6) ≤ (am_gi h9 b26 6) → Ev (d + 1) 154 4 [.ref a0, .int i1, .int i2, .int (i3 + (1 : Int32))] [] h9 Q) ∧ (¬ (am_gi h9 b18 6) ≤ (am_gi h9 b26 6) → Ev (d + 1) 154 4 [.ref a0, .int i1, .int i3, .int (i3 + (1 : Int32))] [] h9 Q))))) : Ev (d + 1) 154 4 [.ref a0, .int i1, .int i2, .int i3] [] h Q := by
  refine ev_p (pc' := 6) (loc' := [.ref a0, .int i1, .int i2, .int i3]) (st' := [.ref a0, .int i3]) 2 am_q154 rfl ?_
  obtain ⟨g1, H⟩ := H
  refine ev_s (pc' := 9) (loc' := [.ref a0, .int i1, .int i2, .int i3]) (st' := [.int (am_gi h a0 9), .int i3]) (h1 := h) am_q154 rfl rfl rfl (if_pos (e := none) g1) ?_
  refine ev_jc (t := 54) am_q154 rfl rfl (fun hq => ?_) (fun hq => ?_)
  · replace H := H.1 hq
    refine ev_p (pc' := 55) (loc' := [.ref a0, .int i1, .int i2, .int i3]) (st' := [.int i2]) 1 am_q154 rfl ?_
    exact ev_r (v := some (.int i2)) am_q154 rfl rfl rfl rfl H
  · replace H := H.2 hq
    refine ev_p (pc' := 13) (loc' := [.ref a0, .int i1, .int i2, .int i3]) (st' := [.ref a0]) 1 am_q154 rfl ?_
    obtain ⟨g2, b3, e4, H⟩ := H
    refine ev_s (pc' := 16) (loc' := [.ref a0, .int i1, .int i2, .int i3]) (st' := [.ref b3]) (h1 := h) am_q154 rfl rfl rfl (am_gf2 g2 e4) ?_
    refine ev_p (pc' := 17) (loc' := [.ref a0, .int i1, .int i2, .int i3]) (st' := [.int i3, .ref b3]) 1 am_q154 rfl ?_
    obtain ⟨g5, g6, b7, e8, H⟩ := H
    refine ev_s (pc' := 18) (loc' := [.ref a0, .int i1, .int i2, .int i3]) (st' := [.ref b7]) (h1 := h) am_q154 rfl rfl rfl (am_xa g5 g6 e8) ?_
    refine ev_p (pc' := 19) (loc' := [.ref a0, .int i1, .int i2, .int i3]) (st' := [.int i1, .ref b7]) 1 am_q154 rfl ?_
    obtain ⟨g11, H⟩ := H
    refine ev_c (vs := [.ref b7, .int i1]) (rest := []) 78 am_q154 rfl rfl rfl rfl rfl rfl rfl rfl rfl rfl rfl rfl (Or.inr (congrArg some g11)) (Cl.mono H (Nat.le_refl _) (fun r10 h9 H => ?_))
    obtain ⟨x12, rfl, H⟩ := H
    refine ev_jz (t := 48) am_q154 rfl rfl (fun hq => ?_) (fun hq => ?_)
    · replace H := H.1 hq
      refine ev_p (pc' := 4) (loc' := [.ref a0, .int i1, .int i2, .int (i3 + (1 : Int32))]) (st' := []) 2 am_q154 rfl ?_
      exact ev_m (loc' := [.ref a0, .int i1, .int i2, .int (i3 + (1 : Int32))]) am_q154 rfl rfl H
    · replace H := H.2 hq
      refine ev_p (pc' := 26) (loc' := [.ref a0, .int i1, .int i2, .int i3]) (st' := [.ref a0]) 1 am_q154 rfl ?_
      obtain ⟨g13, b14, e15, H⟩ := H
      refine ev_s (pc' := 29) (loc' := [.ref a0, .int i1, .int i2, .int i3]) (st' := [.ref b14]) (h1 := h9) am_q154 rfl rfl rfl (am_gf2 g13 e15) ?_
      refine ev_p (pc' := 30) (loc' := [.ref a0, .int i1, .int i2, .int i3]) (st' := [.int i3, .ref b14]) 1 am_q154 rfl ?_
      obtain ⟨g16, g17, b18, e19, H⟩ := H
      refine ev_s (pc' := 31) (loc' := [.ref a0, .int i1, .int i2, .int i3]) (st' := [.ref b18]) (h1 := h9) am_q154 rfl rfl rfl (am_xa g16 g17 e19) ?_
      obtain ⟨g20, H⟩ := H
      refine ev_s (pc' := 34) (loc' := [.ref a0, .int i1, .int i2, .int i3]) (st' := [.int (am_gi h9 b18 6)]) (h1 := h9) am_q154 rfl rfl rfl (if_pos (e := none) g20) ?_
      refine ev_p (pc' := 35) (loc' := [.ref a0, .int i1, .int i2, .int i3]) (st' := [.ref a0, .int (am_gi h9 b18 6)]) 1 am_q154 rfl ?_
      obtain ⟨g21, b22, e23, H⟩ := H
      refine ev_s (pc' := 38) (loc' := [.ref a0, .int i1, .int i2, .int i3]) (st' := [.ref b22, .int (am_gi h9 b18 6)]) (h1 := h9) am_q154 rfl rfl rfl (am_gf2 g21 e23) ?_
      refine ev_p (pc' := 39) (loc' := [.ref a0, .int i1, .int i2, .int i3]) (st' := [.int i2, .ref b22, .int (am_gi h9 b18 6)]) 1 am_q154 rfl ?_
      obtain ⟨g24, g25, b26, e27, H⟩ := H
      refine ev_s (pc' := 40) (loc' := [.ref a0, .int i1, .int i2, .int i3]) (st' := [.ref b26, .int (am_gi h9 b18 6)]) (h1 := h9) am_q154 rfl rfl rfl (am_xa g24 g25 e27) ?_
      obtain ⟨g28, H⟩ := H
      refine ev_s (pc' := 43) (loc' := [.ref a0, .int i1, .int i2, .int i3]) (st' := [.int (am_gi h9 b26 6), .int (am_gi h9 b18 6)]) (h1 := h9) am_q154 rfl rfl rfl (if_pos (e := none) g28) ?_
      refine ev_jc (t := 48) am_q154 rfl rfl (fun hq => ?_) (fun hq => ?_)
      · replace H := H.1 hq
        refine ev_p (pc' := 4) (loc' := [.ref a0, .int i1, .int i2, .int (i3 + (1 : Int32))]) (st' := []) 2 am_q154 rfl ?_
        exact ev_m (loc' := [.ref a0, .int i1, .int i2, .int (i3 + (1 : Int32))]) am_q154 rfl rfl H
      · replace H := H.2 hq
        refine ev_p (pc' := 4) (loc' := [.ref a0, .int i1, .int i3, .int (i3 + (1 : Int32))]) (st' := []) 4 am_q154 rfl ?_
        exact ev_m (loc' := [.ref a0, .int i1, .int i3, .int (i3 + (1 : Int32))]) am_q154 rfl rfl H
/-! 155: X11_tearHanging -/
theorem am_q155 : (am_mt 155).2.2.2.2.2 = am_m155.2.2.2.2.2 := rfl
set_option maxRecDepth 20000 in
set_option maxHeartbeats 2000000 in
theorem wp155 {d : Nat} (a0 : Nat) {h : AH} {Q : Option Value → AH → Prop} (H : Ev (d + 1) 155 4 [.ref a0, .int (0 : Int32), .int (0 : Int32), .null] [] h Q) : Cl (d + 1) 155 [.ref a0] h Q := by
  show Ev (d + 1) 155 0 [.ref a0, .null, .null, .null] [] h Q
  refine ev_p (pc' := 4) (loc' := [.ref a0, .int (0 : Int32), .int (0 : Int32), .null]) (st' := []) 4 am_q155 rfl ?_
  exact ev_m (loc' := [.ref a0, .int (0 : Int32), .int (0 : Int32), .null]) am_q155 rfl rfl H
set_option maxRecDepth 20000 in
set_option maxHeartbeats 2000000 in
theorem wp155_4 {d : Nat} (a0 : Nat) (i1 : Int32) (i2 : Int32) {h : AH} {Q : Option Value → AH → Prop} (H : am_kd h a0 = 11 ∧ ((am_gi h a0 9) ≤ i2 → Q (some (.int i1)) h) ∧ (¬ (am_gi h a0 9) ≤ i2 → am_kd h a0 = 11 ∧ ∃ b3, am_gr h a0 8 = some b3 ∧ (104 ≤ am_kd h b3 ∧ am_kd h b3 ≤ 109) ∧ am_in i2 (am_ln h b3) ∧ ∃ b7, am_gr h b3 (Int32.toNatClampNeg i2) = some b7 ∧ am_kd h b7 = 9 ∧ ((¬ (am_gi h b7 5) = (0 : Int32)) → Ev (d + 1) 155 4 [.ref a0, .int i1, .int (i2 + (1 : Int32)), .null] [] h Q) ∧ (¬ (¬ (am_gi h b7 5) = (0 : Int32)) → am_kd h b7 = 9 ∧ am_kd h a0 = 11 ∧ Cl d 140 [.ref a0, .int (am_gi h b7 8)] h (fun r12 h11 => ∃ x14, r12 = some (.int x14) ∧ (x14 = (0 : Int32) → Ev (d + 1) 155 4 [.ref a0, .int i1, .int (i2 + (1 : Int32)), .null] [] h11 Q) ∧ (¬ x14 = (0 : Int32) → am_kd h11 a0 = 11 ∧ ∃ b16, am_gr h11 a0 8 = some b16 ∧ am_kd h11 b7 = 9 ∧ (104 ≤ am_kd h11 b16 ∧ am_kd h11 b16 ≤ 109) ∧ am_in (am_gi h11 b7 8) (am_ln h11 b16) ∧ ∃ b21, am_gr h11 b16 (Int32.toNatClampNeg (am_gi h11 b7 8)) = some b21 ∧ am_kd h11 b21 = 9 ∧ ((am_gi h11 b21 5) = (0 : Int32) → Ev (d + 1) 155 4 [.ref a0, .int i1, .int (i2 + (1 : Int32)), .null] [] h11 Q) ∧ (¬ (am_gi h11 b21 5) = (0 : Int32) → am_kd h11 b7 = 9 ∧ ((1 : Int32) = (0 : Int32) ∨ (1 : Int32) = (1 : Int32)) ∧ ∀ h25, h25 = am_si h11 b7 5 (1 : Int32) → Ev (d + 1) 155 4 [.ref a0, .int (i1 + (1 : Int32)), .int (i2 + (1 : Int32)), .null] [] h25 Q)))))) : Ev (d + 1) 155 4 [.ref a0, .int i1, .int i2, .null] [] h Q := by
  refine ev_p (pc' := 6) (loc' := [.ref a0, .int i1, .int i2, .null]) (st' := [.ref a0, .int i2]) 2 am_q155 rfl ?_
  obtain ⟨g1, H⟩ := H
  refine ev_s (pc' := 9) (loc' := [.ref a0, .int i1, .int i2, .null]) (st' := [.int (am_gi h a0 9), .int i2]) (h1 := h) am_q155 rfl rfl rfl (if_pos (e := none) g1) ?_
  refine ev_jc (t := 66) am_q155 rfl rfl (fun hq => ?_) (fun hq => ?_)
  · replace H := H.1 hq
    refine ev_p (pc' := 67) (loc' := [.ref a0, .int i1, .int i2, .null]) (st' := [.int i1]) 1 am_q155 rfl ?_
    exact ev_r (v := some (.int i1)) am_q155 rfl rfl rfl rfl H
  · replace H := H.2 hq
    refine ev_p (pc' := 13) (loc' := [.ref a0, .int i1, .int i2, .null]) (st' := [.ref a0]) 1 am_q155 rfl ?_
    obtain ⟨g2, b3, e4, H⟩ := H
    refine ev_s (pc' := 16) (loc' := [.ref a0, .int i1, .int i2, .null]) (st' := [.ref b3]) (h1 := h) am_q155 rfl rfl rfl (am_gf2 g2 e4) ?_
    refine ev_p (pc' := 17) (loc' := [.ref a0, .int i1, .int i2, .null]) (st' := [.int i2, .ref b3]) 1 am_q155 rfl ?_
    obtain ⟨g5, g6, b7, e8, H⟩ := H
    refine ev_s (pc' := 18) (loc' := [.ref a0, .int i1, .int i2, .null]) (st' := [.ref b7]) (h1 := h) am_q155 rfl rfl rfl (am_xa g5 g6 e8) ?_
    refine ev_p (pc' := 20) (loc' := [.ref a0, .int i1, .int i2, .ref b7]) (st' := [.ref b7]) 2 am_q155 rfl ?_
    obtain ⟨g9, H⟩ := H
    refine ev_s (pc' := 23) (loc' := [.ref a0, .int i1, .int i2, .ref b7]) (st' := [.int (am_gi h b7 5)]) (h1 := h) am_q155 rfl rfl rfl (if_pos (e := none) g9) ?_
    refine ev_jz (t := 60) am_q155 rfl rfl (fun hq => ?_) (fun hq => ?_)
    · replace H := H.1 hq
      refine ev_p (pc' := 4) (loc' := [.ref a0, .int i1, .int (i2 + (1 : Int32)), .null]) (st' := []) 2 am_q155 rfl ?_
      exact ev_m (loc' := [.ref a0, .int i1, .int (i2 + (1 : Int32)), .null]) am_q155 rfl rfl H
    · replace H := H.2 hq
      refine ev_p (pc' := 28) (loc' := [.ref a0, .int i1, .int i2, .ref b7]) (st' := [.ref b7, .ref a0]) 2 am_q155 rfl ?_
      obtain ⟨g10, H⟩ := H
      refine ev_s (pc' := 31) (loc' := [.ref a0, .int i1, .int i2, .ref b7]) (st' := [.int (am_gi h b7 8), .ref a0]) (h1 := h) am_q155 rfl rfl rfl (if_pos (e := none) g10) ?_
      obtain ⟨g13, H⟩ := H
      refine ev_c (vs := [.ref a0, .int (am_gi h b7 8)]) (rest := []) 140 am_q155 rfl rfl rfl rfl rfl rfl rfl rfl rfl rfl rfl rfl (Or.inr (congrArg some g13)) (Cl.mono H (Nat.le_refl _) (fun r12 h11 H => ?_))
      obtain ⟨x14, rfl, H⟩ := H
      refine ev_jz (t := 60) am_q155 rfl rfl (fun hq => ?_) (fun hq => ?_)
      · replace H := H.1 hq
        refine ev_p (pc' := 4) (loc' := [.ref a0, .int i1, .int (i2 + (1 : Int32)), .null]) (st' := []) 2 am_q155 rfl ?_
        exact ev_m (loc' := [.ref a0, .int i1, .int (i2 + (1 : Int32)), .null]) am_q155 rfl rfl H
      · replace H := H.2 hq
        refine ev_p (pc' := 38) (loc' := [.ref a0, .int i1, .int i2, .ref b7]) (st' := [.ref a0]) 1 am_q155 rfl ?_
        obtain ⟨g15, b16, e17, H⟩ := H
        refine ev_s (pc' := 41) (loc' := [.ref a0, .int i1, .int i2, .ref b7]) (st' := [.ref b16]) (h1 := h11) am_q155 rfl rfl rfl (am_gf2 g15 e17) ?_
        refine ev_p (pc' := 42) (loc' := [.ref a0, .int i1, .int i2, .ref b7]) (st' := [.ref b7, .ref b16]) 1 am_q155 rfl ?_
        obtain ⟨g18, H⟩ := H
        refine ev_s (pc' := 45) (loc' := [.ref a0, .int i1, .int i2, .ref b7]) (st' := [.int (am_gi h11 b7 8), .ref b16]) (h1 := h11) am_q155 rfl rfl rfl (if_pos (e := none) g18) ?_
        obtain ⟨g19, g20, b21, e22, H⟩ := H
        refine ev_s (pc' := 46) (loc' := [.ref a0, .int i1, .int i2, .ref b7]) (st' := [.ref b21]) (h1 := h11) am_q155 rfl rfl rfl (am_xa g19 g20 e22) ?_
        obtain ⟨g23, H⟩ := H
        refine ev_s (pc' := 49) (loc' := [.ref a0, .int i1, .int i2, .ref b7]) (st' := [.int (am_gi h11 b21 5)]) (h1 := h11) am_q155 rfl rfl rfl (if_pos (e := none) g23) ?_
        refine ev_jz (t := 60) am_q155 rfl rfl (fun hq => ?_) (fun hq => ?_)
        · replace H := H.1 hq
          refine ev_p (pc' := 4) (loc' := [.ref a0, .int i1, .int (i2 + (1 : Int32)), .null]) (st' := []) 2 am_q155 rfl ?_
          exact ev_m (loc' := [.ref a0, .int i1, .int (i2 + (1 : Int32)), .null]) am_q155 rfl rfl H
        · replace H := H.2 hq
          refine ev_p (pc' := 54) (loc' := [.ref a0, .int i1, .int i2, .ref b7]) (st' := [.int (1 : Int32), .ref b7]) 2 am_q155 rfl ?_
          obtain ⟨g24, g26, H⟩ := H
          refine ev_s (pc' := 57) (loc' := [.ref a0, .int i1, .int i2, .ref b7]) (st' := []) (h1 := am_si h11 b7 5 (1 : Int32)) am_q155 rfl rfl rfl (if_pos (e := none) ⟨g24, g26⟩) ?_
          replace H := H _ rfl
          generalize am_si h11 b7 5 (1 : Int32) = h25 at H ⊢
          refine ev_p (pc' := 4) (loc' := [.ref a0, .int (i1 + (1 : Int32)), .int (i2 + (1 : Int32)), .null]) (st' := []) 3 am_q155 rfl ?_
          exact ev_m (loc' := [.ref a0, .int (i1 + (1 : Int32)), .int (i2 + (1 : Int32)), .null]) am_q155 rfl rfl H
/-! 156: X11_votesNeeded -/
theorem am_q156 : (am_mt 156).2.2.2.2.2 = am_m156.2.2.2.2.2 := rfl
set_option maxRecDepth 20000 in
set_option maxHeartbeats 2000000 in
theorem wp156 {d : Nat} (a0 : Nat) {h : AH} {Q : Option Value → AH → Prop} (H : am_kd h a0 = 11 ∧ ∃ b2, am_gr h a0 7 = some b2 ∧ am_kd h b2 = 8 ∧ ∃ b5, am_gr h b2 0 = some b5 ∧ am_kd h a0 = 11 ∧ Cl d 151 [.ref a0] h (fun r8 h7 => ∃ x10, r8 = some (.int x10) ∧ am_kd h7 b5 = 101 ∧ am_in (7 : Int32) (am_ln h7 b5) ∧ ∀ h13, h13 = am_sl h7 b5 (Int32.toNatClampNeg (7 : Int32)) (Int32.toInt64 x10) → am_kd h13 a0 = 11 ∧ ∃ b15, am_gr h13 a0 7 = some b15 ∧ am_kd h13 a0 = 11 ∧ ∃ b18, am_gr h13 a0 8 = some b18 ∧ am_kd h13 a0 = 11 ∧ am_kd h13 a0 = 11 ∧ Cl d 154 [.ref a0, .int (am_gi h13 a0 0)] h13 (fun r22 h21 => ∃ x24, r22 = some (.int x24) ∧ (104 ≤ am_kd h21 b18 ∧ am_kd h21 b18 ≤ 109) ∧ am_in x24 (am_ln h21 b18) ∧ ∃ b27, am_gr h21 b18 (Int32.toNatClampNeg x24) = some b27 ∧ am_kd h21 b15 = 8 ∧ Cl d 70 [.ref b15, .ref b27, .int (2 : Int32)] h21 (fun r30 h29 => ∃ y32, r30 = some (.long y32) ∧ Q (some (.long y32)) h29)))) : Cl (d + 1) 156 [.ref a0] h Q := by
  show Ev (d + 1) 156 0 [.ref a0] [] h Q
  refine ev_p (pc' := 1) (loc' := [.ref a0]) (st' := [.ref a0]) 1 am_q156 rfl ?_
  obtain ⟨g1, b2, e3, H⟩ := H
  refine ev_s (pc' := 4) (loc' := [.ref a0]) (st' := [.ref b2]) (h1 := h) am_q156 rfl rfl rfl (am_gf2 g1 e3) ?_
  obtain ⟨g4, b5, e6, H⟩ := H
  refine ev_s (pc' := 7) (loc' := [.ref a0]) (st' := [.ref b5]) (h1 := h) am_q156 rfl rfl rfl (am_gf2 g4 e6) ?_
  refine ev_p (pc' := 10) (loc' := [.ref a0]) (st' := [.ref a0, .int (7 : Int32), .ref b5]) 2 am_q156 rfl ?_
  obtain ⟨g9, H⟩ := H
  refine ev_c (vs := [.ref a0]) (rest := [.int (7 : Int32), .ref b5]) 151 am_q156 rfl rfl rfl rfl rfl rfl rfl rfl rfl rfl rfl rfl (Or.inr (congrArg some g9)) (Cl.mono H (Nat.le_refl _) (fun r8 h7 H => ?_))
  obtain ⟨x10, rfl, H⟩ := H
  refine ev_p (pc' := 14) (loc' := [.ref a0]) (st' := [.long (Int32.toInt64 x10), .int (7 : Int32), .ref b5]) 1 am_q156 rfl ?_
  obtain ⟨g11, g12, H⟩ := H
  refine ev_s (pc' := 15) (loc' := [.ref a0]) (st' := []) (h1 := am_sl h7 b5 (Int32.toNatClampNeg (7 : Int32)) (Int32.toInt64 x10)) am_q156 rfl rfl rfl (am_xx g11 g12) ?_
  replace H := H _ rfl
  generalize am_sl h7 b5 (Int32.toNatClampNeg (7 : Int32)) (Int32.toInt64 x10) = h13 at H ⊢
  refine ev_p (pc' := 16) (loc' := [.ref a0]) (st' := [.ref a0]) 1 am_q156 rfl ?_
  obtain ⟨g14, b15, e16, H⟩ := H
  refine ev_s (pc' := 19) (loc' := [.ref a0]) (st' := [.ref b15]) (h1 := h13) am_q156 rfl rfl rfl (am_gf2 g14 e16) ?_
  refine ev_p (pc' := 20) (loc' := [.ref a0]) (st' := [.ref a0, .ref b15]) 1 am_q156 rfl ?_
  obtain ⟨g17, b18, e19, H⟩ := H
  refine ev_s (pc' := 23) (loc' := [.ref a0]) (st' := [.ref b18, .ref b15]) (h1 := h13) am_q156 rfl rfl rfl (am_gf2 g17 e19) ?_
  refine ev_p (pc' := 25) (loc' := [.ref a0]) (st' := [.ref a0, .ref a0, .ref b18, .ref b15]) 2 am_q156 rfl ?_
  obtain ⟨g20, H⟩ := H
  refine ev_s (pc' := 28) (loc' := [.ref a0]) (st' := [.int (am_gi h13 a0 0), .ref a0, .ref b18, .ref b15]) (h1 := h13) am_q156 rfl rfl rfl (if_pos (e := none) g20) ?_
  obtain ⟨g23, H⟩ := H
  refine ev_c (vs := [.ref a0, .int (am_gi h13 a0 0)]) (rest := [.ref b18, .ref b15]) 154 am_q156 rfl rfl rfl rfl rfl rfl rfl rfl rfl rfl rfl rfl (Or.inr (congrArg some g23)) (Cl.mono H (Nat.le_refl _) (fun r22 h21 H => ?_))
  obtain ⟨x24, rfl, H⟩ := H
  obtain ⟨g25, g26, b27, e28, H⟩ := H
  refine ev_s (pc' := 32) (loc' := [.ref a0]) (st' := [.ref b27, .ref b15]) (h1 := h21) am_q156 rfl rfl rfl (am_xa g25 g26 e28) ?_
  refine ev_p (pc' := 33) (loc' := [.ref a0]) (st' := [.int (2 : Int32), .ref b27, .ref b15]) 1 am_q156 rfl ?_
  obtain ⟨g31, H⟩ := H
  refine ev_c (vs := [.ref b15, .ref b27, .int (2 : Int32)]) (rest := []) 70 am_q156 rfl rfl rfl rfl rfl rfl rfl rfl rfl rfl rfl rfl (Or.inr (congrArg some g31)) (Cl.mono H (Nat.le_refl _) (fun r30 h29 H => ?_))
  obtain ⟨y32, rfl, H⟩ := H
  exact ev_r (v := some (.long y32)) am_q156 rfl rfl rfl rfl H
/-! 157: X11_nameApplicant -/
theorem am_q157 : (am_mt 157).2.2.2.2.2 = am_m157.2.2.2.2.2 := rfl
set_option maxRecDepth 20000 in
set_option maxHeartbeats 2000000 in
theorem wp157 {d : Nat} (a0 : Nat) (i1 : Int32) {h : AH} {Q : Option Value → AH → Prop} (H : am_kd h a0 = 11 ∧ ∃ b2, am_gr h a0 3 = some b2 ∧ (104 ≤ am_kd h b2 ∧ am_kd h b2 ≤ 109) ∧ am_in i1 (am_ln h b2) ∧ ∃ b6, am_gr h b2 (Int32.toNatClampNeg i1) = some b6 ∧ am_kd h a0 = 11 ∧ ∃ b9, am_gr h a0 7 = some b9 ∧ am_kd h b9 = 8 ∧ ∃ b12, am_gr h b9 0 = some b12 ∧ am_kd h b6 = 3 ∧ Cl d 23 [.ref b6] h (fun r15 h14 => ∃ x17, r15 = some (.int x17) ∧ (x17 = (0 : Int32) → Ev (d + 1) 157 36 [.ref a0, .null, .ref b6] [.long (0 : Int64), .int (0 : Int32), .ref b12] h14 Q) ∧ (¬ x17 = (0 : Int32) → am_kd h14 a0 = 11 ∧ am_kd h14 b6 = 3 ∧ Ev (d + 1) 157 36 [.ref a0, .null, .ref b6] [.long (Int32.toInt64 ((am_gi h14 a0 0) - (am_gi h14 b6 3))), .int (0 : Int32), .ref b12] h14 Q))) : Cl (d + 1) 157 [.ref a0, .int i1] h Q := by
  show Ev (d + 1) 157 0 [.ref a0, .int i1, .null] [] h Q
  refine ev_p (pc' := 1) (loc' := [.ref a0, .int i1, .null]) (st' := [.ref a0]) 1 am_q157 rfl ?_
  obtain ⟨g1, b2, e3, H⟩ := H
  refine ev_s (pc' := 4) (loc' := [.ref a0, .int i1, .null]) (st' := [.ref b2]) (h1 := h) am_q157 rfl rfl rfl (am_gf2 g1 e3) ?_
  refine ev_p (pc' := 5) (loc' := [.ref a0, .int i1, .null]) (st' := [.int i1, .ref b2]) 1 am_q157 rfl ?_
  obtain ⟨g4, g5, b6, e7, H⟩ := H
  refine ev_s (pc' := 6) (loc' := [.ref a0, .int i1, .null]) (st' := [.ref b6]) (h1 := h) am_q157 rfl rfl rfl (am_xa g4 g5 e7) ?_
  refine ev_p (pc' := 8) (loc' := [.ref a0, .int i1, .ref b6]) (st' := [.ref a0]) 2 am_q157 rfl ?_
  obtain ⟨g8, b9, e10, H⟩ := H
  refine ev_s (pc' := 11) (loc' := [.ref a0, .int i1, .ref b6]) (st' := [.ref b9]) (h1 := h) am_q157 rfl rfl rfl (am_gf2 g8 e10) ?_
  obtain ⟨g11, b12, e13, H⟩ := H
  refine ev_s (pc' := 14) (loc' := [.ref a0, .int i1, .ref b6]) (st' := [.ref b12]) (h1 := h) am_q157 rfl rfl rfl (am_gf2 g11 e13) ?_
  refine ev_p (pc' := 16) (loc' := [.ref a0, .int i1, .ref b6]) (st' := [.ref b6, .int (0 : Int32), .ref b12]) 2 am_q157 rfl ?_
  obtain ⟨g16, H⟩ := H
  refine ev_c (vs := [.ref b6]) (rest := [.int (0 : Int32), .ref b12]) 23 am_q157 rfl rfl rfl rfl rfl rfl rfl rfl rfl rfl rfl rfl (Or.inr (congrArg some g16)) (Cl.mono H (Nat.le_refl _) (fun r15 h14 H => ?_))
  obtain ⟨x17, rfl, H⟩ := H
  refine ev_jz (t := 35) am_q157 rfl rfl (fun hq => ?_) (fun hq => ?_)
  · replace H := H.1 hq
    refine ev_p (pc' := 36) (loc' := [.ref a0, .int i1, .ref b6]) (st' := [.long (0 : Int64), .int (0 : Int32), .ref b12]) 1 am_q157 rfl ?_
    exact ev_m (loc' := [.ref a0, .null, .ref b6]) am_q157 rfl rfl H
  · replace H := H.2 hq
    refine ev_p (pc' := 23) (loc' := [.ref a0, .int i1, .ref b6]) (st' := [.ref a0, .int (0 : Int32), .ref b12]) 1 am_q157 rfl ?_
    obtain ⟨g18, H⟩ := H
    refine ev_s (pc' := 26) (loc' := [.ref a0, .int i1, .ref b6]) (st' := [.int (am_gi h14 a0 0), .int (0 : Int32), .ref b12]) (h1 := h14) am_q157 rfl rfl rfl (if_pos (e := none) g18) ?_
    refine ev_p (pc' := 27) (loc' := [.ref a0, .int i1, .ref b6]) (st' := [.ref b6, .int (am_gi h14 a0 0), .int (0 : Int32), .ref b12]) 1 am_q157 rfl ?_
    obtain ⟨g19, H⟩ := H
    refine ev_s (pc' := 30) (loc' := [.ref a0, .int i1, .ref b6]) (st' := [.int (am_gi h14 b6 3), .int (am_gi h14 a0 0), .int (0 : Int32), .ref b12]) (h1 := h14) am_q157 rfl rfl rfl (if_pos (e := none) g19) ?_
    refine ev_p (pc' := 36) (loc' := [.ref a0, .int i1, .ref b6]) (st' := [.long (Int32.toInt64 ((am_gi h14 a0 0) - (am_gi h14 b6 3))), .int (0 : Int32), .ref b12]) 3 am_q157 rfl ?_
    exact ev_m (loc' := [.ref a0, .null, .ref b6]) am_q157 rfl rfl H
set_option maxRecDepth 20000 in
set_option maxHeartbeats 2000000 in
theorem wp157_36 {d : Nat} (a0 : Nat) (a2 : Nat) (s0 : Nat) (s1 : Int32) (s2 : Int64) {h : AH} {Q : Option Value → AH → Prop} (H : am_kd h s0 = 101 ∧ am_in s1 (am_ln h s0) ∧ ∀ h3, h3 = am_sl h s0 (Int32.toNatClampNeg s1) s2 → am_kd h3 a0 = 11 ∧ ∃ b5, am_gr h3 a0 7 = some b5 ∧ am_kd h3 b5 = 8 ∧ ∃ b8, am_gr h3 b5 0 = some b8 ∧ am_kd h3 a2 = 3 ∧ am_kd h3 b8 = 101 ∧ am_in (1 : Int32) (am_ln h3 b8) ∧ ∀ h13, h13 = am_sl h3 b8 (Int32.toNatClampNeg (1 : Int32)) (Int32.toInt64 (am_gi h3 a2 0)) → am_kd h13 a0 = 11 ∧ ∃ b15, am_gr h13 a0 7 = some b15 ∧ am_kd h13 b15 = 8 ∧ ∃ b18, am_gr h13 b15 0 = some b18 ∧ am_kd h13 a0 = 11 ∧ am_kd h13 a2 = 3 ∧ am_kd h13 b18 = 101 ∧ am_in (3 : Int32) (am_ln h13 b18) ∧ ∀ h24, h24 = am_sl h13 b18 (Int32.toNatClampNeg (3 : Int32)) (Int32.toInt64 ((am_gi h13 a0 0) - (am_gi h13 a2 1))) → am_kd h24 a0 = 11 ∧ ∃ b26, am_gr h24 a0 7 = some b26 ∧ am_kd h24 b26 = 8 ∧ ∃ b29, am_gr h24 b26 0 = some b29 ∧ am_kd h24 a2 = 3 ∧ am_kd h24 b29 = 101 ∧ am_in (4 : Int32) (am_ln h24 b29) ∧ ∀ h34, h34 = am_sl h24 b29 (Int32.toNatClampNeg (4 : Int32)) (am_gl h24 a2 5) → Q none h34) : Ev (d + 1) 157 36 [.ref a0, .null, .ref a2] [.long s2, .int s1, .ref s0] h Q := by
  obtain ⟨g1, g2, H⟩ := H
  refine ev_s (pc' := 37) (loc' := [.ref a0, .null, .ref a2]) (st' := []) (h1 := am_sl h s0 (Int32.toNatClampNeg s1) s2) am_q157 rfl rfl rfl (am_xx g1 g2) ?_
  replace H := H _ rfl
  generalize am_sl h s0 (Int32.toNatClampNeg s1) s2 = h3 at H ⊢
  refine ev_p (pc' := 38) (loc' := [.ref a0, .null, .ref a2]) (st' := [.ref a0]) 1 am_q157 rfl ?_
  obtain ⟨g4, b5, e6, H⟩ := H
  refine ev_s (pc' := 41) (loc' := [.ref a0, .null, .ref a2]) (st' := [.ref b5]) (h1 := h3) am_q157 rfl rfl rfl (am_gf2 g4 e6) ?_
  obtain ⟨g7, b8, e9, H⟩ := H
  refine ev_s (pc' := 44) (loc' := [.ref a0, .null, .ref a2]) (st' := [.ref b8]) (h1 := h3) am_q157 rfl rfl rfl (am_gf2 g7 e9) ?_
  refine ev_p (pc' := 46) (loc' := [.ref a0, .null, .ref a2]) (st' := [.ref a2, .int (1 : Int32), .ref b8]) 2 am_q157 rfl ?_
  obtain ⟨g10, H⟩ := H
  refine ev_s (pc' := 49) (loc' := [.ref a0, .null, .ref a2]) (st' := [.int (am_gi h3 a2 0), .int (1 : Int32), .ref b8]) (h1 := h3) am_q157 rfl rfl rfl (if_pos (e := none) g10) ?_
  refine ev_p (pc' := 50) (loc' := [.ref a0, .null, .ref a2]) (st' := [.long (Int32.toInt64 (am_gi h3 a2 0)), .int (1 : Int32), .ref b8]) 1 am_q157 rfl ?_
  obtain ⟨g11, g12, H⟩ := H
  refine ev_s (pc' := 51) (loc' := [.ref a0, .null, .ref a2]) (st' := []) (h1 := am_sl h3 b8 (Int32.toNatClampNeg (1 : Int32)) (Int32.toInt64 (am_gi h3 a2 0))) am_q157 rfl rfl rfl (am_xx g11 g12) ?_
  replace H := H _ rfl
  generalize am_sl h3 b8 (Int32.toNatClampNeg (1 : Int32)) (Int32.toInt64 (am_gi h3 a2 0)) = h13 at H ⊢
  refine ev_p (pc' := 52) (loc' := [.ref a0, .null, .ref a2]) (st' := [.ref a0]) 1 am_q157 rfl ?_
  obtain ⟨g14, b15, e16, H⟩ := H
  refine ev_s (pc' := 55) (loc' := [.ref a0, .null, .ref a2]) (st' := [.ref b15]) (h1 := h13) am_q157 rfl rfl rfl (am_gf2 g14 e16) ?_
  obtain ⟨g17, b18, e19, H⟩ := H
  refine ev_s (pc' := 58) (loc' := [.ref a0, .null, .ref a2]) (st' := [.ref b18]) (h1 := h13) am_q157 rfl rfl rfl (am_gf2 g17 e19) ?_
  refine ev_p (pc' := 60) (loc' := [.ref a0, .null, .ref a2]) (st' := [.ref a0, .int (3 : Int32), .ref b18]) 2 am_q157 rfl ?_
  obtain ⟨g20, H⟩ := H
  refine ev_s (pc' := 63) (loc' := [.ref a0, .null, .ref a2]) (st' := [.int (am_gi h13 a0 0), .int (3 : Int32), .ref b18]) (h1 := h13) am_q157 rfl rfl rfl (if_pos (e := none) g20) ?_
  refine ev_p (pc' := 64) (loc' := [.ref a0, .null, .ref a2]) (st' := [.ref a2, .int (am_gi h13 a0 0), .int (3 : Int32), .ref b18]) 1 am_q157 rfl ?_
  obtain ⟨g21, H⟩ := H
  refine ev_s (pc' := 67) (loc' := [.ref a0, .null, .ref a2]) (st' := [.int (am_gi h13 a2 1), .int (am_gi h13 a0 0), .int (3 : Int32), .ref b18]) (h1 := h13) am_q157 rfl rfl rfl (if_pos (e := none) g21) ?_
  refine ev_p (pc' := 69) (loc' := [.ref a0, .null, .ref a2]) (st' := [.long (Int32.toInt64 ((am_gi h13 a0 0) - (am_gi h13 a2 1))), .int (3 : Int32), .ref b18]) 2 am_q157 rfl ?_
  obtain ⟨g22, g23, H⟩ := H
  refine ev_s (pc' := 70) (loc' := [.ref a0, .null, .ref a2]) (st' := []) (h1 := am_sl h13 b18 (Int32.toNatClampNeg (3 : Int32)) (Int32.toInt64 ((am_gi h13 a0 0) - (am_gi h13 a2 1)))) am_q157 rfl rfl rfl (am_xx g22 g23) ?_
  replace H := H _ rfl
  generalize am_sl h13 b18 (Int32.toNatClampNeg (3 : Int32)) (Int32.toInt64 ((am_gi h13 a0 0) - (am_gi h13 a2 1))) = h24 at H ⊢
  refine ev_p (pc' := 71) (loc' := [.ref a0, .null, .ref a2]) (st' := [.ref a0]) 1 am_q157 rfl ?_
  obtain ⟨g25, b26, e27, H⟩ := H
  refine ev_s (pc' := 74) (loc' := [.ref a0, .null, .ref a2]) (st' := [.ref b26]) (h1 := h24) am_q157 rfl rfl rfl (am_gf2 g25 e27) ?_
  obtain ⟨g28, b29, e30, H⟩ := H
  refine ev_s (pc' := 77) (loc' := [.ref a0, .null, .ref a2]) (st' := [.ref b29]) (h1 := h24) am_q157 rfl rfl rfl (am_gf2 g28 e30) ?_
  refine ev_p (pc' := 79) (loc' := [.ref a0, .null, .ref a2]) (st' := [.ref a2, .int (4 : Int32), .ref b29]) 2 am_q157 rfl ?_
  obtain ⟨g31, H⟩ := H
  refine ev_s (pc' := 82) (loc' := [.ref a0, .null, .ref a2]) (st' := [.long (am_gl h24 a2 5), .int (4 : Int32), .ref b29]) (h1 := h24) am_q157 rfl rfl rfl (if_pos (e := none) g31) ?_
  obtain ⟨g32, g33, H⟩ := H
  refine ev_s (pc' := 83) (loc' := [.ref a0, .null, .ref a2]) (st' := []) (h1 := am_sl h24 b29 (Int32.toNatClampNeg (4 : Int32)) (am_gl h24 a2 5)) am_q157 rfl rfl rfl (am_xx g32 g33) ?_
  replace H := H _ rfl
  generalize am_sl h24 b29 (Int32.toNatClampNeg (4 : Int32)) (am_gl h24 a2 5) = h34 at H ⊢
  exact ev_r (v := none) am_q157 rfl rfl rfl rfl H
/-! 158: X11_nameHome -/
theorem am_q158 : (am_mt 158).2.2.2.2.2 = am_m158.2.2.2.2.2 := rfl
set_option maxRecDepth 20000 in
set_option maxHeartbeats 2000000 in
theorem wp158 {d : Nat} (a0 : Nat) (i1 : Int32) {h : AH} {Q : Option Value → AH → Prop} (H : am_kd h a0 = 11 ∧ ∃ b2, am_gr h a0 1 = some b2 ∧ (104 ≤ am_kd h b2 ∧ am_kd h b2 ≤ 109) ∧ am_in i1 (am_ln h b2) ∧ ∃ b6, am_gr h b2 (Int32.toNatClampNeg i1) = some b6 ∧ am_kd h a0 = 11 ∧ ∃ b9, am_gr h a0 7 = some b9 ∧ am_kd h b9 = 8 ∧ ∃ b12, am_gr h b9 0 = some b12 ∧ am_kd h b6 = 2 ∧ am_kd h b12 = 101 ∧ am_in (2 : Int32) (am_ln h b12) ∧ ∀ h17, h17 = am_sl h b12 (Int32.toNatClampNeg (2 : Int32)) (Int32.toInt64 (am_gi h b6 1)) → am_kd h17 a0 = 11 ∧ ∃ b19, am_gr h17 a0 7 = some b19 ∧ am_kd h17 b19 = 8 ∧ ∃ b22, am_gr h17 b19 0 = some b22 ∧ am_kd h17 b6 = 2 ∧ am_kd h17 b22 = 101 ∧ am_in (5 : Int32) (am_ln h17 b22) ∧ ∀ h27, h27 = am_sl h17 b22 (Int32.toNatClampNeg (5 : Int32)) (Int32.toInt64 (am_gi h17 b6 0)) → am_kd h27 a0 = 11 ∧ ∃ b29, am_gr h27 a0 7 = some b29 ∧ am_kd h27 b29 = 8 ∧ ∃ b32, am_gr h27 b29 0 = some b32 ∧ am_kd h27 b6 = 2 ∧ am_kd h27 b32 = 101 ∧ am_in (6 : Int32) (am_ln h27 b32) ∧ ∀ h37, h37 = am_sl h27 b32 (Int32.toNatClampNeg (6 : Int32)) (Int32.toInt64 (am_gi h27 b6 2)) → Q none h37) : Cl d 158 [.ref a0, .int i1] h Q := by
  show Ev d 158 0 [.ref a0, .int i1, .null] [] h Q
  refine ev_p (pc' := 1) (loc' := [.ref a0, .int i1, .null]) (st' := [.ref a0]) 1 am_q158 rfl ?_
  obtain ⟨g1, b2, e3, H⟩ := H
  refine ev_s (pc' := 4) (loc' := [.ref a0, .int i1, .null]) (st' := [.ref b2]) (h1 := h) am_q158 rfl rfl rfl (am_gf2 g1 e3) ?_
  refine ev_p (pc' := 5) (loc' := [.ref a0, .int i1, .null]) (st' := [.int i1, .ref b2]) 1 am_q158 rfl ?_
  obtain ⟨g4, g5, b6, e7, H⟩ := H
  refine ev_s (pc' := 6) (loc' := [.ref a0, .int i1, .null]) (st' := [.ref b6]) (h1 := h) am_q158 rfl rfl rfl (am_xa g4 g5 e7) ?_
  refine ev_p (pc' := 8) (loc' := [.ref a0, .int i1, .ref b6]) (st' := [.ref a0]) 2 am_q158 rfl ?_
  obtain ⟨g8, b9, e10, H⟩ := H
  refine ev_s (pc' := 11) (loc' := [.ref a0, .int i1, .ref b6]) (st' := [.ref b9]) (h1 := h) am_q158 rfl rfl rfl (am_gf2 g8 e10) ?_
  obtain ⟨g11, b12, e13, H⟩ := H
  refine ev_s (pc' := 14) (loc' := [.ref a0, .int i1, .ref b6]) (st' := [.ref b12]) (h1 := h) am_q158 rfl rfl rfl (am_gf2 g11 e13) ?_
  refine ev_p (pc' := 16) (loc' := [.ref a0, .int i1, .ref b6]) (st' := [.ref b6, .int (2 : Int32), .ref b12]) 2 am_q158 rfl ?_
  obtain ⟨g14, H⟩ := H
  refine ev_s (pc' := 19) (loc' := [.ref a0, .int i1, .ref b6]) (st' := [.int (am_gi h b6 1), .int (2 : Int32), .ref b12]) (h1 := h) am_q158 rfl rfl rfl (if_pos (e := none) g14) ?_
  refine ev_p (pc' := 20) (loc' := [.ref a0, .int i1, .ref b6]) (st' := [.long (Int32.toInt64 (am_gi h b6 1)), .int (2 : Int32), .ref b12]) 1 am_q158 rfl ?_
  obtain ⟨g15, g16, H⟩ := H
  refine ev_s (pc' := 21) (loc' := [.ref a0, .int i1, .ref b6]) (st' := []) (h1 := am_sl h b12 (Int32.toNatClampNeg (2 : Int32)) (Int32.toInt64 (am_gi h b6 1))) am_q158 rfl rfl rfl (am_xx g15 g16) ?_
  replace H := H _ rfl
  generalize am_sl h b12 (Int32.toNatClampNeg (2 : Int32)) (Int32.toInt64 (am_gi h b6 1)) = h17 at H ⊢
  refine ev_p (pc' := 22) (loc' := [.ref a0, .int i1, .ref b6]) (st' := [.ref a0]) 1 am_q158 rfl ?_
  obtain ⟨g18, b19, e20, H⟩ := H
  refine ev_s (pc' := 25) (loc' := [.ref a0, .int i1, .ref b6]) (st' := [.ref b19]) (h1 := h17) am_q158 rfl rfl rfl (am_gf2 g18 e20) ?_
  obtain ⟨g21, b22, e23, H⟩ := H
  refine ev_s (pc' := 28) (loc' := [.ref a0, .int i1, .ref b6]) (st' := [.ref b22]) (h1 := h17) am_q158 rfl rfl rfl (am_gf2 g21 e23) ?_
  refine ev_p (pc' := 30) (loc' := [.ref a0, .int i1, .ref b6]) (st' := [.ref b6, .int (5 : Int32), .ref b22]) 2 am_q158 rfl ?_
  obtain ⟨g24, H⟩ := H
  refine ev_s (pc' := 33) (loc' := [.ref a0, .int i1, .ref b6]) (st' := [.int (am_gi h17 b6 0), .int (5 : Int32), .ref b22]) (h1 := h17) am_q158 rfl rfl rfl (if_pos (e := none) g24) ?_
  refine ev_p (pc' := 34) (loc' := [.ref a0, .int i1, .ref b6]) (st' := [.long (Int32.toInt64 (am_gi h17 b6 0)), .int (5 : Int32), .ref b22]) 1 am_q158 rfl ?_
  obtain ⟨g25, g26, H⟩ := H
  refine ev_s (pc' := 35) (loc' := [.ref a0, .int i1, .ref b6]) (st' := []) (h1 := am_sl h17 b22 (Int32.toNatClampNeg (5 : Int32)) (Int32.toInt64 (am_gi h17 b6 0))) am_q158 rfl rfl rfl (am_xx g25 g26) ?_
  replace H := H _ rfl
  generalize am_sl h17 b22 (Int32.toNatClampNeg (5 : Int32)) (Int32.toInt64 (am_gi h17 b6 0)) = h27 at H ⊢
  refine ev_p (pc' := 36) (loc' := [.ref a0, .int i1, .ref b6]) (st' := [.ref a0]) 1 am_q158 rfl ?_
  obtain ⟨g28, b29, e30, H⟩ := H
  refine ev_s (pc' := 39) (loc' := [.ref a0, .int i1, .ref b6]) (st' := [.ref b29]) (h1 := h27) am_q158 rfl rfl rfl (am_gf2 g28 e30) ?_
  obtain ⟨g31, b32, e33, H⟩ := H
  refine ev_s (pc' := 42) (loc' := [.ref a0, .int i1, .ref b6]) (st' := [.ref b32]) (h1 := h27) am_q158 rfl rfl rfl (am_gf2 g31 e33) ?_
  refine ev_p (pc' := 45) (loc' := [.ref a0, .int i1, .ref b6]) (st' := [.ref b6, .int (6 : Int32), .ref b32]) 2 am_q158 rfl ?_
  obtain ⟨g34, H⟩ := H
  refine ev_s (pc' := 48) (loc' := [.ref a0, .int i1, .ref b6]) (st' := [.int (am_gi h27 b6 2), .int (6 : Int32), .ref b32]) (h1 := h27) am_q158 rfl rfl rfl (if_pos (e := none) g34) ?_
  refine ev_p (pc' := 49) (loc' := [.ref a0, .int i1, .ref b6]) (st' := [.long (Int32.toInt64 (am_gi h27 b6 2)), .int (6 : Int32), .ref b32]) 1 am_q158 rfl ?_
  obtain ⟨g35, g36, H⟩ := H
  refine ev_s (pc' := 50) (loc' := [.ref a0, .int i1, .ref b6]) (st' := []) (h1 := am_sl h27 b32 (Int32.toNatClampNeg (6 : Int32)) (Int32.toInt64 (am_gi h27 b6 2))) am_q158 rfl rfl rfl (am_xx g35 g36) ?_
  replace H := H _ rfl
  generalize am_sl h27 b32 (Int32.toNatClampNeg (6 : Int32)) (Int32.toInt64 (am_gi h27 b6 2)) = h37 at H ⊢
  exact ev_r (v := none) am_q158 rfl rfl rfl rfl H
/-! 159: X11_offeredTo -/
theorem am_q159 : (am_mt 159).2.2.2.2.2 = am_m159.2.2.2.2.2 := rfl
set_option maxRecDepth 20000 in
set_option maxHeartbeats 2000000 in
theorem wp159 {d : Nat} (a0 : Nat) (i1 : Int32) {h : AH} {Q : Option Value → AH → Prop} (H : am_kd h a0 = 11 ∧ ∃ b2, am_gr h a0 1 = some b2 ∧ (104 ≤ am_kd h b2 ∧ am_kd h b2 ≤ 109) ∧ am_in i1 (am_ln h b2) ∧ ∃ b6, am_gr h b2 (Int32.toNatClampNeg i1) = some b6 ∧ am_kd h b6 = 2 ∧ ((am_gi h b6 3) = (0 : Int32) → Q (some (.int (-1 : Int32))) h) ∧ (¬ (am_gi h b6 3) = (0 : Int32) → am_kd h a0 = 11 ∧ ∃ b10, am_gr h a0 1 = some b10 ∧ (104 ≤ am_kd h b10 ∧ am_kd h b10 ≤ 109) ∧ am_in i1 (am_ln h b10) ∧ ∃ b14, am_gr h b10 (Int32.toNatClampNeg i1) = some b14 ∧ am_kd h b14 = 2 ∧ am_kd h a0 = 11 ∧ Cl d 160 [.ref a0, .int i1, .int (0 : Int32), .int (am_gi h b14 4)] h (fun r18 h17 => ∃ x20, r18 = some (.int x20) ∧ Q (some (.int x20)) h17))) : Cl (d + 1) 159 [.ref a0, .int i1] h Q := by
  show Ev (d + 1) 159 0 [.ref a0, .int i1] [] h Q
  refine ev_p (pc' := 1) (loc' := [.ref a0, .int i1]) (st' := [.ref a0]) 1 am_q159 rfl ?_
  obtain ⟨g1, b2, e3, H⟩ := H
  refine ev_s (pc' := 4) (loc' := [.ref a0, .int i1]) (st' := [.ref b2]) (h1 := h) am_q159 rfl rfl rfl (am_gf2 g1 e3) ?_
  refine ev_p (pc' := 5) (loc' := [.ref a0, .int i1]) (st' := [.int i1, .ref b2]) 1 am_q159 rfl ?_
  obtain ⟨g4, g5, b6, e7, H⟩ := H
  refine ev_s (pc' := 6) (loc' := [.ref a0, .int i1]) (st' := [.ref b6]) (h1 := h) am_q159 rfl rfl rfl (am_xa g4 g5 e7) ?_
  obtain ⟨g8, H⟩ := H
  refine ev_s (pc' := 9) (loc' := [.ref a0, .int i1]) (st' := [.int (am_gi h b6 3)]) (h1 := h) am_q159 rfl rfl rfl (if_pos (e := none) g8) ?_
  refine ev_jz (t := 30) am_q159 rfl rfl (fun hq => ?_) (fun hq => ?_)
  · replace H := H.1 hq
    refine ev_p (pc' := 31) (loc' := [.ref a0, .int i1]) (st' := [.int (-1 : Int32)]) 1 am_q159 rfl ?_
    exact ev_r (v := some (.int (-1 : Int32))) am_q159 rfl rfl rfl rfl H
  · replace H := H.2 hq
    refine ev_p (pc' := 16) (loc' := [.ref a0, .int i1]) (st' := [.ref a0, .int (0 : Int32), .int i1, .ref a0]) 4 am_q159 rfl ?_
    obtain ⟨g9, b10, e11, H⟩ := H
    refine ev_s (pc' := 19) (loc' := [.ref a0, .int i1]) (st' := [.ref b10, .int (0 : Int32), .int i1, .ref a0]) (h1 := h) am_q159 rfl rfl rfl (am_gf2 g9 e11) ?_
    refine ev_p (pc' := 20) (loc' := [.ref a0, .int i1]) (st' := [.int i1, .ref b10, .int (0 : Int32), .int i1, .ref a0]) 1 am_q159 rfl ?_
    obtain ⟨g12, g13, b14, e15, H⟩ := H
    refine ev_s (pc' := 21) (loc' := [.ref a0, .int i1]) (st' := [.ref b14, .int (0 : Int32), .int i1, .ref a0]) (h1 := h) am_q159 rfl rfl rfl (am_xa g12 g13 e15) ?_
    obtain ⟨g16, H⟩ := H
    refine ev_s (pc' := 24) (loc' := [.ref a0, .int i1]) (st' := [.int (am_gi h b14 4), .int (0 : Int32), .int i1, .ref a0]) (h1 := h) am_q159 rfl rfl rfl (if_pos (e := none) g16) ?_
    obtain ⟨g19, H⟩ := H
    refine ev_c (vs := [.ref a0, .int i1, .int (0 : Int32), .int (am_gi h b14 4)]) (rest := []) 160 am_q159 rfl rfl rfl rfl rfl rfl rfl rfl rfl rfl rfl rfl (Or.inr (congrArg some g19)) (Cl.mono H (Nat.le_refl _) (fun r18 h17 H => ?_))
    obtain ⟨x20, rfl, H⟩ := H
    refine ev_p (pc' := 31) (loc' := [.ref a0, .int i1]) (st' := [.int x20]) 1 am_q159 rfl ?_
    exact ev_r (v := some (.int x20)) am_q159 rfl rfl rfl rfl H
/-! 160: X11_placeInOrder -/
theorem am_q160 : (am_mt 160).2.2.2.2.2 = am_m160.2.2.2.2.2 := rfl
set_option maxRecDepth 20000 in
set_option maxHeartbeats 2000000 in
theorem wp160 {d : Nat} (a0 : Nat) (i1 : Int32) (i2 : Int32) (i3 : Int32) {h : AH} {Q : Option Value → AH → Prop} (H : am_kd h a0 = 11 ∧ Cl d 161 [.ref a0, .int i1, .int i3] h (fun r2 h1 => ∃ x4, r2 = some (.int x4) ∧ (i2 < (0 : Int32) → Q (some (.int (-1 : Int32))) h1) ∧ (¬ i2 < (0 : Int32) → Cl d 262 [.int x4] h1 (fun r6 h5 => ∃ x7, r6 = some (.int x7) ∧ (i2 < x7 → Ev (d + 1) 160 26 [.ref a0, .null, .int i2, .null, .int x4, .int (0 : Int32)] [] h5 Q) ∧ (¬ i2 < x7 → Q (some (.int (-1 : Int32))) h5))))) : Cl (d + 1) 160 [.ref a0, .int i1, .int i2, .int i3] h Q := by
  show Ev (d + 1) 160 0 [.ref a0, .int i1, .int i2, .int i3, .null, .null] [] h Q
  refine ev_p (pc' := 3) (loc' := [.ref a0, .int i1, .int i2, .int i3, .null, .null]) (st' := [.int i3, .int i1, .ref a0]) 3 am_q160 rfl ?_
  obtain ⟨g3, H⟩ := H
  refine ev_c (vs := [.ref a0, .int i1, .int i3]) (rest := []) 161 am_q160 rfl rfl rfl rfl rfl rfl rfl rfl rfl rfl rfl rfl (Or.inr (congrArg some g3)) (Cl.mono H (Nat.le_refl _) (fun r2 h1 H => ?_))
  obtain ⟨x4, rfl, H⟩ := H
  refine ev_p (pc' := 9) (loc' := [.ref a0, .int i1, .int i2, .int i3, .int x4, .null]) (st' := [.int i2]) 2 am_q160 rfl ?_
  refine ev_jz (t := 21) am_q160 rfl rfl (fun hq => ?_) (fun hq => ?_)
  · replace H := H.1 hq
    refine ev_p (pc' := 22) (loc' := [.null, .null, .null, .null, .null, .null]) (st' := [.int (-1 : Int32)]) 1 am_q160 rfl ?_
    exact ev_r (v := some (.int (-1 : Int32))) am_q160 rfl rfl rfl rfl H
  · replace H := H.2 hq
    refine ev_p (pc' := 15) (loc' := [.ref a0, .int i1, .int i2, .int i3, .int x4, .null]) (st' := [.int x4, .int i2]) 2 am_q160 rfl ?_
    refine ev_c (vs := [.int x4]) (rest := [.int i2]) 262 am_q160 rfl rfl rfl rfl rfl rfl rfl rfl rfl rfl rfl rfl (Or.inl rfl) (Cl.mono H (Nat.le_refl _) (fun r6 h5 H => ?_))
    obtain ⟨x7, rfl, H⟩ := H
    refine ev_jc (t := 23) am_q160 rfl rfl (fun hq => ?_) (fun hq => ?_)
    · replace H := H.1 hq
      refine ev_p (pc' := 26) (loc' := [.ref a0, .int i1, .int i2, .int i3, .int x4, .int (0 : Int32)]) (st' := []) 2 am_q160 rfl ?_
      exact ev_m (loc' := [.ref a0, .null, .int i2, .null, .int x4, .int (0 : Int32)]) am_q160 rfl rfl H
    · replace H := H.2 hq
      refine ev_p (pc' := 22) (loc' := [.null, .null, .null, .null, .null, .null]) (st' := [.int (-1 : Int32)]) 1 am_q160 rfl ?_
      exact ev_r (v := some (.int (-1 : Int32))) am_q160 rfl rfl rfl rfl H
set_option maxRecDepth 20000 in
set_option maxHeartbeats 2000000 in
theorem wp160_26 {d : Nat} (a0 : Nat) (i2 : Int32) (i4 : Int32) (i5 : Int32) {h : AH} {Q : Option Value → AH → Prop} (H : (i2 ≤ i5 → am_kd h a0 = 11 ∧ Cl d 162 [.ref a0, .int i4] h (fun r2 h1 => ∃ x4, r2 = some (.int x4) ∧ Q (some (.int x4)) h1)) ∧ (¬ i2 ≤ i5 → am_kd h a0 = 11 ∧ Cl d 162 [.ref a0, .int i4] h (fun r6 h5 => ∃ x8, r6 = some (.int x8) ∧ Ev (d + 1) 160 26 [.ref a0, .null, .int i2, .null, .int (i4 &&& (((1 : Int32) <<< (x8 &&& 31)) ^^^ (-1 : Int32))), .int (i5 + (1 : Int32))] [] h5 Q))) : Ev (d + 1) 160 26 [.ref a0, .null, .int i2, .null, .int i4, .int i5] [] h Q := by
  refine ev_p (pc' := 29) (loc' := [.ref a0, .null, .int i2, .null, .int i4, .int i5]) (st' := [.int i2, .int i5]) 2 am_q160 rfl ?_
  refine ev_jc (t := 53) am_q160 rfl rfl (fun hq => ?_) (fun hq => ?_)
  · replace H := H.1 hq
    refine ev_p (pc' := 56) (loc' := [.ref a0, .null, .int i2, .null, .int i4, .int i5]) (st' := [.int i4, .ref a0]) 2 am_q160 rfl ?_
    obtain ⟨g3, H⟩ := H
    refine ev_c (vs := [.ref a0, .int i4]) (rest := []) 162 am_q160 rfl rfl rfl rfl rfl rfl rfl rfl rfl rfl rfl rfl (Or.inr (congrArg some g3)) (Cl.mono H (Nat.le_refl _) (fun r2 h1 H => ?_))
    obtain ⟨x4, rfl, H⟩ := H
    exact ev_r (v := some (.int x4)) am_q160 rfl rfl rfl rfl H
  · replace H := H.2 hq
    refine ev_p (pc' := 38) (loc' := [.ref a0, .null, .int i2, .null, .int i4, .int i5]) (st' := [.int i4, .ref a0, .int (1 : Int32), .int i4]) 4 am_q160 rfl ?_
    obtain ⟨g7, H⟩ := H
    refine ev_c (vs := [.ref a0, .int i4]) (rest := [.int (1 : Int32), .int i4]) 162 am_q160 rfl rfl rfl rfl rfl rfl rfl rfl rfl rfl rfl rfl (Or.inr (congrArg some g7)) (Cl.mono H (Nat.le_refl _) (fun r6 h5 H => ?_))
    obtain ⟨x8, rfl, H⟩ := H
    refine ev_p (pc' := 26) (loc' := [.ref a0, .null, .int i2, .null, .int (i4 &&& (((1 : Int32) <<< (x8 &&& 31)) ^^^ (-1 : Int32))), .int (i5 + (1 : Int32))]) (st' := []) 7 am_q160 rfl ?_
    exact ev_m (loc' := [.ref a0, .null, .int i2, .null, .int (i4 &&& (((1 : Int32) <<< (x8 &&& 31)) ^^^ (-1 : Int32))), .int (i5 + (1 : Int32))]) am_q160 rfl rfl H
/-! 161: X11_queueFor -/
theorem am_q161 : (am_mt 161).2.2.2.2.2 = am_m161.2.2.2.2.2 := rfl
set_option maxRecDepth 20000 in
set_option maxHeartbeats 2000000 in
theorem wp161 {d : Nat} (a0 : Nat) (i1 : Int32) (i2 : Int32) {h : AH} {Q : Option Value → AH → Prop} (H : am_kd h a0 = 11 ∧ ∃ b2, am_gr h a0 8 = some b2 ∧ am_kd h a0 = 11 ∧ am_kd h a0 = 11 ∧ Cl d 154 [.ref a0, .int (am_gi h a0 0)] h (fun r6 h5 => ∃ x8, r6 = some (.int x8) ∧ (104 ≤ am_kd h5 b2 ∧ am_kd h5 b2 ≤ 109) ∧ am_in x8 (am_ln h5 b2) ∧ ∃ b11, am_gr h5 b2 (Int32.toNatClampNeg x8) = some b11 ∧ am_kd h5 a0 = 11 ∧ Cl d 158 [.ref a0, .int i1] h5 (fun r14 h13 => r14 = none ∧ Ev (d + 1) 161 25 [.ref a0, .null, .int i2, .ref b11, .int (0 : Int32), .int (0 : Int32)] [] h13 Q))) : Cl (d + 1) 161 [.ref a0, .int i1, .int i2] h Q := by
  show Ev (d + 1) 161 0 [.ref a0, .int i1, .int i2, .null, .null, .null] [] h Q
  refine ev_p (pc' := 1) (loc' := [.ref a0, .int i1, .int i2, .null, .null, .null]) (st' := [.ref a0]) 1 am_q161 rfl ?_
  obtain ⟨g1, b2, e3, H⟩ := H
  refine ev_s (pc' := 4) (loc' := [.ref a0, .int i1, .int i2, .null, .null, .null]) (st' := [.ref b2]) (h1 := h) am_q161 rfl rfl rfl (am_gf2 g1 e3) ?_
  refine ev_p (pc' := 6) (loc' := [.ref a0, .int i1, .int i2, .null, .null, .null]) (st' := [.ref a0, .ref a0, .ref b2]) 2 am_q161 rfl ?_
  obtain ⟨g4, H⟩ := H
  refine ev_s (pc' := 9) (loc' := [.ref a0, .int i1, .int i2, .null, .null, .null]) (st' := [.int (am_gi h a0 0), .ref a0, .ref b2]) (h1 := h) am_q161 rfl rfl rfl (if_pos (e := none) g4) ?_
  obtain ⟨g7, H⟩ := H
  refine ev_c (vs := [.ref a0, .int (am_gi h a0 0)]) (rest := [.ref b2]) 154 am_q161 rfl rfl rfl rfl rfl rfl rfl rfl rfl rfl rfl rfl (Or.inr (congrArg some g7)) (Cl.mono H (Nat.le_refl _) (fun r6 h5 H => ?_))
  obtain ⟨x8, rfl, H⟩ := H
  obtain ⟨g9, g10, b11, e12, H⟩ := H
  refine ev_s (pc' := 13) (loc' := [.ref a0, .int i1, .int i2, .null, .null, .null]) (st' := [.ref b11]) (h1 := h5) am_q161 rfl rfl rfl (am_xa g9 g10 e12) ?_
  refine ev_p (pc' := 19) (loc' := [.ref a0, .int i1, .int i2, .ref b11, .int (0 : Int32), .null]) (st' := [.int i1, .ref a0]) 5 am_q161 rfl ?_
  obtain ⟨g15, H⟩ := H
  refine ev_c (vs := [.ref a0, .int i1]) (rest := []) 158 am_q161 rfl rfl rfl rfl rfl rfl rfl rfl rfl rfl rfl rfl (Or.inr (congrArg some g15)) (Cl.mono H (Nat.le_refl _) (fun r14 h13 H => ?_))
  obtain ⟨rfl, H⟩ := H
  refine ev_p (pc' := 25) (loc' := [.ref a0, .int i1, .int i2, .ref b11, .int (0 : Int32), .int (0 : Int32)]) (st' := []) 2 am_q161 rfl ?_
  exact ev_m (loc' := [.ref a0, .null, .int i2, .ref b11, .int (0 : Int32), .int (0 : Int32)]) am_q161 rfl rfl H
set_option maxRecDepth 20000 in
set_option maxHeartbeats 2000000 in
theorem wp161_25 {d : Nat} (a0 : Nat) (i2 : Int32) (a3 : Nat) (i4 : Int32) (i5 : Int32) {h : AH} {Q : Option Value → AH → Prop} (H : am_kd h a0 = 11 ∧ ((am_gi h a0 4) ≤ i5 → Q (some (.int i4)) h) ∧ (¬ (am_gi h a0 4) ≤ i5 → am_kd h a0 = 11 ∧ ∃ b3, am_gr h a0 3 = some b3 ∧ (104 ≤ am_kd h b3 ∧ am_kd h b3 ≤ 109) ∧ am_in i5 (am_ln h b3) ∧ ∃ b7, am_gr h b3 (Int32.toNatClampNeg i5) = some b7 ∧ am_kd h b7 = 3 ∧ Cl d 23 [.ref b7] h (fun r10 h9 => ∃ x12, r10 = some (.int x12) ∧ (x12 = (0 : Int32) → Ev (d + 1) 161 25 [.ref a0, .null, .int i2, .ref a3, .int i4, .int (i5 + (1 : Int32))] [] h9 Q) ∧ (¬ x12 = (0 : Int32) → (((i2 >>> (i5 &&& 31)) &&& (1 : Int32)) = (0 : Int32) → am_kd h9 a0 = 11 ∧ Cl d 157 [.ref a0, .int i5] h9 (fun r14 h13 => r14 = none ∧ am_kd h13 a0 = 11 ∧ ∃ b17, am_gr h13 a0 7 = some b17 ∧ am_kd h13 b17 = 8 ∧ Cl d 70 [.ref b17, .ref a3, .int (1 : Int32)] h13 (fun r20 h19 => ∃ y22, r20 = some (.long y22) ∧ ((lg_cmp y22 (0 : Int64)) = (0 : Int32) → Ev (d + 1) 161 25 [.ref a0, .null, .int i2, .ref a3, .int i4, .int (i5 + (1 : Int32))] [] h19 Q) ∧ (¬ (lg_cmp y22 (0 : Int64)) = (0 : Int32) → am_kd h19 a0 = 11 ∧ ∃ b24, am_gr h19 a0 13 = some b24 ∧ am_kd h19 a0 = 11 ∧ ∃ b27, am_gr h19 a0 7 = some b27 ∧ am_kd h19 b27 = 8 ∧ Cl d 70 [.ref b27, .ref a3, .int (0 : Int32)] h19 (fun r30 h29 => ∃ y32, r30 = some (.long y32) ∧ am_kd h29 b24 = 101 ∧ am_in i5 (am_ln h29 b24) ∧ ∀ h35, h35 = am_sl h29 b24 (Int32.toNatClampNeg i5) y32 → Ev (d + 1) 161 25 [.ref a0, .null, .int i2, .ref a3, .int (i4 ||| ((1 : Int32) <<< (i5 &&& 31))), .int (i5 + (1 : Int32))] [] h35 Q))))) ∧ (¬ ((i2 >>> (i5 &&& 31)) &&& (1 : Int32)) = (0 : Int32) → Ev (d + 1) 161 25 [.ref a0, .null, .int i2, .ref a3, .int i4, .int (i5 + (1 : Int32))] [] h9 Q))))) : Ev (d + 1) 161 25 [.ref a0, .null, .int i2, .ref a3, .int i4, .int i5] [] h Q := by
  refine ev_p (pc' := 28) (loc' := [.ref a0, .null, .int i2, .ref a3, .int i4, .int i5]) (st' := [.ref a0, .int i5]) 2 am_q161 rfl ?_
  obtain ⟨g1, H⟩ := H
  refine ev_s (pc' := 31) (loc' := [.ref a0, .null, .int i2, .ref a3, .int i4, .int i5]) (st' := [.int (am_gi h a0 4), .int i5]) (h1 := h) am_q161 rfl rfl rfl (if_pos (e := none) g1) ?_
  refine ev_jc (t := 110) am_q161 rfl rfl (fun hq => ?_) (fun hq => ?_)
  · replace H := H.1 hq
    refine ev_p (pc' := 112) (loc' := [.ref a0, .null, .int i2, .ref a3, .int i4, .int i5]) (st' := [.int i4]) 1 am_q161 rfl ?_
    exact ev_r (v := some (.int i4)) am_q161 rfl rfl rfl rfl H
  · replace H := H.2 hq
    refine ev_p (pc' := 35) (loc' := [.ref a0, .null, .int i2, .ref a3, .int i4, .int i5]) (st' := [.ref a0]) 1 am_q161 rfl ?_
    obtain ⟨g2, b3, e4, H⟩ := H
    refine ev_s (pc' := 38) (loc' := [.ref a0, .null, .int i2, .ref a3, .int i4, .int i5]) (st' := [.ref b3]) (h1 := h) am_q161 rfl rfl rfl (am_gf2 g2 e4) ?_
    refine ev_p (pc' := 40) (loc' := [.ref a0, .null, .int i2, .ref a3, .int i4, .int i5]) (st' := [.int i5, .ref b3]) 1 am_q161 rfl ?_
    obtain ⟨g5, g6, b7, e8, H⟩ := H
    refine ev_s (pc' := 41) (loc' := [.ref a0, .null, .int i2, .ref a3, .int i4, .int i5]) (st' := [.ref b7]) (h1 := h) am_q161 rfl rfl rfl (am_xa g5 g6 e8) ?_
    obtain ⟨g11, H⟩ := H
    refine ev_c (vs := [.ref b7]) (rest := []) 23 am_q161 rfl rfl rfl rfl rfl rfl rfl rfl rfl rfl rfl rfl (Or.inr (congrArg some g11)) (Cl.mono H (Nat.le_refl _) (fun r10 h9 H => ?_))
    obtain ⟨x12, rfl, H⟩ := H
    refine ev_jz (t := 104) am_q161 rfl rfl (fun hq => ?_) (fun hq => ?_)
    · replace H := H.1 hq
      refine ev_p (pc' := 25) (loc' := [.ref a0, .null, .int i2, .ref a3, .int i4, .int (i5 + (1 : Int32))]) (st' := []) 2 am_q161 rfl ?_
      exact ev_m (loc' := [.ref a0, .null, .int i2, .ref a3, .int i4, .int (i5 + (1 : Int32))]) am_q161 rfl rfl H
    · replace H := H.2 hq
      refine ev_p (pc' := 53) (loc' := [.ref a0, .null, .int i2, .ref a3, .int i4, .int i5]) (st' := [.int ((i2 >>> (i5 &&& 31)) &&& (1 : Int32))]) 5 am_q161 rfl ?_
      refine ev_jz (t := 59) am_q161 rfl rfl (fun hq => ?_) (fun hq => ?_)
      · replace H := H.1 hq
        refine ev_p (pc' := 62) (loc' := [.ref a0, .null, .int i2, .ref a3, .int i4, .int i5]) (st' := [.int i5, .ref a0]) 2 am_q161 rfl ?_
        obtain ⟨g15, H⟩ := H
        refine ev_c (vs := [.ref a0, .int i5]) (rest := []) 157 am_q161 rfl rfl rfl rfl rfl rfl rfl rfl rfl rfl rfl rfl (Or.inr (congrArg some g15)) (Cl.mono H (Nat.le_refl _) (fun r14 h13 H => ?_))
        obtain ⟨rfl, H⟩ := H
        refine ev_p (pc' := 66) (loc' := [.ref a0, .null, .int i2, .ref a3, .int i4, .int i5]) (st' := [.ref a0]) 1 am_q161 rfl ?_
        obtain ⟨g16, b17, e18, H⟩ := H
        refine ev_s (pc' := 69) (loc' := [.ref a0, .null, .int i2, .ref a3, .int i4, .int i5]) (st' := [.ref b17]) (h1 := h13) am_q161 rfl rfl rfl (am_gf2 g16 e18) ?_
        refine ev_p (pc' := 71) (loc' := [.ref a0, .null, .int i2, .ref a3, .int i4, .int i5]) (st' := [.int (1 : Int32), .ref a3, .ref b17]) 2 am_q161 rfl ?_
        obtain ⟨g21, H⟩ := H
        refine ev_c (vs := [.ref b17, .ref a3, .int (1 : Int32)]) (rest := []) 70 am_q161 rfl rfl rfl rfl rfl rfl rfl rfl rfl rfl rfl rfl (Or.inr (congrArg some g21)) (Cl.mono H (Nat.le_refl _) (fun r20 h19 H => ?_))
        obtain ⟨y22, rfl, H⟩ := H
        refine ev_p (pc' := 76) (loc' := [.ref a0, .null, .int i2, .ref a3, .int i4, .int i5]) (st' := [.int (lg_cmp y22 (0 : Int64))]) 2 am_q161 rfl ?_
        refine ev_jz (t := 104) am_q161 rfl rfl (fun hq => ?_) (fun hq => ?_)
        · replace H := H.1 hq
          refine ev_p (pc' := 25) (loc' := [.ref a0, .null, .int i2, .ref a3, .int i4, .int (i5 + (1 : Int32))]) (st' := []) 2 am_q161 rfl ?_
          exact ev_m (loc' := [.ref a0, .null, .int i2, .ref a3, .int i4, .int (i5 + (1 : Int32))]) am_q161 rfl rfl H
        · replace H := H.2 hq
          refine ev_p (pc' := 80) (loc' := [.ref a0, .null, .int i2, .ref a3, .int i4, .int i5]) (st' := [.ref a0]) 1 am_q161 rfl ?_
          obtain ⟨g23, b24, e25, H⟩ := H
          refine ev_s (pc' := 83) (loc' := [.ref a0, .null, .int i2, .ref a3, .int i4, .int i5]) (st' := [.ref b24]) (h1 := h19) am_q161 rfl rfl rfl (am_gf2 g23 e25) ?_
          refine ev_p (pc' := 86) (loc' := [.ref a0, .null, .int i2, .ref a3, .int i4, .int i5]) (st' := [.ref a0, .int i5, .ref b24]) 2 am_q161 rfl ?_
          obtain ⟨g26, b27, e28, H⟩ := H
          refine ev_s (pc' := 89) (loc' := [.ref a0, .null, .int i2, .ref a3, .int i4, .int i5]) (st' := [.ref b27, .int i5, .ref b24]) (h1 := h19) am_q161 rfl rfl rfl (am_gf2 g26 e28) ?_
          refine ev_p (pc' := 91) (loc' := [.ref a0, .null, .int i2, .ref a3, .int i4, .int i5]) (st' := [.int (0 : Int32), .ref a3, .ref b27, .int i5, .ref b24]) 2 am_q161 rfl ?_
          obtain ⟨g31, H⟩ := H
          refine ev_c (vs := [.ref b27, .ref a3, .int (0 : Int32)]) (rest := [.int i5, .ref b24]) 70 am_q161 rfl rfl rfl rfl rfl rfl rfl rfl rfl rfl rfl rfl (Or.inr (congrArg some g31)) (Cl.mono H (Nat.le_refl _) (fun r30 h29 H => ?_))
          obtain ⟨y32, rfl, H⟩ := H
          obtain ⟨g33, g34, H⟩ := H
          refine ev_s (pc' := 95) (loc' := [.ref a0, .null, .int i2, .ref a3, .int i4, .int i5]) (st' := []) (h1 := am_sl h29 b24 (Int32.toNatClampNeg i5) y32) am_q161 rfl rfl rfl (am_xx g33 g34) ?_
          replace H := H _ rfl
          generalize am_sl h29 b24 (Int32.toNatClampNeg i5) y32 = h35 at H ⊢
          refine ev_p (pc' := 25) (loc' := [.ref a0, .null, .int i2, .ref a3, .int (i4 ||| ((1 : Int32) <<< (i5 &&& 31))), .int (i5 + (1 : Int32))]) (st' := []) 8 am_q161 rfl ?_
          exact ev_m (loc' := [.ref a0, .null, .int i2, .ref a3, .int (i4 ||| ((1 : Int32) <<< (i5 &&& 31))), .int (i5 + (1 : Int32))]) am_q161 rfl rfl H
      · replace H := H.2 hq
        refine ev_p (pc' := 25) (loc' := [.ref a0, .null, .int i2, .ref a3, .int i4, .int (i5 + (1 : Int32))]) (st' := []) 3 am_q161 rfl ?_
        exact ev_m (loc' := [.ref a0, .null, .int i2, .ref a3, .int i4, .int (i5 + (1 : Int32))]) am_q161 rfl rfl H
/-! 162: X11_firstOf -/
theorem am_q162 : (am_mt 162).2.2.2.2.2 = am_m162.2.2.2.2.2 := rfl
set_option maxRecDepth 20000 in
set_option maxHeartbeats 2000000 in
theorem wp162 {d : Nat} (a0 : Nat) (i1 : Int32) {h : AH} {Q : Option Value → AH → Prop} (H : Ev (d + 1) 162 4 [.ref a0, .int i1, .int (-1 : Int32), .int (0 : Int32)] [] h Q) : Cl (d + 1) 162 [.ref a0, .int i1] h Q := by
  show Ev (d + 1) 162 0 [.ref a0, .int i1, .null, .null] [] h Q
  refine ev_p (pc' := 4) (loc' := [.ref a0, .int i1, .int (-1 : Int32), .int (0 : Int32)]) (st' := []) 4 am_q162 rfl ?_
  exact ev_m (loc' := [.ref a0, .int i1, .int (-1 : Int32), .int (0 : Int32)]) am_q162 rfl rfl H
set_option maxRecDepth 20000 in
set_option maxHeartbeats 2000000 in
theorem wp162_4 {d : Nat} (a0 : Nat) (i1 : Int32) (i2 : Int32) (i3 : Int32) {h : AH} {Q : Option Value → AH → Prop} (H : am_kd h a0 = 11 ∧ ((am_gi h a0 4) ≤ i3 → Q (some (.int i2)) h) ∧ (¬ (am_gi h a0 4) ≤ i3 → (((i1 >>> (i3 &&& 31)) &&& (1 : Int32)) = (0 : Int32) → Ev (d + 1) 162 4 [.ref a0, .int i1, .int i2, .int (i3 + (1 : Int32))] [] h Q) ∧ (¬ ((i1 >>> (i3 &&& 31)) &&& (1 : Int32)) = (0 : Int32) → (i2 = (-1 : Int32) → Ev (d + 1) 162 4 [.ref a0, .int i1, .int i3, .int (i3 + (1 : Int32))] [] h Q) ∧ (¬ i2 = (-1 : Int32) → am_kd h a0 = 11 ∧ Cl d 163 [.ref a0, .int i3, .int i2] h (fun r3 h2 => ∃ x5, r3 = some (.int x5) ∧ (x5 = (0 : Int32) → Ev (d + 1) 162 4 [.ref a0, .int i1, .int i2, .int (i3 + (1 : Int32))] [] h2 Q) ∧ (¬ x5 = (0 : Int32) → Ev (d + 1) 162 4 [.ref a0, .int i1, .int i3, .int (i3 + (1 : Int32))] [] h2 Q)))))) : Ev (d + 1) 162 4 [.ref a0, .int i1, .int i2, .int i3] [] h Q := by
  refine ev_p (pc' := 6) (loc' := [.ref a0, .int i1, .int i2, .int i3]) (st' := [.ref a0, .int i3]) 2 am_q162 rfl ?_
  obtain ⟨g1, H⟩ := H
  refine ev_s (pc' := 9) (loc' := [.ref a0, .int i1, .int i2, .int i3]) (st' := [.int (am_gi h a0 4), .int i3]) (h1 := h) am_q162 rfl rfl rfl (if_pos (e := none) g1) ?_
  refine ev_jc (t := 42) am_q162 rfl rfl (fun hq => ?_) (fun hq => ?_)
  · replace H := H.1 hq
    refine ev_p (pc' := 43) (loc' := [.ref a0, .int i1, .int i2, .int i3]) (st' := [.int i2]) 1 am_q162 rfl ?_
    exact ev_r (v := some (.int i2)) am_q162 rfl rfl rfl rfl H
  · replace H := H.2 hq
    refine ev_p (pc' := 17) (loc' := [.ref a0, .int i1, .int i2, .int i3]) (st' := [.int ((i1 >>> (i3 &&& 31)) &&& (1 : Int32))]) 5 am_q162 rfl ?_
    refine ev_jz (t := 36) am_q162 rfl rfl (fun hq => ?_) (fun hq => ?_)
    · replace H := H.1 hq
      refine ev_p (pc' := 4) (loc' := [.ref a0, .int i1, .int i2, .int (i3 + (1 : Int32))]) (st' := []) 2 am_q162 rfl ?_
      exact ev_m (loc' := [.ref a0, .int i1, .int i2, .int (i3 + (1 : Int32))]) am_q162 rfl rfl H
    · replace H := H.2 hq
      refine ev_p (pc' := 22) (loc' := [.ref a0, .int i1, .int i2, .int i3]) (st' := [.int (-1 : Int32), .int i2]) 2 am_q162 rfl ?_
      refine ev_jc (t := 34) am_q162 rfl rfl (fun hq => ?_) (fun hq => ?_)
      · replace H := H.1 hq
        refine ev_p (pc' := 4) (loc' := [.ref a0, .int i1, .int i3, .int (i3 + (1 : Int32))]) (st' := []) 4 am_q162 rfl ?_
        exact ev_m (loc' := [.ref a0, .int i1, .int i3, .int (i3 + (1 : Int32))]) am_q162 rfl rfl H
      · replace H := H.2 hq
        refine ev_p (pc' := 28) (loc' := [.ref a0, .int i1, .int i2, .int i3]) (st' := [.int i2, .int i3, .ref a0]) 3 am_q162 rfl ?_
        obtain ⟨g4, H⟩ := H
        refine ev_c (vs := [.ref a0, .int i3, .int i2]) (rest := []) 163 am_q162 rfl rfl rfl rfl rfl rfl rfl rfl rfl rfl rfl rfl (Or.inr (congrArg some g4)) (Cl.mono H (Nat.le_refl _) (fun r3 h2 H => ?_))
        obtain ⟨x5, rfl, H⟩ := H
        refine ev_jz (t := 36) am_q162 rfl rfl (fun hq => ?_) (fun hq => ?_)
        · replace H := H.1 hq
          refine ev_p (pc' := 4) (loc' := [.ref a0, .int i1, .int i2, .int (i3 + (1 : Int32))]) (st' := []) 2 am_q162 rfl ?_
          exact ev_m (loc' := [.ref a0, .int i1, .int i2, .int (i3 + (1 : Int32))]) am_q162 rfl rfl H
        · replace H := H.2 hq
          refine ev_p (pc' := 4) (loc' := [.ref a0, .int i1, .int i3, .int (i3 + (1 : Int32))]) (st' := []) 4 am_q162 rfl ?_
          exact ev_m (loc' := [.ref a0, .int i1, .int i3, .int (i3 + (1 : Int32))]) am_q162 rfl rfl H
/-! 163: X11_goesAhead -/
theorem am_q163 : (am_mt 163).2.2.2.2.2 = am_m163.2.2.2.2.2 := rfl
set_option maxRecDepth 20000 in
set_option maxHeartbeats 2000000 in
theorem wp163 {d : Nat} (a0 : Nat) (i1 : Int32) (i2 : Int32) {h : AH} {Q : Option Value → AH → Prop} (H : am_kd h a0 = 11 ∧ ∃ b2, am_gr h a0 13 = some b2 ∧ am_kd h b2 = 101 ∧ am_in i1 (am_ln h b2) ∧ am_kd h a0 = 11 ∧ ∃ b7, am_gr h a0 13 = some b7 ∧ am_kd h b7 = 101 ∧ am_in i2 (am_ln h b7) ∧ ((lg_cmp (am_gl h b2 (Int32.toNatClampNeg i1)) (am_gl h b7 (Int32.toNatClampNeg i2))) = (0 : Int32) → am_kd h a0 = 11 ∧ ∃ b12, am_gr h a0 3 = some b12 ∧ (104 ≤ am_kd h b12 ∧ am_kd h b12 ≤ 109) ∧ am_in i1 (am_ln h b12) ∧ ∃ b16, am_gr h b12 (Int32.toNatClampNeg i1) = some b16 ∧ am_kd h b16 = 3 ∧ am_kd h a0 = 11 ∧ ∃ b20, am_gr h a0 3 = some b20 ∧ (104 ≤ am_kd h b20 ∧ am_kd h b20 ≤ 109) ∧ am_in i2 (am_ln h b20) ∧ ∃ b24, am_gr h b20 (Int32.toNatClampNeg i2) = some b24 ∧ am_kd h b24 = 3 ∧ ((am_gi h b24 3) ≤ (am_gi h b16 3) → Q (some (.int (0 : Int32))) h) ∧ (¬ (am_gi h b24 3) ≤ (am_gi h b16 3) → Q (some (.int (1 : Int32))) h)) ∧ (¬ (lg_cmp (am_gl h b2 (Int32.toNatClampNeg i1)) (am_gl h b7 (Int32.toNatClampNeg i2))) = (0 : Int32) → am_kd h a0 = 11 ∧ ∃ b28, am_gr h a0 13 = some b28 ∧ am_kd h b28 = 101 ∧ am_in i1 (am_ln h b28) ∧ am_kd h a0 = 11 ∧ ∃ b33, am_gr h a0 13 = some b33 ∧ am_kd h b33 = 101 ∧ am_in i2 (am_ln h b33) ∧ ((lg_cmp (am_gl h b28 (Int32.toNatClampNeg i1)) (am_gl h b33 (Int32.toNatClampNeg i2))) ≤ (0 : Int32) → Q (some (.int (0 : Int32))) h) ∧ (¬ (lg_cmp (am_gl h b28 (Int32.toNatClampNeg i1)) (am_gl h b33 (Int32.toNatClampNeg i2))) ≤ (0 : Int32) → Q (some (.int (1 : Int32))) h))) : Cl d 163 [.ref a0, .int i1, .int i2] h Q := by
  show Ev d 163 0 [.ref a0, .int i1, .int i2] [] h Q
  refine ev_p (pc' := 1) (loc' := [.ref a0, .int i1, .int i2]) (st' := [.ref a0]) 1 am_q163 rfl ?_
  obtain ⟨g1, b2, e3, H⟩ := H
  refine ev_s (pc' := 4) (loc' := [.ref a0, .int i1, .int i2]) (st' := [.ref b2]) (h1 := h) am_q163 rfl rfl rfl (am_gf2 g1 e3) ?_
  refine ev_p (pc' := 5) (loc' := [.ref a0, .int i1, .int i2]) (st' := [.int i1, .ref b2]) 1 am_q163 rfl ?_
  obtain ⟨g4, g5, H⟩ := H
  refine ev_s (pc' := 6) (loc' := [.ref a0, .int i1, .int i2]) (st' := [.long (am_gl h b2 (Int32.toNatClampNeg i1))]) (h1 := h) am_q163 rfl rfl rfl (am_xx g4 g5) ?_
  refine ev_p (pc' := 7) (loc' := [.ref a0, .int i1, .int i2]) (st' := [.ref a0, .long (am_gl h b2 (Int32.toNatClampNeg i1))]) 1 am_q163 rfl ?_
  obtain ⟨g6, b7, e8, H⟩ := H
  refine ev_s (pc' := 10) (loc' := [.ref a0, .int i1, .int i2]) (st' := [.ref b7, .long (am_gl h b2 (Int32.toNatClampNeg i1))]) (h1 := h) am_q163 rfl rfl rfl (am_gf2 g6 e8) ?_
  refine ev_p (pc' := 11) (loc' := [.ref a0, .int i1, .int i2]) (st' := [.int i2, .ref b7, .long (am_gl h b2 (Int32.toNatClampNeg i1))]) 1 am_q163 rfl ?_
  obtain ⟨g9, g10, H⟩ := H
  refine ev_s (pc' := 12) (loc' := [.ref a0, .int i1, .int i2]) (st' := [.long (am_gl h b7 (Int32.toNatClampNeg i2)), .long (am_gl h b2 (Int32.toNatClampNeg i1))]) (h1 := h) am_q163 rfl rfl rfl (am_xx g9 g10) ?_
  refine ev_p (pc' := 13) (loc' := [.ref a0, .int i1, .int i2]) (st' := [.int (lg_cmp (am_gl h b2 (Int32.toNatClampNeg i1)) (am_gl h b7 (Int32.toNatClampNeg i2)))]) 1 am_q163 rfl ?_
  refine ev_jz (t := 38) am_q163 rfl rfl (fun hq => ?_) (fun hq => ?_)
  · replace H := H.1 hq
    refine ev_p (pc' := 39) (loc' := [.ref a0, .int i1, .int i2]) (st' := [.ref a0]) 1 am_q163 rfl ?_
    obtain ⟨g11, b12, e13, H⟩ := H
    refine ev_s (pc' := 42) (loc' := [.ref a0, .int i1, .int i2]) (st' := [.ref b12]) (h1 := h) am_q163 rfl rfl rfl (am_gf2 g11 e13) ?_
    refine ev_p (pc' := 43) (loc' := [.ref a0, .int i1, .int i2]) (st' := [.int i1, .ref b12]) 1 am_q163 rfl ?_
    obtain ⟨g14, g15, b16, e17, H⟩ := H
    refine ev_s (pc' := 44) (loc' := [.ref a0, .int i1, .int i2]) (st' := [.ref b16]) (h1 := h) am_q163 rfl rfl rfl (am_xa g14 g15 e17) ?_
    obtain ⟨g18, H⟩ := H
    refine ev_s (pc' := 47) (loc' := [.ref a0, .int i1, .int i2]) (st' := [.int (am_gi h b16 3)]) (h1 := h) am_q163 rfl rfl rfl (if_pos (e := none) g18) ?_
    refine ev_p (pc' := 48) (loc' := [.ref a0, .int i1, .int i2]) (st' := [.ref a0, .int (am_gi h b16 3)]) 1 am_q163 rfl ?_
    obtain ⟨g19, b20, e21, H⟩ := H
    refine ev_s (pc' := 51) (loc' := [.ref a0, .int i1, .int i2]) (st' := [.ref b20, .int (am_gi h b16 3)]) (h1 := h) am_q163 rfl rfl rfl (am_gf2 g19 e21) ?_
    refine ev_p (pc' := 52) (loc' := [.ref a0, .int i1, .int i2]) (st' := [.int i2, .ref b20, .int (am_gi h b16 3)]) 1 am_q163 rfl ?_
    obtain ⟨g22, g23, b24, e25, H⟩ := H
    refine ev_s (pc' := 53) (loc' := [.ref a0, .int i1, .int i2]) (st' := [.ref b24, .int (am_gi h b16 3)]) (h1 := h) am_q163 rfl rfl rfl (am_xa g22 g23 e25) ?_
    obtain ⟨g26, H⟩ := H
    refine ev_s (pc' := 56) (loc' := [.ref a0, .int i1, .int i2]) (st' := [.int (am_gi h b24 3), .int (am_gi h b16 3)]) (h1 := h) am_q163 rfl rfl rfl (if_pos (e := none) g26) ?_
    refine ev_jc (t := 63) am_q163 rfl rfl (fun hq => ?_) (fun hq => ?_)
    · replace H := H.1 hq
      refine ev_p (pc' := 64) (loc' := [.ref a0, .int i1, .int i2]) (st' := [.int (0 : Int32)]) 1 am_q163 rfl ?_
      exact ev_r (v := some (.int (0 : Int32))) am_q163 rfl rfl rfl rfl H
    · replace H := H.2 hq
      refine ev_p (pc' := 64) (loc' := [.ref a0, .int i1, .int i2]) (st' := [.int (1 : Int32)]) 2 am_q163 rfl ?_
      exact ev_r (v := some (.int (1 : Int32))) am_q163 rfl rfl rfl rfl H
  · replace H := H.2 hq
    refine ev_p (pc' := 17) (loc' := [.ref a0, .int i1, .int i2]) (st' := [.ref a0]) 1 am_q163 rfl ?_
    obtain ⟨g27, b28, e29, H⟩ := H
    refine ev_s (pc' := 20) (loc' := [.ref a0, .int i1, .int i2]) (st' := [.ref b28]) (h1 := h) am_q163 rfl rfl rfl (am_gf2 g27 e29) ?_
    refine ev_p (pc' := 21) (loc' := [.ref a0, .int i1, .int i2]) (st' := [.int i1, .ref b28]) 1 am_q163 rfl ?_
    obtain ⟨g30, g31, H⟩ := H
    refine ev_s (pc' := 22) (loc' := [.ref a0, .int i1, .int i2]) (st' := [.long (am_gl h b28 (Int32.toNatClampNeg i1))]) (h1 := h) am_q163 rfl rfl rfl (am_xx g30 g31) ?_
    refine ev_p (pc' := 23) (loc' := [.ref a0, .int i1, .int i2]) (st' := [.ref a0, .long (am_gl h b28 (Int32.toNatClampNeg i1))]) 1 am_q163 rfl ?_
    obtain ⟨g32, b33, e34, H⟩ := H
    refine ev_s (pc' := 26) (loc' := [.ref a0, .int i1, .int i2]) (st' := [.ref b33, .long (am_gl h b28 (Int32.toNatClampNeg i1))]) (h1 := h) am_q163 rfl rfl rfl (am_gf2 g32 e34) ?_
    refine ev_p (pc' := 27) (loc' := [.ref a0, .int i1, .int i2]) (st' := [.int i2, .ref b33, .long (am_gl h b28 (Int32.toNatClampNeg i1))]) 1 am_q163 rfl ?_
    obtain ⟨g35, g36, H⟩ := H
    refine ev_s (pc' := 28) (loc' := [.ref a0, .int i1, .int i2]) (st' := [.long (am_gl h b33 (Int32.toNatClampNeg i2)), .long (am_gl h b28 (Int32.toNatClampNeg i1))]) (h1 := h) am_q163 rfl rfl rfl (am_xx g35 g36) ?_
    refine ev_p (pc' := 29) (loc' := [.ref a0, .int i1, .int i2]) (st' := [.int (lg_cmp (am_gl h b28 (Int32.toNatClampNeg i1)) (am_gl h b33 (Int32.toNatClampNeg i2)))]) 1 am_q163 rfl ?_
    refine ev_jz (t := 36) am_q163 rfl rfl (fun hq => ?_) (fun hq => ?_)
    · replace H := H.1 hq
      refine ev_p (pc' := 37) (loc' := [.ref a0, .int i1, .int i2]) (st' := [.int (0 : Int32)]) 1 am_q163 rfl ?_
      exact ev_r (v := some (.int (0 : Int32))) am_q163 rfl rfl rfl rfl H
    · replace H := H.2 hq
      refine ev_p (pc' := 37) (loc' := [.ref a0, .int i1, .int i2]) (st' := [.int (1 : Int32)]) 2 am_q163 rfl ?_
      exact ev_r (v := some (.int (1 : Int32))) am_q163 rfl rfl rfl rfl H
/-! 164: X11_findChange -/
theorem am_q164 : (am_mt 164).2.2.2.2.2 = am_m164.2.2.2.2.2 := rfl
set_option maxRecDepth 20000 in
set_option maxHeartbeats 2000000 in
theorem wp164 {d : Nat} (a0 : Nat) {h : AH} {Q : Option Value → AH → Prop} (H : am_kd h a0 = 11 ∧ ∃ b2, am_gr h a0 14 = some b2 ∧ am_kd h a0 = 11 ∧ am_kd h a0 = 11 ∧ Cl d 148 [.ref a0] h (fun r6 h5 => ∃ x8, r6 = some (.int x8) ∧ am_kd h5 a0 = 11 ∧ Cl d 153 [.ref a0] h5 (fun r10 h9 => ∃ x12, r10 = some (.int x12) ∧ am_kd h9 b2 = 0 ∧ Cl d 1 [.ref b2, .int (am_gi h a0 2), .int (x8 &&& (x12 ^^^ (-1 : Int32)))] h9 (fun r14 h13 => r14 = none ∧ Ev (d + 1) 164 24 [.ref a0, .int (0 : Int32), .null] [] h13 Q)))) : Cl (d + 1) 164 [.ref a0] h Q := by
  show Ev (d + 1) 164 0 [.ref a0, .null, .null] [] h Q
  refine ev_p (pc' := 1) (loc' := [.ref a0, .null, .null]) (st' := [.ref a0]) 1 am_q164 rfl ?_
  obtain ⟨g1, b2, e3, H⟩ := H
  refine ev_s (pc' := 4) (loc' := [.ref a0, .null, .null]) (st' := [.ref b2]) (h1 := h) am_q164 rfl rfl rfl (am_gf2 g1 e3) ?_
  refine ev_p (pc' := 5) (loc' := [.ref a0, .null, .null]) (st' := [.ref a0, .ref b2]) 1 am_q164 rfl ?_
  obtain ⟨g4, H⟩ := H
  refine ev_s (pc' := 8) (loc' := [.ref a0, .null, .null]) (st' := [.int (am_gi h a0 2), .ref b2]) (h1 := h) am_q164 rfl rfl rfl (if_pos (e := none) g4) ?_
  refine ev_p (pc' := 9) (loc' := [.ref a0, .null, .null]) (st' := [.ref a0, .int (am_gi h a0 2), .ref b2]) 1 am_q164 rfl ?_
  obtain ⟨g7, H⟩ := H
  refine ev_c (vs := [.ref a0]) (rest := [.int (am_gi h a0 2), .ref b2]) 148 am_q164 rfl rfl rfl rfl rfl rfl rfl rfl rfl rfl rfl rfl (Or.inr (congrArg some g7)) (Cl.mono H (Nat.le_refl _) (fun r6 h5 H => ?_))
  obtain ⟨x8, rfl, H⟩ := H
  refine ev_p (pc' := 13) (loc' := [.ref a0, .null, .null]) (st' := [.ref a0, .int x8, .int (am_gi h a0 2), .ref b2]) 1 am_q164 rfl ?_
  obtain ⟨g11, H⟩ := H
  refine ev_c (vs := [.ref a0]) (rest := [.int x8, .int (am_gi h a0 2), .ref b2]) 153 am_q164 rfl rfl rfl rfl rfl rfl rfl rfl rfl rfl rfl rfl (Or.inr (congrArg some g11)) (Cl.mono H (Nat.le_refl _) (fun r10 h9 H => ?_))
  obtain ⟨x12, rfl, H⟩ := H
  refine ev_p (pc' := 19) (loc' := [.ref a0, .null, .null]) (st' := [.int (x8 &&& (x12 ^^^ (-1 : Int32))), .int (am_gi h a0 2), .ref b2]) 3 am_q164 rfl ?_
  obtain ⟨g15, H⟩ := H
  refine ev_c (vs := [.ref b2, .int (am_gi h a0 2), .int (x8 &&& (x12 ^^^ (-1 : Int32)))]) (rest := []) 1 am_q164 rfl rfl rfl rfl rfl rfl rfl rfl rfl rfl rfl rfl (Or.inr (congrArg some g15)) (Cl.mono H (Nat.le_refl _) (fun r14 h13 H => ?_))
  obtain ⟨rfl, H⟩ := H
  refine ev_p (pc' := 24) (loc' := [.ref a0, .int (0 : Int32), .null]) (st' := []) 2 am_q164 rfl ?_
  exact ev_m (loc' := [.ref a0, .int (0 : Int32), .null]) am_q164 rfl rfl H
set_option maxRecDepth 20000 in
set_option maxHeartbeats 2000000 in
theorem wp164_24 {d : Nat} (a0 : Nat) (i1 : Int32) {h : AH} {Q : Option Value → AH → Prop} (H : am_kd h a0 = 11 ∧ ((am_gi h a0 4) ≤ i1 → am_kd h a0 = 11 ∧ ∃ b3, am_gr h a0 14 = some b3 ∧ am_kd h b3 = 0 ∧ Cl d 3 [.ref b3] h (fun r6 h5 => ∃ x8, r6 = some (.int x8) ∧ Q (some (.int x8)) h5)) ∧ (¬ (am_gi h a0 4) ≤ i1 → am_kd h a0 = 11 ∧ ∃ b10, am_gr h a0 5 = some b10 ∧ am_kd h a0 = 11 ∧ am_kd h b10 = 6 ∧ Cl d 57 [.ref b10, .int i1, .int (am_gi h a0 0)] h (fun r14 h13 => ∃ x16, r14 = some (.int x16) ∧ (x16 = (-1 : Int32) → Ev (d + 1) 164 24 [.ref a0, .int (i1 + (1 : Int32)), .null] [] h13 Q) ∧ (¬ x16 = (-1 : Int32) → am_kd h13 a0 = 11 ∧ ∃ b18, am_gr h13 a0 5 = some b18 ∧ am_kd h13 b18 = 6 ∧ ∃ b21, am_gr h13 b18 0 = some b21 ∧ (104 ≤ am_kd h13 b21 ∧ am_kd h13 b21 ≤ 109) ∧ am_in x16 (am_ln h13 b21) ∧ ∃ b25, am_gr h13 b21 (Int32.toNatClampNeg x16) = some b25 ∧ am_kd h13 b25 = 7 ∧ Cl d 68 [.ref b25, .int i1] h13 (fun r28 h27 => ∃ x30, r28 = some (.int x30) ∧ (x30 = (0 : Int32) → Ev (d + 1) 164 24 [.ref a0, .int (i1 + (1 : Int32)), .null] [] h27 Q) ∧ (¬ x30 = (0 : Int32) → am_kd h27 a0 = 11 ∧ ∃ b32, am_gr h27 a0 14 = some b32 ∧ am_kd h27 a0 = 11 ∧ ∃ b35, am_gr h27 a0 5 = some b35 ∧ am_kd h27 b35 = 6 ∧ ∃ b38, am_gr h27 b35 0 = some b38 ∧ (104 ≤ am_kd h27 b38 ∧ am_kd h27 b38 ≤ 109) ∧ am_in x16 (am_ln h27 b38) ∧ ∃ b42, am_gr h27 b38 (Int32.toNatClampNeg x16) = some b42 ∧ am_kd h27 b42 = 7 ∧ am_kd h27 a0 = 11 ∧ ∃ b46, am_gr h27 a0 3 = some b46 ∧ (104 ≤ am_kd h27 b46 ∧ am_kd h27 b46 ≤ 109) ∧ am_in i1 (am_ln h27 b46) ∧ ∃ b50, am_gr h27 b46 (Int32.toNatClampNeg i1) = some b50 ∧ am_kd h27 b50 = 3 ∧ am_kd h27 b32 = 0 ∧ Cl d 2 [.ref b32, .int i1, .int (am_gi h27 b42 1), .int (am_gi h27 b50 4)] h27 (fun r54 h53 => r54 = none ∧ Ev (d + 1) 164 24 [.ref a0, .int (i1 + (1 : Int32)), .null] [] h53 Q))))))) : Ev (d + 1) 164 24 [.ref a0, .int i1, .null] [] h Q := by
  refine ev_p (pc' := 26) (loc' := [.ref a0, .int i1, .null]) (st' := [.ref a0, .int i1]) 2 am_q164 rfl ?_
  obtain ⟨g1, H⟩ := H
  refine ev_s (pc' := 29) (loc' := [.ref a0, .int i1, .null]) (st' := [.int (am_gi h a0 4), .int i1]) (h1 := h) am_q164 rfl rfl rfl (if_pos (e := none) g1) ?_
  refine ev_jc (t := 101) am_q164 rfl rfl (fun hq => ?_) (fun hq => ?_)
  · replace H := H.1 hq
    refine ev_p (pc' := 102) (loc' := [.ref a0, .int i1, .null]) (st' := [.ref a0]) 1 am_q164 rfl ?_
    obtain ⟨g2, b3, e4, H⟩ := H
    refine ev_s (pc' := 105) (loc' := [.ref a0, .int i1, .null]) (st' := [.ref b3]) (h1 := h) am_q164 rfl rfl rfl (am_gf2 g2 e4) ?_
    obtain ⟨g7, H⟩ := H
    refine ev_c (vs := [.ref b3]) (rest := []) 3 am_q164 rfl rfl rfl rfl rfl rfl rfl rfl rfl rfl rfl rfl (Or.inr (congrArg some g7)) (Cl.mono H (Nat.le_refl _) (fun r6 h5 H => ?_))
    obtain ⟨x8, rfl, H⟩ := H
    exact ev_r (v := some (.int x8)) am_q164 rfl rfl rfl rfl H
  · replace H := H.2 hq
    refine ev_p (pc' := 33) (loc' := [.ref a0, .int i1, .null]) (st' := [.ref a0]) 1 am_q164 rfl ?_
    obtain ⟨g9, b10, e11, H⟩ := H
    refine ev_s (pc' := 36) (loc' := [.ref a0, .int i1, .null]) (st' := [.ref b10]) (h1 := h) am_q164 rfl rfl rfl (am_gf2 g9 e11) ?_
    refine ev_p (pc' := 38) (loc' := [.ref a0, .int i1, .null]) (st' := [.ref a0, .int i1, .ref b10]) 2 am_q164 rfl ?_
    obtain ⟨g12, H⟩ := H
    refine ev_s (pc' := 41) (loc' := [.ref a0, .int i1, .null]) (st' := [.int (am_gi h a0 0), .int i1, .ref b10]) (h1 := h) am_q164 rfl rfl rfl (if_pos (e := none) g12) ?_
    obtain ⟨g15, H⟩ := H
    refine ev_c (vs := [.ref b10, .int i1, .int (am_gi h a0 0)]) (rest := []) 57 am_q164 rfl rfl rfl rfl rfl rfl rfl rfl rfl rfl rfl rfl (Or.inr (congrArg some g15)) (Cl.mono H (Nat.le_refl _) (fun r14 h13 H => ?_))
    obtain ⟨x16, rfl, H⟩ := H
    refine ev_p (pc' := 47) (loc' := [.ref a0, .int i1, .int x16]) (st' := [.int (-1 : Int32), .int x16]) 3 am_q164 rfl ?_
    refine ev_jc (t := 95) am_q164 rfl rfl (fun hq => ?_) (fun hq => ?_)
    · replace H := H.1 hq
      refine ev_p (pc' := 24) (loc' := [.ref a0, .int (i1 + (1 : Int32)), .null]) (st' := []) 2 am_q164 rfl ?_
      exact ev_m (loc' := [.ref a0, .int (i1 + (1 : Int32)), .null]) am_q164 rfl rfl H
    · replace H := H.2 hq
      refine ev_p (pc' := 51) (loc' := [.ref a0, .int i1, .int x16]) (st' := [.ref a0]) 1 am_q164 rfl ?_
      obtain ⟨g17, b18, e19, H⟩ := H
      refine ev_s (pc' := 54) (loc' := [.ref a0, .int i1, .int x16]) (st' := [.ref b18]) (h1 := h13) am_q164 rfl rfl rfl (am_gf2 g17 e19) ?_
      obtain ⟨g20, b21, e22, H⟩ := H
      refine ev_s (pc' := 57) (loc' := [.ref a0, .int i1, .int x16]) (st' := [.ref b21]) (h1 := h13) am_q164 rfl rfl rfl (am_gf2 g20 e22) ?_
      refine ev_p (pc' := 58) (loc' := [.ref a0, .int i1, .int x16]) (st' := [.int x16, .ref b21]) 1 am_q164 rfl ?_
      obtain ⟨g23, g24, b25, e26, H⟩ := H
      refine ev_s (pc' := 59) (loc' := [.ref a0, .int i1, .int x16]) (st' := [.ref b25]) (h1 := h13) am_q164 rfl rfl rfl (am_xa g23 g24 e26) ?_
      refine ev_p (pc' := 60) (loc' := [.ref a0, .int i1, .int x16]) (st' := [.int i1, .ref b25]) 1 am_q164 rfl ?_
      obtain ⟨g29, H⟩ := H
      refine ev_c (vs := [.ref b25, .int i1]) (rest := []) 68 am_q164 rfl rfl rfl rfl rfl rfl rfl rfl rfl rfl rfl rfl (Or.inr (congrArg some g29)) (Cl.mono H (Nat.le_refl _) (fun r28 h27 H => ?_))
      obtain ⟨x30, rfl, H⟩ := H
      refine ev_jz (t := 95) am_q164 rfl rfl (fun hq => ?_) (fun hq => ?_)
      · replace H := H.1 hq
        refine ev_p (pc' := 24) (loc' := [.ref a0, .int (i1 + (1 : Int32)), .null]) (st' := []) 2 am_q164 rfl ?_
        exact ev_m (loc' := [.ref a0, .int (i1 + (1 : Int32)), .null]) am_q164 rfl rfl H
      · replace H := H.2 hq
        refine ev_p (pc' := 67) (loc' := [.ref a0, .int i1, .int x16]) (st' := [.ref a0]) 1 am_q164 rfl ?_
        obtain ⟨g31, b32, e33, H⟩ := H
        refine ev_s (pc' := 70) (loc' := [.ref a0, .int i1, .int x16]) (st' := [.ref b32]) (h1 := h27) am_q164 rfl rfl rfl (am_gf2 g31 e33) ?_
        refine ev_p (pc' := 72) (loc' := [.ref a0, .int i1, .int x16]) (st' := [.ref a0, .int i1, .ref b32]) 2 am_q164 rfl ?_
        obtain ⟨g34, b35, e36, H⟩ := H
        refine ev_s (pc' := 75) (loc' := [.ref a0, .int i1, .int x16]) (st' := [.ref b35, .int i1, .ref b32]) (h1 := h27) am_q164 rfl rfl rfl (am_gf2 g34 e36) ?_
        obtain ⟨g37, b38, e39, H⟩ := H
        refine ev_s (pc' := 78) (loc' := [.ref a0, .int i1, .int x16]) (st' := [.ref b38, .int i1, .ref b32]) (h1 := h27) am_q164 rfl rfl rfl (am_gf2 g37 e39) ?_
        refine ev_p (pc' := 79) (loc' := [.ref a0, .int i1, .int x16]) (st' := [.int x16, .ref b38, .int i1, .ref b32]) 1 am_q164 rfl ?_
        obtain ⟨g40, g41, b42, e43, H⟩ := H
        refine ev_s (pc' := 80) (loc' := [.ref a0, .int i1, .int x16]) (st' := [.ref b42, .int i1, .ref b32]) (h1 := h27) am_q164 rfl rfl rfl (am_xa g40 g41 e43) ?_
        obtain ⟨g44, H⟩ := H
        refine ev_s (pc' := 83) (loc' := [.ref a0, .int i1, .int x16]) (st' := [.int (am_gi h27 b42 1), .int i1, .ref b32]) (h1 := h27) am_q164 rfl rfl rfl (if_pos (e := none) g44) ?_
        refine ev_p (pc' := 84) (loc' := [.ref a0, .int i1, .int x16]) (st' := [.ref a0, .int (am_gi h27 b42 1), .int i1, .ref b32]) 1 am_q164 rfl ?_
        obtain ⟨g45, b46, e47, H⟩ := H
        refine ev_s (pc' := 87) (loc' := [.ref a0, .int i1, .int x16]) (st' := [.ref b46, .int (am_gi h27 b42 1), .int i1, .ref b32]) (h1 := h27) am_q164 rfl rfl rfl (am_gf2 g45 e47) ?_
        refine ev_p (pc' := 88) (loc' := [.ref a0, .int i1, .int x16]) (st' := [.int i1, .ref b46, .int (am_gi h27 b42 1), .int i1, .ref b32]) 1 am_q164 rfl ?_
        obtain ⟨g48, g49, b50, e51, H⟩ := H
        refine ev_s (pc' := 89) (loc' := [.ref a0, .int i1, .int x16]) (st' := [.ref b50, .int (am_gi h27 b42 1), .int i1, .ref b32]) (h1 := h27) am_q164 rfl rfl rfl (am_xa g48 g49 e51) ?_
        obtain ⟨g52, H⟩ := H
        refine ev_s (pc' := 92) (loc' := [.ref a0, .int i1, .int x16]) (st' := [.int (am_gi h27 b50 4), .int (am_gi h27 b42 1), .int i1, .ref b32]) (h1 := h27) am_q164 rfl rfl rfl (if_pos (e := none) g52) ?_
        obtain ⟨g55, H⟩ := H
        refine ev_c (vs := [.ref b32, .int i1, .int (am_gi h27 b42 1), .int (am_gi h27 b50 4)]) (rest := []) 2 am_q164 rfl rfl rfl rfl rfl rfl rfl rfl rfl rfl rfl rfl (Or.inr (congrArg some g55)) (Cl.mono H (Nat.le_refl _) (fun r54 h53 H => ?_))
        obtain ⟨rfl, H⟩ := H
        refine ev_p (pc' := 24) (loc' := [.ref a0, .int (i1 + (1 : Int32)), .null]) (st' := []) 2 am_q164 rfl ?_
        exact ev_m (loc' := [.ref a0, .int (i1 + (1 : Int32)), .null]) am_q164 rfl rfl H
/-! 165: X11_weighHomes -/
theorem am_q165 : (am_mt 165).2.2.2.2.2 = am_m165.2.2.2.2.2 := rfl
set_option maxRecDepth 20000 in
set_option maxHeartbeats 2000000 in
theorem wp165 {d : Nat} (a0 : Nat) {h : AH} {Q : Option Value → AH → Prop} (H : am_kd h a0 = 11 ∧ ∃ b2, am_gr h a0 8 = some b2 ∧ am_kd h a0 = 11 ∧ am_kd h a0 = 11 ∧ Cl d 154 [.ref a0, .int (am_gi h a0 0)] h (fun r6 h5 => ∃ x8, r6 = some (.int x8) ∧ (104 ≤ am_kd h5 b2 ∧ am_kd h5 b2 ≤ 109) ∧ am_in x8 (am_ln h5 b2) ∧ ∃ b11, am_gr h5 b2 (Int32.toNatClampNeg x8) = some b11 ∧ am_kd h5 a0 = 11 ∧ ∃ b14, am_gr h5 a0 15 = some b14 ∧ am_kd h5 b14 = 4 ∧ Cl d 25 [.ref b14] h5 (fun r17 h16 => r17 = none ∧ Ev (d + 1) 165 23 [.ref a0, .ref b11, .int (0 : Int32), .null] [] h16 Q))) : Cl (d + 1) 165 [.ref a0] h Q := by
  show Ev (d + 1) 165 0 [.ref a0, .null, .null, .null] [] h Q
  refine ev_p (pc' := 1) (loc' := [.ref a0, .null, .null, .null]) (st' := [.ref a0]) 1 am_q165 rfl ?_
  obtain ⟨g1, b2, e3, H⟩ := H
  refine ev_s (pc' := 4) (loc' := [.ref a0, .null, .null, .null]) (st' := [.ref b2]) (h1 := h) am_q165 rfl rfl rfl (am_gf2 g1 e3) ?_
  refine ev_p (pc' := 6) (loc' := [.ref a0, .null, .null, .null]) (st' := [.ref a0, .ref a0, .ref b2]) 2 am_q165 rfl ?_
  obtain ⟨g4, H⟩ := H
  refine ev_s (pc' := 9) (loc' := [.ref a0, .null, .null, .null]) (st' := [.int (am_gi h a0 0), .ref a0, .ref b2]) (h1 := h) am_q165 rfl rfl rfl (if_pos (e := none) g4) ?_
  obtain ⟨g7, H⟩ := H
  refine ev_c (vs := [.ref a0, .int (am_gi h a0 0)]) (rest := [.ref b2]) 154 am_q165 rfl rfl rfl rfl rfl rfl rfl rfl rfl rfl rfl rfl (Or.inr (congrArg some g7)) (Cl.mono H (Nat.le_refl _) (fun r6 h5 H => ?_))
  obtain ⟨x8, rfl, H⟩ := H
  obtain ⟨g9, g10, b11, e12, H⟩ := H
  refine ev_s (pc' := 13) (loc' := [.ref a0, .null, .null, .null]) (st' := [.ref b11]) (h1 := h5) am_q165 rfl rfl rfl (am_xa g9 g10 e12) ?_
  refine ev_p (pc' := 15) (loc' := [.ref a0, .ref b11, .null, .null]) (st' := [.ref a0]) 2 am_q165 rfl ?_
  obtain ⟨g13, b14, e15, H⟩ := H
  refine ev_s (pc' := 18) (loc' := [.ref a0, .ref b11, .null, .null]) (st' := [.ref b14]) (h1 := h5) am_q165 rfl rfl rfl (am_gf2 g13 e15) ?_
  obtain ⟨g18, H⟩ := H
  refine ev_c (vs := [.ref b14]) (rest := []) 25 am_q165 rfl rfl rfl rfl rfl rfl rfl rfl rfl rfl rfl rfl (Or.inr (congrArg some g18)) (Cl.mono H (Nat.le_refl _) (fun r17 h16 H => ?_))
  obtain ⟨rfl, H⟩ := H
  refine ev_p (pc' := 23) (loc' := [.ref a0, .ref b11, .int (0 : Int32), .null]) (st' := []) 2 am_q165 rfl ?_
  exact ev_m (loc' := [.ref a0, .ref b11, .int (0 : Int32), .null]) am_q165 rfl rfl H
set_option maxRecDepth 20000 in
set_option maxHeartbeats 2000000 in
theorem wp165_23 {d : Nat} (a0 : Nat) (a1 : Nat) (i2 : Int32) {h : AH} {Q : Option Value → AH → Prop} (H : am_kd h a0 = 11 ∧ ((am_gi h a0 2) ≤ i2 → Q none h) ∧ (¬ (am_gi h a0 2) ≤ i2 → am_kd h a0 = 11 ∧ ∃ b3, am_gr h a0 5 = some b3 ∧ am_kd h a0 = 11 ∧ am_kd h b3 = 6 ∧ Cl d 56 [.ref b3, .int i2, .int (am_gi h a0 0)] h (fun r7 h6 => ∃ x9, r7 = some (.int x9) ∧ (x9 = (-1 : Int32) → Ev (d + 1) 165 23 [.ref a0, .ref a1, .int (i2 + (1 : Int32)), .null] [] h6 Q) ∧ (¬ x9 = (-1 : Int32) → am_kd h6 a0 = 11 ∧ Cl d 158 [.ref a0, .int i2] h6 (fun r11 h10 => r11 = none ∧ am_kd h10 a0 = 11 ∧ ∃ b14, am_gr h10 a0 7 = some b14 ∧ am_kd h10 b14 = 8 ∧ ∃ b17, am_gr h10 b14 0 = some b17 ∧ am_kd h10 a0 = 11 ∧ ∃ b20, am_gr h10 a0 3 = some b20 ∧ am_kd h10 a0 = 11 ∧ ∃ b23, am_gr h10 a0 5 = some b23 ∧ am_kd h10 b23 = 6 ∧ ∃ b26, am_gr h10 b23 0 = some b26 ∧ (104 ≤ am_kd h10 b26 ∧ am_kd h10 b26 ≤ 109) ∧ am_in x9 (am_ln h10 b26) ∧ ∃ b30, am_gr h10 b26 (Int32.toNatClampNeg x9) = some b30 ∧ am_kd h10 b30 = 7 ∧ (104 ≤ am_kd h10 b20 ∧ am_kd h10 b20 ≤ 109) ∧ am_in (am_gi h10 b30 2) (am_ln h10 b20) ∧ ∃ b35, am_gr h10 b20 (Int32.toNatClampNeg (am_gi h10 b30 2)) = some b35 ∧ am_kd h10 b35 = 3 ∧ am_kd h10 b17 = 101 ∧ am_in (1 : Int32) (am_ln h10 b17) ∧ ∀ h40, h40 = am_sl h10 b17 (Int32.toNatClampNeg (1 : Int32)) (Int32.toInt64 (am_gi h10 b35 0)) → am_kd h40 a0 = 11 ∧ ∃ b42, am_gr h40 a0 15 = some b42 ∧ am_kd h40 a0 = 11 ∧ ∃ b45, am_gr h40 a0 7 = some b45 ∧ am_kd h40 b45 = 8 ∧ Cl d 70 [.ref b45, .ref a1, .int (3 : Int32)] h40 (fun r48 h47 => ∃ y50, r48 = some (.long y50) ∧ am_kd h47 b42 = 4 ∧ Cl d 26 [.ref b42, .int i2, .long y50] h47 (fun r52 h51 => r52 = none ∧ Ev (d + 1) 165 23 [.ref a0, .ref a1, .int (i2 + (1 : Int32)), .null] [] h51 Q))))))) : Ev (d + 1) 165 23 [.ref a0, .ref a1, .int i2, .null] [] h Q := by
  refine ev_p (pc' := 25) (loc' := [.ref a0, .ref a1, .int i2, .null]) (st' := [.ref a0, .int i2]) 2 am_q165 rfl ?_
  obtain ⟨g1, H⟩ := H
  refine ev_s (pc' := 28) (loc' := [.ref a0, .ref a1, .int i2, .null]) (st' := [.int (am_gi h a0 2), .int i2]) (h1 := h) am_q165 rfl rfl rfl (if_pos (e := none) g1) ?_
  refine ev_jc (t := 107) am_q165 rfl rfl (fun hq => ?_) (fun hq => ?_)
  · replace H := H.1 hq
    exact ev_r (v := none) am_q165 rfl rfl rfl rfl H
  · replace H := H.2 hq
    refine ev_p (pc' := 32) (loc' := [.ref a0, .ref a1, .int i2, .null]) (st' := [.ref a0]) 1 am_q165 rfl ?_
    obtain ⟨g2, b3, e4, H⟩ := H
    refine ev_s (pc' := 35) (loc' := [.ref a0, .ref a1, .int i2, .null]) (st' := [.ref b3]) (h1 := h) am_q165 rfl rfl rfl (am_gf2 g2 e4) ?_
    refine ev_p (pc' := 37) (loc' := [.ref a0, .ref a1, .int i2, .null]) (st' := [.ref a0, .int i2, .ref b3]) 2 am_q165 rfl ?_
    obtain ⟨g5, H⟩ := H
    refine ev_s (pc' := 40) (loc' := [.ref a0, .ref a1, .int i2, .null]) (st' := [.int (am_gi h a0 0), .int i2, .ref b3]) (h1 := h) am_q165 rfl rfl rfl (if_pos (e := none) g5) ?_
    obtain ⟨g8, H⟩ := H
    refine ev_c (vs := [.ref b3, .int i2, .int (am_gi h a0 0)]) (rest := []) 56 am_q165 rfl rfl rfl rfl rfl rfl rfl rfl rfl rfl rfl rfl (Or.inr (congrArg some g8)) (Cl.mono H (Nat.le_refl _) (fun r7 h6 H => ?_))
    obtain ⟨x9, rfl, H⟩ := H
    refine ev_p (pc' := 46) (loc' := [.ref a0, .ref a1, .int i2, .int x9]) (st' := [.int (-1 : Int32), .int x9]) 3 am_q165 rfl ?_
    refine ev_jc (t := 101) am_q165 rfl rfl (fun hq => ?_) (fun hq => ?_)
    · replace H := H.1 hq
      refine ev_p (pc' := 23) (loc' := [.ref a0, .ref a1, .int (i2 + (1 : Int32)), .null]) (st' := []) 2 am_q165 rfl ?_
      exact ev_m (loc' := [.ref a0, .ref a1, .int (i2 + (1 : Int32)), .null]) am_q165 rfl rfl H
    · replace H := H.2 hq
      refine ev_p (pc' := 51) (loc' := [.ref a0, .ref a1, .int i2, .int x9]) (st' := [.int i2, .ref a0]) 2 am_q165 rfl ?_
      obtain ⟨g12, H⟩ := H
      refine ev_c (vs := [.ref a0, .int i2]) (rest := []) 158 am_q165 rfl rfl rfl rfl rfl rfl rfl rfl rfl rfl rfl rfl (Or.inr (congrArg some g12)) (Cl.mono H (Nat.le_refl _) (fun r11 h10 H => ?_))
      obtain ⟨rfl, H⟩ := H
      refine ev_p (pc' := 55) (loc' := [.ref a0, .ref a1, .int i2, .int x9]) (st' := [.ref a0]) 1 am_q165 rfl ?_
      obtain ⟨g13, b14, e15, H⟩ := H
      refine ev_s (pc' := 58) (loc' := [.ref a0, .ref a1, .int i2, .int x9]) (st' := [.ref b14]) (h1 := h10) am_q165 rfl rfl rfl (am_gf2 g13 e15) ?_
      obtain ⟨g16, b17, e18, H⟩ := H
      refine ev_s (pc' := 61) (loc' := [.ref a0, .ref a1, .int i2, .int x9]) (st' := [.ref b17]) (h1 := h10) am_q165 rfl rfl rfl (am_gf2 g16 e18) ?_
      refine ev_p (pc' := 63) (loc' := [.ref a0, .ref a1, .int i2, .int x9]) (st' := [.ref a0, .int (1 : Int32), .ref b17]) 2 am_q165 rfl ?_
      obtain ⟨g19, b20, e21, H⟩ := H
      refine ev_s (pc' := 66) (loc' := [.ref a0, .ref a1, .int i2, .int x9]) (st' := [.ref b20, .int (1 : Int32), .ref b17]) (h1 := h10) am_q165 rfl rfl rfl (am_gf2 g19 e21) ?_
      refine ev_p (pc' := 67) (loc' := [.ref a0, .ref a1, .int i2, .int x9]) (st' := [.ref a0, .ref b20, .int (1 : Int32), .ref b17]) 1 am_q165 rfl ?_
      obtain ⟨g22, b23, e24, H⟩ := H
      refine ev_s (pc' := 70) (loc' := [.ref a0, .ref a1, .int i2, .int x9]) (st' := [.ref b23, .ref b20, .int (1 : Int32), .ref b17]) (h1 := h10) am_q165 rfl rfl rfl (am_gf2 g22 e24) ?_
      obtain ⟨g25, b26, e27, H⟩ := H
      refine ev_s (pc' := 73) (loc' := [.ref a0, .ref a1, .int i2, .int x9]) (st' := [.ref b26, .ref b20, .int (1 : Int32), .ref b17]) (h1 := h10) am_q165 rfl rfl rfl (am_gf2 g25 e27) ?_
      refine ev_p (pc' := 74) (loc' := [.ref a0, .ref a1, .int i2, .int x9]) (st' := [.int x9, .ref b26, .ref b20, .int (1 : Int32), .ref b17]) 1 am_q165 rfl ?_
      obtain ⟨g28, g29, b30, e31, H⟩ := H
      refine ev_s (pc' := 75) (loc' := [.ref a0, .ref a1, .int i2, .int x9]) (st' := [.ref b30, .ref b20, .int (1 : Int32), .ref b17]) (h1 := h10) am_q165 rfl rfl rfl (am_xa g28 g29 e31) ?_
      obtain ⟨g32, H⟩ := H
      refine ev_s (pc' := 78) (loc' := [.ref a0, .ref a1, .int i2, .int x9]) (st' := [.int (am_gi h10 b30 2), .ref b20, .int (1 : Int32), .ref b17]) (h1 := h10) am_q165 rfl rfl rfl (if_pos (e := none) g32) ?_
      obtain ⟨g33, g34, b35, e36, H⟩ := H
      refine ev_s (pc' := 79) (loc' := [.ref a0, .ref a1, .int i2, .int x9]) (st' := [.ref b35, .int (1 : Int32), .ref b17]) (h1 := h10) am_q165 rfl rfl rfl (am_xa g33 g34 e36) ?_
      obtain ⟨g37, H⟩ := H
      refine ev_s (pc' := 82) (loc' := [.ref a0, .ref a1, .int i2, .int x9]) (st' := [.int (am_gi h10 b35 0), .int (1 : Int32), .ref b17]) (h1 := h10) am_q165 rfl rfl rfl (if_pos (e := none) g37) ?_
      refine ev_p (pc' := 83) (loc' := [.ref a0, .ref a1, .int i2, .int x9]) (st' := [.long (Int32.toInt64 (am_gi h10 b35 0)), .int (1 : Int32), .ref b17]) 1 am_q165 rfl ?_
      obtain ⟨g38, g39, H⟩ := H
      refine ev_s (pc' := 84) (loc' := [.ref a0, .ref a1, .int i2, .int x9]) (st' := []) (h1 := am_sl h10 b17 (Int32.toNatClampNeg (1 : Int32)) (Int32.toInt64 (am_gi h10 b35 0))) am_q165 rfl rfl rfl (am_xx g38 g39) ?_
      replace H := H _ rfl
      generalize am_sl h10 b17 (Int32.toNatClampNeg (1 : Int32)) (Int32.toInt64 (am_gi h10 b35 0)) = h40 at H ⊢
      refine ev_p (pc' := 85) (loc' := [.ref a0, .ref a1, .int i2, .int x9]) (st' := [.ref a0]) 1 am_q165 rfl ?_
      obtain ⟨g41, b42, e43, H⟩ := H
      refine ev_s (pc' := 88) (loc' := [.ref a0, .ref a1, .int i2, .int x9]) (st' := [.ref b42]) (h1 := h40) am_q165 rfl rfl rfl (am_gf2 g41 e43) ?_
      refine ev_p (pc' := 90) (loc' := [.ref a0, .ref a1, .int i2, .int x9]) (st' := [.ref a0, .int i2, .ref b42]) 2 am_q165 rfl ?_
      obtain ⟨g44, b45, e46, H⟩ := H
      refine ev_s (pc' := 93) (loc' := [.ref a0, .ref a1, .int i2, .int x9]) (st' := [.ref b45, .int i2, .ref b42]) (h1 := h40) am_q165 rfl rfl rfl (am_gf2 g44 e46) ?_
      refine ev_p (pc' := 95) (loc' := [.ref a0, .ref a1, .int i2, .int x9]) (st' := [.int (3 : Int32), .ref a1, .ref b45, .int i2, .ref b42]) 2 am_q165 rfl ?_
      obtain ⟨g49, H⟩ := H
      refine ev_c (vs := [.ref b45, .ref a1, .int (3 : Int32)]) (rest := [.int i2, .ref b42]) 70 am_q165 rfl rfl rfl rfl rfl rfl rfl rfl rfl rfl rfl rfl (Or.inr (congrArg some g49)) (Cl.mono H (Nat.le_refl _) (fun r48 h47 H => ?_))
      obtain ⟨y50, rfl, H⟩ := H
      obtain ⟨g53, H⟩ := H
      refine ev_c (vs := [.ref b42, .int i2, .long y50]) (rest := []) 26 am_q165 rfl rfl rfl rfl rfl rfl rfl rfl rfl rfl rfl rfl (Or.inr (congrArg some g53)) (Cl.mono H (Nat.le_refl _) (fun r52 h51 H => ?_))
      obtain ⟨rfl, H⟩ := H
      refine ev_p (pc' := 23) (loc' := [.ref a0, .ref a1, .int (i2 + (1 : Int32)), .null]) (st' := []) 2 am_q165 rfl ?_
      exact ev_m (loc' := [.ref a0, .ref a1, .int (i2 + (1 : Int32)), .null]) am_q165 rfl rfl H
