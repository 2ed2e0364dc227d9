/-! 131: X11_gain -/
set_option maxRecDepth 20000 in
set_option maxHeartbeats 2000000 in
theorem ws131 {d : Nat}  (i1 : Int32) {h : AH} {Q : Option Value → AH → Prop} (Ly : Lay h) (H : (i1 < (0 : Int32) → Q (some (.int (-2 : Int32))) h) ∧ (¬ i1 < (0 : Int32) → (i1 ≤ (100 : Int32) → ∀ h1, h1 = am_si h 109 1 i1 → Q (some (.int (am_gi h 109 1))) h1) ∧ (¬ i1 ≤ (100 : Int32) → Q (some (.int (-2 : Int32))) h))) : Cl d 131 [.ref 6, .int i1] h Q := by
  show Ev d 131 0 [.ref 6, .int i1, .null] [] h Q
  refine ev_p (pc' := 1) (loc' := [.ref 6, .int i1, .null]) (st' := [.int i1]) 1 am_q131 rfl ?_
  refine ev_jz (t := 10) am_q131 rfl rfl (fun hq => ?_) (fun hq => ?_)
  · replace H := H.1 hq
    refine ev_p (pc' := 12) (loc' := [.null, .null, .null]) (st' := [.int (-2 : Int32)]) 1 am_q131 rfl ?_
    exact ev_r (v := some (.int (-2 : Int32))) am_q131 rfl rfl rfl rfl H
  · replace H := H.2 hq
    refine ev_p (pc' := 7) (loc' := [.ref 6, .int i1, .null]) (st' := [.int (100 : Int32), .int i1]) 2 am_q131 rfl ?_
    refine ev_jc (t := 13) am_q131 rfl rfl (fun hq => ?_) (fun hq => ?_)
    · replace H := H.1 hq
      refine ev_p (pc' := 14) (loc' := [.ref 6, .int i1, .null]) (st' := [.ref 6]) 1 am_q131 rfl ?_
      refine ev_s (pc' := 17) (loc' := [.ref 6, .int i1, .null]) (st' := [.ref 109]) (h1 := h) am_q131 rfl rfl rfl (am_gf2 (lk6 Ly) (lr6_16 Ly)) ?_
      refine ev_s (pc' := 20) (loc' := [.ref 6, .int i1, .null]) (st' := [.int (am_gi h 109 1)]) (h1 := h) am_q131 rfl rfl rfl (if_pos (e := none) (lk109 Ly)) ?_
      refine ev_p (pc' := 22) (loc' := [.ref 6, .int i1, .int (am_gi h 109 1)]) (st' := [.ref 6]) 2 am_q131 rfl ?_
      refine ev_s (pc' := 25) (loc' := [.ref 6, .int i1, .int (am_gi h 109 1)]) (st' := [.ref 109]) (h1 := h) am_q131 rfl rfl rfl (am_gf2 (lk6 Ly) (lr6_16 Ly)) ?_
      refine ev_p (pc' := 26) (loc' := [.ref 6, .int i1, .int (am_gi h 109 1)]) (st' := [.int i1, .ref 109]) 1 am_q131 rfl ?_
      refine ev_s (pc' := 29) (loc' := [.ref 6, .int i1, .int (am_gi h 109 1)]) (st' := []) (h1 := am_si h 109 1 i1) am_q131 rfl rfl rfl (if_pos (e := none) (lk109 Ly)) ?_
      replace H := H _ rfl
      replace Ly : Lay (am_si h 109 1 i1) := Ly.si _ _ _
      generalize am_si h 109 1 i1 = h1 at H Ly ⊢
      refine ev_p (pc' := 30) (loc' := [.ref 6, .int i1, .int (am_gi h 109 1)]) (st' := [.int (am_gi h 109 1)]) 1 am_q131 rfl ?_
      exact ev_r (v := some (.int (am_gi h 109 1))) am_q131 rfl rfl rfl rfl H
    · replace H := H.2 hq
      refine ev_p (pc' := 12) (loc' := [.null, .null, .null]) (st' := [.int (-2 : Int32)]) 1 am_q131 rfl ?_
      exact ev_r (v := some (.int (-2 : Int32))) am_q131 rfl rfl rfl rfl H
/-! 132: X11_due -/
set_option maxRecDepth 20000 in
set_option maxHeartbeats 2000000 in
theorem ws132 {d : Nat}   {h : AH} {Q : Option Value → AH → Prop} (Ly : Lay h) (H : Cl d 14 [.ref 109] h (fun r2 h1 => ∃ x3, r2 = some (.int x3) ∧ Lay h1 ∧ Q (some (.int x3)) h1)) : Cl (d + 1) 132 [.ref 6] h Q := by
  show Ev (d + 1) 132 0 [.ref 6] [] h Q
  refine ev_p (pc' := 1) (loc' := [.ref 6]) (st' := [.ref 6]) 1 am_q132 rfl ?_
  refine ev_s (pc' := 4) (loc' := [.ref 6]) (st' := [.ref 109]) (h1 := h) am_q132 rfl rfl rfl (am_gf2 (lk6 Ly) (lr6_16 Ly)) ?_
  refine ev_c (vs := [.ref 109]) (rest := []) 14 am_q132 rfl rfl rfl rfl rfl rfl rfl rfl rfl rfl rfl rfl (Or.inr (congrArg some (lk109 Ly))) (Cl.mono H (Nat.le_refl _) (fun r2 h1 H => ?_))
  obtain ⟨x3, rfl, Ly, H⟩ := H
  exact ev_r (v := some (.int x3)) am_q132 rfl rfl rfl rfl H
/-! 133: X11_fund -/
set_option maxRecDepth 20000 in
set_option maxHeartbeats 2000000 in
theorem ws133 {d : Nat}  (i1 : Int32) (i2 : Int32) {h : AH} {Q : Option Value → AH → Prop} (Ly : Lay h) (H : Cl d 12 [.ref 109, .int i1] h (fun r2 h1 => ∃ x3, r2 = some (.int x3) ∧ Lay h1 ∧ (x3 = (0 : Int32) → Q (some (.long (-4611686018427387904 : Int64))) h1) ∧ (¬ x3 = (0 : Int32) → Cl d 144 [.int i2] h1 (fun r5 h4 => ∃ x6, r5 = some (.int x6) ∧ Lay h4 ∧ ((¬ x6 = (0 : Int32)) → Cl d 13 [.ref 109, .int i1, .long (Int32.toInt64 i2)] h4 (fun r8 h7 => ∃ y9, r8 = some (.long y9) ∧ Lay h7 ∧ Q (some (.long y9)) h7)) ∧ (¬ (¬ x6 = (0 : Int32)) → Q (some (.long (-4611686018427387904 : Int64))) h4))))) : Cl (d + 1) 133 [.ref 6, .int i1, .int i2] h Q := by
  show Ev (d + 1) 133 0 [.ref 6, .int i1, .int i2] [] h Q
  refine ev_p (pc' := 1) (loc' := [.ref 6, .int i1, .int i2]) (st' := [.ref 6]) 1 am_q133 rfl ?_
  refine ev_s (pc' := 4) (loc' := [.ref 6, .int i1, .int i2]) (st' := [.ref 109]) (h1 := h) am_q133 rfl rfl rfl (am_gf2 (lk6 Ly) (lr6_16 Ly)) ?_
  refine ev_p (pc' := 5) (loc' := [.ref 6, .int i1, .int i2]) (st' := [.int i1, .ref 109]) 1 am_q133 rfl ?_
  refine ev_c (vs := [.ref 109, .int i1]) (rest := []) 12 am_q133 rfl rfl rfl rfl rfl rfl rfl rfl rfl rfl rfl rfl (Or.inr (congrArg some (lk109 Ly))) (Cl.mono H (Nat.le_refl _) (fun r2 h1 H => ?_))
  obtain ⟨x3, rfl, Ly, H⟩ := H
  refine ev_jz (t := 18) am_q133 rfl rfl (fun hq => ?_) (fun hq => ?_)
  · replace H := H.1 hq
    refine ev_p (pc' := 21) (loc' := [.null, .null, .null]) (st' := [.long (-4611686018427387904 : Int64)]) 1 am_q133 rfl ?_
    exact ev_r (v := some (.long (-4611686018427387904 : Int64))) am_q133 rfl rfl rfl rfl H
  · replace H := H.2 hq
    refine ev_p (pc' := 12) (loc' := [.ref 6, .int i1, .int i2]) (st' := [.int i2]) 1 am_q133 rfl ?_
    refine ev_c (vs := [.int i2]) (rest := []) 144 am_q133 rfl rfl rfl rfl rfl rfl rfl rfl rfl rfl rfl rfl (Or.inl rfl) (Cl.mono H (Nat.le_refl _) (fun r5 h4 H => ?_))
    obtain ⟨x6, rfl, Ly, H⟩ := H
    refine ev_jz (t := 22) am_q133 rfl rfl (fun hq => ?_) (fun hq => ?_)
    · replace H := H.1 hq
      refine ev_p (pc' := 23) (loc' := [.ref 6, .int i1, .int i2]) (st' := [.ref 6]) 1 am_q133 rfl ?_
      refine ev_s (pc' := 26) (loc' := [.ref 6, .int i1, .int i2]) (st' := [.ref 109]) (h1 := h4) am_q133 rfl rfl rfl (am_gf2 (lk6 Ly) (lr6_16 Ly)) ?_
      refine ev_p (pc' := 29) (loc' := [.ref 6, .int i1, .int i2]) (st' := [.long (Int32.toInt64 i2), .int i1, .ref 109]) 3 am_q133 rfl ?_
      refine ev_c (vs := [.ref 109, .int i1, .long (Int32.toInt64 i2)]) (rest := []) 13 am_q133 rfl rfl rfl rfl rfl rfl rfl rfl rfl rfl rfl rfl (Or.inr (congrArg some (lk109 Ly))) (Cl.mono H (Nat.le_refl _) (fun r8 h7 H => ?_))
      obtain ⟨y9, rfl, Ly, H⟩ := H
      exact ev_r (v := some (.long y9)) am_q133 rfl rfl rfl rfl H
    · replace H := H.2 hq
      refine ev_p (pc' := 21) (loc' := [.null, .null, .null]) (st' := [.long (-4611686018427387904 : Int64)]) 1 am_q133 rfl ?_
      exact ev_r (v := some (.long (-4611686018427387904 : Int64))) am_q133 rfl rfl rfl rfl H
/-! 134: X11_count -/
set_option maxRecDepth 20000 in
set_option maxHeartbeats 2000000 in
theorem ws134 {d : Nat}  (i1 : Int32) {h : AH} {Q : Option Value → AH → Prop} (Ly : Lay h) (H : (i1 = (0 : Int32) → Q (some (.int (am_gi h 6 2))) h) ∧ (i1 = (1 : Int32) → Q (some (.int (am_gi h 6 4))) h) ∧ (i1 = (2 : Int32) → Cl d 151 [.ref 6] h (fun r4 h3 => ∃ x5, r4 = some (.int x5) ∧ Lay h3 ∧ Q (some (.int x5)) h3)) ∧ (i1 = (3 : Int32) → Q (some (.int (am_gi h 9 1))) h) ∧ (i1 = (4 : Int32) → Cl d 59 [.ref 9, .int (am_gi h 6 0)] h (fun r9 h8 => ∃ x10, r9 = some (.int x10) ∧ Lay h8 ∧ Q (some (.int x10)) h8)) ∧ (i1 = (5 : Int32) → Q (some (.int (am_gi h 6 9))) h) ∧ (i1 = (6 : Int32) → Q (some (.int (am_gi h 105 1))) h) ∧ (i1 = (7 : Int32) → Q (some (.int (am_gi h 71 1))) h) ∧ (i1 = (8 : Int32) → Q (some (.int (am_gi h 6 0))) h) ∧ (i1 = (9 : Int32) → Cl d 152 [.ref 6] h (fun r17 h16 => ∃ x18, r17 = some (.int x18) ∧ Lay h16 ∧ Q (some (.int x18)) h16)) ∧ (i1 = (10 : Int32) → Cl d 153 [.ref 6] h (fun r21 h20 => ∃ x22, r21 = some (.int x22) ∧ Lay h20 ∧ Cl d 262 [.int x22] h20 (fun r24 h23 => ∃ x25, r24 = some (.int x25) ∧ Lay h23 ∧ Q (some (.int x25)) h23))) ∧ (i1 = (11 : Int32) → Q (some (.int (am_gi h 109 1))) h) ∧ (¬ i1 = (0 : Int32) ∧ ¬ i1 = (1 : Int32) ∧ ¬ i1 = (2 : Int32) ∧ ¬ i1 = (3 : Int32) ∧ ¬ i1 = (4 : Int32) ∧ ¬ i1 = (5 : Int32) ∧ ¬ i1 = (6 : Int32) ∧ ¬ i1 = (7 : Int32) ∧ ¬ i1 = (8 : Int32) ∧ ¬ i1 = (9 : Int32) ∧ ¬ i1 = (10 : Int32) ∧ ¬ i1 = (11 : Int32) → Q (some (.int (-2 : Int32))) h)) : Cl (d + 1) 134 [.ref 6, .int i1] h Q := by
  show Ev (d + 1) 134 0 [.ref 6, .int i1] [] h Q
  refine ev_p (pc' := 1) (loc' := [.ref 6, .int i1]) (st' := [.int i1]) 1 am_q134 rfl ?_
  by_cases k1 : i1 = (0 : Int32)
  · replace H := H.1 k1
    refine ev_s (pc' := 64) (loc' := [.ref 6, .int i1]) (st' := []) (h1 := h) am_q134 rfl rfl rfl (by rw [k1]; rfl) ?_
    refine ev_p (pc' := 65) (loc' := [.ref 6, .int i1]) (st' := [.ref 6]) 1 am_q134 rfl ?_
    refine ev_s (pc' := 68) (loc' := [.ref 6, .int i1]) (st' := [.int (am_gi h 6 2)]) (h1 := h) am_q134 rfl rfl rfl (if_pos (e := none) (lk6 Ly)) ?_
    exact ev_r (v := some (.int (am_gi h 6 2))) am_q134 rfl rfl rfl rfl H
  replace H := H.2
  by_cases k2 : i1 = (1 : Int32)
  · replace H := H.1 k2
    refine ev_s (pc' := 69) (loc' := [.ref 6, .int i1]) (st' := []) (h1 := h) am_q134 rfl rfl rfl (by rw [k2]; rfl) ?_
    refine ev_p (pc' := 70) (loc' := [.ref 6, .int i1]) (st' := [.ref 6]) 1 am_q134 rfl ?_
    refine ev_s (pc' := 73) (loc' := [.ref 6, .int i1]) (st' := [.int (am_gi h 6 4)]) (h1 := h) am_q134 rfl rfl rfl (if_pos (e := none) (lk6 Ly)) ?_
    exact ev_r (v := some (.int (am_gi h 6 4))) am_q134 rfl rfl rfl rfl H
  replace H := H.2
  by_cases k6 : i1 = (2 : Int32)
  · replace H := H.1 k6
    refine ev_s (pc' := 74) (loc' := [.ref 6, .int i1]) (st' := []) (h1 := h) am_q134 rfl rfl rfl (by rw [k6]; rfl) ?_
    refine ev_p (pc' := 75) (loc' := [.ref 6, .int i1]) (st' := [.ref 6]) 1 am_q134 rfl ?_
    refine ev_c (vs := [.ref 6]) (rest := []) 151 am_q134 rfl rfl rfl rfl rfl rfl rfl rfl rfl rfl rfl rfl (Or.inr (congrArg some (lk6 Ly))) (Cl.mono H (Nat.le_refl _) (fun r4 h3 H => ?_))
    obtain ⟨x5, rfl, Ly, H⟩ := H
    exact ev_r (v := some (.int x5)) am_q134 rfl rfl rfl rfl H
  replace H := H.2
  by_cases k7 : i1 = (3 : Int32)
  · replace H := H.1 k7
    refine ev_s (pc' := 79) (loc' := [.ref 6, .int i1]) (st' := []) (h1 := h) am_q134 rfl rfl rfl (by rw [k7]; rfl) ?_
    refine ev_p (pc' := 80) (loc' := [.ref 6, .int i1]) (st' := [.ref 6]) 1 am_q134 rfl ?_
    refine ev_s (pc' := 83) (loc' := [.ref 6, .int i1]) (st' := [.ref 9]) (h1 := h) am_q134 rfl rfl rfl (am_gf2 (lk6 Ly) (lr6_5 Ly)) ?_
    refine ev_s (pc' := 86) (loc' := [.ref 6, .int i1]) (st' := [.int (am_gi h 9 1)]) (h1 := h) am_q134 rfl rfl rfl (if_pos (e := none) (lk9 Ly)) ?_
    exact ev_r (v := some (.int (am_gi h 9 1))) am_q134 rfl rfl rfl rfl H
  replace H := H.2
  by_cases k11 : i1 = (4 : Int32)
  · replace H := H.1 k11
    refine ev_s (pc' := 87) (loc' := [.ref 6, .int i1]) (st' := []) (h1 := h) am_q134 rfl rfl rfl (by rw [k11]; rfl) ?_
    refine ev_p (pc' := 88) (loc' := [.ref 6, .int i1]) (st' := [.ref 6]) 1 am_q134 rfl ?_
    refine ev_s (pc' := 91) (loc' := [.ref 6, .int i1]) (st' := [.ref 9]) (h1 := h) am_q134 rfl rfl rfl (am_gf2 (lk6 Ly) (lr6_5 Ly)) ?_
    refine ev_p (pc' := 92) (loc' := [.ref 6, .int i1]) (st' := [.ref 6, .ref 9]) 1 am_q134 rfl ?_
    refine ev_s (pc' := 95) (loc' := [.ref 6, .int i1]) (st' := [.int (am_gi h 6 0), .ref 9]) (h1 := h) am_q134 rfl rfl rfl (if_pos (e := none) (lk6 Ly)) ?_
    refine ev_c (vs := [.ref 9, .int (am_gi h 6 0)]) (rest := []) 59 am_q134 rfl rfl rfl rfl rfl rfl rfl rfl rfl rfl rfl rfl (Or.inr (congrArg some (lk9 Ly))) (Cl.mono H (Nat.le_refl _) (fun r9 h8 H => ?_))
    obtain ⟨x10, rfl, Ly, H⟩ := H
    exact ev_r (v := some (.int x10)) am_q134 rfl rfl rfl rfl H
  replace H := H.2
  by_cases k12 : i1 = (5 : Int32)
  · replace H := H.1 k12
    refine ev_s (pc' := 99) (loc' := [.ref 6, .int i1]) (st' := []) (h1 := h) am_q134 rfl rfl rfl (by rw [k12]; rfl) ?_
    refine ev_p (pc' := 100) (loc' := [.ref 6, .int i1]) (st' := [.ref 6]) 1 am_q134 rfl ?_
    refine ev_s (pc' := 103) (loc' := [.ref 6, .int i1]) (st' := [.int (am_gi h 6 9)]) (h1 := h) am_q134 rfl rfl rfl (if_pos (e := none) (lk6 Ly)) ?_
    exact ev_r (v := some (.int (am_gi h 6 9))) am_q134 rfl rfl rfl rfl H
  replace H := H.2
  by_cases k13 : i1 = (6 : Int32)
  · replace H := H.1 k13
    refine ev_s (pc' := 104) (loc' := [.ref 6, .int i1]) (st' := []) (h1 := h) am_q134 rfl rfl rfl (by rw [k13]; rfl) ?_
    refine ev_p (pc' := 105) (loc' := [.ref 6, .int i1]) (st' := [.ref 6]) 1 am_q134 rfl ?_
    refine ev_s (pc' := 108) (loc' := [.ref 6, .int i1]) (st' := [.ref 105]) (h1 := h) am_q134 rfl rfl rfl (am_gf2 (lk6 Ly) (lr6_15 Ly)) ?_
    refine ev_s (pc' := 111) (loc' := [.ref 6, .int i1]) (st' := [.int (am_gi h 105 1)]) (h1 := h) am_q134 rfl rfl rfl (if_pos (e := none) (lk105 Ly)) ?_
    exact ev_r (v := some (.int (am_gi h 105 1))) am_q134 rfl rfl rfl rfl H
  replace H := H.2
  by_cases k14 : i1 = (7 : Int32)
  · replace H := H.1 k14
    refine ev_s (pc' := 112) (loc' := [.ref 6, .int i1]) (st' := []) (h1 := h) am_q134 rfl rfl rfl (by rw [k14]; rfl) ?_
    refine ev_p (pc' := 113) (loc' := [.ref 6, .int i1]) (st' := [.ref 6]) 1 am_q134 rfl ?_
    refine ev_s (pc' := 116) (loc' := [.ref 6, .int i1]) (st' := [.ref 71]) (h1 := h) am_q134 rfl rfl rfl (am_gf2 (lk6 Ly) (lr6_6 Ly)) ?_
    refine ev_s (pc' := 119) (loc' := [.ref 6, .int i1]) (st' := [.int (am_gi h 71 1)]) (h1 := h) am_q134 rfl rfl rfl (if_pos (e := none) (lk71 Ly)) ?_
    exact ev_r (v := some (.int (am_gi h 71 1))) am_q134 rfl rfl rfl rfl H
  replace H := H.2
  by_cases k15 : i1 = (8 : Int32)
  · replace H := H.1 k15
    refine ev_s (pc' := 120) (loc' := [.ref 6, .int i1]) (st' := []) (h1 := h) am_q134 rfl rfl rfl (by rw [k15]; rfl) ?_
    refine ev_p (pc' := 121) (loc' := [.ref 6, .int i1]) (st' := [.ref 6]) 1 am_q134 rfl ?_
    refine ev_s (pc' := 124) (loc' := [.ref 6, .int i1]) (st' := [.int (am_gi h 6 0)]) (h1 := h) am_q134 rfl rfl rfl (if_pos (e := none) (lk6 Ly)) ?_
    exact ev_r (v := some (.int (am_gi h 6 0))) am_q134 rfl rfl rfl rfl H
  replace H := H.2
  by_cases k19 : i1 = (9 : Int32)
  · replace H := H.1 k19
    refine ev_s (pc' := 125) (loc' := [.ref 6, .int i1]) (st' := []) (h1 := h) am_q134 rfl rfl rfl (by rw [k19]; rfl) ?_
    refine ev_p (pc' := 126) (loc' := [.ref 6, .int i1]) (st' := [.ref 6]) 1 am_q134 rfl ?_
    refine ev_c (vs := [.ref 6]) (rest := []) 152 am_q134 rfl rfl rfl rfl rfl rfl rfl rfl rfl rfl rfl rfl (Or.inr (congrArg some (lk6 Ly))) (Cl.mono H (Nat.le_refl _) (fun r17 h16 H => ?_))
    obtain ⟨x18, rfl, Ly, H⟩ := H
    exact ev_r (v := some (.int x18)) am_q134 rfl rfl rfl rfl H
  replace H := H.2
  by_cases k26 : i1 = (10 : Int32)
  · replace H := H.1 k26
    refine ev_s (pc' := 130) (loc' := [.ref 6, .int i1]) (st' := []) (h1 := h) am_q134 rfl rfl rfl (by rw [k26]; rfl) ?_
    refine ev_p (pc' := 131) (loc' := [.ref 6, .int i1]) (st' := [.ref 6]) 1 am_q134 rfl ?_
    refine ev_c (vs := [.ref 6]) (rest := []) 153 am_q134 rfl rfl rfl rfl rfl rfl rfl rfl rfl rfl rfl rfl (Or.inr (congrArg some (lk6 Ly))) (Cl.mono H (Nat.le_refl _) (fun r21 h20 H => ?_))
    obtain ⟨x22, rfl, Ly, H⟩ := H
    refine ev_c (vs := [.int x22]) (rest := []) 262 am_q134 rfl rfl rfl rfl rfl rfl rfl rfl rfl rfl rfl rfl (Or.inl rfl) (Cl.mono H (Nat.le_refl _) (fun r24 h23 H => ?_))
    obtain ⟨x25, rfl, Ly, H⟩ := H
    exact ev_r (v := some (.int x25)) am_q134 rfl rfl rfl rfl H
  replace H := H.2
  by_cases k27 : i1 = (11 : Int32)
  · replace H := H.1 k27
    refine ev_s (pc' := 138) (loc' := [.ref 6, .int i1]) (st' := []) (h1 := h) am_q134 rfl rfl rfl (by rw [k27]; rfl) ?_
    refine ev_p (pc' := 139) (loc' := [.ref 6, .int i1]) (st' := [.ref 6]) 1 am_q134 rfl ?_
    refine ev_s (pc' := 142) (loc' := [.ref 6, .int i1]) (st' := [.ref 109]) (h1 := h) am_q134 rfl rfl rfl (am_gf2 (lk6 Ly) (lr6_16 Ly)) ?_
    refine ev_s (pc' := 145) (loc' := [.ref 6, .int i1]) (st' := [.int (am_gi h 109 1)]) (h1 := h) am_q134 rfl rfl rfl (if_pos (e := none) (lk109 Ly)) ?_
    exact ev_r (v := some (.int (am_gi h 109 1))) am_q134 rfl rfl rfl rfl H
  replace H := H.2
  replace H := H ⟨k1, k2, k6, k7, k11, k12, k13, k14, k15, k19, k26, k27⟩
  refine ev_s (pc' := 146) (loc' := [.ref 6, .int i1]) (st' := []) (h1 := h) am_q134 rfl rfl rfl (am_tso (x := (i1).toInt) (by have z0 : (i1).toInt ≠ 0 := am_tn k1 (by decide); have z1 : (i1).toInt ≠ 1 := am_tn k2 (by decide); have z2 : (i1).toInt ≠ 2 := am_tn k6 (by decide); have z3 : (i1).toInt ≠ 3 := am_tn k7 (by decide); have z4 : (i1).toInt ≠ 4 := am_tn k11 (by decide); have z5 : (i1).toInt ≠ 5 := am_tn k12 (by decide); have z6 : (i1).toInt ≠ 6 := am_tn k13 (by decide); have z7 : (i1).toInt ≠ 7 := am_tn k14 (by decide); have z8 : (i1).toInt ≠ 8 := am_tn k15 (by decide); have z9 : (i1).toInt ≠ 9 := am_tn k19 (by decide); have z10 : (i1).toInt ≠ 10 := am_tn k26 (by decide); have z11 : (i1).toInt ≠ 11 := am_tn k27 (by decide); omega)) ?_
  refine ev_p (pc' := 148) (loc' := [.ref 6, .int i1]) (st' := [.int (-2 : Int32)]) 1 am_q134 rfl ?_
  exact ev_r (v := some (.int (-2 : Int32))) am_q134 rfl rfl rfl rfl H
/-! 135: X11_put -/
set_option maxRecDepth 20000 in
set_option maxHeartbeats 2000000 in
theorem ws135 {d : Nat}  (i1 : Int32) (i2 : Int32) (i3 : Int32) {h : AH} {Q : Option Value → AH → Prop} (Ly : Lay h) (H : Cl d 141 [.int i1] h (fun r2 h1 => ∃ x3, r2 = some (.int x3) ∧ Lay h1 ∧ (x3 = (0 : Int32) → ∀ h4, h4 = am_si h1 6 18 (1 : Int32) → Q (some (.int (-1 : Int32))) h4) ∧ (¬ x3 = (0 : Int32) → ((¬ i2 = (1 : Int32)) → Ev (d + 1) 135 30 [.ref 6, .int i1, .int i2, .int i3, .null] [] h1 Q) ∧ (¬ (¬ i2 = (1 : Int32)) → Cl d 53 [.ref 9, .int i3] h1 (fun r6 h5 => ∃ x7, r6 = some (.int x7) ∧ Lay h5 ∧ ((¬ x7 = (0 : Int32)) → Ev (d + 1) 135 30 [.ref 6, .int i1, .int i2, .int i3, .null] [] h5 Q) ∧ (¬ (¬ x7 = (0 : Int32)) → ∀ h8, h8 = am_si h5 6 18 (1 : Int32) → Q (some (.int (-1 : Int32))) h8)))))) : Cl (d + 1) 135 [.ref 6, .int i1, .int i2, .int i3] h Q := by
  show Ev (d + 1) 135 0 [.ref 6, .int i1, .int i2, .int i3, .null] [] h Q
  refine ev_p (pc' := 1) (loc' := [.ref 6, .int i1, .int i2, .int i3, .null]) (st' := [.int i1]) 1 am_q135 rfl ?_
  refine ev_c (vs := [.int i1]) (rest := []) 141 am_q135 rfl rfl rfl rfl rfl rfl rfl rfl rfl rfl rfl rfl (Or.inl rfl) (Cl.mono H (Nat.le_refl _) (fun r2 h1 H => ?_))
  obtain ⟨x3, rfl, Ly, H⟩ := H
  refine ev_jz (t := 23) am_q135 rfl rfl (fun hq => ?_) (fun hq => ?_)
  · replace H := H.1 hq
    refine ev_p (pc' := 25) (loc' := [.ref 6, .null, .null, .null, .null]) (st' := [.int (1 : Int32), .ref 6]) 2 am_q135 rfl ?_
    refine ev_s (pc' := 28) (loc' := [.ref 6, .null, .null, .null, .null]) (st' := []) (h1 := am_si h1 6 18 (1 : Int32)) am_q135 rfl rfl rfl (if_pos (e := none) (lk6 Ly)) ?_
    replace H := H _ rfl
    replace Ly : Lay (am_si h1 6 18 (1 : Int32)) := Ly.si _ _ _
    generalize am_si h1 6 18 (1 : Int32) = h4 at H Ly ⊢
    refine ev_p (pc' := 29) (loc' := [.ref 6, .null, .null, .null, .null]) (st' := [.int (-1 : Int32)]) 1 am_q135 rfl ?_
    exact ev_r (v := some (.int (-1 : Int32))) am_q135 rfl rfl rfl rfl H
  · replace H := H.2 hq
    refine ev_p (pc' := 9) (loc' := [.ref 6, .int i1, .int i2, .int i3, .null]) (st' := [.int (1 : Int32), .int i2]) 2 am_q135 rfl ?_
    refine ev_jc (t := 30) am_q135 rfl rfl (fun hq => ?_) (fun hq => ?_)
    · replace H := H.1 hq
      exact ev_m (loc' := [.ref 6, .int i1, .int i2, .int i3, .null]) am_q135 rfl rfl H
    · replace H := H.2 hq
      refine ev_p (pc' := 13) (loc' := [.ref 6, .int i1, .int i2, .int i3, .null]) (st' := [.ref 6]) 1 am_q135 rfl ?_
      refine ev_s (pc' := 16) (loc' := [.ref 6, .int i1, .int i2, .int i3, .null]) (st' := [.ref 9]) (h1 := h1) am_q135 rfl rfl rfl (am_gf2 (lk6 Ly) (lr6_5 Ly)) ?_
      refine ev_p (pc' := 17) (loc' := [.ref 6, .int i1, .int i2, .int i3, .null]) (st' := [.int i3, .ref 9]) 1 am_q135 rfl ?_
      refine ev_c (vs := [.ref 9, .int i3]) (rest := []) 53 am_q135 rfl rfl rfl rfl rfl rfl rfl rfl rfl rfl rfl rfl (Or.inr (congrArg some (lk9 Ly))) (Cl.mono H (Nat.le_refl _) (fun r6 h5 H => ?_))
      obtain ⟨x7, rfl, Ly, H⟩ := H
      refine ev_jz (t := 30) am_q135 rfl rfl (fun hq => ?_) (fun hq => ?_)
      · replace H := H.1 hq
        exact ev_m (loc' := [.ref 6, .int i1, .int i2, .int i3, .null]) am_q135 rfl rfl H
      · replace H := H.2 hq
        refine ev_p (pc' := 25) (loc' := [.ref 6, .null, .null, .null, .null]) (st' := [.int (1 : Int32), .ref 6]) 2 am_q135 rfl ?_
        refine ev_s (pc' := 28) (loc' := [.ref 6, .null, .null, .null, .null]) (st' := []) (h1 := am_si h5 6 18 (1 : Int32)) am_q135 rfl rfl rfl (if_pos (e := none) (lk6 Ly)) ?_
        replace H := H _ rfl
        replace Ly : Lay (am_si h5 6 18 (1 : Int32)) := Ly.si _ _ _
        generalize am_si h5 6 18 (1 : Int32) = h8 at H Ly ⊢
        refine ev_p (pc' := 29) (loc' := [.ref 6, .null, .null, .null, .null]) (st' := [.int (-1 : Int32)]) 1 am_q135 rfl ?_
        exact ev_r (v := some (.int (-1 : Int32))) am_q135 rfl rfl rfl rfl H
set_option maxRecDepth 20000 in
set_option maxHeartbeats 2000000 in
theorem ws135_30 {d : Nat}  (i1 : Int32) (i2 : Int32) (i3 : Int32) {h : AH} {Q : Option Value → AH → Prop} (Ly : Lay h) (H : am_in i1 6 ∧ ∀ h2, h2 = am_si h 6 18 (0 : Int32) → (i2 = (0 : Int32) → Cl d 83 [.ref (196 + 3 * (Int32.toNatClampNeg i1))] h2 (fun r4 h3 => r4 = none ∧ Lay h3 ∧ Q (some (.int (1 : Int32))) h3)) ∧ (i2 = (1 : Int32) → am_in i3 60 ∧ Cl d 84 [.ref (196 + 3 * (Int32.toNatClampNeg i1)), .ref (11 + (Int32.toNatClampNeg i3))] h2 (fun r8 h7 => r8 = none ∧ Lay h7 ∧ Q (some (.int (1 : Int32))) h7)) ∧ (i2 = (2 : Int32) → Cl d 154 [.ref 6, .int (am_gi h2 6 0)] h2 (fun r11 h10 => ∃ x12, r11 = some (.int x12) ∧ Lay h10 ∧ am_in x12 12 ∧ Cl d 85 [.ref (196 + 3 * (Int32.toNatClampNeg i1)), .ref (148 + 4 * (Int32.toNatClampNeg x12))] h10 (fun r15 h14 => r15 = none ∧ Lay h14 ∧ Q (some (.int (1 : Int32))) h14))) ∧ (i2 = (3 : Int32) → Cl d 86 [.ref (196 + 3 * (Int32.toNatClampNeg i1)), .ref 8, .int (am_gi h2 6 4)] h2 (fun r18 h17 => r18 = none ∧ Lay h17 ∧ Q (some (.int (1 : Int32))) h17)) ∧ (i2 = (4 : Int32) → Cl d 148 [.ref 6] h2 (fun r21 h20 => ∃ x22, r21 = some (.int x22) ∧ Lay h20 ∧ Cl d 87 [.ref (196 + 3 * (Int32.toNatClampNeg i1)), .int x22, .int (am_gi h20 6 2)] h20 (fun r24 h23 => r24 = none ∧ Lay h23 ∧ Q (some (.int (1 : Int32))) h23))) ∧ (¬ i2 = (0 : Int32) ∧ ¬ i2 = (1 : Int32) ∧ ¬ i2 = (2 : Int32) ∧ ¬ i2 = (3 : Int32) ∧ ¬ i2 = (4 : Int32) → ∀ h26, h26 = am_si h2 6 18 (1 : Int32) → Q (some (.int (-1 : Int32))) h26)) : Ev (d + 1) 135 30 [.ref 6, .int i1, .int i2, .int i3, .null] [] h Q := by
  refine ev_p (pc' := 31) (loc' := [.ref 6, .int i1, .int i2, .int i3, .null]) (st' := [.ref 6]) 1 am_q135 rfl ?_
  refine ev_s (pc' := 34) (loc' := [.ref 6, .int i1, .int i2, .int i3, .null]) (st' := [.ref 111]) (h1 := h) am_q135 rfl rfl rfl (am_gf2 (lk6 Ly) (lr6_17 Ly)) ?_
  refine ev_p (pc' := 35) (loc' := [.ref 6, .int i1, .int i2, .int i3, .null]) (st' := [.int i1, .ref 111]) 1 am_q135 rfl ?_
  obtain ⟨g1, H⟩ := H
  refine ev_s (pc' := 36) (loc' := [.ref 6, .int i1, .int i2, .int i3, .null]) (st' := [.ref (196 + 3 * (Int32.toNatClampNeg i1))]) (h1 := h) am_q135 rfl rfl rfl (am_xa (am_rng (lk111 Ly) (by decide)) (am_inl (ln111 Ly) g1) (lr_tray Ly (am_in_lt2 g1))) ?_
  refine ev_p (pc' := 40) (loc' := [.ref 6, .int i1, .int i2, .int i3, .ref (196 + 3 * (Int32.toNatClampNeg i1))]) (st' := [.int (0 : Int32), .ref 6]) 3 am_q135 rfl ?_
  refine ev_s (pc' := 43) (loc' := [.ref 6, .int i1, .int i2, .int i3, .ref (196 + 3 * (Int32.toNatClampNeg i1))]) (st' := []) (h1 := am_si h 6 18 (0 : Int32)) am_q135 rfl rfl rfl (if_pos (e := none) (lk6 Ly)) ?_
  replace H := H _ rfl
  replace Ly : Lay (am_si h 6 18 (0 : Int32)) := Ly.si _ _ _
  generalize am_si h 6 18 (0 : Int32) = h2 at H Ly ⊢
  refine ev_p (pc' := 44) (loc' := [.ref 6, .int i1, .int i2, .int i3, .ref (196 + 3 * (Int32.toNatClampNeg i1))]) (st' := [.int i2]) 1 am_q135 rfl ?_
  by_cases k5 : i2 = (0 : Int32)
  · replace H := H.1 k5
    refine ev_s (pc' := 80) (loc' := [.ref 6, .int i1, .int i2, .int i3, .ref (196 + 3 * (Int32.toNatClampNeg i1))]) (st' := []) (h1 := h2) am_q135 rfl rfl rfl (by rw [k5]; rfl) ?_
    refine ev_p (pc' := 82) (loc' := [.ref 6, .int i1, .int i2, .int i3, .ref (196 + 3 * (Int32.toNatClampNeg i1))]) (st' := [.ref (196 + 3 * (Int32.toNatClampNeg i1))]) 1 am_q135 rfl ?_
    refine ev_c (vs := [.ref (196 + 3 * (Int32.toNatClampNeg i1))]) (rest := []) 83 am_q135 rfl rfl rfl rfl rfl rfl rfl rfl rfl rfl rfl rfl (Or.inr (congrArg some (lk_tray Ly (am_in_lt2 g1)))) (Cl.mono H (Nat.le_refl _) (fun r4 h3 H => ?_))
    obtain ⟨rfl, Ly, H⟩ := H
    refine ev_p (pc' := 86) (loc' := [.ref 6, .int i1, .int i2, .int i3, .ref (196 + 3 * (Int32.toNatClampNeg i1))]) (st' := [.int (1 : Int32)]) 1 am_q135 rfl ?_
    exact ev_r (v := some (.int (1 : Int32))) am_q135 rfl rfl rfl rfl H
  replace H := H.2
  by_cases k9 : i2 = (1 : Int32)
  · replace H := H.1 k9
    refine ev_s (pc' := 87) (loc' := [.ref 6, .int i1, .int i2, .int i3, .ref (196 + 3 * (Int32.toNatClampNeg i1))]) (st' := []) (h1 := h2) am_q135 rfl rfl rfl (by rw [k9]; rfl) ?_
    refine ev_p (pc' := 90) (loc' := [.ref 6, .int i1, .int i2, .int i3, .ref (196 + 3 * (Int32.toNatClampNeg i1))]) (st' := [.ref 6, .ref (196 + 3 * (Int32.toNatClampNeg i1))]) 2 am_q135 rfl ?_
    refine ev_s (pc' := 93) (loc' := [.ref 6, .int i1, .int i2, .int i3, .ref (196 + 3 * (Int32.toNatClampNeg i1))]) (st' := [.ref 9, .ref (196 + 3 * (Int32.toNatClampNeg i1))]) (h1 := h2) am_q135 rfl rfl rfl (am_gf2 (lk6 Ly) (lr6_5 Ly)) ?_
    refine ev_s (pc' := 96) (loc' := [.ref 6, .int i1, .int i2, .int i3, .ref (196 + 3 * (Int32.toNatClampNeg i1))]) (st' := [.ref 10, .ref (196 + 3 * (Int32.toNatClampNeg i1))]) (h1 := h2) am_q135 rfl rfl rfl (am_gf2 (lk9 Ly) (lr9_0 Ly)) ?_
    refine ev_p (pc' := 97) (loc' := [.ref 6, .int i1, .int i2, .int i3, .ref (196 + 3 * (Int32.toNatClampNeg i1))]) (st' := [.int i3, .ref 10, .ref (196 + 3 * (Int32.toNatClampNeg i1))]) 1 am_q135 rfl ?_
    obtain ⟨g6, H⟩ := H
    refine ev_s (pc' := 98) (loc' := [.ref 6, .int i1, .int i2, .int i3, .ref (196 + 3 * (Int32.toNatClampNeg i1))]) (st' := [.ref (11 + (Int32.toNatClampNeg i3)), .ref (196 + 3 * (Int32.toNatClampNeg i1))]) (h1 := h2) am_q135 rfl rfl rfl (am_xa (am_rng (lk10 Ly) (by decide)) (am_inl (ln10 Ly) g6) (lr_right Ly (am_in_lt2 g6))) ?_
    refine ev_c (vs := [.ref (196 + 3 * (Int32.toNatClampNeg i1)), .ref (11 + (Int32.toNatClampNeg i3))]) (rest := []) 84 am_q135 rfl rfl rfl rfl rfl rfl rfl rfl rfl rfl rfl rfl (Or.inr (congrArg some (lk_tray Ly (am_in_lt2 g1)))) (Cl.mono H (Nat.le_refl _) (fun r8 h7 H => ?_))
    obtain ⟨rfl, Ly, H⟩ := H
    refine ev_p (pc' := 102) (loc' := [.ref 6, .int i1, .int i2, .int i3, .ref (196 + 3 * (Int32.toNatClampNeg i1))]) (st' := [.int (1 : Int32)]) 1 am_q135 rfl ?_
    exact ev_r (v := some (.int (1 : Int32))) am_q135 rfl rfl rfl rfl H
  replace H := H.2
  by_cases k16 : i2 = (2 : Int32)
  · replace H := H.1 k16
    refine ev_s (pc' := 103) (loc' := [.ref 6, .int i1, .int i2, .int i3, .ref (196 + 3 * (Int32.toNatClampNeg i1))]) (st' := []) (h1 := h2) am_q135 rfl rfl rfl (by rw [k16]; rfl) ?_
    refine ev_p (pc' := 106) (loc' := [.ref 6, .int i1, .int i2, .int i3, .ref (196 + 3 * (Int32.toNatClampNeg i1))]) (st' := [.ref 6, .ref (196 + 3 * (Int32.toNatClampNeg i1))]) 2 am_q135 rfl ?_
    refine ev_s (pc' := 109) (loc' := [.ref 6, .int i1, .int i2, .int i3, .ref (196 + 3 * (Int32.toNatClampNeg i1))]) (st' := [.ref 78, .ref (196 + 3 * (Int32.toNatClampNeg i1))]) (h1 := h2) am_q135 rfl rfl rfl (am_gf2 (lk6 Ly) (lr6_8 Ly)) ?_
    refine ev_p (pc' := 111) (loc' := [.ref 6, .int i1, .int i2, .int i3, .ref (196 + 3 * (Int32.toNatClampNeg i1))]) (st' := [.ref 6, .ref 6, .ref 78, .ref (196 + 3 * (Int32.toNatClampNeg i1))]) 2 am_q135 rfl ?_
    refine ev_s (pc' := 114) (loc' := [.ref 6, .int i1, .int i2, .int i3, .ref (196 + 3 * (Int32.toNatClampNeg i1))]) (st' := [.int (am_gi h2 6 0), .ref 6, .ref 78, .ref (196 + 3 * (Int32.toNatClampNeg i1))]) (h1 := h2) am_q135 rfl rfl rfl (if_pos (e := none) (lk6 Ly)) ?_
    refine ev_c (vs := [.ref 6, .int (am_gi h2 6 0)]) (rest := [.ref 78, .ref (196 + 3 * (Int32.toNatClampNeg i1))]) 154 am_q135 rfl rfl rfl rfl rfl rfl rfl rfl rfl rfl rfl rfl (Or.inr (congrArg some (lk6 Ly))) (Cl.mono H (Nat.le_refl _) (fun r11 h10 H => ?_))
    obtain ⟨x12, rfl, Ly, H⟩ := H
    obtain ⟨g13, H⟩ := H
    refine ev_s (pc' := 118) (loc' := [.ref 6, .int i1, .int i2, .int i3, .ref (196 + 3 * (Int32.toNatClampNeg i1))]) (st' := [.ref (148 + 4 * (Int32.toNatClampNeg x12)), .ref (196 + 3 * (Int32.toNatClampNeg i1))]) (h1 := h10) am_q135 rfl rfl rfl (am_xa (am_rng (lk78 Ly) (by decide)) (am_inl (ln78 Ly) g13) (lr_text Ly (am_in_lt2 g13))) ?_
    refine ev_c (vs := [.ref (196 + 3 * (Int32.toNatClampNeg i1)), .ref (148 + 4 * (Int32.toNatClampNeg x12))]) (rest := []) 85 am_q135 rfl rfl rfl rfl rfl rfl rfl rfl rfl rfl rfl rfl (Or.inr (congrArg some (lk_tray Ly (am_in_lt2 g1)))) (Cl.mono H (Nat.le_refl _) (fun r15 h14 H => ?_))
    obtain ⟨rfl, Ly, H⟩ := H
    refine ev_p (pc' := 122) (loc' := [.ref 6, .int i1, .int i2, .int i3, .ref (196 + 3 * (Int32.toNatClampNeg i1))]) (st' := [.int (1 : Int32)]) 1 am_q135 rfl ?_
    exact ev_r (v := some (.int (1 : Int32))) am_q135 rfl rfl rfl rfl H
  replace H := H.2
  by_cases k19 : i2 = (3 : Int32)
  · replace H := H.1 k19
    refine ev_s (pc' := 123) (loc' := [.ref 6, .int i1, .int i2, .int i3, .ref (196 + 3 * (Int32.toNatClampNeg i1))]) (st' := []) (h1 := h2) am_q135 rfl rfl rfl (by rw [k19]; rfl) ?_
    refine ev_p (pc' := 126) (loc' := [.ref 6, .int i1, .int i2, .int i3, .ref (196 + 3 * (Int32.toNatClampNeg i1))]) (st' := [.ref 6, .ref (196 + 3 * (Int32.toNatClampNeg i1))]) 2 am_q135 rfl ?_
    refine ev_s (pc' := 129) (loc' := [.ref 6, .int i1, .int i2, .int i3, .ref (196 + 3 * (Int32.toNatClampNeg i1))]) (st' := [.ref 8, .ref (196 + 3 * (Int32.toNatClampNeg i1))]) (h1 := h2) am_q135 rfl rfl rfl (am_gf2 (lk6 Ly) (lr6_3 Ly)) ?_
    refine ev_p (pc' := 130) (loc' := [.ref 6, .int i1, .int i2, .int i3, .ref (196 + 3 * (Int32.toNatClampNeg i1))]) (st' := [.ref 6, .ref 8, .ref (196 + 3 * (Int32.toNatClampNeg i1))]) 1 am_q135 rfl ?_
    refine ev_s (pc' := 133) (loc' := [.ref 6, .int i1, .int i2, .int i3, .ref (196 + 3 * (Int32.toNatClampNeg i1))]) (st' := [.int (am_gi h2 6 4), .ref 8, .ref (196 + 3 * (Int32.toNatClampNeg i1))]) (h1 := h2) am_q135 rfl rfl rfl (if_pos (e := none) (lk6 Ly)) ?_
    refine ev_c (vs := [.ref (196 + 3 * (Int32.toNatClampNeg i1)), .ref 8, .int (am_gi h2 6 4)]) (rest := []) 86 am_q135 rfl rfl rfl rfl rfl rfl rfl rfl rfl rfl rfl rfl (Or.inr (congrArg some (lk_tray Ly (am_in_lt2 g1)))) (Cl.mono H (Nat.le_refl _) (fun r18 h17 H => ?_))
    obtain ⟨rfl, Ly, H⟩ := H
    refine ev_p (pc' := 137) (loc' := [.ref 6, .int i1, .int i2, .int i3, .ref (196 + 3 * (Int32.toNatClampNeg i1))]) (st' := [.int (1 : Int32)]) 1 am_q135 rfl ?_
    exact ev_r (v := some (.int (1 : Int32))) am_q135 rfl rfl rfl rfl H
  replace H := H.2
  by_cases k25 : i2 = (4 : Int32)
  · replace H := H.1 k25
    refine ev_s (pc' := 138) (loc' := [.ref 6, .int i1, .int i2, .int i3, .ref (196 + 3 * (Int32.toNatClampNeg i1))]) (st' := []) (h1 := h2) am_q135 rfl rfl rfl (by rw [k25]; rfl) ?_
    refine ev_p (pc' := 141) (loc' := [.ref 6, .int i1, .int i2, .int i3, .ref (196 + 3 * (Int32.toNatClampNeg i1))]) (st' := [.ref 6, .ref (196 + 3 * (Int32.toNatClampNeg i1))]) 2 am_q135 rfl ?_
    refine ev_c (vs := [.ref 6]) (rest := [.ref (196 + 3 * (Int32.toNatClampNeg i1))]) 148 am_q135 rfl rfl rfl rfl rfl rfl rfl rfl rfl rfl rfl rfl (Or.inr (congrArg some (lk6 Ly))) (Cl.mono H (Nat.le_refl _) (fun r21 h20 H => ?_))
    obtain ⟨x22, rfl, Ly, H⟩ := H
    refine ev_p (pc' := 145) (loc' := [.ref 6, .int i1, .int i2, .int i3, .ref (196 + 3 * (Int32.toNatClampNeg i1))]) (st' := [.ref 6, .int x22, .ref (196 + 3 * (Int32.toNatClampNeg i1))]) 1 am_q135 rfl ?_
    refine ev_s (pc' := 148) (loc' := [.ref 6, .int i1, .int i2, .int i3, .ref (196 + 3 * (Int32.toNatClampNeg i1))]) (st' := [.int (am_gi h20 6 2), .int x22, .ref (196 + 3 * (Int32.toNatClampNeg i1))]) (h1 := h20) am_q135 rfl rfl rfl (if_pos (e := none) (lk6 Ly)) ?_
    refine ev_c (vs := [.ref (196 + 3 * (Int32.toNatClampNeg i1)), .int x22, .int (am_gi h20 6 2)]) (rest := []) 87 am_q135 rfl rfl rfl rfl rfl rfl rfl rfl rfl rfl rfl rfl (Or.inr (congrArg some (lk_tray Ly (am_in_lt2 g1)))) (Cl.mono H (Nat.le_refl _) (fun r24 h23 H => ?_))
    obtain ⟨rfl, Ly, H⟩ := H
    refine ev_p (pc' := 152) (loc' := [.ref 6, .int i1, .int i2, .int i3, .ref (196 + 3 * (Int32.toNatClampNeg i1))]) (st' := [.int (1 : Int32)]) 1 am_q135 rfl ?_
    exact ev_r (v := some (.int (1 : Int32))) am_q135 rfl rfl rfl rfl H
  replace H := H.2
  replace H := H ⟨k5, k9, k16, k19, k25⟩
  refine ev_s (pc' := 153) (loc' := [.ref 6, .int i1, .int i2, .int i3, .ref (196 + 3 * (Int32.toNatClampNeg i1))]) (st' := []) (h1 := h2) am_q135 rfl rfl rfl (am_tso (x := (i2).toInt) (by have z0 : (i2).toInt ≠ 0 := am_tn k5 (by decide); have z1 : (i2).toInt ≠ 1 := am_tn k9 (by decide); have z2 : (i2).toInt ≠ 2 := am_tn k16 (by decide); have z3 : (i2).toInt ≠ 3 := am_tn k19 (by decide); have z4 : (i2).toInt ≠ 4 := am_tn k25 (by decide); omega)) ?_
  refine ev_p (pc' := 155) (loc' := [.ref 6, .int i1, .int i2, .int i3, .ref (196 + 3 * (Int32.toNatClampNeg i1))]) (st' := [.int (1 : Int32), .ref 6]) 2 am_q135 rfl ?_
  refine ev_s (pc' := 158) (loc' := [.ref 6, .int i1, .int i2, .int i3, .ref (196 + 3 * (Int32.toNatClampNeg i1))]) (st' := []) (h1 := am_si h2 6 18 (1 : Int32)) am_q135 rfl rfl rfl (if_pos (e := none) (lk6 Ly)) ?_
  replace H := H _ rfl
  replace Ly : Lay (am_si h2 6 18 (1 : Int32)) := Ly.si _ _ _
  generalize am_si h2 6 18 (1 : Int32) = h26 at H Ly ⊢
  refine ev_p (pc' := 159) (loc' := [.ref 6, .int i1, .int i2, .int i3, .ref (196 + 3 * (Int32.toNatClampNeg i1))]) (st' := [.int (-1 : Int32)]) 1 am_q135 rfl ?_
  exact ev_r (v := some (.int (-1 : Int32))) am_q135 rfl rfl rfl rfl H
/-! 136: X11_forge -/
set_option maxRecDepth 20000 in
set_option maxHeartbeats 2000000 in
theorem ws136 {d : Nat}  (i1 : Int32) (i2 : Int32) (i3 : Int32) {h : AH} {Q : Option Value → AH → Prop} (Ly : Lay h) (H : Cl d 141 [.int i1] h (fun r2 h1 => ∃ x3, r2 = some (.int x3) ∧ Lay h1 ∧ (x3 = (0 : Int32) → ∀ h4, h4 = am_si h1 6 18 (1 : Int32) → Q (some (.int (-1 : Int32))) h4) ∧ (¬ x3 = (0 : Int32) → (i3 < (-100 : Int32) → ∀ h5, h5 = am_si h1 6 18 (1 : Int32) → Q (some (.int (-1 : Int32))) h5) ∧ (¬ i3 < (-100 : Int32) → (i3 ≤ (100 : Int32) → am_in i1 6 ∧ Cl d 88 [.ref (196 + 3 * (Int32.toNatClampNeg i1)), .int i2, .int i3] h1 (fun r8 h7 => ∃ x9, r8 = some (.int x9) ∧ Lay h7 ∧ am_in i1 6 ∧ ∀ h11, h11 = am_si h7 6 18 (am_gi h7 (196 + 3 * (Int32.toNatClampNeg i1)) 7) → Q (some (.int x9)) h11)) ∧ (¬ i3 ≤ (100 : Int32) → ∀ h12, h12 = am_si h1 6 18 (1 : Int32) → Q (some (.int (-1 : Int32))) h12))))) : Cl (d + 1) 136 [.ref 6, .int i1, .int i2, .int i3] h Q := by
  show Ev (d + 1) 136 0 [.ref 6, .int i1, .int i2, .int i3, .null] [] h Q
  refine ev_p (pc' := 1) (loc' := [.ref 6, .int i1, .int i2, .int i3, .null]) (st' := [.int i1]) 1 am_q136 rfl ?_
  refine ev_c (vs := [.int i1]) (rest := []) 141 am_q136 rfl rfl rfl rfl rfl rfl rfl rfl rfl rfl rfl rfl (Or.inl rfl) (Cl.mono H (Nat.le_refl _) (fun r2 h1 H => ?_))
  obtain ⟨x3, rfl, Ly, H⟩ := H
  refine ev_jz (t := 19) am_q136 rfl rfl (fun hq => ?_) (fun hq => ?_)
  · replace H := H.1 hq
    refine ev_p (pc' := 21) (loc' := [.ref 6, .null, .null, .null, .null]) (st' := [.int (1 : Int32), .ref 6]) 2 am_q136 rfl ?_
    refine ev_s (pc' := 24) (loc' := [.ref 6, .null, .null, .null, .null]) (st' := []) (h1 := am_si h1 6 18 (1 : Int32)) am_q136 rfl rfl rfl (if_pos (e := none) (lk6 Ly)) ?_
    replace H := H _ rfl
    replace Ly : Lay (am_si h1 6 18 (1 : Int32)) := Ly.si _ _ _
    generalize am_si h1 6 18 (1 : Int32) = h4 at H Ly ⊢
    refine ev_p (pc' := 25) (loc' := [.ref 6, .null, .null, .null, .null]) (st' := [.int (-1 : Int32)]) 1 am_q136 rfl ?_
    exact ev_r (v := some (.int (-1 : Int32))) am_q136 rfl rfl rfl rfl H
  · replace H := H.2 hq
    refine ev_p (pc' := 10) (loc' := [.ref 6, .int i1, .int i2, .int i3, .null]) (st' := [.int (-100 : Int32), .int i3]) 2 am_q136 rfl ?_
    refine ev_jc (t := 19) am_q136 rfl rfl (fun hq => ?_) (fun hq => ?_)
    · replace H := H.1 hq
      refine ev_p (pc' := 21) (loc' := [.ref 6, .null, .null, .null, .null]) (st' := [.int (1 : Int32), .ref 6]) 2 am_q136 rfl ?_
      refine ev_s (pc' := 24) (loc' := [.ref 6, .null, .null, .null, .null]) (st' := []) (h1 := am_si h1 6 18 (1 : Int32)) am_q136 rfl rfl rfl (if_pos (e := none) (lk6 Ly)) ?_
      replace H := H _ rfl
      replace Ly : Lay (am_si h1 6 18 (1 : Int32)) := Ly.si _ _ _
      generalize am_si h1 6 18 (1 : Int32) = h5 at H Ly ⊢
      refine ev_p (pc' := 25) (loc' := [.ref 6, .null, .null, .null, .null]) (st' := [.int (-1 : Int32)]) 1 am_q136 rfl ?_
      exact ev_r (v := some (.int (-1 : Int32))) am_q136 rfl rfl rfl rfl H
    · replace H := H.2 hq
      refine ev_p (pc' := 16) (loc' := [.ref 6, .int i1, .int i2, .int i3, .null]) (st' := [.int (100 : Int32), .int i3]) 2 am_q136 rfl ?_
      refine ev_jc (t := 26) am_q136 rfl rfl (fun hq => ?_) (fun hq => ?_)
      · replace H := H.1 hq
        refine ev_p (pc' := 27) (loc' := [.ref 6, .int i1, .int i2, .int i3, .null]) (st' := [.ref 6]) 1 am_q136 rfl ?_
        refine ev_s (pc' := 30) (loc' := [.ref 6, .int i1, .int i2, .int i3, .null]) (st' := [.ref 111]) (h1 := h1) am_q136 rfl rfl rfl (am_gf2 (lk6 Ly) (lr6_17 Ly)) ?_
        refine ev_p (pc' := 31) (loc' := [.ref 6, .int i1, .int i2, .int i3, .null]) (st' := [.int i1, .ref 111]) 1 am_q136 rfl ?_
        obtain ⟨g6, H⟩ := H
        refine ev_s (pc' := 32) (loc' := [.ref 6, .int i1, .int i2, .int i3, .null]) (st' := [.ref (196 + 3 * (Int32.toNatClampNeg i1))]) (h1 := h1) am_q136 rfl rfl rfl (am_xa (am_rng (lk111 Ly) (by decide)) (am_inl (ln111 Ly) g6) (lr_tray Ly (am_in_lt2 g6))) ?_
        refine ev_p (pc' := 34) (loc' := [.ref 6, .int i1, .int i2, .int i3, .null]) (st' := [.int i3, .int i2, .ref (196 + 3 * (Int32.toNatClampNeg i1))]) 2 am_q136 rfl ?_
        refine ev_c (vs := [.ref (196 + 3 * (Int32.toNatClampNeg i1)), .int i2, .int i3]) (rest := []) 88 am_q136 rfl rfl rfl rfl rfl rfl rfl rfl rfl rfl rfl rfl (Or.inr (congrArg some (lk_tray Ly (am_in_lt2 g6)))) (Cl.mono H (Nat.le_refl _) (fun r8 h7 H => ?_))
        obtain ⟨x9, rfl, Ly, H⟩ := H
        refine ev_p (pc' := 41) (loc' := [.ref 6, .int i1, .int i2, .int i3, .int x9]) (st' := [.ref 6, .ref 6]) 3 am_q136 rfl ?_
        refine ev_s (pc' := 44) (loc' := [.ref 6, .int i1, .int i2, .int i3, .int x9]) (st' := [.ref 111, .ref 6]) (h1 := h7) am_q136 rfl rfl rfl (am_gf2 (lk6 Ly) (lr6_17 Ly)) ?_
        refine ev_p (pc' := 45) (loc' := [.ref 6, .int i1, .int i2, .int i3, .int x9]) (st' := [.int i1, .ref 111, .ref 6]) 1 am_q136 rfl ?_
        obtain ⟨g10, H⟩ := H
        refine ev_s (pc' := 46) (loc' := [.ref 6, .int i1, .int i2, .int i3, .int x9]) (st' := [.ref (196 + 3 * (Int32.toNatClampNeg i1)), .ref 6]) (h1 := h7) am_q136 rfl rfl rfl (am_xa (am_rng (lk111 Ly) (by decide)) (am_inl (ln111 Ly) g10) (lr_tray Ly (am_in_lt2 g10))) ?_
        refine ev_s (pc' := 49) (loc' := [.ref 6, .int i1, .int i2, .int i3, .int x9]) (st' := [.int (am_gi h7 (196 + 3 * (Int32.toNatClampNeg i1)) 7), .ref 6]) (h1 := h7) am_q136 rfl rfl rfl (if_pos (e := none) (lk_tray Ly (am_in_lt2 g10))) ?_
        refine ev_s (pc' := 52) (loc' := [.ref 6, .int i1, .int i2, .int i3, .int x9]) (st' := []) (h1 := am_si h7 6 18 (am_gi h7 (196 + 3 * (Int32.toNatClampNeg i1)) 7)) am_q136 rfl rfl rfl (if_pos (e := none) (lk6 Ly)) ?_
        replace H := H _ rfl
        replace Ly : Lay (am_si h7 6 18 (am_gi h7 (196 + 3 * (Int32.toNatClampNeg i1)) 7)) := Ly.si _ _ _
        generalize am_si h7 6 18 (am_gi h7 (196 + 3 * (Int32.toNatClampNeg i1)) 7) = h11 at H Ly ⊢
        refine ev_p (pc' := 54) (loc' := [.ref 6, .int i1, .int i2, .int i3, .int x9]) (st' := [.int x9]) 1 am_q136 rfl ?_
        exact ev_r (v := some (.int x9)) am_q136 rfl rfl rfl rfl H
      · replace H := H.2 hq
        refine ev_p (pc' := 21) (loc' := [.ref 6, .null, .null, .null, .null]) (st' := [.int (1 : Int32), .ref 6]) 2 am_q136 rfl ?_
        refine ev_s (pc' := 24) (loc' := [.ref 6, .null, .null, .null, .null]) (st' := []) (h1 := am_si h1 6 18 (1 : Int32)) am_q136 rfl rfl rfl (if_pos (e := none) (lk6 Ly)) ?_
        replace H := H _ rfl
        replace Ly : Lay (am_si h1 6 18 (1 : Int32)) := Ly.si _ _ _
        generalize am_si h1 6 18 (1 : Int32) = h12 at H Ly ⊢
        refine ev_p (pc' := 25) (loc' := [.ref 6, .null, .null, .null, .null]) (st' := [.int (-1 : Int32)]) 1 am_q136 rfl ?_
        exact ev_r (v := some (.int (-1 : Int32))) am_q136 rfl rfl rfl rfl H
/-! 137: X11_status -/
set_option maxRecDepth 20000 in
set_option maxHeartbeats 2000000 in
theorem ws137 {d : Nat}   {h : AH} {Q : Option Value → AH → Prop} (Ly : Lay h) (H : Q (some (.int (am_gi h 6 18))) h) : Cl d 137 [.ref 6] h Q := by
  show Ev d 137 0 [.ref 6] [] h Q
  refine ev_p (pc' := 1) (loc' := [.ref 6]) (st' := [.ref 6]) 1 am_q137 rfl ?_
  refine ev_s (pc' := 4) (loc' := [.ref 6]) (st' := [.int (am_gi h 6 18)]) (h1 := h) am_q137 rfl rfl rfl (if_pos (e := none) (lk6 Ly)) ?_
  exact ev_r (v := some (.int (am_gi h 6 18))) am_q137 rfl rfl rfl rfl H
/-! 138: X11_isHome -/
set_option maxRecDepth 20000 in
set_option maxHeartbeats 2000000 in
theorem ws138 {d : Nat}  (i1 : Int32) {h : AH} {Q : Option Value → AH → Prop} (Ly : Lay h) (H : (i1 < (0 : Int32) → Q (some (.int (0 : Int32))) h) ∧ (¬ i1 < (0 : Int32) → ((am_gi h 6 2) ≤ i1 → Q (some (.int (0 : Int32))) h) ∧ (¬ (am_gi h 6 2) ≤ i1 → Q (some (.int (1 : Int32))) h))) : Cl d 138 [.ref 6, .int i1] h Q := by
  show Ev d 138 0 [.ref 6, .int i1] [] h Q
  refine ev_p (pc' := 1) (loc' := [.ref 6, .int i1]) (st' := [.int i1]) 1 am_q138 rfl ?_
  refine ev_jz (t := 16) am_q138 rfl rfl (fun hq => ?_) (fun hq => ?_)
  · replace H := H.1 hq
    refine ev_p (pc' := 17) (loc' := [.null, .null]) (st' := [.int (0 : Int32)]) 1 am_q138 rfl ?_
    exact ev_r (v := some (.int (0 : Int32))) am_q138 rfl rfl rfl rfl H
  · replace H := H.2 hq
    refine ev_p (pc' := 6) (loc' := [.ref 6, .int i1]) (st' := [.ref 6, .int i1]) 2 am_q138 rfl ?_
    refine ev_s (pc' := 9) (loc' := [.ref 6, .int i1]) (st' := [.int (am_gi h 6 2), .int i1]) (h1 := h) am_q138 rfl rfl rfl (if_pos (e := none) (lk6 Ly)) ?_
    refine ev_jc (t := 16) am_q138 rfl rfl (fun hq => ?_) (fun hq => ?_)
    · replace H := H.1 hq
      refine ev_p (pc' := 17) (loc' := [.null, .null]) (st' := [.int (0 : Int32)]) 1 am_q138 rfl ?_
      exact ev_r (v := some (.int (0 : Int32))) am_q138 rfl rfl rfl rfl H
    · replace H := H.2 hq
      refine ev_p (pc' := 17) (loc' := [.ref 6, .int i1]) (st' := [.int (1 : Int32)]) 2 am_q138 rfl ?_
      exact ev_r (v := some (.int (1 : Int32))) am_q138 rfl rfl rfl rfl H
/-! 139: X11_isMember -/
set_option maxRecDepth 20000 in
set_option maxHeartbeats 2000000 in
theorem ws139 {d : Nat}  (i1 : Int32) {h : AH} {Q : Option Value → AH → Prop} (Ly : Lay h) (H : (i1 < (0 : Int32) → Q (some (.int (0 : Int32))) h) ∧ (¬ i1 < (0 : Int32) → ((am_gi h 6 4) ≤ i1 → Q (some (.int (0 : Int32))) h) ∧ (¬ (am_gi h 6 4) ≤ i1 → Q (some (.int (1 : Int32))) h))) : Cl d 139 [.ref 6, .int i1] h Q := by
  show Ev d 139 0 [.ref 6, .int i1] [] h Q
  refine ev_p (pc' := 1) (loc' := [.ref 6, .int i1]) (st' := [.int i1]) 1 am_q139 rfl ?_
  refine ev_jz (t := 16) am_q139 rfl rfl (fun hq => ?_) (fun hq => ?_)
  · replace H := H.1 hq
    refine ev_p (pc' := 17) (loc' := [.null, .null]) (st' := [.int (0 : Int32)]) 1 am_q139 rfl ?_
    exact ev_r (v := some (.int (0 : Int32))) am_q139 rfl rfl rfl rfl H
  · replace H := H.2 hq
    refine ev_p (pc' := 6) (loc' := [.ref 6, .int i1]) (st' := [.ref 6, .int i1]) 2 am_q139 rfl ?_
    refine ev_s (pc' := 9) (loc' := [.ref 6, .int i1]) (st' := [.int (am_gi h 6 4), .int i1]) (h1 := h) am_q139 rfl rfl rfl (if_pos (e := none) (lk6 Ly)) ?_
    refine ev_jc (t := 16) am_q139 rfl rfl (fun hq => ?_) (fun hq => ?_)
    · replace H := H.1 hq
      refine ev_p (pc' := 17) (loc' := [.null, .null]) (st' := [.int (0 : Int32)]) 1 am_q139 rfl ?_
      exact ev_r (v := some (.int (0 : Int32))) am_q139 rfl rfl rfl rfl H
    · replace H := H.2 hq
      refine ev_p (pc' := 17) (loc' := [.ref 6, .int i1]) (st' := [.int (1 : Int32)]) 2 am_q139 rfl ?_
      exact ev_r (v := some (.int (1 : Int32))) am_q139 rfl rfl rfl rfl H
/-! 140: X11_isText -/
set_option maxRecDepth 20000 in
set_option maxHeartbeats 2000000 in
theorem ws140 {d : Nat}  (i1 : Int32) {h : AH} {Q : Option Value → AH → Prop} (Ly : Lay h) (H : (i1 < (0 : Int32) → Q (some (.int (0 : Int32))) h) ∧ (¬ i1 < (0 : Int32) → ((am_gi h 6 9) ≤ i1 → Q (some (.int (0 : Int32))) h) ∧ (¬ (am_gi h 6 9) ≤ i1 → Q (some (.int (1 : Int32))) h))) : Cl d 140 [.ref 6, .int i1] h Q := by
  show Ev d 140 0 [.ref 6, .int i1] [] h Q
  refine ev_p (pc' := 1) (loc' := [.ref 6, .int i1]) (st' := [.int i1]) 1 am_q140 rfl ?_
  refine ev_jz (t := 16) am_q140 rfl rfl (fun hq => ?_) (fun hq => ?_)
  · replace H := H.1 hq
    refine ev_p (pc' := 17) (loc' := [.null, .null]) (st' := [.int (0 : Int32)]) 1 am_q140 rfl ?_
    exact ev_r (v := some (.int (0 : Int32))) am_q140 rfl rfl rfl rfl H
  · replace H := H.2 hq
    refine ev_p (pc' := 6) (loc' := [.ref 6, .int i1]) (st' := [.ref 6, .int i1]) 2 am_q140 rfl ?_
    refine ev_s (pc' := 9) (loc' := [.ref 6, .int i1]) (st' := [.int (am_gi h 6 9), .int i1]) (h1 := h) am_q140 rfl rfl rfl (if_pos (e := none) (lk6 Ly)) ?_
    refine ev_jc (t := 16) am_q140 rfl rfl (fun hq => ?_) (fun hq => ?_)
    · replace H := H.1 hq
      refine ev_p (pc' := 17) (loc' := [.null, .null]) (st' := [.int (0 : Int32)]) 1 am_q140 rfl ?_
      exact ev_r (v := some (.int (0 : Int32))) am_q140 rfl rfl rfl rfl H
    · replace H := H.2 hq
      refine ev_p (pc' := 17) (loc' := [.ref 6, .int i1]) (st' := [.int (1 : Int32)]) 2 am_q140 rfl ?_
      exact ev_r (v := some (.int (1 : Int32))) am_q140 rfl rfl rfl rfl H
/-! 141: X11_isTray -/
set_option maxRecDepth 20000 in
set_option maxHeartbeats 2000000 in
theorem ws141 {d : Nat}  (i0 : Int32) {h : AH} {Q : Option Value → AH → Prop} (Ly : Lay h) (H : (i0 < (0 : Int32) → Q (some (.int (0 : Int32))) h) ∧ (¬ i0 < (0 : Int32) → ((6 : Int32) ≤ i0 → Q (some (.int (0 : Int32))) h) ∧ (¬ (6 : Int32) ≤ i0 → Q (some (.int (1 : Int32))) h))) : Cl d 141 [.int i0] h Q := by
  show Ev d 141 0 [.int i0] [] h Q
  refine ev_p (pc' := 1) (loc' := [.int i0]) (st' := [.int i0]) 1 am_q141 rfl ?_
  refine ev_jz (t := 14) am_q141 rfl rfl (fun hq => ?_) (fun hq => ?_)
  · replace H := H.1 hq
    refine ev_p (pc' := 15) (loc' := [.null]) (st' := [.int (0 : Int32)]) 1 am_q141 rfl ?_
    exact ev_r (v := some (.int (0 : Int32))) am_q141 rfl rfl rfl rfl H
  · replace H := H.2 hq
    refine ev_p (pc' := 7) (loc' := [.int i0]) (st' := [.int (6 : Int32), .int i0]) 2 am_q141 rfl ?_
    refine ev_jc (t := 14) am_q141 rfl rfl (fun hq => ?_) (fun hq => ?_)
    · replace H := H.1 hq
      refine ev_p (pc' := 15) (loc' := [.null]) (st' := [.int (0 : Int32)]) 1 am_q141 rfl ?_
      exact ev_r (v := some (.int (0 : Int32))) am_q141 rfl rfl rfl rfl H
    · replace H := H.2 hq
      refine ev_p (pc' := 15) (loc' := [.int i0]) (st' := [.int (1 : Int32)]) 2 am_q141 rfl ?_
      exact ev_r (v := some (.int (1 : Int32))) am_q141 rfl rfl rfl rfl H
/-! 142: X11_isFamily -/
set_option maxRecDepth 20000 in
set_option maxHeartbeats 2000000 in
theorem ws142 {d : Nat}  (i0 : Int32) {h : AH} {Q : Option Value → AH → Prop} (Ly : Lay h) (H : (i0 < (1 : Int32) → Q (some (.int (0 : Int32))) h) ∧ (¬ i0 < (1 : Int32) → ((9 : Int32) < i0 → Q (some (.int (0 : Int32))) h) ∧ (¬ (9 : Int32) < i0 → Q (some (.int (1 : Int32))) h))) : Cl d 142 [.int i0] h Q := by
  show Ev d 142 0 [.int i0] [] h Q
  refine ev_p (pc' := 2) (loc' := [.int i0]) (st' := [.int (1 : Int32), .int i0]) 2 am_q142 rfl ?_
  refine ev_jc (t := 15) am_q142 rfl rfl (fun hq => ?_) (fun hq => ?_)
  · replace H := H.1 hq
    refine ev_p (pc' := 16) (loc' := [.null]) (st' := [.int (0 : Int32)]) 1 am_q142 rfl ?_
    exact ev_r (v := some (.int (0 : Int32))) am_q142 rfl rfl rfl rfl H
  · replace H := H.2 hq
    refine ev_p (pc' := 8) (loc' := [.int i0]) (st' := [.int (9 : Int32), .int i0]) 2 am_q142 rfl ?_
    refine ev_jc (t := 15) am_q142 rfl rfl (fun hq => ?_) (fun hq => ?_)
    · replace H := H.1 hq
      refine ev_p (pc' := 16) (loc' := [.null]) (st' := [.int (0 : Int32)]) 1 am_q142 rfl ?_
      exact ev_r (v := some (.int (0 : Int32))) am_q142 rfl rfl rfl rfl H
    · replace H := H.2 hq
      refine ev_p (pc' := 16) (loc' := [.int i0]) (st' := [.int (1 : Int32)]) 2 am_q142 rfl ?_
      exact ev_r (v := some (.int (1 : Int32))) am_q142 rfl rfl rfl rfl H
/-! 143: X11_isDay -/
set_option maxRecDepth 20000 in
set_option maxHeartbeats 2000000 in
theorem ws143 {d : Nat}  (i0 : Int32) {h : AH} {Q : Option Value → AH → Prop} (Ly : Lay h) (H : (i0 < (0 : Int32) → Q (some (.int (0 : Int32))) h) ∧ (¬ i0 < (0 : Int32) → ((2000000 : Int32) < i0 → Q (some (.int (0 : Int32))) h) ∧ (¬ (2000000 : Int32) < i0 → Q (some (.int (1 : Int32))) h))) : Cl d 143 [.int i0] h Q := by
  show Ev d 143 0 [.int i0] [] h Q
  refine ev_p (pc' := 1) (loc' := [.int i0]) (st' := [.int i0]) 1 am_q143 rfl ?_
  refine ev_jz (t := 15) am_q143 rfl rfl (fun hq => ?_) (fun hq => ?_)
  · replace H := H.1 hq
    refine ev_p (pc' := 16) (loc' := [.null]) (st' := [.int (0 : Int32)]) 1 am_q143 rfl ?_
    exact ev_r (v := some (.int (0 : Int32))) am_q143 rfl rfl rfl rfl H
  · replace H := H.2 hq
    refine ev_p (pc' := 8) (loc' := [.int i0]) (st' := [.int (2000000 : Int32), .int i0]) 2 am_q143 rfl ?_
    refine ev_jc (t := 15) am_q143 rfl rfl (fun hq => ?_) (fun hq => ?_)
    · replace H := H.1 hq
      refine ev_p (pc' := 16) (loc' := [.null]) (st' := [.int (0 : Int32)]) 1 am_q143 rfl ?_
      exact ev_r (v := some (.int (0 : Int32))) am_q143 rfl rfl rfl rfl H
    · replace H := H.2 hq
      refine ev_p (pc' := 16) (loc' := [.int i0]) (st' := [.int (1 : Int32)]) 2 am_q143 rfl ?_
      exact ev_r (v := some (.int (1 : Int32))) am_q143 rfl rfl rfl rfl H
/-! 144: X11_areCoins -/
set_option maxRecDepth 20000 in
set_option maxHeartbeats 2000000 in
theorem ws144 {d : Nat}  (i0 : Int32) {h : AH} {Q : Option Value → AH → Prop} (Ly : Lay h) (H : (i0 < (0 : Int32) → Q (some (.int (0 : Int32))) h) ∧ (¬ i0 < (0 : Int32) → ((1000000 : Int32) < i0 → Q (some (.int (0 : Int32))) h) ∧ (¬ (1000000 : Int32) < i0 → Q (some (.int (1 : Int32))) h))) : Cl d 144 [.int i0] h Q := by
  show Ev d 144 0 [.int i0] [] h Q
  refine ev_p (pc' := 1) (loc' := [.int i0]) (st' := [.int i0]) 1 am_q144 rfl ?_
  refine ev_jz (t := 14) am_q144 rfl rfl (fun hq => ?_) (fun hq => ?_)
  · replace H := H.1 hq
    refine ev_p (pc' := 15) (loc' := [.null]) (st' := [.int (0 : Int32)]) 1 am_q144 rfl ?_
    exact ev_r (v := some (.int (0 : Int32))) am_q144 rfl rfl rfl rfl H
  · replace H := H.2 hq
    refine ev_p (pc' := 7) (loc' := [.int i0]) (st' := [.int (1000000 : Int32), .int i0]) 2 am_q144 rfl ?_
    refine ev_jc (t := 14) am_q144 rfl rfl (fun hq => ?_) (fun hq => ?_)
    · replace H := H.1 hq
      refine ev_p (pc' := 15) (loc' := [.null]) (st' := [.int (0 : Int32)]) 1 am_q144 rfl ?_
      exact ev_r (v := some (.int (0 : Int32))) am_q144 rfl rfl rfl rfl H
    · replace H := H.2 hq
      refine ev_p (pc' := 15) (loc' := [.int i0]) (st' := [.int (1 : Int32)]) 2 am_q144 rfl ?_
      exact ev_r (v := some (.int (1 : Int32))) am_q144 rfl rfl rfl rfl H
/-! 145: X11_daysFit -/
set_option maxRecDepth 20000 in
set_option maxHeartbeats 2000000 in
theorem ws145 {d : Nat}  (i0 : Int32) (i1 : Int32) {h : AH} {Q : Option Value → AH → Prop} (Ly : Lay h) (H : ((¬ i0 = (0 : Int32)) → (i1 < (1 : Int32) → Q (some (.int (0 : Int32))) h) ∧ (¬ i1 < (1 : Int32) → ((10000 : Int32) < i1 → Q (some (.int (0 : Int32))) h) ∧ (¬ (10000 : Int32) < i1 → Q (some (.int (1 : Int32))) h))) ∧ (¬ (¬ i0 = (0 : Int32)) → ((¬ i1 = (0 : Int32)) → Q (some (.int (0 : Int32))) h) ∧ (¬ (¬ i1 = (0 : Int32)) → Q (some (.int (1 : Int32))) h))) : Cl d 145 [.int i0, .int i1] h Q := by
  show Ev d 145 0 [.int i0, .int i1] [] h Q
  refine ev_p (pc' := 1) (loc' := [.int i0, .int i1]) (st' := [.int i0]) 1 am_q145 rfl ?_
  refine ev_jz (t := 16) am_q145 rfl rfl (fun hq => ?_) (fun hq => ?_)
  · replace H := H.1 hq
    refine ev_p (pc' := 18) (loc' := [.int i0, .int i1]) (st' := [.int (1 : Int32), .int i1]) 2 am_q145 rfl ?_
    refine ev_jc (t := 32) am_q145 rfl rfl (fun hq => ?_) (fun hq => ?_)
    · replace H := H.1 hq
      refine ev_p (pc' := 33) (loc' := [.null, .null]) (st' := [.int (0 : Int32)]) 1 am_q145 rfl ?_
      exact ev_r (v := some (.int (0 : Int32))) am_q145 rfl rfl rfl rfl H
    · replace H := H.2 hq
      refine ev_p (pc' := 25) (loc' := [.int i0, .int i1]) (st' := [.int (10000 : Int32), .int i1]) 2 am_q145 rfl ?_
      refine ev_jc (t := 32) am_q145 rfl rfl (fun hq => ?_) (fun hq => ?_)
      · replace H := H.1 hq
        refine ev_p (pc' := 33) (loc' := [.null, .null]) (st' := [.int (0 : Int32)]) 1 am_q145 rfl ?_
        exact ev_r (v := some (.int (0 : Int32))) am_q145 rfl rfl rfl rfl H
      · replace H := H.2 hq
        refine ev_p (pc' := 33) (loc' := [.int i0, .int i1]) (st' := [.int (1 : Int32)]) 2 am_q145 rfl ?_
        exact ev_r (v := some (.int (1 : Int32))) am_q145 rfl rfl rfl rfl H
  · replace H := H.2 hq
    refine ev_p (pc' := 5) (loc' := [.int i0, .int i1]) (st' := [.int i1]) 1 am_q145 rfl ?_
    refine ev_jz (t := 12) am_q145 rfl rfl (fun hq => ?_) (fun hq => ?_)
    · replace H := H.1 hq
      refine ev_p (pc' := 33) (loc' := [.int i0, .int i1]) (st' := [.int (0 : Int32)]) 2 am_q145 rfl ?_
      exact ev_r (v := some (.int (0 : Int32))) am_q145 rfl rfl rfl rfl H
    · replace H := H.2 hq
      refine ev_p (pc' := 33) (loc' := [.int i0, .int i1]) (st' := [.int (1 : Int32)]) 2 am_q145 rfl ?_
      exact ev_r (v := some (.int (1 : Int32))) am_q145 rfl rfl rfl rfl H
/-! 146: X11_isHere -/
set_option maxRecDepth 20000 in
set_option maxHeartbeats 2000000 in
theorem ws146 {d : Nat}  (i1 : Int32) {h : AH} {Q : Option Value → AH → Prop} (Ly : Lay h) (H : am_in i1 24 ∧ Cl d 22 [.ref (124 + (Int32.toNatClampNeg i1)), .int (am_gi h 6 0)] h (fun r3 h2 => ∃ x4, r3 = some (.int x4) ∧ Lay h2 ∧ (x4 = (0 : Int32) ∨ x4 = (1 : Int32)) ∧ Q (some (.int x4)) h2)) : Cl (d + 1) 146 [.ref 6, .int i1] h Q := by
  show Ev (d + 1) 146 0 [.ref 6, .int i1] [] h Q
  refine ev_p (pc' := 1) (loc' := [.ref 6, .int i1]) (st' := [.ref 6]) 1 am_q146 rfl ?_
  refine ev_s (pc' := 4) (loc' := [.ref 6, .int i1]) (st' := [.ref 8]) (h1 := h) am_q146 rfl rfl rfl (am_gf2 (lk6 Ly) (lr6_3 Ly)) ?_
  refine ev_p (pc' := 5) (loc' := [.ref 6, .int i1]) (st' := [.int i1, .ref 8]) 1 am_q146 rfl ?_
  obtain ⟨g1, H⟩ := H
  refine ev_s (pc' := 6) (loc' := [.ref 6, .int i1]) (st' := [.ref (124 + (Int32.toNatClampNeg i1))]) (h1 := h) am_q146 rfl rfl rfl (am_xa (am_rng (lk8 Ly) (by decide)) (am_inl (ln8 Ly) g1) (lr_member Ly (am_in_lt2 g1))) ?_
  refine ev_p (pc' := 7) (loc' := [.ref 6, .int i1]) (st' := [.ref 6, .ref (124 + (Int32.toNatClampNeg i1))]) 1 am_q146 rfl ?_
  refine ev_s (pc' := 10) (loc' := [.ref 6, .int i1]) (st' := [.int (am_gi h 6 0), .ref (124 + (Int32.toNatClampNeg i1))]) (h1 := h) am_q146 rfl rfl rfl (if_pos (e := none) (lk6 Ly)) ?_
  refine ev_c (vs := [.ref (124 + (Int32.toNatClampNeg i1)), .int (am_gi h 6 0)]) (rest := []) 22 am_q146 rfl rfl rfl rfl rfl rfl rfl rfl rfl rfl rfl rfl (Or.inr (congrArg some (lk_member Ly (am_in_lt2 g1)))) (Cl.mono H (Nat.le_refl _) (fun r3 h2 H => ?_))
  obtain ⟨x4, rfl, Ly, H⟩ := H
  exact ev_r (v := some (.int x4)) am_q146 rfl rfl rfl (decide_eq_true H.1) H.2
/-! 147: X11_isEmpty -/
set_option maxRecDepth 20000 in
set_option maxHeartbeats 2000000 in
theorem ws147 {d : Nat}  (i1 : Int32) {h : AH} {Q : Option Value → AH → Prop} (Ly : Lay h) (H : Cl d 56 [.ref 9, .int i1, .int (am_gi h 6 0)] h (fun r2 h1 => ∃ x3, r2 = some (.int x3) ∧ Lay h1 ∧ ((¬ x3 = (-1 : Int32)) → Q (some (.int (0 : Int32))) h1) ∧ (¬ (¬ x3 = (-1 : Int32)) → Q (some (.int (1 : Int32))) h1))) : Cl (d + 1) 147 [.ref 6, .int i1] h Q := by
  show Ev (d + 1) 147 0 [.ref 6, .int i1] [] h Q
  refine ev_p (pc' := 1) (loc' := [.ref 6, .int i1]) (st' := [.ref 6]) 1 am_q147 rfl ?_
  refine ev_s (pc' := 4) (loc' := [.ref 6, .int i1]) (st' := [.ref 9]) (h1 := h) am_q147 rfl rfl rfl (am_gf2 (lk6 Ly) (lr6_5 Ly)) ?_
  refine ev_p (pc' := 6) (loc' := [.ref 6, .int i1]) (st' := [.ref 6, .int i1, .ref 9]) 2 am_q147 rfl ?_
  refine ev_s (pc' := 9) (loc' := [.ref 6, .int i1]) (st' := [.int (am_gi h 6 0), .int i1, .ref 9]) (h1 := h) am_q147 rfl rfl rfl (if_pos (e := none) (lk6 Ly)) ?_
  refine ev_c (vs := [.ref 9, .int i1, .int (am_gi h 6 0)]) (rest := []) 56 am_q147 rfl rfl rfl rfl rfl rfl rfl rfl rfl rfl rfl rfl (Or.inr (congrArg some (lk9 Ly))) (Cl.mono H (Nat.le_refl _) (fun r2 h1 H => ?_))
  obtain ⟨x3, rfl, Ly, H⟩ := H
  refine ev_p (pc' := 13) (loc' := [.ref 6, .int i1]) (st' := [.int (-1 : Int32), .int x3]) 1 am_q147 rfl ?_
  refine ev_jc (t := 20) am_q147 rfl rfl (fun hq => ?_) (fun hq => ?_)
  · replace H := H.1 hq
    refine ev_p (pc' := 21) (loc' := [.ref 6, .int i1]) (st' := [.int (0 : Int32)]) 1 am_q147 rfl ?_
    exact ev_r (v := some (.int (0 : Int32))) am_q147 rfl rfl rfl rfl H
  · replace H := H.2 hq
    refine ev_p (pc' := 21) (loc' := [.ref 6, .int i1]) (st' := [.int (1 : Int32)]) 2 am_q147 rfl ?_
    exact ev_r (v := some (.int (1 : Int32))) am_q147 rfl rfl rfl rfl H
/-! 148: X11_emptyHomes -/
set_option maxRecDepth 20000 in
set_option maxHeartbeats 2000000 in
theorem ws148 {d : Nat}   {h : AH} {Q : Option Value → AH → Prop} (Ly : Lay h) (H : Ev (d + 1) 148 4 [.ref 6, .int (0 : Int32), .int (0 : Int32)] [] h Q) : Cl (d + 1) 148 [.ref 6] h Q := by
  show Ev (d + 1) 148 0 [.ref 6, .null, .null] [] h Q
  refine ev_p (pc' := 4) (loc' := [.ref 6, .int (0 : Int32), .int (0 : Int32)]) (st' := []) 4 am_q148 rfl ?_
  exact ev_m (loc' := [.ref 6, .int (0 : Int32), .int (0 : Int32)]) am_q148 rfl rfl H
set_option maxRecDepth 20000 in
set_option maxHeartbeats 2000000 in
theorem ws148_4 {d : Nat}  (i1 : Int32) (i2 : Int32) {h : AH} {Q : Option Value → AH → Prop} (Ly : Lay h) (H : ((am_gi h 6 2) ≤ i2 → Q (some (.int i1)) h) ∧ (¬ (am_gi h 6 2) ≤ i2 → Cl d 147 [.ref 6, .int i2] h (fun r2 h1 => ∃ x3, r2 = some (.int x3) ∧ Lay h1 ∧ (x3 = (0 : Int32) → Ev (d + 1) 148 4 [.ref 6, .int i1, .int (i2 + (1 : Int32))] [] h1 Q) ∧ (¬ x3 = (0 : Int32) → Ev (d + 1) 148 4 [.ref 6, .int (i1 ||| ((1 : Int32) <<< (i2 &&& 31))), .int (i2 + (1 : Int32))] [] h1 Q)))) : Ev (d + 1) 148 4 [.ref 6, .int i1, .int i2] [] h Q := by
  refine ev_p (pc' := 6) (loc' := [.ref 6, .int i1, .int i2]) (st' := [.ref 6, .int i2]) 2 am_q148 rfl ?_
  refine ev_s (pc' := 9) (loc' := [.ref 6, .int i1, .int i2]) (st' := [.int (am_gi h 6 2), .int i2]) (h1 := h) am_q148 rfl rfl rfl (if_pos (e := none) (lk6 Ly)) ?_
  refine ev_jc (t := 32) am_q148 rfl rfl (fun hq => ?_) (fun hq => ?_)
  · replace H := H.1 hq
    refine ev_p (pc' := 33) (loc' := [.ref 6, .int i1, .int i2]) (st' := [.int i1]) 1 am_q148 rfl ?_
    exact ev_r (v := some (.int i1)) am_q148 rfl rfl rfl rfl H
  · replace H := H.2 hq
    refine ev_p (pc' := 14) (loc' := [.ref 6, .int i1, .int i2]) (st' := [.int i2, .ref 6]) 2 am_q148 rfl ?_
    refine ev_c (vs := [.ref 6, .int i2]) (rest := []) 147 am_q148 rfl rfl rfl rfl rfl rfl rfl rfl rfl rfl rfl rfl (Or.inr (congrArg some (lk6 Ly))) (Cl.mono H (Nat.le_refl _) (fun r2 h1 H => ?_))
    obtain ⟨x3, rfl, Ly, H⟩ := H
    refine ev_jz (t := 26) am_q148 rfl rfl (fun hq => ?_) (fun hq => ?_)
    · replace H := H.1 hq
      refine ev_p (pc' := 4) (loc' := [.ref 6, .int i1, .int (i2 + (1 : Int32))]) (st' := []) 2 am_q148 rfl ?_
      exact ev_m (loc' := [.ref 6, .int i1, .int (i2 + (1 : Int32))]) am_q148 rfl rfl H
    · replace H := H.2 hq
      refine ev_p (pc' := 4) (loc' := [.ref 6, .int (i1 ||| ((1 : Int32) <<< (i2 &&& 31))), .int (i2 + (1 : Int32))]) (st' := []) 8 am_q148 rfl ?_
      exact ev_m (loc' := [.ref 6, .int (i1 ||| ((1 : Int32) <<< (i2 &&& 31))), .int (i2 + (1 : Int32))]) am_q148 rfl rfl H
/-! 149: X11_heldHome -/
set_option maxRecDepth 20000 in
set_option maxHeartbeats 2000000 in
theorem ws149 {d : Nat}  (i1 : Int32) {h : AH} {Q : Option Value → AH → Prop} (Ly : Lay h) (H : Cl d 57 [.ref 9, .int i1, .int (am_gi h 6 0)] h (fun r2 h1 => ∃ x3, r2 = some (.int x3) ∧ Lay h1 ∧ ((¬ x3 = (-1 : Int32)) → am_in x3 60 ∧ Q (some (.int (am_gi h1 (11 + (Int32.toNatClampNeg x3)) 1))) h1) ∧ (¬ (¬ x3 = (-1 : Int32)) → Q (some (.int (-1 : Int32))) h1))) : Cl (d + 1) 149 [.ref 6, .int i1] h Q := by
  show Ev (d + 1) 149 0 [.ref 6, .int i1, .null] [] h Q
  refine ev_p (pc' := 1) (loc' := [.ref 6, .int i1, .null]) (st' := [.ref 6]) 1 am_q149 rfl ?_
  refine ev_s (pc' := 4) (loc' := [.ref 6, .int i1, .null]) (st' := [.ref 9]) (h1 := h) am_q149 rfl rfl rfl (am_gf2 (lk6 Ly) (lr6_5 Ly)) ?_
  refine ev_p (pc' := 6) (loc' := [.ref 6, .int i1, .null]) (st' := [.ref 6, .int i1, .ref 9]) 2 am_q149 rfl ?_
  refine ev_s (pc' := 9) (loc' := [.ref 6, .int i1, .null]) (st' := [.int (am_gi h 6 0), .int i1, .ref 9]) (h1 := h) am_q149 rfl rfl rfl (if_pos (e := none) (lk6 Ly)) ?_
  refine ev_c (vs := [.ref 9, .int i1, .int (am_gi h 6 0)]) (rest := []) 57 am_q149 rfl rfl rfl rfl rfl rfl rfl rfl rfl rfl rfl rfl (Or.inr (congrArg some (lk9 Ly))) (Cl.mono H (Nat.le_refl _) (fun r2 h1 H => ?_))
  obtain ⟨x3, rfl, Ly, H⟩ := H
  refine ev_p (pc' := 15) (loc' := [.ref 6, .int i1, .int x3]) (st' := [.int (-1 : Int32), .int x3]) 3 am_q149 rfl ?_
  refine ev_jc (t := 22) am_q149 rfl rfl (fun hq => ?_) (fun hq => ?_)
  · replace H := H.1 hq
    refine ev_p (pc' := 23) (loc' := [.ref 6, .int i1, .int x3]) (st' := [.ref 6]) 1 am_q149 rfl ?_
    refine ev_s (pc' := 26) (loc' := [.ref 6, .int i1, .int x3]) (st' := [.ref 9]) (h1 := h1) am_q149 rfl rfl rfl (am_gf2 (lk6 Ly) (lr6_5 Ly)) ?_
    refine ev_s (pc' := 29) (loc' := [.ref 6, .int i1, .int x3]) (st' := [.ref 10]) (h1 := h1) am_q149 rfl rfl rfl (am_gf2 (lk9 Ly) (lr9_0 Ly)) ?_
    refine ev_p (pc' := 30) (loc' := [.ref 6, .int i1, .int x3]) (st' := [.int x3, .ref 10]) 1 am_q149 rfl ?_
    obtain ⟨g4, H⟩ := H
    refine ev_s (pc' := 31) (loc' := [.ref 6, .int i1, .int x3]) (st' := [.ref (11 + (Int32.toNatClampNeg x3))]) (h1 := h1) am_q149 rfl rfl rfl (am_xa (am_rng (lk10 Ly) (by decide)) (am_inl (ln10 Ly) g4) (lr_right Ly (am_in_lt2 g4))) ?_
    refine ev_s (pc' := 34) (loc' := [.ref 6, .int i1, .int x3]) (st' := [.int (am_gi h1 (11 + (Int32.toNatClampNeg x3)) 1)]) (h1 := h1) am_q149 rfl rfl rfl (if_pos (e := none) (lk_right Ly (am_in_lt2 g4))) ?_
    exact ev_r (v := some (.int (am_gi h1 (11 + (Int32.toNatClampNeg x3)) 1))) am_q149 rfl rfl rfl rfl H
  · replace H := H.2 hq
    refine ev_p (pc' := 34) (loc' := [.ref 6, .int i1, .int x3]) (st' := [.int (-1 : Int32)]) 2 am_q149 rfl ?_
    exact ev_r (v := some (.int (-1 : Int32))) am_q149 rfl rfl rfl rfl H
/-! 150: X11_mayHave -/
set_option maxRecDepth 20000 in
set_option maxHeartbeats 2000000 in
theorem ws150 {d : Nat}  (i1 : Int32) (i2 : Int32) (i3 : Int32) {h : AH} {Q : Option Value → AH → Prop} (Ly : Lay h) (H : Cl d 149 [.ref 6, .int i3] h (fun r2 h1 => ∃ x3, r2 = some (.int x3) ∧ Lay h1 ∧ ((¬ i1 = (2 : Int32)) → ((¬ x3 = (-1 : Int32)) → Q (some (.int (0 : Int32))) h1) ∧ (¬ (¬ x3 = (-1 : Int32)) → Cl d 147 [.ref 6, .int i2] h1 (fun r5 h4 => ∃ x6, r5 = some (.int x6) ∧ Lay h4 ∧ (x6 = (0 : Int32) → Q (some (.int (0 : Int32))) h4) ∧ (¬ x6 = (0 : Int32) → am_in i2 12 ∧ ((¬ (am_gi h4 (112 + (Int32.toNatClampNeg i2)) 3) = (0 : Int32)) → Q (some (.int (0 : Int32))) h4) ∧ (¬ (¬ (am_gi h4 (112 + (Int32.toNatClampNeg i2)) 3) = (0 : Int32)) → Q (some (.int (1 : Int32))) h4))))) ∧ (¬ (¬ i1 = (2 : Int32)) → (x3 = i2 → Q (some (.int (0 : Int32))) h1) ∧ (¬ x3 = i2 → Q (some (.int (1 : Int32))) h1)))) : Cl (d + 1) 150 [.ref 6, .int i1, .int i2, .int i3] h Q := by
  show Ev (d + 1) 150 0 [.ref 6, .int i1, .int i2, .int i3, .null] [] h Q
  refine ev_p (pc' := 2) (loc' := [.ref 6, .int i1, .int i2, .int i3, .null]) (st' := [.int i3, .ref 6]) 2 am_q150 rfl ?_
  refine ev_c (vs := [.ref 6, .int i3]) (rest := []) 149 am_q150 rfl rfl rfl rfl rfl rfl rfl rfl rfl rfl rfl rfl (Or.inr (congrArg some (lk6 Ly))) (Cl.mono H (Nat.le_refl _) (fun r2 h1 H => ?_))
  obtain ⟨x3, rfl, Ly, H⟩ := H
  refine ev_p (pc' := 9) (loc' := [.ref 6, .int i1, .int i2, .int i3, .int x3]) (st' := [.int (2 : Int32), .int i1]) 3 am_q150 rfl ?_
  refine ev_jc (t := 24) am_q150 rfl rfl (fun hq => ?_) (fun hq => ?_)
  · replace H := H.1 hq
    refine ev_p (pc' := 27) (loc' := [.ref 6, .int i1, .int i2, .int i3, .int x3]) (st' := [.int (-1 : Int32), .int x3]) 2 am_q150 rfl ?_
    refine ev_jc (t := 54) am_q150 rfl rfl (fun hq => ?_) (fun hq => ?_)
    · replace H := H.1 hq
      refine ev_p (pc' := 55) (loc' := [.null, .null, .null, .null, .null]) (st' := [.int (0 : Int32)]) 1 am_q150 rfl ?_
      exact ev_r (v := some (.int (0 : Int32))) am_q150 rfl rfl rfl rfl H
    · replace H := H.2 hq
      refine ev_p (pc' := 32) (loc' := [.ref 6, .int i1, .int i2, .int i3, .int x3]) (st' := [.int i2, .ref 6]) 2 am_q150 rfl ?_
      refine ev_c (vs := [.ref 6, .int i2]) (rest := []) 147 am_q150 rfl rfl rfl rfl rfl rfl rfl rfl rfl rfl rfl rfl (Or.inr (congrArg some (lk6 Ly))) (Cl.mono H (Nat.le_refl _) (fun r5 h4 H => ?_))
      obtain ⟨x6, rfl, Ly, H⟩ := H
      refine ev_jz (t := 54) am_q150 rfl rfl (fun hq => ?_) (fun hq => ?_)
      · replace H := H.1 hq
        refine ev_p (pc' := 55) (loc' := [.null, .null, .null, .null, .null]) (st' := [.int (0 : Int32)]) 1 am_q150 rfl ?_
        exact ev_r (v := some (.int (0 : Int32))) am_q150 rfl rfl rfl rfl H
      · replace H := H.2 hq
        refine ev_p (pc' := 39) (loc' := [.ref 6, .int i1, .int i2, .int i3, .int x3]) (st' := [.ref 6]) 1 am_q150 rfl ?_
        refine ev_s (pc' := 42) (loc' := [.ref 6, .int i1, .int i2, .int i3, .int x3]) (st' := [.ref 7]) (h1 := h4) am_q150 rfl rfl rfl (am_gf2 (lk6 Ly) (lr6_1 Ly)) ?_
        refine ev_p (pc' := 43) (loc' := [.ref 6, .int i1, .int i2, .int i3, .int x3]) (st' := [.int i2, .ref 7]) 1 am_q150 rfl ?_
        obtain ⟨g7, H⟩ := H
        refine ev_s (pc' := 44) (loc' := [.ref 6, .int i1, .int i2, .int i3, .int x3]) (st' := [.ref (112 + (Int32.toNatClampNeg i2))]) (h1 := h4) am_q150 rfl rfl rfl (am_xa (am_rng (lk7 Ly) (by decide)) (am_inl (ln7 Ly) g7) (lr_home Ly (am_in_lt2 g7))) ?_
        refine ev_s (pc' := 47) (loc' := [.ref 6, .int i1, .int i2, .int i3, .int x3]) (st' := [.int (am_gi h4 (112 + (Int32.toNatClampNeg i2)) 3)]) (h1 := h4) am_q150 rfl rfl rfl (if_pos (e := none) (lk_home Ly (am_in_lt2 g7))) ?_
        refine ev_jz (t := 54) am_q150 rfl rfl (fun hq => ?_) (fun hq => ?_)
        · replace H := H.1 hq
          refine ev_p (pc' := 55) (loc' := [.null, .null, .null, .null, .null]) (st' := [.int (0 : Int32)]) 1 am_q150 rfl ?_
          exact ev_r (v := some (.int (0 : Int32))) am_q150 rfl rfl rfl rfl H
        · replace H := H.2 hq
          refine ev_p (pc' := 55) (loc' := [.ref 6, .int i1, .int i2, .int i3, .int x3]) (st' := [.int (1 : Int32)]) 2 am_q150 rfl ?_
          exact ev_r (v := some (.int (1 : Int32))) am_q150 rfl rfl rfl rfl H
  · replace H := H.2 hq
    refine ev_p (pc' := 15) (loc' := [.ref 6, .int i1, .int i2, .int i3, .int x3]) (st' := [.int i2, .int x3]) 2 am_q150 rfl ?_
    refine ev_jc (t := 22) am_q150 rfl rfl (fun hq => ?_) (fun hq => ?_)
    · replace H := H.1 hq
      refine ev_p (pc' := 23) (loc' := [.ref 6, .int i1, .int i2, .int i3, .int x3]) (st' := [.int (0 : Int32)]) 1 am_q150 rfl ?_
      exact ev_r (v := some (.int (0 : Int32))) am_q150 rfl rfl rfl rfl H
    · replace H := H.2 hq
      refine ev_p (pc' := 23) (loc' := [.ref 6, .int i1, .int i2, .int i3, .int x3]) (st' := [.int (1 : Int32)]) 2 am_q150 rfl ?_
      exact ev_r (v := some (.int (1 : Int32))) am_q150 rfl rfl rfl rfl H
/-! 151: X11_membersHere -/
set_option maxRecDepth 20000 in
set_option maxHeartbeats 2000000 in
theorem ws151 {d : Nat}   {h : AH} {Q : Option Value → AH → Prop} (Ly : Lay h) (H : Ev (d + 1) 151 4 [.ref 6, .int (0 : Int32), .int (0 : Int32)] [] h Q) : Cl (d + 1) 151 [.ref 6] h Q := by
  show Ev (d + 1) 151 0 [.ref 6, .null, .null] [] h Q
  refine ev_p (pc' := 4) (loc' := [.ref 6, .int (0 : Int32), .int (0 : Int32)]) (st' := []) 4 am_q151 rfl ?_
  exact ev_m (loc' := [.ref 6, .int (0 : Int32), .int (0 : Int32)]) am_q151 rfl rfl H
set_option maxRecDepth 20000 in
set_option maxHeartbeats 2000000 in
theorem ws151_4 {d : Nat}  (i1 : Int32) (i2 : Int32) {h : AH} {Q : Option Value → AH → Prop} (Ly : Lay h) (H : ((am_gi h 6 4) ≤ i2 → Q (some (.int i1)) h) ∧ (¬ (am_gi h 6 4) ≤ i2 → Cl d 146 [.ref 6, .int i2] h (fun r2 h1 => ∃ x3, r2 = some (.int x3) ∧ Lay h1 ∧ (x3 = (0 : Int32) → Ev (d + 1) 151 4 [.ref 6, .int i1, .int (i2 + (1 : Int32))] [] h1 Q) ∧ (¬ x3 = (0 : Int32) → Ev (d + 1) 151 4 [.ref 6, .int (i1 + (1 : Int32)), .int (i2 + (1 : Int32))] [] h1 Q)))) : Ev (d + 1) 151 4 [.ref 6, .int i1, .int i2] [] h Q := by
  refine ev_p (pc' := 6) (loc' := [.ref 6, .int i1, .int i2]) (st' := [.ref 6, .int i2]) 2 am_q151 rfl ?_
  refine ev_s (pc' := 9) (loc' := [.ref 6, .int i1, .int i2]) (st' := [.int (am_gi h 6 4), .int i2]) (h1 := h) am_q151 rfl rfl rfl (if_pos (e := none) (lk6 Ly)) ?_
  refine ev_jc (t := 29) am_q151 rfl rfl (fun hq => ?_) (fun hq => ?_)
  · replace H := H.1 hq
    refine ev_p (pc' := 30) (loc' := [.ref 6, .int i1, .int i2]) (st' := [.int i1]) 1 am_q151 rfl ?_
    exact ev_r (v := some (.int i1)) am_q151 rfl rfl rfl rfl H
  · replace H := H.2 hq
    refine ev_p (pc' := 14) (loc' := [.ref 6, .int i1, .int i2]) (st' := [.int i2, .ref 6]) 2 am_q151 rfl ?_
    refine ev_c (vs := [.ref 6, .int i2]) (rest := []) 146 am_q151 rfl rfl rfl rfl rfl rfl rfl rfl rfl rfl rfl rfl (Or.inr (congrArg some (lk6 Ly))) (Cl.mono H (Nat.le_refl _) (fun r2 h1 H => ?_))
    obtain ⟨x3, rfl, Ly, H⟩ := H
    refine ev_jz (t := 23) am_q151 rfl rfl (fun hq => ?_) (fun hq => ?_)
    · replace H := H.1 hq
      refine ev_p (pc' := 4) (loc' := [.ref 6, .int i1, .int (i2 + (1 : Int32))]) (st' := []) 2 am_q151 rfl ?_
      exact ev_m (loc' := [.ref 6, .int i1, .int (i2 + (1 : Int32))]) am_q151 rfl rfl H
    · replace H := H.2 hq
      refine ev_p (pc' := 4) (loc' := [.ref 6, .int (i1 + (1 : Int32)), .int (i2 + (1 : Int32))]) (st' := []) 3 am_q151 rfl ?_
      exact ev_m (loc' := [.ref 6, .int (i1 + (1 : Int32)), .int (i2 + (1 : Int32))]) am_q151 rfl rfl H
/-! 152: X11_membersWaiting -/
set_option maxRecDepth 20000 in
set_option maxHeartbeats 2000000 in
theorem ws152 {d : Nat}   {h : AH} {Q : Option Value → AH → Prop} (Ly : Lay h) (H : Ev (d + 1) 152 4 [.ref 6, .int (0 : Int32), .int (0 : Int32)] [] h Q) : Cl (d + 1) 152 [.ref 6] h Q := by
  show Ev (d + 1) 152 0 [.ref 6, .null, .null] [] h Q
  refine ev_p (pc' := 4) (loc' := [.ref 6, .int (0 : Int32), .int (0 : Int32)]) (st' := []) 4 am_q152 rfl ?_
  exact ev_m (loc' := [.ref 6, .int (0 : Int32), .int (0 : Int32)]) am_q152 rfl rfl H
set_option maxRecDepth 20000 in
set_option maxHeartbeats 2000000 in
theorem ws152_4 {d : Nat}  (i1 : Int32) (i2 : Int32) {h : AH} {Q : Option Value → AH → Prop} (Ly : Lay h) (H : ((am_gi h 6 4) ≤ i2 → Q (some (.int i1)) h) ∧ (¬ (am_gi h 6 4) ≤ i2 → am_in i2 24 ∧ Cl d 23 [.ref (124 + (Int32.toNatClampNeg i2))] h (fun r3 h2 => ∃ x4, r3 = some (.int x4) ∧ Lay h2 ∧ (x4 = (0 : Int32) → Ev (d + 1) 152 4 [.ref 6, .int i1, .int (i2 + (1 : Int32))] [] h2 Q) ∧ (¬ x4 = (0 : Int32) → Ev (d + 1) 152 4 [.ref 6, .int (i1 + (1 : Int32)), .int (i2 + (1 : Int32))] [] h2 Q)))) : Ev (d + 1) 152 4 [.ref 6, .int i1, .int i2] [] h Q := by
  refine ev_p (pc' := 6) (loc' := [.ref 6, .int i1, .int i2]) (st' := [.ref 6, .int i2]) 2 am_q152 rfl ?_
  refine ev_s (pc' := 9) (loc' := [.ref 6, .int i1, .int i2]) (st' := [.int (am_gi h 6 4), .int i2]) (h1 := h) am_q152 rfl rfl rfl (if_pos (e := none) (lk6 Ly)) ?_
  refine ev_jc (t := 33) am_q152 rfl rfl (fun hq => ?_) (fun hq => ?_)
  · replace H := H.1 hq
    refine ev_p (pc' := 34) (loc' := [.ref 6, .int i1, .int i2]) (st' := [.int i1]) 1 am_q152 rfl ?_
    exact ev_r (v := some (.int i1)) am_q152 rfl rfl rfl rfl H
  · replace H := H.2 hq
    refine ev_p (pc' := 13) (loc' := [.ref 6, .int i1, .int i2]) (st' := [.ref 6]) 1 am_q152 rfl ?_
    refine ev_s (pc' := 16) (loc' := [.ref 6, .int i1, .int i2]) (st' := [.ref 8]) (h1 := h) am_q152 rfl rfl rfl (am_gf2 (lk6 Ly) (lr6_3 Ly)) ?_
    refine ev_p (pc' := 17) (loc' := [.ref 6, .int i1, .int i2]) (st' := [.int i2, .ref 8]) 1 am_q152 rfl ?_
    obtain ⟨g1, H⟩ := H
    refine ev_s (pc' := 18) (loc' := [.ref 6, .int i1, .int i2]) (st' := [.ref (124 + (Int32.toNatClampNeg i2))]) (h1 := h) am_q152 rfl rfl rfl (am_xa (am_rng (lk8 Ly) (by decide)) (am_inl (ln8 Ly) g1) (lr_member Ly (am_in_lt2 g1))) ?_
    refine ev_c (vs := [.ref (124 + (Int32.toNatClampNeg i2))]) (rest := []) 23 am_q152 rfl rfl rfl rfl rfl rfl rfl rfl rfl rfl rfl rfl (Or.inr (congrArg some (lk_member Ly (am_in_lt2 g1)))) (Cl.mono H (Nat.le_refl _) (fun r3 h2 H => ?_))
    obtain ⟨x4, rfl, Ly, H⟩ := H
    refine ev_jz (t := 27) am_q152 rfl rfl (fun hq => ?_) (fun hq => ?_)
    · replace H := H.1 hq
      refine ev_p (pc' := 4) (loc' := [.ref 6, .int i1, .int (i2 + (1 : Int32))]) (st' := []) 2 am_q152 rfl ?_
      exact ev_m (loc' := [.ref 6, .int i1, .int (i2 + (1 : Int32))]) am_q152 rfl rfl H
    · replace H := H.2 hq
      refine ev_p (pc' := 4) (loc' := [.ref 6, .int (i1 + (1 : Int32)), .int (i2 + (1 : Int32))]) (st' := []) 3 am_q152 rfl ?_
      exact ev_m (loc' := [.ref 6, .int (i1 + (1 : Int32)), .int (i2 + (1 : Int32))]) am_q152 rfl rfl H
/-! 153: X11_homesOnOffer -/
set_option maxRecDepth 20000 in
set_option maxHeartbeats 2000000 in
theorem ws153 {d : Nat}   {h : AH} {Q : Option Value → AH → Prop} (Ly : Lay h) (H : Ev d 153 4 [.ref 6, .int (0 : Int32), .int (0 : Int32)] [] h Q) : Cl d 153 [.ref 6] h Q := by
  show Ev d 153 0 [.ref 6, .null, .null] [] h Q
  refine ev_p (pc' := 4) (loc' := [.ref 6, .int (0 : Int32), .int (0 : Int32)]) (st' := []) 4 am_q153 rfl ?_
  exact ev_m (loc' := [.ref 6, .int (0 : Int32), .int (0 : Int32)]) am_q153 rfl rfl H
set_option maxRecDepth 20000 in
set_option maxHeartbeats 2000000 in
theorem ws153_4 {d : Nat}  (i1 : Int32) (i2 : Int32) {h : AH} {Q : Option Value → AH → Prop} (Ly : Lay h) (H : ((am_gi h 6 2) ≤ i2 → Q (some (.int i1)) h) ∧ (¬ (am_gi h 6 2) ≤ i2 → am_in i2 12 ∧ ((am_gi h (112 + (Int32.toNatClampNeg i2)) 3) = (0 : Int32) → Ev d 153 4 [.ref 6, .int i1, .int (i2 + (1 : Int32))] [] h Q) ∧ (¬ (am_gi h (112 + (Int32.toNatClampNeg i2)) 3) = (0 : Int32) → Ev d 153 4 [.ref 6, .int (i1 ||| ((1 : Int32) <<< (i2 &&& 31))), .int (i2 + (1 : Int32))] [] h Q))) : Ev d 153 4 [.ref 6, .int i1, .int i2] [] h Q := by
  refine ev_p (pc' := 6) (loc' := [.ref 6, .int i1, .int i2]) (st' := [.ref 6, .int i2]) 2 am_q153 rfl ?_
  refine ev_s (pc' := 9) (loc' := [.ref 6, .int i1, .int i2]) (st' := [.int (am_gi h 6 2), .int i2]) (h1 := h) am_q153 rfl rfl rfl (if_pos (e := none) (lk6 Ly)) ?_
  refine ev_jc (t := 36) am_q153 rfl rfl (fun hq => ?_) (fun hq => ?_)
  · replace H := H.1 hq
    refine ev_p (pc' := 37) (loc' := [.ref 6, .int i1, .int i2]) (st' := [.int i1]) 1 am_q153 rfl ?_
    exact ev_r (v := some (.int i1)) am_q153 rfl rfl rfl rfl H
  · replace H := H.2 hq
    refine ev_p (pc' := 13) (loc' := [.ref 6, .int i1, .int i2]) (st' := [.ref 6]) 1 am_q153 rfl ?_
    refine ev_s (pc' := 16) (loc' := [.ref 6, .int i1, .int i2]) (st' := [.ref 7]) (h1 := h) am_q153 rfl rfl rfl (am_gf2 (lk6 Ly) (lr6_1 Ly)) ?_
    refine ev_p (pc' := 17) (loc' := [.ref 6, .int i1, .int i2]) (st' := [.int i2, .ref 7]) 1 am_q153 rfl ?_
    obtain ⟨g1, H⟩ := H
    refine ev_s (pc' := 18) (loc' := [.ref 6, .int i1, .int i2]) (st' := [.ref (112 + (Int32.toNatClampNeg i2))]) (h1 := h) am_q153 rfl rfl rfl (am_xa (am_rng (lk7 Ly) (by decide)) (am_inl (ln7 Ly) g1) (lr_home Ly (am_in_lt2 g1))) ?_
    refine ev_s (pc' := 21) (loc' := [.ref 6, .int i1, .int i2]) (st' := [.int (am_gi h (112 + (Int32.toNatClampNeg i2)) 3)]) (h1 := h) am_q153 rfl rfl rfl (if_pos (e := none) (lk_home Ly (am_in_lt2 g1))) ?_
    refine ev_jz (t := 30) am_q153 rfl rfl (fun hq => ?_) (fun hq => ?_)
    · replace H := H.1 hq
      refine ev_p (pc' := 4) (loc' := [.ref 6, .int i1, .int (i2 + (1 : Int32))]) (st' := []) 2 am_q153 rfl ?_
      exact ev_m (loc' := [.ref 6, .int i1, .int (i2 + (1 : Int32))]) am_q153 rfl rfl H
    · replace H := H.2 hq
      refine ev_p (pc' := 4) (loc' := [.ref 6, .int (i1 ||| ((1 : Int32) <<< (i2 &&& 31))), .int (i2 + (1 : Int32))]) (st' := []) 8 am_q153 rfl ?_
      exact ev_m (loc' := [.ref 6, .int (i1 ||| ((1 : Int32) <<< (i2 &&& 31))), .int (i2 + (1 : Int32))]) am_q153 rfl rfl H
/-! 154: X11_textOn -/
set_option maxRecDepth 20000 in
set_option maxHeartbeats 2000000 in
theorem ws154 {d : Nat}  (i1 : Int32) {h : AH} {Q : Option Value → AH → Prop} (Ly : Lay h) (H : Ev (d + 1) 154 4 [.ref 6, .int i1, .int (0 : Int32), .int (1 : Int32)] [] h Q) : Cl (d + 1) 154 [.ref 6, .int i1] h Q := by
  show Ev (d + 1) 154 0 [.ref 6, .int i1, .null, .null] [] h Q
  refine ev_p (pc' := 4) (loc' := [.ref 6, .int i1, .int (0 : Int32), .int (1 : Int32)]) (st' := []) 4 am_q154 rfl ?_
  exact ev_m (loc' := [.ref 6, .int i1, .int (0 : Int32), .int (1 : Int32)]) am_q154 rfl rfl H
set_option maxRecDepth 20000 in
set_option maxHeartbeats 2000000 in
theorem ws154_4 {d : Nat}  (i1 : Int32) (i2 : Int32) (i3 : Int32) {h : AH} {Q : Option Value → AH → Prop} (Ly : Lay h) (H : ((am_gi h 6 9) ≤ i3 → Q (some (.int i2)) h) ∧ (¬ (am_gi h 6 9) ≤ i3 → am_in i3 12 ∧ Cl d 78 [.ref (148 + 4 * (Int32.toNatClampNeg i3)), .int i1] h (fun r3 h2 => ∃ x4, r3 = some (.int x4) ∧ Lay h2 ∧ (x4 = (0 : Int32) → Ev (d + 1) 154 4 [.ref 6, .int i1, .int i2, .int (i3 + (1 : Int32))] [] h2 Q) ∧ (¬ x4 = (0 : Int32) → am_in i3 12 ∧ am_in i2 12 ∧ ((am_gi h2 (148 + 4 * (Int32.toNatClampNeg i3)) 6) ≤ (am_gi h2 (148 + 4 * (Int32.toNatClampNeg i2)) 6) → Ev (d + 1) 154 4 [.ref 6, .int i1, .int i2, .int (i3 + (1 : Int32))] [] h2 Q) ∧ (¬ (am_gi h2 (148 + 4 * (Int32.toNatClampNeg i3)) 6) ≤ (am_gi h2 (148 + 4 * (Int32.toNatClampNeg i2)) 6) → Ev (d + 1) 154 4 [.ref 6, .int i1, .int i3, .int (i3 + (1 : Int32))] [] h2 Q))))) : Ev (d + 1) 154 4 [.ref 6, .int i1, .int i2, .int i3] [] h Q := by
  refine ev_p (pc' := 6) (loc' := [.ref 6, .int i1, .int i2, .int i3]) (st' := [.ref 6, .int i3]) 2 am_q154 rfl ?_
  refine ev_s (pc' := 9) (loc' := [.ref 6, .int i1, .int i2, .int i3]) (st' := [.int (am_gi h 6 9), .int i3]) (h1 := h) am_q154 rfl rfl rfl (if_pos (e := none) (lk6 Ly)) ?_
  refine ev_jc (t := 54) am_q154 rfl rfl (fun hq => ?_) (fun hq => ?_)
  · replace H := H.1 hq
    refine ev_p (pc' := 55) (loc' := [.ref 6, .int i1, .int i2, .int i3]) (st' := [.int i2]) 1 am_q154 rfl ?_
    exact ev_r (v := some (.int i2)) am_q154 rfl rfl rfl rfl H
  · replace H := H.2 hq
    refine ev_p (pc' := 13) (loc' := [.ref 6, .int i1, .int i2, .int i3]) (st' := [.ref 6]) 1 am_q154 rfl ?_
    refine ev_s (pc' := 16) (loc' := [.ref 6, .int i1, .int i2, .int i3]) (st' := [.ref 78]) (h1 := h) am_q154 rfl rfl rfl (am_gf2 (lk6 Ly) (lr6_8 Ly)) ?_
    refine ev_p (pc' := 17) (loc' := [.ref 6, .int i1, .int i2, .int i3]) (st' := [.int i3, .ref 78]) 1 am_q154 rfl ?_
    obtain ⟨g1, H⟩ := H
    refine ev_s (pc' := 18) (loc' := [.ref 6, .int i1, .int i2, .int i3]) (st' := [.ref (148 + 4 * (Int32.toNatClampNeg i3))]) (h1 := h) am_q154 rfl rfl rfl (am_xa (am_rng (lk78 Ly) (by decide)) (am_inl (ln78 Ly) g1) (lr_text Ly (am_in_lt2 g1))) ?_
    refine ev_p (pc' := 19) (loc' := [.ref 6, .int i1, .int i2, .int i3]) (st' := [.int i1, .ref (148 + 4 * (Int32.toNatClampNeg i3))]) 1 am_q154 rfl ?_
    refine ev_c (vs := [.ref (148 + 4 * (Int32.toNatClampNeg i3)), .int i1]) (rest := []) 78 am_q154 rfl rfl rfl rfl rfl rfl rfl rfl rfl rfl rfl rfl (Or.inr (congrArg some (lk_text Ly (am_in_lt2 g1)))) (Cl.mono H (Nat.le_refl _) (fun r3 h2 H => ?_))
    obtain ⟨x4, rfl, Ly, H⟩ := H
    refine ev_jz (t := 48) am_q154 rfl rfl (fun hq => ?_) (fun hq => ?_)
    · replace H := H.1 hq
      refine ev_p (pc' := 4) (loc' := [.ref 6, .int i1, .int i2, .int (i3 + (1 : Int32))]) (st' := []) 2 am_q154 rfl ?_
      exact ev_m (loc' := [.ref 6, .int i1, .int i2, .int (i3 + (1 : Int32))]) am_q154 rfl rfl H
    · replace H := H.2 hq
      refine ev_p (pc' := 26) (loc' := [.ref 6, .int i1, .int i2, .int i3]) (st' := [.ref 6]) 1 am_q154 rfl ?_
      refine ev_s (pc' := 29) (loc' := [.ref 6, .int i1, .int i2, .int i3]) (st' := [.ref 78]) (h1 := h2) am_q154 rfl rfl rfl (am_gf2 (lk6 Ly) (lr6_8 Ly)) ?_
      refine ev_p (pc' := 30) (loc' := [.ref 6, .int i1, .int i2, .int i3]) (st' := [.int i3, .ref 78]) 1 am_q154 rfl ?_
      obtain ⟨g5, H⟩ := H
      refine ev_s (pc' := 31) (loc' := [.ref 6, .int i1, .int i2, .int i3]) (st' := [.ref (148 + 4 * (Int32.toNatClampNeg i3))]) (h1 := h2) am_q154 rfl rfl rfl (am_xa (am_rng (lk78 Ly) (by decide)) (am_inl (ln78 Ly) g5) (lr_text Ly (am_in_lt2 g5))) ?_
      refine ev_s (pc' := 34) (loc' := [.ref 6, .int i1, .int i2, .int i3]) (st' := [.int (am_gi h2 (148 + 4 * (Int32.toNatClampNeg i3)) 6)]) (h1 := h2) am_q154 rfl rfl rfl (if_pos (e := none) (lk_text Ly (am_in_lt2 g5))) ?_
      refine ev_p (pc' := 35) (loc' := [.ref 6, .int i1, .int i2, .int i3]) (st' := [.ref 6, .int (am_gi h2 (148 + 4 * (Int32.toNatClampNeg i3)) 6)]) 1 am_q154 rfl ?_
      refine ev_s (pc' := 38) (loc' := [.ref 6, .int i1, .int i2, .int i3]) (st' := [.ref 78, .int (am_gi h2 (148 + 4 * (Int32.toNatClampNeg i3)) 6)]) (h1 := h2) am_q154 rfl rfl rfl (am_gf2 (lk6 Ly) (lr6_8 Ly)) ?_
      refine ev_p (pc' := 39) (loc' := [.ref 6, .int i1, .int i2, .int i3]) (st' := [.int i2, .ref 78, .int (am_gi h2 (148 + 4 * (Int32.toNatClampNeg i3)) 6)]) 1 am_q154 rfl ?_
      obtain ⟨g6, H⟩ := H
      refine ev_s (pc' := 40) (loc' := [.ref 6, .int i1, .int i2, .int i3]) (st' := [.ref (148 + 4 * (Int32.toNatClampNeg i2)), .int (am_gi h2 (148 + 4 * (Int32.toNatClampNeg i3)) 6)]) (h1 := h2) am_q154 rfl rfl rfl (am_xa (am_rng (lk78 Ly) (by decide)) (am_inl (ln78 Ly) g6) (lr_text Ly (am_in_lt2 g6))) ?_
      refine ev_s (pc' := 43) (loc' := [.ref 6, .int i1, .int i2, .int i3]) (st' := [.int (am_gi h2 (148 + 4 * (Int32.toNatClampNeg i2)) 6), .int (am_gi h2 (148 + 4 * (Int32.toNatClampNeg i3)) 6)]) (h1 := h2) am_q154 rfl rfl rfl (if_pos (e := none) (lk_text Ly (am_in_lt2 g6))) ?_
      refine ev_jc (t := 48) am_q154 rfl rfl (fun hq => ?_) (fun hq => ?_)
      · replace H := H.1 hq
        refine ev_p (pc' := 4) (loc' := [.ref 6, .int i1, .int i2, .int (i3 + (1 : Int32))]) (st' := []) 2 am_q154 rfl ?_
        exact ev_m (loc' := [.ref 6, .int i1, .int i2, .int (i3 + (1 : Int32))]) am_q154 rfl rfl H
      · replace H := H.2 hq
        refine ev_p (pc' := 4) (loc' := [.ref 6, .int i1, .int i3, .int (i3 + (1 : Int32))]) (st' := []) 4 am_q154 rfl ?_
        exact ev_m (loc' := [.ref 6, .int i1, .int i3, .int (i3 + (1 : Int32))]) am_q154 rfl rfl H
/-! 155: X11_tearHanging -/
set_option maxRecDepth 20000 in
set_option maxHeartbeats 2000000 in
theorem ws155 {d : Nat}   {h : AH} {Q : Option Value → AH → Prop} (Ly : Lay h) (H : Ev (d + 1) 155 4 [.ref 6, .int (0 : Int32), .int (0 : Int32), .null] [] h Q) : Cl (d + 1) 155 [.ref 6] h Q := by
  show Ev (d + 1) 155 0 [.ref 6, .null, .null, .null] [] h Q
  refine ev_p (pc' := 4) (loc' := [.ref 6, .int (0 : Int32), .int (0 : Int32), .null]) (st' := []) 4 am_q155 rfl ?_
  exact ev_m (loc' := [.ref 6, .int (0 : Int32), .int (0 : Int32), .null]) am_q155 rfl rfl H
set_option maxRecDepth 20000 in
set_option maxHeartbeats 2000000 in
theorem ws155_4 {d : Nat}  (i1 : Int32) (i2 : Int32) {h : AH} {Q : Option Value → AH → Prop} (Ly : Lay h) (H : ((am_gi h 6 9) ≤ i2 → Q (some (.int i1)) h) ∧ (¬ (am_gi h 6 9) ≤ i2 → am_in i2 12 ∧ ((¬ (am_gi h (148 + 4 * (Int32.toNatClampNeg i2)) 5) = (0 : Int32)) → Ev (d + 1) 155 4 [.ref 6, .int i1, .int (i2 + (1 : Int32)), .null] [] h Q) ∧ (¬ (¬ (am_gi h (148 + 4 * (Int32.toNatClampNeg i2)) 5) = (0 : Int32)) → Cl d 140 [.ref 6, .int (am_gi h (148 + 4 * (Int32.toNatClampNeg i2)) 8)] h (fun r3 h2 => ∃ x4, r3 = some (.int x4) ∧ Lay h2 ∧ (x4 = (0 : Int32) → Ev (d + 1) 155 4 [.ref 6, .int i1, .int (i2 + (1 : Int32)), .null] [] h2 Q) ∧ (¬ x4 = (0 : Int32) → am_in (am_gi h2 (148 + 4 * (Int32.toNatClampNeg i2)) 8) 12 ∧ ((am_gi h2 (148 + 4 * (Int32.toNatClampNeg (am_gi h2 (148 + 4 * (Int32.toNatClampNeg i2)) 8))) 5) = (0 : Int32) → Ev (d + 1) 155 4 [.ref 6, .int i1, .int (i2 + (1 : Int32)), .null] [] h2 Q) ∧ (¬ (am_gi h2 (148 + 4 * (Int32.toNatClampNeg (am_gi h2 (148 + 4 * (Int32.toNatClampNeg i2)) 8))) 5) = (0 : Int32) → ∀ h6, h6 = am_si h2 (148 + 4 * (Int32.toNatClampNeg i2)) 5 (1 : Int32) → Ev (d + 1) 155 4 [.ref 6, .int (i1 + (1 : Int32)), .int (i2 + (1 : Int32)), .null] [] h6 Q)))))) : Ev (d + 1) 155 4 [.ref 6, .int i1, .int i2, .null] [] h Q := by
  refine ev_p (pc' := 6) (loc' := [.ref 6, .int i1, .int i2, .null]) (st' := [.ref 6, .int i2]) 2 am_q155 rfl ?_
  refine ev_s (pc' := 9) (loc' := [.ref 6, .int i1, .int i2, .null]) (st' := [.int (am_gi h 6 9), .int i2]) (h1 := h) am_q155 rfl rfl rfl (if_pos (e := none) (lk6 Ly)) ?_
  refine ev_jc (t := 66) am_q155 rfl rfl (fun hq => ?_) (fun hq => ?_)
  · replace H := H.1 hq
    refine ev_p (pc' := 67) (loc' := [.ref 6, .int i1, .int i2, .null]) (st' := [.int i1]) 1 am_q155 rfl ?_
    exact ev_r (v := some (.int i1)) am_q155 rfl rfl rfl rfl H
  · replace H := H.2 hq
    refine ev_p (pc' := 13) (loc' := [.ref 6, .int i1, .int i2, .null]) (st' := [.ref 6]) 1 am_q155 rfl ?_
    refine ev_s (pc' := 16) (loc' := [.ref 6, .int i1, .int i2, .null]) (st' := [.ref 78]) (h1 := h) am_q155 rfl rfl rfl (am_gf2 (lk6 Ly) (lr6_8 Ly)) ?_
    refine ev_p (pc' := 17) (loc' := [.ref 6, .int i1, .int i2, .null]) (st' := [.int i2, .ref 78]) 1 am_q155 rfl ?_
    obtain ⟨g1, H⟩ := H
    refine ev_s (pc' := 18) (loc' := [.ref 6, .int i1, .int i2, .null]) (st' := [.ref (148 + 4 * (Int32.toNatClampNeg i2))]) (h1 := h) am_q155 rfl rfl rfl (am_xa (am_rng (lk78 Ly) (by decide)) (am_inl (ln78 Ly) g1) (lr_text Ly (am_in_lt2 g1))) ?_
    refine ev_p (pc' := 20) (loc' := [.ref 6, .int i1, .int i2, .ref (148 + 4 * (Int32.toNatClampNeg i2))]) (st' := [.ref (148 + 4 * (Int32.toNatClampNeg i2))]) 2 am_q155 rfl ?_
    refine ev_s (pc' := 23) (loc' := [.ref 6, .int i1, .int i2, .ref (148 + 4 * (Int32.toNatClampNeg i2))]) (st' := [.int (am_gi h (148 + 4 * (Int32.toNatClampNeg i2)) 5)]) (h1 := h) am_q155 rfl rfl rfl (if_pos (e := none) (lk_text Ly (am_in_lt2 g1))) ?_
    refine ev_jz (t := 60) am_q155 rfl rfl (fun hq => ?_) (fun hq => ?_)
    · replace H := H.1 hq
      refine ev_p (pc' := 4) (loc' := [.ref 6, .int i1, .int (i2 + (1 : Int32)), .null]) (st' := []) 2 am_q155 rfl ?_
      exact ev_m (loc' := [.ref 6, .int i1, .int (i2 + (1 : Int32)), .null]) am_q155 rfl rfl H
    · replace H := H.2 hq
      refine ev_p (pc' := 28) (loc' := [.ref 6, .int i1, .int i2, .ref (148 + 4 * (Int32.toNatClampNeg i2))]) (st' := [.ref (148 + 4 * (Int32.toNatClampNeg i2)), .ref 6]) 2 am_q155 rfl ?_
      refine ev_s (pc' := 31) (loc' := [.ref 6, .int i1, .int i2, .ref (148 + 4 * (Int32.toNatClampNeg i2))]) (st' := [.int (am_gi h (148 + 4 * (Int32.toNatClampNeg i2)) 8), .ref 6]) (h1 := h) am_q155 rfl rfl rfl (if_pos (e := none) (lk_text Ly (am_in_lt2 g1))) ?_
      refine ev_c (vs := [.ref 6, .int (am_gi h (148 + 4 * (Int32.toNatClampNeg i2)) 8)]) (rest := []) 140 am_q155 rfl rfl rfl rfl rfl rfl rfl rfl rfl rfl rfl rfl (Or.inr (congrArg some (lk6 Ly))) (Cl.mono H (Nat.le_refl _) (fun r3 h2 H => ?_))
      obtain ⟨x4, rfl, Ly, H⟩ := H
      refine ev_jz (t := 60) am_q155 rfl rfl (fun hq => ?_) (fun hq => ?_)
      · replace H := H.1 hq
        refine ev_p (pc' := 4) (loc' := [.ref 6, .int i1, .int (i2 + (1 : Int32)), .null]) (st' := []) 2 am_q155 rfl ?_
        exact ev_m (loc' := [.ref 6, .int i1, .int (i2 + (1 : Int32)), .null]) am_q155 rfl rfl H
      · replace H := H.2 hq
        refine ev_p (pc' := 38) (loc' := [.ref 6, .int i1, .int i2, .ref (148 + 4 * (Int32.toNatClampNeg i2))]) (st' := [.ref 6]) 1 am_q155 rfl ?_
        refine ev_s (pc' := 41) (loc' := [.ref 6, .int i1, .int i2, .ref (148 + 4 * (Int32.toNatClampNeg i2))]) (st' := [.ref 78]) (h1 := h2) am_q155 rfl rfl rfl (am_gf2 (lk6 Ly) (lr6_8 Ly)) ?_
        refine ev_p (pc' := 42) (loc' := [.ref 6, .int i1, .int i2, .ref (148 + 4 * (Int32.toNatClampNeg i2))]) (st' := [.ref (148 + 4 * (Int32.toNatClampNeg i2)), .ref 78]) 1 am_q155 rfl ?_
        refine ev_s (pc' := 45) (loc' := [.ref 6, .int i1, .int i2, .ref (148 + 4 * (Int32.toNatClampNeg i2))]) (st' := [.int (am_gi h2 (148 + 4 * (Int32.toNatClampNeg i2)) 8), .ref 78]) (h1 := h2) am_q155 rfl rfl rfl (if_pos (e := none) (lk_text Ly (am_in_lt2 g1))) ?_
        obtain ⟨g5, H⟩ := H
        refine ev_s (pc' := 46) (loc' := [.ref 6, .int i1, .int i2, .ref (148 + 4 * (Int32.toNatClampNeg i2))]) (st' := [.ref (148 + 4 * (Int32.toNatClampNeg (am_gi h2 (148 + 4 * (Int32.toNatClampNeg i2)) 8)))]) (h1 := h2) am_q155 rfl rfl rfl (am_xa (am_rng (lk78 Ly) (by decide)) (am_inl (ln78 Ly) g5) (lr_text Ly (am_in_lt2 g5))) ?_
        refine ev_s (pc' := 49) (loc' := [.ref 6, .int i1, .int i2, .ref (148 + 4 * (Int32.toNatClampNeg i2))]) (st' := [.int (am_gi h2 (148 + 4 * (Int32.toNatClampNeg (am_gi h2 (148 + 4 * (Int32.toNatClampNeg i2)) 8))) 5)]) (h1 := h2) am_q155 rfl rfl rfl (if_pos (e := none) (lk_text Ly (am_in_lt2 g5))) ?_
        refine ev_jz (t := 60) am_q155 rfl rfl (fun hq => ?_) (fun hq => ?_)
        · replace H := H.1 hq
          refine ev_p (pc' := 4) (loc' := [.ref 6, .int i1, .int (i2 + (1 : Int32)), .null]) (st' := []) 2 am_q155 rfl ?_
          exact ev_m (loc' := [.ref 6, .int i1, .int (i2 + (1 : Int32)), .null]) am_q155 rfl rfl H
        · replace H := H.2 hq
          refine ev_p (pc' := 54) (loc' := [.ref 6, .int i1, .int i2, .ref (148 + 4 * (Int32.toNatClampNeg i2))]) (st' := [.int (1 : Int32), .ref (148 + 4 * (Int32.toNatClampNeg i2))]) 2 am_q155 rfl ?_
          refine ev_s (pc' := 57) (loc' := [.ref 6, .int i1, .int i2, .ref (148 + 4 * (Int32.toNatClampNeg i2))]) (st' := []) (h1 := am_si h2 (148 + 4 * (Int32.toNatClampNeg i2)) 5 (1 : Int32)) am_q155 rfl rfl rfl (if_pos (e := none) ⟨lk_text Ly (am_in_lt2 g1), Or.inr rfl⟩) ?_
          replace H := H _ rfl
          replace Ly : Lay (am_si h2 (148 + 4 * (Int32.toNatClampNeg i2)) 5 (1 : Int32)) := Ly.si _ _ _
          generalize am_si h2 (148 + 4 * (Int32.toNatClampNeg i2)) 5 (1 : Int32) = h6 at H Ly ⊢
          refine ev_p (pc' := 4) (loc' := [.ref 6, .int (i1 + (1 : Int32)), .int (i2 + (1 : Int32)), .null]) (st' := []) 3 am_q155 rfl ?_
          exact ev_m (loc' := [.ref 6, .int (i1 + (1 : Int32)), .int (i2 + (1 : Int32)), .null]) am_q155 rfl rfl H
/-! 156: X11_votesNeeded -/
set_option maxRecDepth 20000 in
set_option maxHeartbeats 2000000 in
theorem ws156 {d : Nat}   {h : AH} {Q : Option Value → AH → Prop} (Ly : Lay h) (H : Cl d 151 [.ref 6] h (fun r2 h1 => ∃ x3, r2 = some (.int x3) ∧ Lay h1 ∧ am_in (7 : Int32) 8 ∧ ∀ h5, h5 = am_sl h1 76 (Int32.toNatClampNeg (7 : Int32)) (Int32.toInt64 x3) → Cl d 154 [.ref 6, .int (am_gi h5 6 0)] h5 (fun r7 h6 => ∃ x8, r7 = some (.int x8) ∧ Lay h6 ∧ am_in x8 12 ∧ Cl d 70 [.ref 75, .ref (148 + 4 * (Int32.toNatClampNeg x8)), .int (2 : Int32)] h6 (fun r11 h10 => ∃ y12, r11 = some (.long y12) ∧ Lay h10 ∧ Q (some (.long y12)) h10)))) : Cl (d + 1) 156 [.ref 6] h Q := by
  show Ev (d + 1) 156 0 [.ref 6] [] h Q
  refine ev_p (pc' := 1) (loc' := [.ref 6]) (st' := [.ref 6]) 1 am_q156 rfl ?_
  refine ev_s (pc' := 4) (loc' := [.ref 6]) (st' := [.ref 75]) (h1 := h) am_q156 rfl rfl rfl (am_gf2 (lk6 Ly) (lr6_7 Ly)) ?_
  refine ev_s (pc' := 7) (loc' := [.ref 6]) (st' := [.ref 76]) (h1 := h) am_q156 rfl rfl rfl (am_gf2 (lk75 Ly) (lr75_0 Ly)) ?_
  refine ev_p (pc' := 10) (loc' := [.ref 6]) (st' := [.ref 6, .int (7 : Int32), .ref 76]) 2 am_q156 rfl ?_
  refine ev_c (vs := [.ref 6]) (rest := [.int (7 : Int32), .ref 76]) 151 am_q156 rfl rfl rfl rfl rfl rfl rfl rfl rfl rfl rfl rfl (Or.inr (congrArg some (lk6 Ly))) (Cl.mono H (Nat.le_refl _) (fun r2 h1 H => ?_))
  obtain ⟨x3, rfl, Ly, H⟩ := H
  refine ev_p (pc' := 14) (loc' := [.ref 6]) (st' := [.long (Int32.toInt64 x3), .int (7 : Int32), .ref 76]) 1 am_q156 rfl ?_
  obtain ⟨g4, H⟩ := H
  refine ev_s (pc' := 15) (loc' := [.ref 6]) (st' := []) (h1 := am_sl h1 76 (Int32.toNatClampNeg (7 : Int32)) (Int32.toInt64 x3)) am_q156 rfl rfl rfl (am_xx (lk76 Ly) (am_inl (ln76 Ly) g4)) ?_
  replace H := H _ rfl
  replace Ly : Lay (am_sl h1 76 (Int32.toNatClampNeg (7 : Int32)) (Int32.toInt64 x3)) := Ly.sl _ _ _
  generalize am_sl h1 76 (Int32.toNatClampNeg (7 : Int32)) (Int32.toInt64 x3) = h5 at H Ly ⊢
  refine ev_p (pc' := 16) (loc' := [.ref 6]) (st' := [.ref 6]) 1 am_q156 rfl ?_
  refine ev_s (pc' := 19) (loc' := [.ref 6]) (st' := [.ref 75]) (h1 := h5) am_q156 rfl rfl rfl (am_gf2 (lk6 Ly) (lr6_7 Ly)) ?_
  refine ev_p (pc' := 20) (loc' := [.ref 6]) (st' := [.ref 6, .ref 75]) 1 am_q156 rfl ?_
  refine ev_s (pc' := 23) (loc' := [.ref 6]) (st' := [.ref 78, .ref 75]) (h1 := h5) am_q156 rfl rfl rfl (am_gf2 (lk6 Ly) (lr6_8 Ly)) ?_
  refine ev_p (pc' := 25) (loc' := [.ref 6]) (st' := [.ref 6, .ref 6, .ref 78, .ref 75]) 2 am_q156 rfl ?_
  refine ev_s (pc' := 28) (loc' := [.ref 6]) (st' := [.int (am_gi h5 6 0), .ref 6, .ref 78, .ref 75]) (h1 := h5) am_q156 rfl rfl rfl (if_pos (e := none) (lk6 Ly)) ?_
  refine ev_c (vs := [.ref 6, .int (am_gi h5 6 0)]) (rest := [.ref 78, .ref 75]) 154 am_q156 rfl rfl rfl rfl rfl rfl rfl rfl rfl rfl rfl rfl (Or.inr (congrArg some (lk6 Ly))) (Cl.mono H (Nat.le_refl _) (fun r7 h6 H => ?_))
  obtain ⟨x8, rfl, Ly, H⟩ := H
  obtain ⟨g9, H⟩ := H
  refine ev_s (pc' := 32) (loc' := [.ref 6]) (st' := [.ref (148 + 4 * (Int32.toNatClampNeg x8)), .ref 75]) (h1 := h6) am_q156 rfl rfl rfl (am_xa (am_rng (lk78 Ly) (by decide)) (am_inl (ln78 Ly) g9) (lr_text Ly (am_in_lt2 g9))) ?_
  refine ev_p (pc' := 33) (loc' := [.ref 6]) (st' := [.int (2 : Int32), .ref (148 + 4 * (Int32.toNatClampNeg x8)), .ref 75]) 1 am_q156 rfl ?_
  refine ev_c (vs := [.ref 75, .ref (148 + 4 * (Int32.toNatClampNeg x8)), .int (2 : Int32)]) (rest := []) 70 am_q156 rfl rfl rfl rfl rfl rfl rfl rfl rfl rfl rfl rfl (Or.inr (congrArg some (lk75 Ly))) (Cl.mono H (Nat.le_refl _) (fun r11 h10 H => ?_))
  obtain ⟨y12, rfl, Ly, H⟩ := H
  exact ev_r (v := some (.long y12)) am_q156 rfl rfl rfl rfl H
/-! 157: X11_nameApplicant -/
set_option maxRecDepth 20000 in
set_option maxHeartbeats 2000000 in
theorem ws157 {d : Nat}  (i1 : Int32) {h : AH} {Q : Option Value → AH → Prop} (Ly : Lay h) (H : am_in i1 24 ∧ Cl d 23 [.ref (124 + (Int32.toNatClampNeg i1))] h (fun r3 h2 => ∃ x4, r3 = some (.int x4) ∧ Lay h2 ∧ (x4 = (0 : Int32) → Ev (d + 1) 157 36 [.ref 6, .null, .ref (124 + (Int32.toNatClampNeg i1))] [.long (0 : Int64), .int (0 : Int32), .ref 76] h2 Q) ∧ (¬ x4 = (0 : Int32) → Ev (d + 1) 157 36 [.ref 6, .null, .ref (124 + (Int32.toNatClampNeg i1))] [.long (Int32.toInt64 ((am_gi h2 6 0) - (am_gi h2 (124 + (Int32.toNatClampNeg i1)) 3))), .int (0 : Int32), .ref 76] h2 Q))) : Cl (d + 1) 157 [.ref 6, .int i1] h Q := by
  show Ev (d + 1) 157 0 [.ref 6, .int i1, .null] [] h Q
  refine ev_p (pc' := 1) (loc' := [.ref 6, .int i1, .null]) (st' := [.ref 6]) 1 am_q157 rfl ?_
  refine ev_s (pc' := 4) (loc' := [.ref 6, .int i1, .null]) (st' := [.ref 8]) (h1 := h) am_q157 rfl rfl rfl (am_gf2 (lk6 Ly) (lr6_3 Ly)) ?_
  refine ev_p (pc' := 5) (loc' := [.ref 6, .int i1, .null]) (st' := [.int i1, .ref 8]) 1 am_q157 rfl ?_
  obtain ⟨g1, H⟩ := H
  refine ev_s (pc' := 6) (loc' := [.ref 6, .int i1, .null]) (st' := [.ref (124 + (Int32.toNatClampNeg i1))]) (h1 := h) am_q157 rfl rfl rfl (am_xa (am_rng (lk8 Ly) (by decide)) (am_inl (ln8 Ly) g1) (lr_member Ly (am_in_lt2 g1))) ?_
  refine ev_p (pc' := 8) (loc' := [.ref 6, .int i1, .ref (124 + (Int32.toNatClampNeg i1))]) (st' := [.ref 6]) 2 am_q157 rfl ?_
  refine ev_s (pc' := 11) (loc' := [.ref 6, .int i1, .ref (124 + (Int32.toNatClampNeg i1))]) (st' := [.ref 75]) (h1 := h) am_q157 rfl rfl rfl (am_gf2 (lk6 Ly) (lr6_7 Ly)) ?_
  refine ev_s (pc' := 14) (loc' := [.ref 6, .int i1, .ref (124 + (Int32.toNatClampNeg i1))]) (st' := [.ref 76]) (h1 := h) am_q157 rfl rfl rfl (am_gf2 (lk75 Ly) (lr75_0 Ly)) ?_
  refine ev_p (pc' := 16) (loc' := [.ref 6, .int i1, .ref (124 + (Int32.toNatClampNeg i1))]) (st' := [.ref (124 + (Int32.toNatClampNeg i1)), .int (0 : Int32), .ref 76]) 2 am_q157 rfl ?_
  refine ev_c (vs := [.ref (124 + (Int32.toNatClampNeg i1))]) (rest := [.int (0 : Int32), .ref 76]) 23 am_q157 rfl rfl rfl rfl rfl rfl rfl rfl rfl rfl rfl rfl (Or.inr (congrArg some (lk_member Ly (am_in_lt2 g1)))) (Cl.mono H (Nat.le_refl _) (fun r3 h2 H => ?_))
  obtain ⟨x4, rfl, Ly, H⟩ := H
  refine ev_jz (t := 35) am_q157 rfl rfl (fun hq => ?_) (fun hq => ?_)
  · replace H := H.1 hq
    refine ev_p (pc' := 36) (loc' := [.ref 6, .int i1, .ref (124 + (Int32.toNatClampNeg i1))]) (st' := [.long (0 : Int64), .int (0 : Int32), .ref 76]) 1 am_q157 rfl ?_
    exact ev_m (loc' := [.ref 6, .null, .ref (124 + (Int32.toNatClampNeg i1))]) am_q157 rfl rfl H
  · replace H := H.2 hq
    refine ev_p (pc' := 23) (loc' := [.ref 6, .int i1, .ref (124 + (Int32.toNatClampNeg i1))]) (st' := [.ref 6, .int (0 : Int32), .ref 76]) 1 am_q157 rfl ?_
    refine ev_s (pc' := 26) (loc' := [.ref 6, .int i1, .ref (124 + (Int32.toNatClampNeg i1))]) (st' := [.int (am_gi h2 6 0), .int (0 : Int32), .ref 76]) (h1 := h2) am_q157 rfl rfl rfl (if_pos (e := none) (lk6 Ly)) ?_
    refine ev_p (pc' := 27) (loc' := [.ref 6, .int i1, .ref (124 + (Int32.toNatClampNeg i1))]) (st' := [.ref (124 + (Int32.toNatClampNeg i1)), .int (am_gi h2 6 0), .int (0 : Int32), .ref 76]) 1 am_q157 rfl ?_
    refine ev_s (pc' := 30) (loc' := [.ref 6, .int i1, .ref (124 + (Int32.toNatClampNeg i1))]) (st' := [.int (am_gi h2 (124 + (Int32.toNatClampNeg i1)) 3), .int (am_gi h2 6 0), .int (0 : Int32), .ref 76]) (h1 := h2) am_q157 rfl rfl rfl (if_pos (e := none) (lk_member Ly (am_in_lt2 g1))) ?_
    refine ev_p (pc' := 36) (loc' := [.ref 6, .int i1, .ref (124 + (Int32.toNatClampNeg i1))]) (st' := [.long (Int32.toInt64 ((am_gi h2 6 0) - (am_gi h2 (124 + (Int32.toNatClampNeg i1)) 3))), .int (0 : Int32), .ref 76]) 3 am_q157 rfl ?_
    exact ev_m (loc' := [.ref 6, .null, .ref (124 + (Int32.toNatClampNeg i1))]) am_q157 rfl rfl H
set_option maxRecDepth 20000 in
set_option maxHeartbeats 2000000 in
theorem ws157_36 {d : Nat} {j2 : Nat} (hj2 : j2 < 24) (s1 : Int32) (s2 : Int64) {h : AH} {Q : Option Value → AH → Prop} (Ly : Lay h) (H : am_in s1 8 ∧ ∀ h2, h2 = am_sl h 76 (Int32.toNatClampNeg s1) s2 → am_in (1 : Int32) 8 ∧ ∀ h4, h4 = am_sl h2 76 (Int32.toNatClampNeg (1 : Int32)) (Int32.toInt64 (am_gi h2 (124 + j2) 0)) → am_in (3 : Int32) 8 ∧ ∀ h6, h6 = am_sl h4 76 (Int32.toNatClampNeg (3 : Int32)) (Int32.toInt64 ((am_gi h4 6 0) - (am_gi h4 (124 + j2) 1))) → am_in (4 : Int32) 8 ∧ ∀ h8, h8 = am_sl h6 76 (Int32.toNatClampNeg (4 : Int32)) (am_gl h6 (124 + j2) 5) → Q none h8) : Ev (d + 1) 157 36 [.ref 6, .null, .ref (124 + j2)] [.long s2, .int s1, .ref 76] h Q := by
  obtain ⟨g1, H⟩ := H
  refine ev_s (pc' := 37) (loc' := [.ref 6, .null, .ref (124 + j2)]) (st' := []) (h1 := am_sl h 76 (Int32.toNatClampNeg s1) s2) am_q157 rfl rfl rfl (am_xx (lk76 Ly) (am_inl (ln76 Ly) g1)) ?_
  replace H := H _ rfl
  replace Ly : Lay (am_sl h 76 (Int32.toNatClampNeg s1) s2) := Ly.sl _ _ _
  generalize am_sl h 76 (Int32.toNatClampNeg s1) s2 = h2 at H Ly ⊢
  refine ev_p (pc' := 38) (loc' := [.ref 6, .null, .ref (124 + j2)]) (st' := [.ref 6]) 1 am_q157 rfl ?_
  refine ev_s (pc' := 41) (loc' := [.ref 6, .null, .ref (124 + j2)]) (st' := [.ref 75]) (h1 := h2) am_q157 rfl rfl rfl (am_gf2 (lk6 Ly) (lr6_7 Ly)) ?_
  refine ev_s (pc' := 44) (loc' := [.ref 6, .null, .ref (124 + j2)]) (st' := [.ref 76]) (h1 := h2) am_q157 rfl rfl rfl (am_gf2 (lk75 Ly) (lr75_0 Ly)) ?_
  refine ev_p (pc' := 46) (loc' := [.ref 6, .null, .ref (124 + j2)]) (st' := [.ref (124 + j2), .int (1 : Int32), .ref 76]) 2 am_q157 rfl ?_
  refine ev_s (pc' := 49) (loc' := [.ref 6, .null, .ref (124 + j2)]) (st' := [.int (am_gi h2 (124 + j2) 0), .int (1 : Int32), .ref 76]) (h1 := h2) am_q157 rfl rfl rfl (if_pos (e := none) (lk_member Ly hj2)) ?_
  refine ev_p (pc' := 50) (loc' := [.ref 6, .null, .ref (124 + j2)]) (st' := [.long (Int32.toInt64 (am_gi h2 (124 + j2) 0)), .int (1 : Int32), .ref 76]) 1 am_q157 rfl ?_
  obtain ⟨g3, H⟩ := H
  refine ev_s (pc' := 51) (loc' := [.ref 6, .null, .ref (124 + j2)]) (st' := []) (h1 := am_sl h2 76 (Int32.toNatClampNeg (1 : Int32)) (Int32.toInt64 (am_gi h2 (124 + j2) 0))) am_q157 rfl rfl rfl (am_xx (lk76 Ly) (am_inl (ln76 Ly) g3)) ?_
  replace H := H _ rfl
  replace Ly : Lay (am_sl h2 76 (Int32.toNatClampNeg (1 : Int32)) (Int32.toInt64 (am_gi h2 (124 + j2) 0))) := Ly.sl _ _ _
  generalize am_sl h2 76 (Int32.toNatClampNeg (1 : Int32)) (Int32.toInt64 (am_gi h2 (124 + j2) 0)) = h4 at H Ly ⊢
  refine ev_p (pc' := 52) (loc' := [.ref 6, .null, .ref (124 + j2)]) (st' := [.ref 6]) 1 am_q157 rfl ?_
  refine ev_s (pc' := 55) (loc' := [.ref 6, .null, .ref (124 + j2)]) (st' := [.ref 75]) (h1 := h4) am_q157 rfl rfl rfl (am_gf2 (lk6 Ly) (lr6_7 Ly)) ?_
  refine ev_s (pc' := 58) (loc' := [.ref 6, .null, .ref (124 + j2)]) (st' := [.ref 76]) (h1 := h4) am_q157 rfl rfl rfl (am_gf2 (lk75 Ly) (lr75_0 Ly)) ?_
  refine ev_p (pc' := 60) (loc' := [.ref 6, .null, .ref (124 + j2)]) (st' := [.ref 6, .int (3 : Int32), .ref 76]) 2 am_q157 rfl ?_
  refine ev_s (pc' := 63) (loc' := [.ref 6, .null, .ref (124 + j2)]) (st' := [.int (am_gi h4 6 0), .int (3 : Int32), .ref 76]) (h1 := h4) am_q157 rfl rfl rfl (if_pos (e := none) (lk6 Ly)) ?_
  refine ev_p (pc' := 64) (loc' := [.ref 6, .null, .ref (124 + j2)]) (st' := [.ref (124 + j2), .int (am_gi h4 6 0), .int (3 : Int32), .ref 76]) 1 am_q157 rfl ?_
  refine ev_s (pc' := 67) (loc' := [.ref 6, .null, .ref (124 + j2)]) (st' := [.int (am_gi h4 (124 + j2) 1), .int (am_gi h4 6 0), .int (3 : Int32), .ref 76]) (h1 := h4) am_q157 rfl rfl rfl (if_pos (e := none) (lk_member Ly hj2)) ?_
  refine ev_p (pc' := 69) (loc' := [.ref 6, .null, .ref (124 + j2)]) (st' := [.long (Int32.toInt64 ((am_gi h4 6 0) - (am_gi h4 (124 + j2) 1))), .int (3 : Int32), .ref 76]) 2 am_q157 rfl ?_
  obtain ⟨g5, H⟩ := H
  refine ev_s (pc' := 70) (loc' := [.ref 6, .null, .ref (124 + j2)]) (st' := []) (h1 := am_sl h4 76 (Int32.toNatClampNeg (3 : Int32)) (Int32.toInt64 ((am_gi h4 6 0) - (am_gi h4 (124 + j2) 1)))) am_q157 rfl rfl rfl (am_xx (lk76 Ly) (am_inl (ln76 Ly) g5)) ?_
  replace H := H _ rfl
  replace Ly : Lay (am_sl h4 76 (Int32.toNatClampNeg (3 : Int32)) (Int32.toInt64 ((am_gi h4 6 0) - (am_gi h4 (124 + j2) 1)))) := Ly.sl _ _ _
  generalize am_sl h4 76 (Int32.toNatClampNeg (3 : Int32)) (Int32.toInt64 ((am_gi h4 6 0) - (am_gi h4 (124 + j2) 1))) = h6 at H Ly ⊢
  refine ev_p (pc' := 71) (loc' := [.ref 6, .null, .ref (124 + j2)]) (st' := [.ref 6]) 1 am_q157 rfl ?_
  refine ev_s (pc' := 74) (loc' := [.ref 6, .null, .ref (124 + j2)]) (st' := [.ref 75]) (h1 := h6) am_q157 rfl rfl rfl (am_gf2 (lk6 Ly) (lr6_7 Ly)) ?_
  refine ev_s (pc' := 77) (loc' := [.ref 6, .null, .ref (124 + j2)]) (st' := [.ref 76]) (h1 := h6) am_q157 rfl rfl rfl (am_gf2 (lk75 Ly) (lr75_0 Ly)) ?_
  refine ev_p (pc' := 79) (loc' := [.ref 6, .null, .ref (124 + j2)]) (st' := [.ref (124 + j2), .int (4 : Int32), .ref 76]) 2 am_q157 rfl ?_
  refine ev_s (pc' := 82) (loc' := [.ref 6, .null, .ref (124 + j2)]) (st' := [.long (am_gl h6 (124 + j2) 5), .int (4 : Int32), .ref 76]) (h1 := h6) am_q157 rfl rfl rfl (if_pos (e := none) (lk_member Ly hj2)) ?_
  obtain ⟨g7, H⟩ := H
  refine ev_s (pc' := 83) (loc' := [.ref 6, .null, .ref (124 + j2)]) (st' := []) (h1 := am_sl h6 76 (Int32.toNatClampNeg (4 : Int32)) (am_gl h6 (124 + j2) 5)) am_q157 rfl rfl rfl (am_xx (lk76 Ly) (am_inl (ln76 Ly) g7)) ?_
  replace H := H _ rfl
  replace Ly : Lay (am_sl h6 76 (Int32.toNatClampNeg (4 : Int32)) (am_gl h6 (124 + j2) 5)) := Ly.sl _ _ _
  generalize am_sl h6 76 (Int32.toNatClampNeg (4 : Int32)) (am_gl h6 (124 + j2) 5) = h8 at H Ly ⊢
  exact ev_r (v := none) am_q157 rfl rfl rfl rfl H
/-! 158: X11_nameHome -/
set_option maxRecDepth 20000 in
set_option maxHeartbeats 2000000 in
theorem ws158 {d : Nat}  (i1 : Int32) {h : AH} {Q : Option Value → AH → Prop} (Ly : Lay h) (H : am_in i1 12 ∧ am_in (2 : Int32) 8 ∧ ∀ h3, h3 = am_sl h 76 (Int32.toNatClampNeg (2 : Int32)) (Int32.toInt64 (am_gi h (112 + (Int32.toNatClampNeg i1)) 1)) → am_in (5 : Int32) 8 ∧ ∀ h5, h5 = am_sl h3 76 (Int32.toNatClampNeg (5 : Int32)) (Int32.toInt64 (am_gi h3 (112 + (Int32.toNatClampNeg i1)) 0)) → am_in (6 : Int32) 8 ∧ ∀ h7, h7 = am_sl h5 76 (Int32.toNatClampNeg (6 : Int32)) (Int32.toInt64 (am_gi h5 (112 + (Int32.toNatClampNeg i1)) 2)) → Q none h7) : Cl d 158 [.ref 6, .int i1] h Q := by
  show Ev d 158 0 [.ref 6, .int i1, .null] [] h Q
  refine ev_p (pc' := 1) (loc' := [.ref 6, .int i1, .null]) (st' := [.ref 6]) 1 am_q158 rfl ?_
  refine ev_s (pc' := 4) (loc' := [.ref 6, .int i1, .null]) (st' := [.ref 7]) (h1 := h) am_q158 rfl rfl rfl (am_gf2 (lk6 Ly) (lr6_1 Ly)) ?_
  refine ev_p (pc' := 5) (loc' := [.ref 6, .int i1, .null]) (st' := [.int i1, .ref 7]) 1 am_q158 rfl ?_
  obtain ⟨g1, H⟩ := H
  refine ev_s (pc' := 6) (loc' := [.ref 6, .int i1, .null]) (st' := [.ref (112 + (Int32.toNatClampNeg i1))]) (h1 := h) am_q158 rfl rfl rfl (am_xa (am_rng (lk7 Ly) (by decide)) (am_inl (ln7 Ly) g1) (lr_home Ly (am_in_lt2 g1))) ?_
  refine ev_p (pc' := 8) (loc' := [.ref 6, .int i1, .ref (112 + (Int32.toNatClampNeg i1))]) (st' := [.ref 6]) 2 am_q158 rfl ?_
  refine ev_s (pc' := 11) (loc' := [.ref 6, .int i1, .ref (112 + (Int32.toNatClampNeg i1))]) (st' := [.ref 75]) (h1 := h) am_q158 rfl rfl rfl (am_gf2 (lk6 Ly) (lr6_7 Ly)) ?_
  refine ev_s (pc' := 14) (loc' := [.ref 6, .int i1, .ref (112 + (Int32.toNatClampNeg i1))]) (st' := [.ref 76]) (h1 := h) am_q158 rfl rfl rfl (am_gf2 (lk75 Ly) (lr75_0 Ly)) ?_
  refine ev_p (pc' := 16) (loc' := [.ref 6, .int i1, .ref (112 + (Int32.toNatClampNeg i1))]) (st' := [.ref (112 + (Int32.toNatClampNeg i1)), .int (2 : Int32), .ref 76]) 2 am_q158 rfl ?_
  refine ev_s (pc' := 19) (loc' := [.ref 6, .int i1, .ref (112 + (Int32.toNatClampNeg i1))]) (st' := [.int (am_gi h (112 + (Int32.toNatClampNeg i1)) 1), .int (2 : Int32), .ref 76]) (h1 := h) am_q158 rfl rfl rfl (if_pos (e := none) (lk_home Ly (am_in_lt2 g1))) ?_
  refine ev_p (pc' := 20) (loc' := [.ref 6, .int i1, .ref (112 + (Int32.toNatClampNeg i1))]) (st' := [.long (Int32.toInt64 (am_gi h (112 + (Int32.toNatClampNeg i1)) 1)), .int (2 : Int32), .ref 76]) 1 am_q158 rfl ?_
  obtain ⟨g2, H⟩ := H
  refine ev_s (pc' := 21) (loc' := [.ref 6, .int i1, .ref (112 + (Int32.toNatClampNeg i1))]) (st' := []) (h1 := am_sl h 76 (Int32.toNatClampNeg (2 : Int32)) (Int32.toInt64 (am_gi h (112 + (Int32.toNatClampNeg i1)) 1))) am_q158 rfl rfl rfl (am_xx (lk76 Ly) (am_inl (ln76 Ly) g2)) ?_
  replace H := H _ rfl
  replace Ly : Lay (am_sl h 76 (Int32.toNatClampNeg (2 : Int32)) (Int32.toInt64 (am_gi h (112 + (Int32.toNatClampNeg i1)) 1))) := Ly.sl _ _ _
  generalize am_sl h 76 (Int32.toNatClampNeg (2 : Int32)) (Int32.toInt64 (am_gi h (112 + (Int32.toNatClampNeg i1)) 1)) = h3 at H Ly ⊢
  refine ev_p (pc' := 22) (loc' := [.ref 6, .int i1, .ref (112 + (Int32.toNatClampNeg i1))]) (st' := [.ref 6]) 1 am_q158 rfl ?_
  refine ev_s (pc' := 25) (loc' := [.ref 6, .int i1, .ref (112 + (Int32.toNatClampNeg i1))]) (st' := [.ref 75]) (h1 := h3) am_q158 rfl rfl rfl (am_gf2 (lk6 Ly) (lr6_7 Ly)) ?_
  refine ev_s (pc' := 28) (loc' := [.ref 6, .int i1, .ref (112 + (Int32.toNatClampNeg i1))]) (st' := [.ref 76]) (h1 := h3) am_q158 rfl rfl rfl (am_gf2 (lk75 Ly) (lr75_0 Ly)) ?_
  refine ev_p (pc' := 30) (loc' := [.ref 6, .int i1, .ref (112 + (Int32.toNatClampNeg i1))]) (st' := [.ref (112 + (Int32.toNatClampNeg i1)), .int (5 : Int32), .ref 76]) 2 am_q158 rfl ?_
  refine ev_s (pc' := 33) (loc' := [.ref 6, .int i1, .ref (112 + (Int32.toNatClampNeg i1))]) (st' := [.int (am_gi h3 (112 + (Int32.toNatClampNeg i1)) 0), .int (5 : Int32), .ref 76]) (h1 := h3) am_q158 rfl rfl rfl (if_pos (e := none) (lk_home Ly (am_in_lt2 g1))) ?_
  refine ev_p (pc' := 34) (loc' := [.ref 6, .int i1, .ref (112 + (Int32.toNatClampNeg i1))]) (st' := [.long (Int32.toInt64 (am_gi h3 (112 + (Int32.toNatClampNeg i1)) 0)), .int (5 : Int32), .ref 76]) 1 am_q158 rfl ?_
  obtain ⟨g4, H⟩ := H
  refine ev_s (pc' := 35) (loc' := [.ref 6, .int i1, .ref (112 + (Int32.toNatClampNeg i1))]) (st' := []) (h1 := am_sl h3 76 (Int32.toNatClampNeg (5 : Int32)) (Int32.toInt64 (am_gi h3 (112 + (Int32.toNatClampNeg i1)) 0))) am_q158 rfl rfl rfl (am_xx (lk76 Ly) (am_inl (ln76 Ly) g4)) ?_
  replace H := H _ rfl
  replace Ly : Lay (am_sl h3 76 (Int32.toNatClampNeg (5 : Int32)) (Int32.toInt64 (am_gi h3 (112 + (Int32.toNatClampNeg i1)) 0))) := Ly.sl _ _ _
  generalize am_sl h3 76 (Int32.toNatClampNeg (5 : Int32)) (Int32.toInt64 (am_gi h3 (112 + (Int32.toNatClampNeg i1)) 0)) = h5 at H Ly ⊢
  refine ev_p (pc' := 36) (loc' := [.ref 6, .int i1, .ref (112 + (Int32.toNatClampNeg i1))]) (st' := [.ref 6]) 1 am_q158 rfl ?_
  refine ev_s (pc' := 39) (loc' := [.ref 6, .int i1, .ref (112 + (Int32.toNatClampNeg i1))]) (st' := [.ref 75]) (h1 := h5) am_q158 rfl rfl rfl (am_gf2 (lk6 Ly) (lr6_7 Ly)) ?_
  refine ev_s (pc' := 42) (loc' := [.ref 6, .int i1, .ref (112 + (Int32.toNatClampNeg i1))]) (st' := [.ref 76]) (h1 := h5) am_q158 rfl rfl rfl (am_gf2 (lk75 Ly) (lr75_0 Ly)) ?_
  refine ev_p (pc' := 45) (loc' := [.ref 6, .int i1, .ref (112 + (Int32.toNatClampNeg i1))]) (st' := [.ref (112 + (Int32.toNatClampNeg i1)), .int (6 : Int32), .ref 76]) 2 am_q158 rfl ?_
  refine ev_s (pc' := 48) (loc' := [.ref 6, .int i1, .ref (112 + (Int32.toNatClampNeg i1))]) (st' := [.int (am_gi h5 (112 + (Int32.toNatClampNeg i1)) 2), .int (6 : Int32), .ref 76]) (h1 := h5) am_q158 rfl rfl rfl (if_pos (e := none) (lk_home Ly (am_in_lt2 g1))) ?_
  refine ev_p (pc' := 49) (loc' := [.ref 6, .int i1, .ref (112 + (Int32.toNatClampNeg i1))]) (st' := [.long (Int32.toInt64 (am_gi h5 (112 + (Int32.toNatClampNeg i1)) 2)), .int (6 : Int32), .ref 76]) 1 am_q158 rfl ?_
  obtain ⟨g6, H⟩ := H
  refine ev_s (pc' := 50) (loc' := [.ref 6, .int i1, .ref (112 + (Int32.toNatClampNeg i1))]) (st' := []) (h1 := am_sl h5 76 (Int32.toNatClampNeg (6 : Int32)) (Int32.toInt64 (am_gi h5 (112 + (Int32.toNatClampNeg i1)) 2))) am_q158 rfl rfl rfl (am_xx (lk76 Ly) (am_inl (ln76 Ly) g6)) ?_
  replace H := H _ rfl
  replace Ly : Lay (am_sl h5 76 (Int32.toNatClampNeg (6 : Int32)) (Int32.toInt64 (am_gi h5 (112 + (Int32.toNatClampNeg i1)) 2))) := Ly.sl _ _ _
  generalize am_sl h5 76 (Int32.toNatClampNeg (6 : Int32)) (Int32.toInt64 (am_gi h5 (112 + (Int32.toNatClampNeg i1)) 2)) = h7 at H Ly ⊢
  exact ev_r (v := none) am_q158 rfl rfl rfl rfl H
/-! 159: X11_offeredTo -/
set_option maxRecDepth 20000 in
set_option maxHeartbeats 2000000 in
theorem ws159 {d : Nat}  (i1 : Int32) {h : AH} {Q : Option Value → AH → Prop} (Ly : Lay h) (H : am_in i1 12 ∧ ((am_gi h (112 + (Int32.toNatClampNeg i1)) 3) = (0 : Int32) → Q (some (.int (-1 : Int32))) h) ∧ (¬ (am_gi h (112 + (Int32.toNatClampNeg i1)) 3) = (0 : Int32) → am_in i1 12 ∧ Cl d 160 [.ref 6, .int i1, .int (0 : Int32), .int (am_gi h (112 + (Int32.toNatClampNeg i1)) 4)] h (fun r4 h3 => ∃ x5, r4 = some (.int x5) ∧ Lay h3 ∧ Q (some (.int x5)) h3))) : Cl (d + 1) 159 [.ref 6, .int i1] h Q := by
  show Ev (d + 1) 159 0 [.ref 6, .int i1] [] h Q
  refine ev_p (pc' := 1) (loc' := [.ref 6, .int i1]) (st' := [.ref 6]) 1 am_q159 rfl ?_
  refine ev_s (pc' := 4) (loc' := [.ref 6, .int i1]) (st' := [.ref 7]) (h1 := h) am_q159 rfl rfl rfl (am_gf2 (lk6 Ly) (lr6_1 Ly)) ?_
  refine ev_p (pc' := 5) (loc' := [.ref 6, .int i1]) (st' := [.int i1, .ref 7]) 1 am_q159 rfl ?_
  obtain ⟨g1, H⟩ := H
  refine ev_s (pc' := 6) (loc' := [.ref 6, .int i1]) (st' := [.ref (112 + (Int32.toNatClampNeg i1))]) (h1 := h) am_q159 rfl rfl rfl (am_xa (am_rng (lk7 Ly) (by decide)) (am_inl (ln7 Ly) g1) (lr_home Ly (am_in_lt2 g1))) ?_
  refine ev_s (pc' := 9) (loc' := [.ref 6, .int i1]) (st' := [.int (am_gi h (112 + (Int32.toNatClampNeg i1)) 3)]) (h1 := h) am_q159 rfl rfl rfl (if_pos (e := none) (lk_home Ly (am_in_lt2 g1))) ?_
  refine ev_jz (t := 30) am_q159 rfl rfl (fun hq => ?_) (fun hq => ?_)
  · replace H := H.1 hq
    refine ev_p (pc' := 31) (loc' := [.ref 6, .int i1]) (st' := [.int (-1 : Int32)]) 1 am_q159 rfl ?_
    exact ev_r (v := some (.int (-1 : Int32))) am_q159 rfl rfl rfl rfl H
  · replace H := H.2 hq
    refine ev_p (pc' := 16) (loc' := [.ref 6, .int i1]) (st' := [.ref 6, .int (0 : Int32), .int i1, .ref 6]) 4 am_q159 rfl ?_
    refine ev_s (pc' := 19) (loc' := [.ref 6, .int i1]) (st' := [.ref 7, .int (0 : Int32), .int i1, .ref 6]) (h1 := h) am_q159 rfl rfl rfl (am_gf2 (lk6 Ly) (lr6_1 Ly)) ?_
    refine ev_p (pc' := 20) (loc' := [.ref 6, .int i1]) (st' := [.int i1, .ref 7, .int (0 : Int32), .int i1, .ref 6]) 1 am_q159 rfl ?_
    obtain ⟨g2, H⟩ := H
    refine ev_s (pc' := 21) (loc' := [.ref 6, .int i1]) (st' := [.ref (112 + (Int32.toNatClampNeg i1)), .int (0 : Int32), .int i1, .ref 6]) (h1 := h) am_q159 rfl rfl rfl (am_xa (am_rng (lk7 Ly) (by decide)) (am_inl (ln7 Ly) g2) (lr_home Ly (am_in_lt2 g2))) ?_
    refine ev_s (pc' := 24) (loc' := [.ref 6, .int i1]) (st' := [.int (am_gi h (112 + (Int32.toNatClampNeg i1)) 4), .int (0 : Int32), .int i1, .ref 6]) (h1 := h) am_q159 rfl rfl rfl (if_pos (e := none) (lk_home Ly (am_in_lt2 g2))) ?_
    refine ev_c (vs := [.ref 6, .int i1, .int (0 : Int32), .int (am_gi h (112 + (Int32.toNatClampNeg i1)) 4)]) (rest := []) 160 am_q159 rfl rfl rfl rfl rfl rfl rfl rfl rfl rfl rfl rfl (Or.inr (congrArg some (lk6 Ly))) (Cl.mono H (Nat.le_refl _) (fun r4 h3 H => ?_))
    obtain ⟨x5, rfl, Ly, H⟩ := H
    refine ev_p (pc' := 31) (loc' := [.ref 6, .int i1]) (st' := [.int x5]) 1 am_q159 rfl ?_
    exact ev_r (v := some (.int x5)) am_q159 rfl rfl rfl rfl H
/-! 160: X11_placeInOrder -/
set_option maxRecDepth 20000 in
set_option maxHeartbeats 2000000 in
theorem ws160 {d : Nat}  (i1 : Int32) (i2 : Int32) (i3 : Int32) {h : AH} {Q : Option Value → AH → Prop} (Ly : Lay h) (H : Cl d 161 [.ref 6, .int i1, .int i3] h (fun r2 h1 => ∃ x3, r2 = some (.int x3) ∧ Lay h1 ∧ (i2 < (0 : Int32) → Q (some (.int (-1 : Int32))) h1) ∧ (¬ i2 < (0 : Int32) → Cl d 262 [.int x3] h1 (fun r5 h4 => ∃ x6, r5 = some (.int x6) ∧ Lay h4 ∧ (i2 < x6 → Ev (d + 1) 160 26 [.ref 6, .null, .int i2, .null, .int x3, .int (0 : Int32)] [] h4 Q) ∧ (¬ i2 < x6 → Q (some (.int (-1 : Int32))) h4))))) : Cl (d + 1) 160 [.ref 6, .int i1, .int i2, .int i3] h Q := by
  show Ev (d + 1) 160 0 [.ref 6, .int i1, .int i2, .int i3, .null, .null] [] h Q
  refine ev_p (pc' := 3) (loc' := [.ref 6, .int i1, .int i2, .int i3, .null, .null]) (st' := [.int i3, .int i1, .ref 6]) 3 am_q160 rfl ?_
  refine ev_c (vs := [.ref 6, .int i1, .int i3]) (rest := []) 161 am_q160 rfl rfl rfl rfl rfl rfl rfl rfl rfl rfl rfl rfl (Or.inr (congrArg some (lk6 Ly))) (Cl.mono H (Nat.le_refl _) (fun r2 h1 H => ?_))
  obtain ⟨x3, rfl, Ly, H⟩ := H
  refine ev_p (pc' := 9) (loc' := [.ref 6, .int i1, .int i2, .int i3, .int x3, .null]) (st' := [.int i2]) 2 am_q160 rfl ?_
  refine ev_jz (t := 21) am_q160 rfl rfl (fun hq => ?_) (fun hq => ?_)
  · replace H := H.1 hq
    refine ev_p (pc' := 22) (loc' := [.null, .null, .null, .null, .null, .null]) (st' := [.int (-1 : Int32)]) 1 am_q160 rfl ?_
    exact ev_r (v := some (.int (-1 : Int32))) am_q160 rfl rfl rfl rfl H
  · replace H := H.2 hq
    refine ev_p (pc' := 15) (loc' := [.ref 6, .int i1, .int i2, .int i3, .int x3, .null]) (st' := [.int x3, .int i2]) 2 am_q160 rfl ?_
    refine ev_c (vs := [.int x3]) (rest := [.int i2]) 262 am_q160 rfl rfl rfl rfl rfl rfl rfl rfl rfl rfl rfl rfl (Or.inl rfl) (Cl.mono H (Nat.le_refl _) (fun r5 h4 H => ?_))
    obtain ⟨x6, rfl, Ly, H⟩ := H
    refine ev_jc (t := 23) am_q160 rfl rfl (fun hq => ?_) (fun hq => ?_)
    · replace H := H.1 hq
      refine ev_p (pc' := 26) (loc' := [.ref 6, .int i1, .int i2, .int i3, .int x3, .int (0 : Int32)]) (st' := []) 2 am_q160 rfl ?_
      exact ev_m (loc' := [.ref 6, .null, .int i2, .null, .int x3, .int (0 : Int32)]) am_q160 rfl rfl H
    · replace H := H.2 hq
      refine ev_p (pc' := 22) (loc' := [.null, .null, .null, .null, .null, .null]) (st' := [.int (-1 : Int32)]) 1 am_q160 rfl ?_
      exact ev_r (v := some (.int (-1 : Int32))) am_q160 rfl rfl rfl rfl H
set_option maxRecDepth 20000 in
set_option maxHeartbeats 2000000 in
theorem ws160_26 {d : Nat}  (i2 : Int32) (i4 : Int32) (i5 : Int32) {h : AH} {Q : Option Value → AH → Prop} (Ly : Lay h) (H : (i2 ≤ i5 → Cl d 162 [.ref 6, .int i4] h (fun r2 h1 => ∃ x3, r2 = some (.int x3) ∧ Lay h1 ∧ Q (some (.int x3)) h1)) ∧ (¬ i2 ≤ i5 → Cl d 162 [.ref 6, .int i4] h (fun r5 h4 => ∃ x6, r5 = some (.int x6) ∧ Lay h4 ∧ Ev (d + 1) 160 26 [.ref 6, .null, .int i2, .null, .int (i4 &&& (((1 : Int32) <<< (x6 &&& 31)) ^^^ (-1 : Int32))), .int (i5 + (1 : Int32))] [] h4 Q))) : Ev (d + 1) 160 26 [.ref 6, .null, .int i2, .null, .int i4, .int i5] [] h Q := by
  refine ev_p (pc' := 29) (loc' := [.ref 6, .null, .int i2, .null, .int i4, .int i5]) (st' := [.int i2, .int i5]) 2 am_q160 rfl ?_
  refine ev_jc (t := 53) am_q160 rfl rfl (fun hq => ?_) (fun hq => ?_)
  · replace H := H.1 hq
    refine ev_p (pc' := 56) (loc' := [.ref 6, .null, .int i2, .null, .int i4, .int i5]) (st' := [.int i4, .ref 6]) 2 am_q160 rfl ?_
    refine ev_c (vs := [.ref 6, .int i4]) (rest := []) 162 am_q160 rfl rfl rfl rfl rfl rfl rfl rfl rfl rfl rfl rfl (Or.inr (congrArg some (lk6 Ly))) (Cl.mono H (Nat.le_refl _) (fun r2 h1 H => ?_))
    obtain ⟨x3, rfl, Ly, H⟩ := H
    exact ev_r (v := some (.int x3)) am_q160 rfl rfl rfl rfl H
  · replace H := H.2 hq
    refine ev_p (pc' := 38) (loc' := [.ref 6, .null, .int i2, .null, .int i4, .int i5]) (st' := [.int i4, .ref 6, .int (1 : Int32), .int i4]) 4 am_q160 rfl ?_
    refine ev_c (vs := [.ref 6, .int i4]) (rest := [.int (1 : Int32), .int i4]) 162 am_q160 rfl rfl rfl rfl rfl rfl rfl rfl rfl rfl rfl rfl (Or.inr (congrArg some (lk6 Ly))) (Cl.mono H (Nat.le_refl _) (fun r5 h4 H => ?_))
    obtain ⟨x6, rfl, Ly, H⟩ := H
    refine ev_p (pc' := 26) (loc' := [.ref 6, .null, .int i2, .null, .int (i4 &&& (((1 : Int32) <<< (x6 &&& 31)) ^^^ (-1 : Int32))), .int (i5 + (1 : Int32))]) (st' := []) 7 am_q160 rfl ?_
    exact ev_m (loc' := [.ref 6, .null, .int i2, .null, .int (i4 &&& (((1 : Int32) <<< (x6 &&& 31)) ^^^ (-1 : Int32))), .int (i5 + (1 : Int32))]) am_q160 rfl rfl H
/-! 161: X11_queueFor -/
set_option maxRecDepth 20000 in
set_option maxHeartbeats 2000000 in
theorem ws161 {d : Nat}  (i1 : Int32) (i2 : Int32) {h : AH} {Q : Option Value → AH → Prop} (Ly : Lay h) (H : Cl d 154 [.ref 6, .int (am_gi h 6 0)] h (fun r2 h1 => ∃ x3, r2 = some (.int x3) ∧ Lay h1 ∧ am_in x3 12 ∧ Cl d 158 [.ref 6, .int i1] h1 (fun r6 h5 => r6 = none ∧ Lay h5 ∧ Ev (d + 1) 161 25 [.ref 6, .null, .int i2, .ref (148 + 4 * (Int32.toNatClampNeg x3)), .int (0 : Int32), .int (0 : Int32)] [] h5 Q))) : Cl (d + 1) 161 [.ref 6, .int i1, .int i2] h Q := by
  show Ev (d + 1) 161 0 [.ref 6, .int i1, .int i2, .null, .null, .null] [] h Q
  refine ev_p (pc' := 1) (loc' := [.ref 6, .int i1, .int i2, .null, .null, .null]) (st' := [.ref 6]) 1 am_q161 rfl ?_
  refine ev_s (pc' := 4) (loc' := [.ref 6, .int i1, .int i2, .null, .null, .null]) (st' := [.ref 78]) (h1 := h) am_q161 rfl rfl rfl (am_gf2 (lk6 Ly) (lr6_8 Ly)) ?_
  refine ev_p (pc' := 6) (loc' := [.ref 6, .int i1, .int i2, .null, .null, .null]) (st' := [.ref 6, .ref 6, .ref 78]) 2 am_q161 rfl ?_
  refine ev_s (pc' := 9) (loc' := [.ref 6, .int i1, .int i2, .null, .null, .null]) (st' := [.int (am_gi h 6 0), .ref 6, .ref 78]) (h1 := h) am_q161 rfl rfl rfl (if_pos (e := none) (lk6 Ly)) ?_
  refine ev_c (vs := [.ref 6, .int (am_gi h 6 0)]) (rest := [.ref 78]) 154 am_q161 rfl rfl rfl rfl rfl rfl rfl rfl rfl rfl rfl rfl (Or.inr (congrArg some (lk6 Ly))) (Cl.mono H (Nat.le_refl _) (fun r2 h1 H => ?_))
  obtain ⟨x3, rfl, Ly, H⟩ := H
  obtain ⟨g4, H⟩ := H
  refine ev_s (pc' := 13) (loc' := [.ref 6, .int i1, .int i2, .null, .null, .null]) (st' := [.ref (148 + 4 * (Int32.toNatClampNeg x3))]) (h1 := h1) am_q161 rfl rfl rfl (am_xa (am_rng (lk78 Ly) (by decide)) (am_inl (ln78 Ly) g4) (lr_text Ly (am_in_lt2 g4))) ?_
  refine ev_p (pc' := 19) (loc' := [.ref 6, .int i1, .int i2, .ref (148 + 4 * (Int32.toNatClampNeg x3)), .int (0 : Int32), .null]) (st' := [.int i1, .ref 6]) 5 am_q161 rfl ?_
  refine ev_c (vs := [.ref 6, .int i1]) (rest := []) 158 am_q161 rfl rfl rfl rfl rfl rfl rfl rfl rfl rfl rfl rfl (Or.inr (congrArg some (lk6 Ly))) (Cl.mono H (Nat.le_refl _) (fun r6 h5 H => ?_))
  obtain ⟨rfl, Ly, H⟩ := H
  refine ev_p (pc' := 25) (loc' := [.ref 6, .int i1, .int i2, .ref (148 + 4 * (Int32.toNatClampNeg x3)), .int (0 : Int32), .int (0 : Int32)]) (st' := []) 2 am_q161 rfl ?_
  exact ev_m (loc' := [.ref 6, .null, .int i2, .ref (148 + 4 * (Int32.toNatClampNeg x3)), .int (0 : Int32), .int (0 : Int32)]) am_q161 rfl rfl H
set_option maxRecDepth 20000 in
set_option maxHeartbeats 2000000 in
theorem ws161_25 {d : Nat} {j3 : Nat} (hj3 : j3 < 12) (i2 : Int32) (i4 : Int32) (i5 : Int32) {h : AH} {Q : Option Value → AH → Prop} (Ly : Lay h) (H : ((am_gi h 6 4) ≤ i5 → Q (some (.int i4)) h) ∧ (¬ (am_gi h 6 4) ≤ i5 → am_in i5 24 ∧ Cl d 23 [.ref (124 + (Int32.toNatClampNeg i5))] h (fun r3 h2 => ∃ x4, r3 = some (.int x4) ∧ Lay h2 ∧ (x4 = (0 : Int32) → Ev (d + 1) 161 25 [.ref 6, .null, .int i2, .ref (148 + 4 * j3), .int i4, .int (i5 + (1 : Int32))] [] h2 Q) ∧ (¬ x4 = (0 : Int32) → (((i2 >>> (i5 &&& 31)) &&& (1 : Int32)) = (0 : Int32) → Cl d 157 [.ref 6, .int i5] h2 (fun r6 h5 => r6 = none ∧ Lay h5 ∧ Cl d 70 [.ref 75, .ref (148 + 4 * j3), .int (1 : Int32)] h5 (fun r8 h7 => ∃ y9, r8 = some (.long y9) ∧ Lay h7 ∧ ((lg_cmp y9 (0 : Int64)) = (0 : Int32) → Ev (d + 1) 161 25 [.ref 6, .null, .int i2, .ref (148 + 4 * j3), .int i4, .int (i5 + (1 : Int32))] [] h7 Q) ∧ (¬ (lg_cmp y9 (0 : Int64)) = (0 : Int32) → Cl d 70 [.ref 75, .ref (148 + 4 * j3), .int (0 : Int32)] h7 (fun r11 h10 => ∃ y12, r11 = some (.long y12) ∧ Lay h10 ∧ am_in i5 24 ∧ ∀ h14, h14 = am_sl h10 79 (Int32.toNatClampNeg i5) y12 → Ev (d + 1) 161 25 [.ref 6, .null, .int i2, .ref (148 + 4 * j3), .int (i4 ||| ((1 : Int32) <<< (i5 &&& 31))), .int (i5 + (1 : Int32))] [] h14 Q))))) ∧ (¬ ((i2 >>> (i5 &&& 31)) &&& (1 : Int32)) = (0 : Int32) → Ev (d + 1) 161 25 [.ref 6, .null, .int i2, .ref (148 + 4 * j3), .int i4, .int (i5 + (1 : Int32))] [] h2 Q))))) : Ev (d + 1) 161 25 [.ref 6, .null, .int i2, .ref (148 + 4 * j3), .int i4, .int i5] [] h Q := by
  refine ev_p (pc' := 28) (loc' := [.ref 6, .null, .int i2, .ref (148 + 4 * j3), .int i4, .int i5]) (st' := [.ref 6, .int i5]) 2 am_q161 rfl ?_
  refine ev_s (pc' := 31) (loc' := [.ref 6, .null, .int i2, .ref (148 + 4 * j3), .int i4, .int i5]) (st' := [.int (am_gi h 6 4), .int i5]) (h1 := h) am_q161 rfl rfl rfl (if_pos (e := none) (lk6 Ly)) ?_
  refine ev_jc (t := 110) am_q161 rfl rfl (fun hq => ?_) (fun hq => ?_)
  · replace H := H.1 hq
    refine ev_p (pc' := 112) (loc' := [.ref 6, .null, .int i2, .ref (148 + 4 * j3), .int i4, .int i5]) (st' := [.int i4]) 1 am_q161 rfl ?_
    exact ev_r (v := some (.int i4)) am_q161 rfl rfl rfl rfl H
  · replace H := H.2 hq
    refine ev_p (pc' := 35) (loc' := [.ref 6, .null, .int i2, .ref (148 + 4 * j3), .int i4, .int i5]) (st' := [.ref 6]) 1 am_q161 rfl ?_
    refine ev_s (pc' := 38) (loc' := [.ref 6, .null, .int i2, .ref (148 + 4 * j3), .int i4, .int i5]) (st' := [.ref 8]) (h1 := h) am_q161 rfl rfl rfl (am_gf2 (lk6 Ly) (lr6_3 Ly)) ?_
    refine ev_p (pc' := 40) (loc' := [.ref 6, .null, .int i2, .ref (148 + 4 * j3), .int i4, .int i5]) (st' := [.int i5, .ref 8]) 1 am_q161 rfl ?_
    obtain ⟨g1, H⟩ := H
    refine ev_s (pc' := 41) (loc' := [.ref 6, .null, .int i2, .ref (148 + 4 * j3), .int i4, .int i5]) (st' := [.ref (124 + (Int32.toNatClampNeg i5))]) (h1 := h) am_q161 rfl rfl rfl (am_xa (am_rng (lk8 Ly) (by decide)) (am_inl (ln8 Ly) g1) (lr_member Ly (am_in_lt2 g1))) ?_
    refine ev_c (vs := [.ref (124 + (Int32.toNatClampNeg i5))]) (rest := []) 23 am_q161 rfl rfl rfl rfl rfl rfl rfl rfl rfl rfl rfl rfl (Or.inr (congrArg some (lk_member Ly (am_in_lt2 g1)))) (Cl.mono H (Nat.le_refl _) (fun r3 h2 H => ?_))
    obtain ⟨x4, rfl, Ly, H⟩ := H
    refine ev_jz (t := 104) am_q161 rfl rfl (fun hq => ?_) (fun hq => ?_)
    · replace H := H.1 hq
      refine ev_p (pc' := 25) (loc' := [.ref 6, .null, .int i2, .ref (148 + 4 * j3), .int i4, .int (i5 + (1 : Int32))]) (st' := []) 2 am_q161 rfl ?_
      exact ev_m (loc' := [.ref 6, .null, .int i2, .ref (148 + 4 * j3), .int i4, .int (i5 + (1 : Int32))]) am_q161 rfl rfl H
    · replace H := H.2 hq
      refine ev_p (pc' := 53) (loc' := [.ref 6, .null, .int i2, .ref (148 + 4 * j3), .int i4, .int i5]) (st' := [.int ((i2 >>> (i5 &&& 31)) &&& (1 : Int32))]) 5 am_q161 rfl ?_
      refine ev_jz (t := 59) am_q161 rfl rfl (fun hq => ?_) (fun hq => ?_)
      · replace H := H.1 hq
        refine ev_p (pc' := 62) (loc' := [.ref 6, .null, .int i2, .ref (148 + 4 * j3), .int i4, .int i5]) (st' := [.int i5, .ref 6]) 2 am_q161 rfl ?_
        refine ev_c (vs := [.ref 6, .int i5]) (rest := []) 157 am_q161 rfl rfl rfl rfl rfl rfl rfl rfl rfl rfl rfl rfl (Or.inr (congrArg some (lk6 Ly))) (Cl.mono H (Nat.le_refl _) (fun r6 h5 H => ?_))
        obtain ⟨rfl, Ly, H⟩ := H
        refine ev_p (pc' := 66) (loc' := [.ref 6, .null, .int i2, .ref (148 + 4 * j3), .int i4, .int i5]) (st' := [.ref 6]) 1 am_q161 rfl ?_
        refine ev_s (pc' := 69) (loc' := [.ref 6, .null, .int i2, .ref (148 + 4 * j3), .int i4, .int i5]) (st' := [.ref 75]) (h1 := h5) am_q161 rfl rfl rfl (am_gf2 (lk6 Ly) (lr6_7 Ly)) ?_
        refine ev_p (pc' := 71) (loc' := [.ref 6, .null, .int i2, .ref (148 + 4 * j3), .int i4, .int i5]) (st' := [.int (1 : Int32), .ref (148 + 4 * j3), .ref 75]) 2 am_q161 rfl ?_
        refine ev_c (vs := [.ref 75, .ref (148 + 4 * j3), .int (1 : Int32)]) (rest := []) 70 am_q161 rfl rfl rfl rfl rfl rfl rfl rfl rfl rfl rfl rfl (Or.inr (congrArg some (lk75 Ly))) (Cl.mono H (Nat.le_refl _) (fun r8 h7 H => ?_))
        obtain ⟨y9, rfl, Ly, H⟩ := H
        refine ev_p (pc' := 76) (loc' := [.ref 6, .null, .int i2, .ref (148 + 4 * j3), .int i4, .int i5]) (st' := [.int (lg_cmp y9 (0 : Int64))]) 2 am_q161 rfl ?_
        refine ev_jz (t := 104) am_q161 rfl rfl (fun hq => ?_) (fun hq => ?_)
        · replace H := H.1 hq
          refine ev_p (pc' := 25) (loc' := [.ref 6, .null, .int i2, .ref (148 + 4 * j3), .int i4, .int (i5 + (1 : Int32))]) (st' := []) 2 am_q161 rfl ?_
          exact ev_m (loc' := [.ref 6, .null, .int i2, .ref (148 + 4 * j3), .int i4, .int (i5 + (1 : Int32))]) am_q161 rfl rfl H
        · replace H := H.2 hq
          refine ev_p (pc' := 80) (loc' := [.ref 6, .null, .int i2, .ref (148 + 4 * j3), .int i4, .int i5]) (st' := [.ref 6]) 1 am_q161 rfl ?_
          refine ev_s (pc' := 83) (loc' := [.ref 6, .null, .int i2, .ref (148 + 4 * j3), .int i4, .int i5]) (st' := [.ref 79]) (h1 := h7) am_q161 rfl rfl rfl (am_gf2 (lk6 Ly) (lr6_13 Ly)) ?_
          refine ev_p (pc' := 86) (loc' := [.ref 6, .null, .int i2, .ref (148 + 4 * j3), .int i4, .int i5]) (st' := [.ref 6, .int i5, .ref 79]) 2 am_q161 rfl ?_
          refine ev_s (pc' := 89) (loc' := [.ref 6, .null, .int i2, .ref (148 + 4 * j3), .int i4, .int i5]) (st' := [.ref 75, .int i5, .ref 79]) (h1 := h7) am_q161 rfl rfl rfl (am_gf2 (lk6 Ly) (lr6_7 Ly)) ?_
          refine ev_p (pc' := 91) (loc' := [.ref 6, .null, .int i2, .ref (148 + 4 * j3), .int i4, .int i5]) (st' := [.int (0 : Int32), .ref (148 + 4 * j3), .ref 75, .int i5, .ref 79]) 2 am_q161 rfl ?_
          refine ev_c (vs := [.ref 75, .ref (148 + 4 * j3), .int (0 : Int32)]) (rest := [.int i5, .ref 79]) 70 am_q161 rfl rfl rfl rfl rfl rfl rfl rfl rfl rfl rfl rfl (Or.inr (congrArg some (lk75 Ly))) (Cl.mono H (Nat.le_refl _) (fun r11 h10 H => ?_))
          obtain ⟨y12, rfl, Ly, H⟩ := H
          obtain ⟨g13, H⟩ := H
          refine ev_s (pc' := 95) (loc' := [.ref 6, .null, .int i2, .ref (148 + 4 * j3), .int i4, .int i5]) (st' := []) (h1 := am_sl h10 79 (Int32.toNatClampNeg i5) y12) am_q161 rfl rfl rfl (am_xx (lk79 Ly) (am_inl (ln79 Ly) g13)) ?_
          replace H := H _ rfl
          replace Ly : Lay (am_sl h10 79 (Int32.toNatClampNeg i5) y12) := Ly.sl _ _ _
          generalize am_sl h10 79 (Int32.toNatClampNeg i5) y12 = h14 at H Ly ⊢
          refine ev_p (pc' := 25) (loc' := [.ref 6, .null, .int i2, .ref (148 + 4 * j3), .int (i4 ||| ((1 : Int32) <<< (i5 &&& 31))), .int (i5 + (1 : Int32))]) (st' := []) 8 am_q161 rfl ?_
          exact ev_m (loc' := [.ref 6, .null, .int i2, .ref (148 + 4 * j3), .int (i4 ||| ((1 : Int32) <<< (i5 &&& 31))), .int (i5 + (1 : Int32))]) am_q161 rfl rfl H
      · replace H := H.2 hq
        refine ev_p (pc' := 25) (loc' := [.ref 6, .null, .int i2, .ref (148 + 4 * j3), .int i4, .int (i5 + (1 : Int32))]) (st' := []) 3 am_q161 rfl ?_
        exact ev_m (loc' := [.ref 6, .null, .int i2, .ref (148 + 4 * j3), .int i4, .int (i5 + (1 : Int32))]) am_q161 rfl rfl H
/-! 162: X11_firstOf -/
set_option maxRecDepth 20000 in
set_option maxHeartbeats 2000000 in
theorem ws162 {d : Nat}  (i1 : Int32) {h : AH} {Q : Option Value → AH → Prop} (Ly : Lay h) (H : Ev (d + 1) 162 4 [.ref 6, .int i1, .int (-1 : Int32), .int (0 : Int32)] [] h Q) : Cl (d + 1) 162 [.ref 6, .int i1] h Q := by
  show Ev (d + 1) 162 0 [.ref 6, .int i1, .null, .null] [] h Q
  refine ev_p (pc' := 4) (loc' := [.ref 6, .int i1, .int (-1 : Int32), .int (0 : Int32)]) (st' := []) 4 am_q162 rfl ?_
  exact ev_m (loc' := [.ref 6, .int i1, .int (-1 : Int32), .int (0 : Int32)]) am_q162 rfl rfl H
set_option maxRecDepth 20000 in
set_option maxHeartbeats 2000000 in
theorem ws162_4 {d : Nat}  (i1 : Int32) (i2 : Int32) (i3 : Int32) {h : AH} {Q : Option Value → AH → Prop} (Ly : Lay h) (H : ((am_gi h 6 4) ≤ i3 → Q (some (.int i2)) h) ∧ (¬ (am_gi h 6 4) ≤ i3 → (((i1 >>> (i3 &&& 31)) &&& (1 : Int32)) = (0 : Int32) → Ev (d + 1) 162 4 [.ref 6, .int i1, .int i2, .int (i3 + (1 : Int32))] [] h Q) ∧ (¬ ((i1 >>> (i3 &&& 31)) &&& (1 : Int32)) = (0 : Int32) → (i2 = (-1 : Int32) → Ev (d + 1) 162 4 [.ref 6, .int i1, .int i3, .int (i3 + (1 : Int32))] [] h Q) ∧ (¬ i2 = (-1 : Int32) → Cl d 163 [.ref 6, .int i3, .int i2] h (fun r2 h1 => ∃ x3, r2 = some (.int x3) ∧ Lay h1 ∧ (x3 = (0 : Int32) → Ev (d + 1) 162 4 [.ref 6, .int i1, .int i2, .int (i3 + (1 : Int32))] [] h1 Q) ∧ (¬ x3 = (0 : Int32) → Ev (d + 1) 162 4 [.ref 6, .int i1, .int i3, .int (i3 + (1 : Int32))] [] h1 Q)))))) : Ev (d + 1) 162 4 [.ref 6, .int i1, .int i2, .int i3] [] h Q := by
  refine ev_p (pc' := 6) (loc' := [.ref 6, .int i1, .int i2, .int i3]) (st' := [.ref 6, .int i3]) 2 am_q162 rfl ?_
  refine ev_s (pc' := 9) (loc' := [.ref 6, .int i1, .int i2, .int i3]) (st' := [.int (am_gi h 6 4), .int i3]) (h1 := h) am_q162 rfl rfl rfl (if_pos (e := none) (lk6 Ly)) ?_
  refine ev_jc (t := 42) am_q162 rfl rfl (fun hq => ?_) (fun hq => ?_)
  · replace H := H.1 hq
    refine ev_p (pc' := 43) (loc' := [.ref 6, .int i1, .int i2, .int i3]) (st' := [.int i2]) 1 am_q162 rfl ?_
    exact ev_r (v := some (.int i2)) am_q162 rfl rfl rfl rfl H
  · replace H := H.2 hq
    refine ev_p (pc' := 17) (loc' := [.ref 6, .int i1, .int i2, .int i3]) (st' := [.int ((i1 >>> (i3 &&& 31)) &&& (1 : Int32))]) 5 am_q162 rfl ?_
    refine ev_jz (t := 36) am_q162 rfl rfl (fun hq => ?_) (fun hq => ?_)
    · replace H := H.1 hq
      refine ev_p (pc' := 4) (loc' := [.ref 6, .int i1, .int i2, .int (i3 + (1 : Int32))]) (st' := []) 2 am_q162 rfl ?_
      exact ev_m (loc' := [.ref 6, .int i1, .int i2, .int (i3 + (1 : Int32))]) am_q162 rfl rfl H
    · replace H := H.2 hq
      refine ev_p (pc' := 22) (loc' := [.ref 6, .int i1, .int i2, .int i3]) (st' := [.int (-1 : Int32), .int i2]) 2 am_q162 rfl ?_
      refine ev_jc (t := 34) am_q162 rfl rfl (fun hq => ?_) (fun hq => ?_)
      · replace H := H.1 hq
        refine ev_p (pc' := 4) (loc' := [.ref 6, .int i1, .int i3, .int (i3 + (1 : Int32))]) (st' := []) 4 am_q162 rfl ?_
        exact ev_m (loc' := [.ref 6, .int i1, .int i3, .int (i3 + (1 : Int32))]) am_q162 rfl rfl H
      · replace H := H.2 hq
        refine ev_p (pc' := 28) (loc' := [.ref 6, .int i1, .int i2, .int i3]) (st' := [.int i2, .int i3, .ref 6]) 3 am_q162 rfl ?_
        refine ev_c (vs := [.ref 6, .int i3, .int i2]) (rest := []) 163 am_q162 rfl rfl rfl rfl rfl rfl rfl rfl rfl rfl rfl rfl (Or.inr (congrArg some (lk6 Ly))) (Cl.mono H (Nat.le_refl _) (fun r2 h1 H => ?_))
        obtain ⟨x3, rfl, Ly, H⟩ := H
        refine ev_jz (t := 36) am_q162 rfl rfl (fun hq => ?_) (fun hq => ?_)
        · replace H := H.1 hq
          refine ev_p (pc' := 4) (loc' := [.ref 6, .int i1, .int i2, .int (i3 + (1 : Int32))]) (st' := []) 2 am_q162 rfl ?_
          exact ev_m (loc' := [.ref 6, .int i1, .int i2, .int (i3 + (1 : Int32))]) am_q162 rfl rfl H
        · replace H := H.2 hq
          refine ev_p (pc' := 4) (loc' := [.ref 6, .int i1, .int i3, .int (i3 + (1 : Int32))]) (st' := []) 4 am_q162 rfl ?_
          exact ev_m (loc' := [.ref 6, .int i1, .int i3, .int (i3 + (1 : Int32))]) am_q162 rfl rfl H
/-! 163: X11_goesAhead -/
set_option maxRecDepth 20000 in
set_option maxHeartbeats 2000000 in
theorem ws163 {d : Nat}  (i1 : Int32) (i2 : Int32) {h : AH} {Q : Option Value → AH → Prop} (Ly : Lay h) (H : am_in i1 24 ∧ am_in i2 24 ∧ ((lg_cmp (am_gl h 79 (Int32.toNatClampNeg i1)) (am_gl h 79 (Int32.toNatClampNeg i2))) = (0 : Int32) → am_in i1 24 ∧ am_in i2 24 ∧ ((am_gi h (124 + (Int32.toNatClampNeg i2)) 3) ≤ (am_gi h (124 + (Int32.toNatClampNeg i1)) 3) → Q (some (.int (0 : Int32))) h) ∧ (¬ (am_gi h (124 + (Int32.toNatClampNeg i2)) 3) ≤ (am_gi h (124 + (Int32.toNatClampNeg i1)) 3) → Q (some (.int (1 : Int32))) h)) ∧ (¬ (lg_cmp (am_gl h 79 (Int32.toNatClampNeg i1)) (am_gl h 79 (Int32.toNatClampNeg i2))) = (0 : Int32) → am_in i1 24 ∧ am_in i2 24 ∧ ((lg_cmp (am_gl h 79 (Int32.toNatClampNeg i1)) (am_gl h 79 (Int32.toNatClampNeg i2))) ≤ (0 : Int32) → Q (some (.int (0 : Int32))) h) ∧ (¬ (lg_cmp (am_gl h 79 (Int32.toNatClampNeg i1)) (am_gl h 79 (Int32.toNatClampNeg i2))) ≤ (0 : Int32) → Q (some (.int (1 : Int32))) h))) : Cl d 163 [.ref 6, .int i1, .int i2] h Q := by
  show Ev d 163 0 [.ref 6, .int i1, .int i2] [] h Q
  refine ev_p (pc' := 1) (loc' := [.ref 6, .int i1, .int i2]) (st' := [.ref 6]) 1 am_q163 rfl ?_
  refine ev_s (pc' := 4) (loc' := [.ref 6, .int i1, .int i2]) (st' := [.ref 79]) (h1 := h) am_q163 rfl rfl rfl (am_gf2 (lk6 Ly) (lr6_13 Ly)) ?_
  refine ev_p (pc' := 5) (loc' := [.ref 6, .int i1, .int i2]) (st' := [.int i1, .ref 79]) 1 am_q163 rfl ?_
  obtain ⟨g1, H⟩ := H
  refine ev_s (pc' := 6) (loc' := [.ref 6, .int i1, .int i2]) (st' := [.long (am_gl h 79 (Int32.toNatClampNeg i1))]) (h1 := h) am_q163 rfl rfl rfl (am_xx (lk79 Ly) (am_inl (ln79 Ly) g1)) ?_
  refine ev_p (pc' := 7) (loc' := [.ref 6, .int i1, .int i2]) (st' := [.ref 6, .long (am_gl h 79 (Int32.toNatClampNeg i1))]) 1 am_q163 rfl ?_
  refine ev_s (pc' := 10) (loc' := [.ref 6, .int i1, .int i2]) (st' := [.ref 79, .long (am_gl h 79 (Int32.toNatClampNeg i1))]) (h1 := h) am_q163 rfl rfl rfl (am_gf2 (lk6 Ly) (lr6_13 Ly)) ?_
  refine ev_p (pc' := 11) (loc' := [.ref 6, .int i1, .int i2]) (st' := [.int i2, .ref 79, .long (am_gl h 79 (Int32.toNatClampNeg i1))]) 1 am_q163 rfl ?_
  obtain ⟨g2, H⟩ := H
  refine ev_s (pc' := 12) (loc' := [.ref 6, .int i1, .int i2]) (st' := [.long (am_gl h 79 (Int32.toNatClampNeg i2)), .long (am_gl h 79 (Int32.toNatClampNeg i1))]) (h1 := h) am_q163 rfl rfl rfl (am_xx (lk79 Ly) (am_inl (ln79 Ly) g2)) ?_
  refine ev_p (pc' := 13) (loc' := [.ref 6, .int i1, .int i2]) (st' := [.int (lg_cmp (am_gl h 79 (Int32.toNatClampNeg i1)) (am_gl h 79 (Int32.toNatClampNeg i2)))]) 1 am_q163 rfl ?_
  refine ev_jz (t := 38) am_q163 rfl rfl (fun hq => ?_) (fun hq => ?_)
  · replace H := H.1 hq
    refine ev_p (pc' := 39) (loc' := [.ref 6, .int i1, .int i2]) (st' := [.ref 6]) 1 am_q163 rfl ?_
    refine ev_s (pc' := 42) (loc' := [.ref 6, .int i1, .int i2]) (st' := [.ref 8]) (h1 := h) am_q163 rfl rfl rfl (am_gf2 (lk6 Ly) (lr6_3 Ly)) ?_
    refine ev_p (pc' := 43) (loc' := [.ref 6, .int i1, .int i2]) (st' := [.int i1, .ref 8]) 1 am_q163 rfl ?_
    obtain ⟨g3, H⟩ := H
    refine ev_s (pc' := 44) (loc' := [.ref 6, .int i1, .int i2]) (st' := [.ref (124 + (Int32.toNatClampNeg i1))]) (h1 := h) am_q163 rfl rfl rfl (am_xa (am_rng (lk8 Ly) (by decide)) (am_inl (ln8 Ly) g3) (lr_member Ly (am_in_lt2 g3))) ?_
    refine ev_s (pc' := 47) (loc' := [.ref 6, .int i1, .int i2]) (st' := [.int (am_gi h (124 + (Int32.toNatClampNeg i1)) 3)]) (h1 := h) am_q163 rfl rfl rfl (if_pos (e := none) (lk_member Ly (am_in_lt2 g3))) ?_
    refine ev_p (pc' := 48) (loc' := [.ref 6, .int i1, .int i2]) (st' := [.ref 6, .int (am_gi h (124 + (Int32.toNatClampNeg i1)) 3)]) 1 am_q163 rfl ?_
    refine ev_s (pc' := 51) (loc' := [.ref 6, .int i1, .int i2]) (st' := [.ref 8, .int (am_gi h (124 + (Int32.toNatClampNeg i1)) 3)]) (h1 := h) am_q163 rfl rfl rfl (am_gf2 (lk6 Ly) (lr6_3 Ly)) ?_
    refine ev_p (pc' := 52) (loc' := [.ref 6, .int i1, .int i2]) (st' := [.int i2, .ref 8, .int (am_gi h (124 + (Int32.toNatClampNeg i1)) 3)]) 1 am_q163 rfl ?_
    obtain ⟨g4, H⟩ := H
    refine ev_s (pc' := 53) (loc' := [.ref 6, .int i1, .int i2]) (st' := [.ref (124 + (Int32.toNatClampNeg i2)), .int (am_gi h (124 + (Int32.toNatClampNeg i1)) 3)]) (h1 := h) am_q163 rfl rfl rfl (am_xa (am_rng (lk8 Ly) (by decide)) (am_inl (ln8 Ly) g4) (lr_member Ly (am_in_lt2 g4))) ?_
    refine ev_s (pc' := 56) (loc' := [.ref 6, .int i1, .int i2]) (st' := [.int (am_gi h (124 + (Int32.toNatClampNeg i2)) 3), .int (am_gi h (124 + (Int32.toNatClampNeg i1)) 3)]) (h1 := h) am_q163 rfl rfl rfl (if_pos (e := none) (lk_member Ly (am_in_lt2 g4))) ?_
    refine ev_jc (t := 63) am_q163 rfl rfl (fun hq => ?_) (fun hq => ?_)
    · replace H := H.1 hq
      refine ev_p (pc' := 64) (loc' := [.ref 6, .int i1, .int i2]) (st' := [.int (0 : Int32)]) 1 am_q163 rfl ?_
      exact ev_r (v := some (.int (0 : Int32))) am_q163 rfl rfl rfl rfl H
    · replace H := H.2 hq
      refine ev_p (pc' := 64) (loc' := [.ref 6, .int i1, .int i2]) (st' := [.int (1 : Int32)]) 2 am_q163 rfl ?_
      exact ev_r (v := some (.int (1 : Int32))) am_q163 rfl rfl rfl rfl H
  · replace H := H.2 hq
    refine ev_p (pc' := 17) (loc' := [.ref 6, .int i1, .int i2]) (st' := [.ref 6]) 1 am_q163 rfl ?_
    refine ev_s (pc' := 20) (loc' := [.ref 6, .int i1, .int i2]) (st' := [.ref 79]) (h1 := h) am_q163 rfl rfl rfl (am_gf2 (lk6 Ly) (lr6_13 Ly)) ?_
    refine ev_p (pc' := 21) (loc' := [.ref 6, .int i1, .int i2]) (st' := [.int i1, .ref 79]) 1 am_q163 rfl ?_
    obtain ⟨g5, H⟩ := H
    refine ev_s (pc' := 22) (loc' := [.ref 6, .int i1, .int i2]) (st' := [.long (am_gl h 79 (Int32.toNatClampNeg i1))]) (h1 := h) am_q163 rfl rfl rfl (am_xx (lk79 Ly) (am_inl (ln79 Ly) g5)) ?_
    refine ev_p (pc' := 23) (loc' := [.ref 6, .int i1, .int i2]) (st' := [.ref 6, .long (am_gl h 79 (Int32.toNatClampNeg i1))]) 1 am_q163 rfl ?_
    refine ev_s (pc' := 26) (loc' := [.ref 6, .int i1, .int i2]) (st' := [.ref 79, .long (am_gl h 79 (Int32.toNatClampNeg i1))]) (h1 := h) am_q163 rfl rfl rfl (am_gf2 (lk6 Ly) (lr6_13 Ly)) ?_
    refine ev_p (pc' := 27) (loc' := [.ref 6, .int i1, .int i2]) (st' := [.int i2, .ref 79, .long (am_gl h 79 (Int32.toNatClampNeg i1))]) 1 am_q163 rfl ?_
    obtain ⟨g6, H⟩ := H
    refine ev_s (pc' := 28) (loc' := [.ref 6, .int i1, .int i2]) (st' := [.long (am_gl h 79 (Int32.toNatClampNeg i2)), .long (am_gl h 79 (Int32.toNatClampNeg i1))]) (h1 := h) am_q163 rfl rfl rfl (am_xx (lk79 Ly) (am_inl (ln79 Ly) g6)) ?_
    refine ev_p (pc' := 29) (loc' := [.ref 6, .int i1, .int i2]) (st' := [.int (lg_cmp (am_gl h 79 (Int32.toNatClampNeg i1)) (am_gl h 79 (Int32.toNatClampNeg i2)))]) 1 am_q163 rfl ?_
    refine ev_jz (t := 36) am_q163 rfl rfl (fun hq => ?_) (fun hq => ?_)
    · replace H := H.1 hq
      refine ev_p (pc' := 37) (loc' := [.ref 6, .int i1, .int i2]) (st' := [.int (0 : Int32)]) 1 am_q163 rfl ?_
      exact ev_r (v := some (.int (0 : Int32))) am_q163 rfl rfl rfl rfl H
    · replace H := H.2 hq
      refine ev_p (pc' := 37) (loc' := [.ref 6, .int i1, .int i2]) (st' := [.int (1 : Int32)]) 2 am_q163 rfl ?_
      exact ev_r (v := some (.int (1 : Int32))) am_q163 rfl rfl rfl rfl H
/-! 164: X11_findChange -/
set_option maxRecDepth 20000 in
set_option maxHeartbeats 2000000 in
theorem ws164 {d : Nat}   {h : AH} {Q : Option Value → AH → Prop} (Ly : Lay h) (H : Cl d 148 [.ref 6] h (fun r2 h1 => ∃ x3, r2 = some (.int x3) ∧ Lay h1 ∧ Cl d 153 [.ref 6] h1 (fun r5 h4 => ∃ x6, r5 = some (.int x6) ∧ Lay h4 ∧ Cl d 1 [.ref 80, .int (am_gi h 6 2), .int (x3 &&& (x6 ^^^ (-1 : Int32)))] h4 (fun r8 h7 => r8 = none ∧ Lay h7 ∧ Ev (d + 1) 164 24 [.ref 6, .int (0 : Int32), .null] [] h7 Q)))) : Cl (d + 1) 164 [.ref 6] h Q := by
  show Ev (d + 1) 164 0 [.ref 6, .null, .null] [] h Q
  refine ev_p (pc' := 1) (loc' := [.ref 6, .null, .null]) (st' := [.ref 6]) 1 am_q164 rfl ?_
  refine ev_s (pc' := 4) (loc' := [.ref 6, .null, .null]) (st' := [.ref 80]) (h1 := h) am_q164 rfl rfl rfl (am_gf2 (lk6 Ly) (lr6_14 Ly)) ?_
  refine ev_p (pc' := 5) (loc' := [.ref 6, .null, .null]) (st' := [.ref 6, .ref 80]) 1 am_q164 rfl ?_
  refine ev_s (pc' := 8) (loc' := [.ref 6, .null, .null]) (st' := [.int (am_gi h 6 2), .ref 80]) (h1 := h) am_q164 rfl rfl rfl (if_pos (e := none) (lk6 Ly)) ?_
  refine ev_p (pc' := 9) (loc' := [.ref 6, .null, .null]) (st' := [.ref 6, .int (am_gi h 6 2), .ref 80]) 1 am_q164 rfl ?_
  refine ev_c (vs := [.ref 6]) (rest := [.int (am_gi h 6 2), .ref 80]) 148 am_q164 rfl rfl rfl rfl rfl rfl rfl rfl rfl rfl rfl rfl (Or.inr (congrArg some (lk6 Ly))) (Cl.mono H (Nat.le_refl _) (fun r2 h1 H => ?_))
  obtain ⟨x3, rfl, Ly, H⟩ := H
  refine ev_p (pc' := 13) (loc' := [.ref 6, .null, .null]) (st' := [.ref 6, .int x3, .int (am_gi h 6 2), .ref 80]) 1 am_q164 rfl ?_
  refine ev_c (vs := [.ref 6]) (rest := [.int x3, .int (am_gi h 6 2), .ref 80]) 153 am_q164 rfl rfl rfl rfl rfl rfl rfl rfl rfl rfl rfl rfl (Or.inr (congrArg some (lk6 Ly))) (Cl.mono H (Nat.le_refl _) (fun r5 h4 H => ?_))
  obtain ⟨x6, rfl, Ly, H⟩ := H
  refine ev_p (pc' := 19) (loc' := [.ref 6, .null, .null]) (st' := [.int (x3 &&& (x6 ^^^ (-1 : Int32))), .int (am_gi h 6 2), .ref 80]) 3 am_q164 rfl ?_
  refine ev_c (vs := [.ref 80, .int (am_gi h 6 2), .int (x3 &&& (x6 ^^^ (-1 : Int32)))]) (rest := []) 1 am_q164 rfl rfl rfl rfl rfl rfl rfl rfl rfl rfl rfl rfl (Or.inr (congrArg some (lk80 Ly))) (Cl.mono H (Nat.le_refl _) (fun r8 h7 H => ?_))
  obtain ⟨rfl, Ly, H⟩ := H
  refine ev_p (pc' := 24) (loc' := [.ref 6, .int (0 : Int32), .null]) (st' := []) 2 am_q164 rfl ?_
  exact ev_m (loc' := [.ref 6, .int (0 : Int32), .null]) am_q164 rfl rfl H
set_option maxRecDepth 20000 in
set_option maxHeartbeats 2000000 in
theorem ws164_24 {d : Nat}  (i1 : Int32) {h : AH} {Q : Option Value → AH → Prop} (Ly : Lay h) (H : ((am_gi h 6 4) ≤ i1 → Cl d 3 [.ref 80] h (fun r2 h1 => ∃ x3, r2 = some (.int x3) ∧ Lay h1 ∧ Q (some (.int x3)) h1)) ∧ (¬ (am_gi h 6 4) ≤ i1 → Cl d 57 [.ref 9, .int i1, .int (am_gi h 6 0)] h (fun r5 h4 => ∃ x6, r5 = some (.int x6) ∧ Lay h4 ∧ (x6 = (-1 : Int32) → Ev (d + 1) 164 24 [.ref 6, .int (i1 + (1 : Int32)), .null] [] h4 Q) ∧ (¬ x6 = (-1 : Int32) → am_in x6 60 ∧ Cl d 68 [.ref (11 + (Int32.toNatClampNeg x6)), .int i1] h4 (fun r9 h8 => ∃ x10, r9 = some (.int x10) ∧ Lay h8 ∧ (x10 = (0 : Int32) → Ev (d + 1) 164 24 [.ref 6, .int (i1 + (1 : Int32)), .null] [] h8 Q) ∧ (¬ x10 = (0 : Int32) → am_in x6 60 ∧ am_in i1 24 ∧ Cl d 2 [.ref 80, .int i1, .int (am_gi h8 (11 + (Int32.toNatClampNeg x6)) 1), .int (am_gi h8 (124 + (Int32.toNatClampNeg i1)) 4)] h8 (fun r14 h13 => r14 = none ∧ Lay h13 ∧ Ev (d + 1) 164 24 [.ref 6, .int (i1 + (1 : Int32)), .null] [] h13 Q))))))) : Ev (d + 1) 164 24 [.ref 6, .int i1, .null] [] h Q := by
  refine ev_p (pc' := 26) (loc' := [.ref 6, .int i1, .null]) (st' := [.ref 6, .int i1]) 2 am_q164 rfl ?_
  refine ev_s (pc' := 29) (loc' := [.ref 6, .int i1, .null]) (st' := [.int (am_gi h 6 4), .int i1]) (h1 := h) am_q164 rfl rfl rfl (if_pos (e := none) (lk6 Ly)) ?_
  refine ev_jc (t := 101) am_q164 rfl rfl (fun hq => ?_) (fun hq => ?_)
  · replace H := H.1 hq
    refine ev_p (pc' := 102) (loc' := [.ref 6, .int i1, .null]) (st' := [.ref 6]) 1 am_q164 rfl ?_
    refine ev_s (pc' := 105) (loc' := [.ref 6, .int i1, .null]) (st' := [.ref 80]) (h1 := h) am_q164 rfl rfl rfl (am_gf2 (lk6 Ly) (lr6_14 Ly)) ?_
    refine ev_c (vs := [.ref 80]) (rest := []) 3 am_q164 rfl rfl rfl rfl rfl rfl rfl rfl rfl rfl rfl rfl (Or.inr (congrArg some (lk80 Ly))) (Cl.mono H (Nat.le_refl _) (fun r2 h1 H => ?_))
    obtain ⟨x3, rfl, Ly, H⟩ := H
    exact ev_r (v := some (.int x3)) am_q164 rfl rfl rfl rfl H
  · replace H := H.2 hq
    refine ev_p (pc' := 33) (loc' := [.ref 6, .int i1, .null]) (st' := [.ref 6]) 1 am_q164 rfl ?_
    refine ev_s (pc' := 36) (loc' := [.ref 6, .int i1, .null]) (st' := [.ref 9]) (h1 := h) am_q164 rfl rfl rfl (am_gf2 (lk6 Ly) (lr6_5 Ly)) ?_
    refine ev_p (pc' := 38) (loc' := [.ref 6, .int i1, .null]) (st' := [.ref 6, .int i1, .ref 9]) 2 am_q164 rfl ?_
    refine ev_s (pc' := 41) (loc' := [.ref 6, .int i1, .null]) (st' := [.int (am_gi h 6 0), .int i1, .ref 9]) (h1 := h) am_q164 rfl rfl rfl (if_pos (e := none) (lk6 Ly)) ?_
    refine ev_c (vs := [.ref 9, .int i1, .int (am_gi h 6 0)]) (rest := []) 57 am_q164 rfl rfl rfl rfl rfl rfl rfl rfl rfl rfl rfl rfl (Or.inr (congrArg some (lk9 Ly))) (Cl.mono H (Nat.le_refl _) (fun r5 h4 H => ?_))
    obtain ⟨x6, rfl, Ly, H⟩ := H
    refine ev_p (pc' := 47) (loc' := [.ref 6, .int i1, .int x6]) (st' := [.int (-1 : Int32), .int x6]) 3 am_q164 rfl ?_
    refine ev_jc (t := 95) am_q164 rfl rfl (fun hq => ?_) (fun hq => ?_)
    · replace H := H.1 hq
      refine ev_p (pc' := 24) (loc' := [.ref 6, .int (i1 + (1 : Int32)), .null]) (st' := []) 2 am_q164 rfl ?_
      exact ev_m (loc' := [.ref 6, .int (i1 + (1 : Int32)), .null]) am_q164 rfl rfl H
    · replace H := H.2 hq
      refine ev_p (pc' := 51) (loc' := [.ref 6, .int i1, .int x6]) (st' := [.ref 6]) 1 am_q164 rfl ?_
      refine ev_s (pc' := 54) (loc' := [.ref 6, .int i1, .int x6]) (st' := [.ref 9]) (h1 := h4) am_q164 rfl rfl rfl (am_gf2 (lk6 Ly) (lr6_5 Ly)) ?_
      refine ev_s (pc' := 57) (loc' := [.ref 6, .int i1, .int x6]) (st' := [.ref 10]) (h1 := h4) am_q164 rfl rfl rfl (am_gf2 (lk9 Ly) (lr9_0 Ly)) ?_
      refine ev_p (pc' := 58) (loc' := [.ref 6, .int i1, .int x6]) (st' := [.int x6, .ref 10]) 1 am_q164 rfl ?_
      obtain ⟨g7, H⟩ := H
      refine ev_s (pc' := 59) (loc' := [.ref 6, .int i1, .int x6]) (st' := [.ref (11 + (Int32.toNatClampNeg x6))]) (h1 := h4) am_q164 rfl rfl rfl (am_xa (am_rng (lk10 Ly) (by decide)) (am_inl (ln10 Ly) g7) (lr_right Ly (am_in_lt2 g7))) ?_
      refine ev_p (pc' := 60) (loc' := [.ref 6, .int i1, .int x6]) (st' := [.int i1, .ref (11 + (Int32.toNatClampNeg x6))]) 1 am_q164 rfl ?_
      refine ev_c (vs := [.ref (11 + (Int32.toNatClampNeg x6)), .int i1]) (rest := []) 68 am_q164 rfl rfl rfl rfl rfl rfl rfl rfl rfl rfl rfl rfl (Or.inr (congrArg some (lk_right Ly (am_in_lt2 g7)))) (Cl.mono H (Nat.le_refl _) (fun r9 h8 H => ?_))
      obtain ⟨x10, rfl, Ly, H⟩ := H
      refine ev_jz (t := 95) am_q164 rfl rfl (fun hq => ?_) (fun hq => ?_)
      · replace H := H.1 hq
        refine ev_p (pc' := 24) (loc' := [.ref 6, .int (i1 + (1 : Int32)), .null]) (st' := []) 2 am_q164 rfl ?_
        exact ev_m (loc' := [.ref 6, .int (i1 + (1 : Int32)), .null]) am_q164 rfl rfl H
      · replace H := H.2 hq
        refine ev_p (pc' := 67) (loc' := [.ref 6, .int i1, .int x6]) (st' := [.ref 6]) 1 am_q164 rfl ?_
        refine ev_s (pc' := 70) (loc' := [.ref 6, .int i1, .int x6]) (st' := [.ref 80]) (h1 := h8) am_q164 rfl rfl rfl (am_gf2 (lk6 Ly) (lr6_14 Ly)) ?_
        refine ev_p (pc' := 72) (loc' := [.ref 6, .int i1, .int x6]) (st' := [.ref 6, .int i1, .ref 80]) 2 am_q164 rfl ?_
        refine ev_s (pc' := 75) (loc' := [.ref 6, .int i1, .int x6]) (st' := [.ref 9, .int i1, .ref 80]) (h1 := h8) am_q164 rfl rfl rfl (am_gf2 (lk6 Ly) (lr6_5 Ly)) ?_
        refine ev_s (pc' := 78) (loc' := [.ref 6, .int i1, .int x6]) (st' := [.ref 10, .int i1, .ref 80]) (h1 := h8) am_q164 rfl rfl rfl (am_gf2 (lk9 Ly) (lr9_0 Ly)) ?_
        refine ev_p (pc' := 79) (loc' := [.ref 6, .int i1, .int x6]) (st' := [.int x6, .ref 10, .int i1, .ref 80]) 1 am_q164 rfl ?_
        obtain ⟨g11, H⟩ := H
        refine ev_s (pc' := 80) (loc' := [.ref 6, .int i1, .int x6]) (st' := [.ref (11 + (Int32.toNatClampNeg x6)), .int i1, .ref 80]) (h1 := h8) am_q164 rfl rfl rfl (am_xa (am_rng (lk10 Ly) (by decide)) (am_inl (ln10 Ly) g11) (lr_right Ly (am_in_lt2 g11))) ?_
        refine ev_s (pc' := 83) (loc' := [.ref 6, .int i1, .int x6]) (st' := [.int (am_gi h8 (11 + (Int32.toNatClampNeg x6)) 1), .int i1, .ref 80]) (h1 := h8) am_q164 rfl rfl rfl (if_pos (e := none) (lk_right Ly (am_in_lt2 g11))) ?_
        refine ev_p (pc' := 84) (loc' := [.ref 6, .int i1, .int x6]) (st' := [.ref 6, .int (am_gi h8 (11 + (Int32.toNatClampNeg x6)) 1), .int i1, .ref 80]) 1 am_q164 rfl ?_
        refine ev_s (pc' := 87) (loc' := [.ref 6, .int i1, .int x6]) (st' := [.ref 8, .int (am_gi h8 (11 + (Int32.toNatClampNeg x6)) 1), .int i1, .ref 80]) (h1 := h8) am_q164 rfl rfl rfl (am_gf2 (lk6 Ly) (lr6_3 Ly)) ?_
        refine ev_p (pc' := 88) (loc' := [.ref 6, .int i1, .int x6]) (st' := [.int i1, .ref 8, .int (am_gi h8 (11 + (Int32.toNatClampNeg x6)) 1), .int i1, .ref 80]) 1 am_q164 rfl ?_
        obtain ⟨g12, H⟩ := H
        refine ev_s (pc' := 89) (loc' := [.ref 6, .int i1, .int x6]) (st' := [.ref (124 + (Int32.toNatClampNeg i1)), .int (am_gi h8 (11 + (Int32.toNatClampNeg x6)) 1), .int i1, .ref 80]) (h1 := h8) am_q164 rfl rfl rfl (am_xa (am_rng (lk8 Ly) (by decide)) (am_inl (ln8 Ly) g12) (lr_member Ly (am_in_lt2 g12))) ?_
        refine ev_s (pc' := 92) (loc' := [.ref 6, .int i1, .int x6]) (st' := [.int (am_gi h8 (124 + (Int32.toNatClampNeg i1)) 4), .int (am_gi h8 (11 + (Int32.toNatClampNeg x6)) 1), .int i1, .ref 80]) (h1 := h8) am_q164 rfl rfl rfl (if_pos (e := none) (lk_member Ly (am_in_lt2 g12))) ?_
        refine ev_c (vs := [.ref 80, .int i1, .int (am_gi h8 (11 + (Int32.toNatClampNeg x6)) 1), .int (am_gi h8 (124 + (Int32.toNatClampNeg i1)) 4)]) (rest := []) 2 am_q164 rfl rfl rfl rfl rfl rfl rfl rfl rfl rfl rfl rfl (Or.inr (congrArg some (lk80 Ly))) (Cl.mono H (Nat.le_refl _) (fun r14 h13 H => ?_))
        obtain ⟨rfl, Ly, H⟩ := H
        refine ev_p (pc' := 24) (loc' := [.ref 6, .int (i1 + (1 : Int32)), .null]) (st' := []) 2 am_q164 rfl ?_
        exact ev_m (loc' := [.ref 6, .int (i1 + (1 : Int32)), .null]) am_q164 rfl rfl H
/-! 165: X11_weighHomes -/
set_option maxRecDepth 20000 in
set_option maxHeartbeats 2000000 in
theorem ws165 {d : Nat}   {h : AH} {Q : Option Value → AH → Prop} (Ly : Lay h) (H : Cl d 154 [.ref 6, .int (am_gi h 6 0)] h (fun r2 h1 => ∃ x3, r2 = some (.int x3) ∧ Lay h1 ∧ am_in x3 12 ∧ Cl d 25 [.ref 105] h1 (fun r6 h5 => r6 = none ∧ Lay h5 ∧ Ev (d + 1) 165 23 [.ref 6, .ref (148 + 4 * (Int32.toNatClampNeg x3)), .int (0 : Int32), .null] [] h5 Q))) : Cl (d + 1) 165 [.ref 6] h Q := by
  show Ev (d + 1) 165 0 [.ref 6, .null, .null, .null] [] h Q
  refine ev_p (pc' := 1) (loc' := [.ref 6, .null, .null, .null]) (st' := [.ref 6]) 1 am_q165 rfl ?_
  refine ev_s (pc' := 4) (loc' := [.ref 6, .null, .null, .null]) (st' := [.ref 78]) (h1 := h) am_q165 rfl rfl rfl (am_gf2 (lk6 Ly) (lr6_8 Ly)) ?_
  refine ev_p (pc' := 6) (loc' := [.ref 6, .null, .null, .null]) (st' := [.ref 6, .ref 6, .ref 78]) 2 am_q165 rfl ?_
  refine ev_s (pc' := 9) (loc' := [.ref 6, .null, .null, .null]) (st' := [.int (am_gi h 6 0), .ref 6, .ref 78]) (h1 := h) am_q165 rfl rfl rfl (if_pos (e := none) (lk6 Ly)) ?_
  refine ev_c (vs := [.ref 6, .int (am_gi h 6 0)]) (rest := [.ref 78]) 154 am_q165 rfl rfl rfl rfl rfl rfl rfl rfl rfl rfl rfl rfl (Or.inr (congrArg some (lk6 Ly))) (Cl.mono H (Nat.le_refl _) (fun r2 h1 H => ?_))
  obtain ⟨x3, rfl, Ly, H⟩ := H
  obtain ⟨g4, H⟩ := H
  refine ev_s (pc' := 13) (loc' := [.ref 6, .null, .null, .null]) (st' := [.ref (148 + 4 * (Int32.toNatClampNeg x3))]) (h1 := h1) am_q165 rfl rfl rfl (am_xa (am_rng (lk78 Ly) (by decide)) (am_inl (ln78 Ly) g4) (lr_text Ly (am_in_lt2 g4))) ?_
  refine ev_p (pc' := 15) (loc' := [.ref 6, .ref (148 + 4 * (Int32.toNatClampNeg x3)), .null, .null]) (st' := [.ref 6]) 2 am_q165 rfl ?_
  refine ev_s (pc' := 18) (loc' := [.ref 6, .ref (148 + 4 * (Int32.toNatClampNeg x3)), .null, .null]) (st' := [.ref 105]) (h1 := h1) am_q165 rfl rfl rfl (am_gf2 (lk6 Ly) (lr6_15 Ly)) ?_
  refine ev_c (vs := [.ref 105]) (rest := []) 25 am_q165 rfl rfl rfl rfl rfl rfl rfl rfl rfl rfl rfl rfl (Or.inr (congrArg some (lk105 Ly))) (Cl.mono H (Nat.le_refl _) (fun r6 h5 H => ?_))
  obtain ⟨rfl, Ly, H⟩ := H
  refine ev_p (pc' := 23) (loc' := [.ref 6, .ref (148 + 4 * (Int32.toNatClampNeg x3)), .int (0 : Int32), .null]) (st' := []) 2 am_q165 rfl ?_
  exact ev_m (loc' := [.ref 6, .ref (148 + 4 * (Int32.toNatClampNeg x3)), .int (0 : Int32), .null]) am_q165 rfl rfl H
set_option maxRecDepth 20000 in
set_option maxHeartbeats 2000000 in
theorem ws165_23 {d : Nat} {j1 : Nat} (hj1 : j1 < 12) (i2 : Int32) {h : AH} {Q : Option Value → AH → Prop} (Ly : Lay h) (H : ((am_gi h 6 2) ≤ i2 → Q none h) ∧ (¬ (am_gi h 6 2) ≤ i2 → Cl d 56 [.ref 9, .int i2, .int (am_gi h 6 0)] h (fun r2 h1 => ∃ x3, r2 = some (.int x3) ∧ Lay h1 ∧ (x3 = (-1 : Int32) → Ev (d + 1) 165 23 [.ref 6, .ref (148 + 4 * j1), .int (i2 + (1 : Int32)), .null] [] h1 Q) ∧ (¬ x3 = (-1 : Int32) → Cl d 158 [.ref 6, .int i2] h1 (fun r5 h4 => r5 = none ∧ Lay h4 ∧ am_in x3 60 ∧ am_in (am_gi h4 (11 + (Int32.toNatClampNeg x3)) 2) 24 ∧ am_in (1 : Int32) 8 ∧ ∀ h9, h9 = am_sl h4 76 (Int32.toNatClampNeg (1 : Int32)) (Int32.toInt64 (am_gi h4 (124 + (Int32.toNatClampNeg (am_gi h4 (11 + (Int32.toNatClampNeg x3)) 2))) 0)) → Cl d 70 [.ref 75, .ref (148 + 4 * j1), .int (3 : Int32)] h9 (fun r11 h10 => ∃ y12, r11 = some (.long y12) ∧ Lay h10 ∧ Cl d 26 [.ref 105, .int i2, .long y12] h10 (fun r14 h13 => r14 = none ∧ Lay h13 ∧ Ev (d + 1) 165 23 [.ref 6, .ref (148 + 4 * j1), .int (i2 + (1 : Int32)), .null] [] h13 Q))))))) : Ev (d + 1) 165 23 [.ref 6, .ref (148 + 4 * j1), .int i2, .null] [] h Q := by
  refine ev_p (pc' := 25) (loc' := [.ref 6, .ref (148 + 4 * j1), .int i2, .null]) (st' := [.ref 6, .int i2]) 2 am_q165 rfl ?_
  refine ev_s (pc' := 28) (loc' := [.ref 6, .ref (148 + 4 * j1), .int i2, .null]) (st' := [.int (am_gi h 6 2), .int i2]) (h1 := h) am_q165 rfl rfl rfl (if_pos (e := none) (lk6 Ly)) ?_
  refine ev_jc (t := 107) am_q165 rfl rfl (fun hq => ?_) (fun hq => ?_)
  · replace H := H.1 hq
    exact ev_r (v := none) am_q165 rfl rfl rfl rfl H
  · replace H := H.2 hq
    refine ev_p (pc' := 32) (loc' := [.ref 6, .ref (148 + 4 * j1), .int i2, .null]) (st' := [.ref 6]) 1 am_q165 rfl ?_
    refine ev_s (pc' := 35) (loc' := [.ref 6, .ref (148 + 4 * j1), .int i2, .null]) (st' := [.ref 9]) (h1 := h) am_q165 rfl rfl rfl (am_gf2 (lk6 Ly) (lr6_5 Ly)) ?_
    refine ev_p (pc' := 37) (loc' := [.ref 6, .ref (148 + 4 * j1), .int i2, .null]) (st' := [.ref 6, .int i2, .ref 9]) 2 am_q165 rfl ?_
    refine ev_s (pc' := 40) (loc' := [.ref 6, .ref (148 + 4 * j1), .int i2, .null]) (st' := [.int (am_gi h 6 0), .int i2, .ref 9]) (h1 := h) am_q165 rfl rfl rfl (if_pos (e := none) (lk6 Ly)) ?_
    refine ev_c (vs := [.ref 9, .int i2, .int (am_gi h 6 0)]) (rest := []) 56 am_q165 rfl rfl rfl rfl rfl rfl rfl rfl rfl rfl rfl rfl (Or.inr (congrArg some (lk9 Ly))) (Cl.mono H (Nat.le_refl _) (fun r2 h1 H => ?_))
    obtain ⟨x3, rfl, Ly, H⟩ := H
    refine ev_p (pc' := 46) (loc' := [.ref 6, .ref (148 + 4 * j1), .int i2, .int x3]) (st' := [.int (-1 : Int32), .int x3]) 3 am_q165 rfl ?_
    refine ev_jc (t := 101) am_q165 rfl rfl (fun hq => ?_) (fun hq => ?_)
    · replace H := H.1 hq
      refine ev_p (pc' := 23) (loc' := [.ref 6, .ref (148 + 4 * j1), .int (i2 + (1 : Int32)), .null]) (st' := []) 2 am_q165 rfl ?_
      exact ev_m (loc' := [.ref 6, .ref (148 + 4 * j1), .int (i2 + (1 : Int32)), .null]) am_q165 rfl rfl H
    · replace H := H.2 hq
      refine ev_p (pc' := 51) (loc' := [.ref 6, .ref (148 + 4 * j1), .int i2, .int x3]) (st' := [.int i2, .ref 6]) 2 am_q165 rfl ?_
      refine ev_c (vs := [.ref 6, .int i2]) (rest := []) 158 am_q165 rfl rfl rfl rfl rfl rfl rfl rfl rfl rfl rfl rfl (Or.inr (congrArg some (lk6 Ly))) (Cl.mono H (Nat.le_refl _) (fun r5 h4 H => ?_))
      obtain ⟨rfl, Ly, H⟩ := H
      refine ev_p (pc' := 55) (loc' := [.ref 6, .ref (148 + 4 * j1), .int i2, .int x3]) (st' := [.ref 6]) 1 am_q165 rfl ?_
      refine ev_s (pc' := 58) (loc' := [.ref 6, .ref (148 + 4 * j1), .int i2, .int x3]) (st' := [.ref 75]) (h1 := h4) am_q165 rfl rfl rfl (am_gf2 (lk6 Ly) (lr6_7 Ly)) ?_
      refine ev_s (pc' := 61) (loc' := [.ref 6, .ref (148 + 4 * j1), .int i2, .int x3]) (st' := [.ref 76]) (h1 := h4) am_q165 rfl rfl rfl (am_gf2 (lk75 Ly) (lr75_0 Ly)) ?_
      refine ev_p (pc' := 63) (loc' := [.ref 6, .ref (148 + 4 * j1), .int i2, .int x3]) (st' := [.ref 6, .int (1 : Int32), .ref 76]) 2 am_q165 rfl ?_
      refine ev_s (pc' := 66) (loc' := [.ref 6, .ref (148 + 4 * j1), .int i2, .int x3]) (st' := [.ref 8, .int (1 : Int32), .ref 76]) (h1 := h4) am_q165 rfl rfl rfl (am_gf2 (lk6 Ly) (lr6_3 Ly)) ?_
      refine ev_p (pc' := 67) (loc' := [.ref 6, .ref (148 + 4 * j1), .int i2, .int x3]) (st' := [.ref 6, .ref 8, .int (1 : Int32), .ref 76]) 1 am_q165 rfl ?_
      refine ev_s (pc' := 70) (loc' := [.ref 6, .ref (148 + 4 * j1), .int i2, .int x3]) (st' := [.ref 9, .ref 8, .int (1 : Int32), .ref 76]) (h1 := h4) am_q165 rfl rfl rfl (am_gf2 (lk6 Ly) (lr6_5 Ly)) ?_
      refine ev_s (pc' := 73) (loc' := [.ref 6, .ref (148 + 4 * j1), .int i2, .int x3]) (st' := [.ref 10, .ref 8, .int (1 : Int32), .ref 76]) (h1 := h4) am_q165 rfl rfl rfl (am_gf2 (lk9 Ly) (lr9_0 Ly)) ?_
      refine ev_p (pc' := 74) (loc' := [.ref 6, .ref (148 + 4 * j1), .int i2, .int x3]) (st' := [.int x3, .ref 10, .ref 8, .int (1 : Int32), .ref 76]) 1 am_q165 rfl ?_
      obtain ⟨g6, H⟩ := H
      refine ev_s (pc' := 75) (loc' := [.ref 6, .ref (148 + 4 * j1), .int i2, .int x3]) (st' := [.ref (11 + (Int32.toNatClampNeg x3)), .ref 8, .int (1 : Int32), .ref 76]) (h1 := h4) am_q165 rfl rfl rfl (am_xa (am_rng (lk10 Ly) (by decide)) (am_inl (ln10 Ly) g6) (lr_right Ly (am_in_lt2 g6))) ?_
      refine ev_s (pc' := 78) (loc' := [.ref 6, .ref (148 + 4 * j1), .int i2, .int x3]) (st' := [.int (am_gi h4 (11 + (Int32.toNatClampNeg x3)) 2), .ref 8, .int (1 : Int32), .ref 76]) (h1 := h4) am_q165 rfl rfl rfl (if_pos (e := none) (lk_right Ly (am_in_lt2 g6))) ?_
      obtain ⟨g7, H⟩ := H
      refine ev_s (pc' := 79) (loc' := [.ref 6, .ref (148 + 4 * j1), .int i2, .int x3]) (st' := [.ref (124 + (Int32.toNatClampNeg (am_gi h4 (11 + (Int32.toNatClampNeg x3)) 2))), .int (1 : Int32), .ref 76]) (h1 := h4) am_q165 rfl rfl rfl (am_xa (am_rng (lk8 Ly) (by decide)) (am_inl (ln8 Ly) g7) (lr_member Ly (am_in_lt2 g7))) ?_
      refine ev_s (pc' := 82) (loc' := [.ref 6, .ref (148 + 4 * j1), .int i2, .int x3]) (st' := [.int (am_gi h4 (124 + (Int32.toNatClampNeg (am_gi h4 (11 + (Int32.toNatClampNeg x3)) 2))) 0), .int (1 : Int32), .ref 76]) (h1 := h4) am_q165 rfl rfl rfl (if_pos (e := none) (lk_member Ly (am_in_lt2 g7))) ?_
      refine ev_p (pc' := 83) (loc' := [.ref 6, .ref (148 + 4 * j1), .int i2, .int x3]) (st' := [.long (Int32.toInt64 (am_gi h4 (124 + (Int32.toNatClampNeg (am_gi h4 (11 + (Int32.toNatClampNeg x3)) 2))) 0)), .int (1 : Int32), .ref 76]) 1 am_q165 rfl ?_
      obtain ⟨g8, H⟩ := H
      refine ev_s (pc' := 84) (loc' := [.ref 6, .ref (148 + 4 * j1), .int i2, .int x3]) (st' := []) (h1 := am_sl h4 76 (Int32.toNatClampNeg (1 : Int32)) (Int32.toInt64 (am_gi h4 (124 + (Int32.toNatClampNeg (am_gi h4 (11 + (Int32.toNatClampNeg x3)) 2))) 0))) am_q165 rfl rfl rfl (am_xx (lk76 Ly) (am_inl (ln76 Ly) g8)) ?_
      replace H := H _ rfl
      replace Ly : Lay (am_sl h4 76 (Int32.toNatClampNeg (1 : Int32)) (Int32.toInt64 (am_gi h4 (124 + (Int32.toNatClampNeg (am_gi h4 (11 + (Int32.toNatClampNeg x3)) 2))) 0))) := Ly.sl _ _ _
      generalize am_sl h4 76 (Int32.toNatClampNeg (1 : Int32)) (Int32.toInt64 (am_gi h4 (124 + (Int32.toNatClampNeg (am_gi h4 (11 + (Int32.toNatClampNeg x3)) 2))) 0)) = h9 at H Ly ⊢
      refine ev_p (pc' := 85) (loc' := [.ref 6, .ref (148 + 4 * j1), .int i2, .int x3]) (st' := [.ref 6]) 1 am_q165 rfl ?_
      refine ev_s (pc' := 88) (loc' := [.ref 6, .ref (148 + 4 * j1), .int i2, .int x3]) (st' := [.ref 105]) (h1 := h9) am_q165 rfl rfl rfl (am_gf2 (lk6 Ly) (lr6_15 Ly)) ?_
      refine ev_p (pc' := 90) (loc' := [.ref 6, .ref (148 + 4 * j1), .int i2, .int x3]) (st' := [.ref 6, .int i2, .ref 105]) 2 am_q165 rfl ?_
      refine ev_s (pc' := 93) (loc' := [.ref 6, .ref (148 + 4 * j1), .int i2, .int x3]) (st' := [.ref 75, .int i2, .ref 105]) (h1 := h9) am_q165 rfl rfl rfl (am_gf2 (lk6 Ly) (lr6_7 Ly)) ?_
      refine ev_p (pc' := 95) (loc' := [.ref 6, .ref (148 + 4 * j1), .int i2, .int x3]) (st' := [.int (3 : Int32), .ref (148 + 4 * j1), .ref 75, .int i2, .ref 105]) 2 am_q165 rfl ?_
      refine ev_c (vs := [.ref 75, .ref (148 + 4 * j1), .int (3 : Int32)]) (rest := [.int i2, .ref 105]) 70 am_q165 rfl rfl rfl rfl rfl rfl rfl rfl rfl rfl rfl rfl (Or.inr (congrArg some (lk75 Ly))) (Cl.mono H (Nat.le_refl _) (fun r11 h10 H => ?_))
      obtain ⟨y12, rfl, Ly, H⟩ := H
      refine ev_c (vs := [.ref 105, .int i2, .long y12]) (rest := []) 26 am_q165 rfl rfl rfl rfl rfl rfl rfl rfl rfl rfl rfl rfl (Or.inr (congrArg some (lk105 Ly))) (Cl.mono H (Nat.le_refl _) (fun r14 h13 H => ?_))
      obtain ⟨rfl, Ly, H⟩ := H
      refine ev_p (pc' := 23) (loc' := [.ref 6, .ref (148 + 4 * j1), .int (i2 + (1 : Int32)), .null]) (st' := []) 2 am_q165 rfl ?_
      exact ev_m (loc' := [.ref 6, .ref (148 + 4 * j1), .int (i2 + (1 : Int32)), .null]) am_q165 rfl rfl H
