/-! 1: X0_begin -/
set_option maxRecDepth 20000 in
set_option maxHeartbeats 2000000 in
theorem ws1 {d : Nat}  (i1 : Int32) (i2 : Int32) {h : AH} {Q : Option Value → AH → Prop} (Ly : Lay h) (H : Cl d 265 [.int i1, .int (12 : Int32)] h (fun r2 h1 => ∃ x3, r2 = some (.int x3) ∧ Lay h1 ∧ ∀ h4, h4 = am_si h1 80 11 x3 → ∀ h5, h5 = am_si h4 80 12 (0 : Int32) → ∀ h6, h6 = am_si h5 80 13 i2 → Q none h6)) : Cl (d + 1) 1 [.ref 80, .int i1, .int i2] h Q := by
  show Ev (d + 1) 1 0 [.ref 80, .int i1, .int i2] [] h Q
  refine ev_p (pc' := 4) (loc' := [.ref 80, .int i1, .int i2]) (st' := [.int (12 : Int32), .int i1, .ref 80]) 3 am_q1 rfl ?_
  refine ev_c (vs := [.int i1, .int (12 : Int32)]) (rest := [.ref 80]) 265 am_q1 rfl rfl rfl rfl rfl rfl rfl rfl rfl rfl rfl rfl (Or.inl rfl) (Cl.mono H (Nat.le_refl _) (fun r2 h1 H => ?_))
  obtain ⟨x3, rfl, Ly, H⟩ := H
  refine ev_s (pc' := 10) (loc' := [.ref 80, .int i1, .int i2]) (st' := []) (h1 := am_si h1 80 11 x3) am_q1 rfl rfl rfl (if_pos (e := none) (lk80 Ly)) ?_
  replace H := H _ rfl
  replace Ly : Lay (am_si h1 80 11 x3) := Ly.si _ _ _
  generalize am_si h1 80 11 x3 = h4 at H Ly ⊢
  refine ev_p (pc' := 12) (loc' := [.ref 80, .int i1, .int i2]) (st' := [.int (0 : Int32), .ref 80]) 2 am_q1 rfl ?_
  refine ev_s (pc' := 15) (loc' := [.ref 80, .int i1, .int i2]) (st' := []) (h1 := am_si h4 80 12 (0 : Int32)) am_q1 rfl rfl rfl (if_pos (e := none) (lk80 Ly)) ?_
  replace H := H _ rfl
  replace Ly : Lay (am_si h4 80 12 (0 : Int32)) := Ly.si _ _ _
  generalize am_si h4 80 12 (0 : Int32) = h5 at H Ly ⊢
  refine ev_p (pc' := 17) (loc' := [.ref 80, .int i1, .int i2]) (st' := [.int i2, .ref 80]) 2 am_q1 rfl ?_
  refine ev_s (pc' := 20) (loc' := [.ref 80, .int i1, .int i2]) (st' := []) (h1 := am_si h5 80 13 i2) am_q1 rfl rfl rfl (if_pos (e := none) (lk80 Ly)) ?_
  replace H := H _ rfl
  replace Ly : Lay (am_si h5 80 13 i2) := Ly.si _ _ _
  generalize am_si h5 80 13 i2 = h6 at H Ly ⊢
  exact ev_r (v := none) am_q1 rfl rfl rfl rfl H
/-! 2: X0_enter -/
set_option maxRecDepth 20000 in
set_option maxHeartbeats 2000000 in
theorem ws2 {d : Nat}  (i1 : Int32) (i2 : Int32) (i3 : Int32) {h : AH} {Q : Option Value → AH → Prop} (Ly : Lay h) (H : ((am_gi h 80 12) < (am_gi h 80 11) → ∀ h1, h1 = am_si h 80 12 ((am_gi h 80 12) + (1 : Int32)) → am_in (am_gi h1 80 12) 13 ∧ ∀ h3, h3 = am_si h1 82 (Int32.toNatClampNeg (am_gi h1 80 12)) i1 → am_in (am_gi h3 80 12) 13 ∧ ∀ h5, h5 = am_si h3 83 (Int32.toNatClampNeg (am_gi h3 80 12)) i2 → am_in (am_gi h5 80 12) 13 ∧ ∀ h7, h7 = am_si h5 84 (Int32.toNatClampNeg (am_gi h5 80 12)) i3 → ∀ h8, h8 = am_si h7 80 13 ((am_gi h7 80 13) ||| ((1 : Int32) <<< (i2 &&& 31))) → Q none h8) ∧ (¬ (am_gi h 80 12) < (am_gi h 80 11) → Q none h)) : Cl d 2 [.ref 80, .int i1, .int i2, .int i3] h Q := by
  show Ev d 2 0 [.ref 80, .int i1, .int i2, .int i3] [] h Q
  refine ev_p (pc' := 1) (loc' := [.ref 80, .int i1, .int i2, .int i3]) (st' := [.ref 80]) 1 am_q2 rfl ?_
  refine ev_s (pc' := 4) (loc' := [.ref 80, .int i1, .int i2, .int i3]) (st' := [.int (am_gi h 80 12)]) (h1 := h) am_q2 rfl rfl rfl (if_pos (e := none) (lk80 Ly)) ?_
  refine ev_p (pc' := 5) (loc' := [.ref 80, .int i1, .int i2, .int i3]) (st' := [.ref 80, .int (am_gi h 80 12)]) 1 am_q2 rfl ?_
  refine ev_s (pc' := 8) (loc' := [.ref 80, .int i1, .int i2, .int i3]) (st' := [.int (am_gi h 80 11), .int (am_gi h 80 12)]) (h1 := h) am_q2 rfl rfl rfl (if_pos (e := none) (lk80 Ly)) ?_
  refine ev_jc (t := 12) am_q2 rfl rfl (fun hq => ?_) (fun hq => ?_)
  · replace H := H.1 hq
    refine ev_p (pc' := 14) (loc' := [.ref 80, .int i1, .int i2, .int i3]) (st' := [.ref 80, .ref 80]) 2 am_q2 rfl ?_
    refine ev_s (pc' := 17) (loc' := [.ref 80, .int i1, .int i2, .int i3]) (st' := [.int (am_gi h 80 12), .ref 80]) (h1 := h) am_q2 rfl rfl rfl (if_pos (e := none) (lk80 Ly)) ?_
    refine ev_p (pc' := 19) (loc' := [.ref 80, .int i1, .int i2, .int i3]) (st' := [.int ((am_gi h 80 12) + (1 : Int32)), .ref 80]) 2 am_q2 rfl ?_
    refine ev_s (pc' := 22) (loc' := [.ref 80, .int i1, .int i2, .int i3]) (st' := []) (h1 := am_si h 80 12 ((am_gi h 80 12) + (1 : Int32))) am_q2 rfl rfl rfl (if_pos (e := none) (lk80 Ly)) ?_
    replace H := H _ rfl
    replace Ly : Lay (am_si h 80 12 ((am_gi h 80 12) + (1 : Int32))) := Ly.si _ _ _
    generalize am_si h 80 12 ((am_gi h 80 12) + (1 : Int32)) = h1 at H Ly ⊢
    refine ev_p (pc' := 23) (loc' := [.ref 80, .int i1, .int i2, .int i3]) (st' := [.ref 80]) 1 am_q2 rfl ?_
    refine ev_s (pc' := 26) (loc' := [.ref 80, .int i1, .int i2, .int i3]) (st' := [.ref 82]) (h1 := h1) am_q2 rfl rfl rfl (am_gf2 (lk80 Ly) (lr80_1 Ly)) ?_
    refine ev_p (pc' := 27) (loc' := [.ref 80, .int i1, .int i2, .int i3]) (st' := [.ref 80, .ref 82]) 1 am_q2 rfl ?_
    refine ev_s (pc' := 30) (loc' := [.ref 80, .int i1, .int i2, .int i3]) (st' := [.int (am_gi h1 80 12), .ref 82]) (h1 := h1) am_q2 rfl rfl rfl (if_pos (e := none) (lk80 Ly)) ?_
    refine ev_p (pc' := 31) (loc' := [.ref 80, .int i1, .int i2, .int i3]) (st' := [.int i1, .int (am_gi h1 80 12), .ref 82]) 1 am_q2 rfl ?_
    obtain ⟨g2, H⟩ := H
    refine ev_s (pc' := 32) (loc' := [.ref 80, .int i1, .int i2, .int i3]) (st' := []) (h1 := am_si h1 82 (Int32.toNatClampNeg (am_gi h1 80 12)) i1) am_q2 rfl rfl rfl (am_xx ⟨lk82 Ly, (Nat.le_of_ble_eq_true rfl)⟩ (am_inl (ln82 Ly) g2)) ?_
    replace H := H _ rfl
    replace Ly : Lay (am_si h1 82 (Int32.toNatClampNeg (am_gi h1 80 12)) i1) := Ly.si _ _ _
    generalize am_si h1 82 (Int32.toNatClampNeg (am_gi h1 80 12)) i1 = h3 at H Ly ⊢
    refine ev_p (pc' := 33) (loc' := [.ref 80, .int i1, .int i2, .int i3]) (st' := [.ref 80]) 1 am_q2 rfl ?_
    refine ev_s (pc' := 36) (loc' := [.ref 80, .int i1, .int i2, .int i3]) (st' := [.ref 83]) (h1 := h3) am_q2 rfl rfl rfl (am_gf2 (lk80 Ly) (lr80_2 Ly)) ?_
    refine ev_p (pc' := 37) (loc' := [.ref 80, .int i1, .int i2, .int i3]) (st' := [.ref 80, .ref 83]) 1 am_q2 rfl ?_
    refine ev_s (pc' := 40) (loc' := [.ref 80, .int i1, .int i2, .int i3]) (st' := [.int (am_gi h3 80 12), .ref 83]) (h1 := h3) am_q2 rfl rfl rfl (if_pos (e := none) (lk80 Ly)) ?_
    refine ev_p (pc' := 41) (loc' := [.ref 80, .int i1, .int i2, .int i3]) (st' := [.int i2, .int (am_gi h3 80 12), .ref 83]) 1 am_q2 rfl ?_
    obtain ⟨g4, H⟩ := H
    refine ev_s (pc' := 42) (loc' := [.ref 80, .int i1, .int i2, .int i3]) (st' := []) (h1 := am_si h3 83 (Int32.toNatClampNeg (am_gi h3 80 12)) i2) am_q2 rfl rfl rfl (am_xx ⟨lk83 Ly, (Nat.le_of_ble_eq_true rfl)⟩ (am_inl (ln83 Ly) g4)) ?_
    replace H := H _ rfl
    replace Ly : Lay (am_si h3 83 (Int32.toNatClampNeg (am_gi h3 80 12)) i2) := Ly.si _ _ _
    generalize am_si h3 83 (Int32.toNatClampNeg (am_gi h3 80 12)) i2 = h5 at H Ly ⊢
    refine ev_p (pc' := 43) (loc' := [.ref 80, .int i1, .int i2, .int i3]) (st' := [.ref 80]) 1 am_q2 rfl ?_
    refine ev_s (pc' := 46) (loc' := [.ref 80, .int i1, .int i2, .int i3]) (st' := [.ref 84]) (h1 := h5) am_q2 rfl rfl rfl (am_gf2 (lk80 Ly) (lr80_3 Ly)) ?_
    refine ev_p (pc' := 47) (loc' := [.ref 80, .int i1, .int i2, .int i3]) (st' := [.ref 80, .ref 84]) 1 am_q2 rfl ?_
    refine ev_s (pc' := 50) (loc' := [.ref 80, .int i1, .int i2, .int i3]) (st' := [.int (am_gi h5 80 12), .ref 84]) (h1 := h5) am_q2 rfl rfl rfl (if_pos (e := none) (lk80 Ly)) ?_
    refine ev_p (pc' := 51) (loc' := [.ref 80, .int i1, .int i2, .int i3]) (st' := [.int i3, .int (am_gi h5 80 12), .ref 84]) 1 am_q2 rfl ?_
    obtain ⟨g6, H⟩ := H
    refine ev_s (pc' := 52) (loc' := [.ref 80, .int i1, .int i2, .int i3]) (st' := []) (h1 := am_si h5 84 (Int32.toNatClampNeg (am_gi h5 80 12)) i3) am_q2 rfl rfl rfl (am_xx ⟨lk84 Ly, (Nat.le_of_ble_eq_true rfl)⟩ (am_inl (ln84 Ly) g6)) ?_
    replace H := H _ rfl
    replace Ly : Lay (am_si h5 84 (Int32.toNatClampNeg (am_gi h5 80 12)) i3) := Ly.si _ _ _
    generalize am_si h5 84 (Int32.toNatClampNeg (am_gi h5 80 12)) i3 = h7 at H Ly ⊢
    refine ev_p (pc' := 54) (loc' := [.ref 80, .int i1, .int i2, .int i3]) (st' := [.ref 80, .ref 80]) 2 am_q2 rfl ?_
    refine ev_s (pc' := 57) (loc' := [.ref 80, .int i1, .int i2, .int i3]) (st' := [.int (am_gi h7 80 13), .ref 80]) (h1 := h7) am_q2 rfl rfl rfl (if_pos (e := none) (lk80 Ly)) ?_
    refine ev_p (pc' := 61) (loc' := [.ref 80, .int i1, .int i2, .int i3]) (st' := [.int ((am_gi h7 80 13) ||| ((1 : Int32) <<< (i2 &&& 31))), .ref 80]) 4 am_q2 rfl ?_
    refine ev_s (pc' := 64) (loc' := [.ref 80, .int i1, .int i2, .int i3]) (st' := []) (h1 := am_si h7 80 13 ((am_gi h7 80 13) ||| ((1 : Int32) <<< (i2 &&& 31)))) am_q2 rfl rfl rfl (if_pos (e := none) (lk80 Ly)) ?_
    replace H := H _ rfl
    replace Ly : Lay (am_si h7 80 13 ((am_gi h7 80 13) ||| ((1 : Int32) <<< (i2 &&& 31)))) := Ly.si _ _ _
    generalize am_si h7 80 13 ((am_gi h7 80 13) ||| ((1 : Int32) <<< (i2 &&& 31))) = h8 at H Ly ⊢
    exact ev_r (v := none) am_q2 rfl rfl rfl rfl H
  · replace H := H.2 hq
    exact ev_r (v := none) am_q2 rfl rfl rfl rfl H
/-! 3: X0_settle -/
set_option maxRecDepth 20000 in
set_option maxHeartbeats 2000000 in
theorem ws3 {d : Nat}   {h : AH} {Q : Option Value → AH → Prop} (Ly : Lay h) (H : Cl d 4 [.ref 80] h (fun r2 h1 => r2 = none ∧ Lay h1 ∧ Ev (d + 1) 3 6 [.ref 80, .int (0 : Int32)] [] h1 Q)) : Cl (d + 1) 3 [.ref 80] h Q := by
  show Ev (d + 1) 3 0 [.ref 80, .null] [] h Q
  refine ev_p (pc' := 1) (loc' := [.ref 80, .null]) (st' := [.ref 80]) 1 am_q3 rfl ?_
  refine ev_c (vs := [.ref 80]) (rest := []) 4 am_q3 rfl rfl rfl rfl rfl rfl rfl rfl rfl rfl rfl rfl (Or.inr (congrArg some (lk80 Ly))) (Cl.mono H (Nat.le_refl _) (fun r2 h1 H => ?_))
  obtain ⟨rfl, Ly, H⟩ := H
  refine ev_p (pc' := 6) (loc' := [.ref 80, .int (0 : Int32)]) (st' := []) 2 am_q3 rfl ?_
  exact ev_m (loc' := [.ref 80, .int (0 : Int32)]) am_q3 rfl rfl H
set_option maxRecDepth 20000 in
set_option maxHeartbeats 2000000 in
theorem ws3_6 {d : Nat}  (i1 : Int32) {h : AH} {Q : Option Value → AH → Prop} (Ly : Lay h) (H : ((am_gi h 80 11) < i1 → Ev (d + 1) 3 43 [.ref 80, .int (1 : Int32)] [] h Q) ∧ (¬ (am_gi h 80 11) < i1 → am_in i1 13 ∧ ∀ h2, h2 = am_si h 104 (Int32.toNatClampNeg i1) (0 : Int32) → am_in i1 13 ∧ ∀ h4, h4 = am_sl h2 100 (Int32.toNatClampNeg i1) (0 : Int64) → am_in i1 13 ∧ ∀ h6, h6 = am_sl h4 99 (Int32.toNatClampNeg i1) (0 : Int64) → Ev (d + 1) 3 6 [.ref 80, .int (i1 + (1 : Int32))] [] h6 Q)) : Ev (d + 1) 3 6 [.ref 80, .int i1] [] h Q := by
  refine ev_p (pc' := 8) (loc' := [.ref 80, .int i1]) (st' := [.ref 80, .int i1]) 2 am_q3 rfl ?_
  refine ev_s (pc' := 11) (loc' := [.ref 80, .int i1]) (st' := [.int (am_gi h 80 11), .int i1]) (h1 := h) am_q3 rfl rfl rfl (if_pos (e := none) (lk80 Ly)) ?_
  refine ev_jc (t := 41) am_q3 rfl rfl (fun hq => ?_) (fun hq => ?_)
  · replace H := H.1 hq
    refine ev_p (pc' := 43) (loc' := [.ref 80, .int (1 : Int32)]) (st' := []) 2 am_q3 rfl ?_
    exact ev_m (loc' := [.ref 80, .int (1 : Int32)]) am_q3 rfl rfl H
  · replace H := H.2 hq
    refine ev_p (pc' := 15) (loc' := [.ref 80, .int i1]) (st' := [.ref 80]) 1 am_q3 rfl ?_
    refine ev_s (pc' := 18) (loc' := [.ref 80, .int i1]) (st' := [.ref 104]) (h1 := h) am_q3 rfl rfl rfl (am_gf2 (lk80 Ly) (lr80_10 Ly)) ?_
    refine ev_p (pc' := 20) (loc' := [.ref 80, .int i1]) (st' := [.int (0 : Int32), .int i1, .ref 104]) 2 am_q3 rfl ?_
    obtain ⟨g1, H⟩ := H
    refine ev_s (pc' := 21) (loc' := [.ref 80, .int i1]) (st' := []) (h1 := am_si h 104 (Int32.toNatClampNeg i1) (0 : Int32)) am_q3 rfl rfl rfl (am_xx ⟨lk104 Ly, (Nat.le_of_ble_eq_true rfl)⟩ (am_inl (ln104 Ly) g1)) ?_
    replace H := H _ rfl
    replace Ly : Lay (am_si h 104 (Int32.toNatClampNeg i1) (0 : Int32)) := Ly.si _ _ _
    generalize am_si h 104 (Int32.toNatClampNeg i1) (0 : Int32) = h2 at H Ly ⊢
    refine ev_p (pc' := 22) (loc' := [.ref 80, .int i1]) (st' := [.ref 80]) 1 am_q3 rfl ?_
    refine ev_s (pc' := 25) (loc' := [.ref 80, .int i1]) (st' := [.ref 100]) (h1 := h2) am_q3 rfl rfl rfl (am_gf2 (lk80 Ly) (lr80_6 Ly)) ?_
    refine ev_p (pc' := 27) (loc' := [.ref 80, .int i1]) (st' := [.long (0 : Int64), .int i1, .ref 100]) 2 am_q3 rfl ?_
    obtain ⟨g3, H⟩ := H
    refine ev_s (pc' := 28) (loc' := [.ref 80, .int i1]) (st' := []) (h1 := am_sl h2 100 (Int32.toNatClampNeg i1) (0 : Int64)) am_q3 rfl rfl rfl (am_xx (lk100 Ly) (am_inl (ln100 Ly) g3)) ?_
    replace H := H _ rfl
    replace Ly : Lay (am_sl h2 100 (Int32.toNatClampNeg i1) (0 : Int64)) := Ly.sl _ _ _
    generalize am_sl h2 100 (Int32.toNatClampNeg i1) (0 : Int64) = h4 at H Ly ⊢
    refine ev_p (pc' := 29) (loc' := [.ref 80, .int i1]) (st' := [.ref 80]) 1 am_q3 rfl ?_
    refine ev_s (pc' := 32) (loc' := [.ref 80, .int i1]) (st' := [.ref 99]) (h1 := h4) am_q3 rfl rfl rfl (am_gf2 (lk80 Ly) (lr80_5 Ly)) ?_
    refine ev_p (pc' := 34) (loc' := [.ref 80, .int i1]) (st' := [.long (0 : Int64), .int i1, .ref 99]) 2 am_q3 rfl ?_
    obtain ⟨g5, H⟩ := H
    refine ev_s (pc' := 35) (loc' := [.ref 80, .int i1]) (st' := []) (h1 := am_sl h4 99 (Int32.toNatClampNeg i1) (0 : Int64)) am_q3 rfl rfl rfl (am_xx (lk99 Ly) (am_inl (ln99 Ly) g5)) ?_
    replace H := H _ rfl
    replace Ly : Lay (am_sl h4 99 (Int32.toNatClampNeg i1) (0 : Int64)) := Ly.sl _ _ _
    generalize am_sl h4 99 (Int32.toNatClampNeg i1) (0 : Int64) = h6 at H Ly ⊢
    refine ev_p (pc' := 6) (loc' := [.ref 80, .int (i1 + (1 : Int32))]) (st' := []) 2 am_q3 rfl ?_
    exact ev_m (loc' := [.ref 80, .int (i1 + (1 : Int32))]) am_q3 rfl rfl H
set_option maxRecDepth 20000 in
set_option maxHeartbeats 2000000 in
theorem ws3_43 {d : Nat}  (i1 : Int32) {h : AH} {Q : Option Value → AH → Prop} (Ly : Lay h) (H : ((am_gi h 80 12) < i1 → Cl d 10 [.ref 80] h (fun r2 h1 => ∃ x3, r2 = some (.int x3) ∧ Lay h1 ∧ Q (some (.int x3)) h1)) ∧ (¬ (am_gi h 80 12) < i1 → Cl d 6 [.ref 80, .int i1] h (fun r5 h4 => r5 = none ∧ Lay h4 ∧ Ev (d + 1) 3 43 [.ref 80, .int (i1 + (1 : Int32))] [] h4 Q))) : Ev (d + 1) 3 43 [.ref 80, .int i1] [] h Q := by
  refine ev_p (pc' := 45) (loc' := [.ref 80, .int i1]) (st' := [.ref 80, .int i1]) 2 am_q3 rfl ?_
  refine ev_s (pc' := 48) (loc' := [.ref 80, .int i1]) (st' := [.int (am_gi h 80 12), .int i1]) (h1 := h) am_q3 rfl rfl rfl (if_pos (e := none) (lk80 Ly)) ?_
  refine ev_jc (t := 62) am_q3 rfl rfl (fun hq => ?_) (fun hq => ?_)
  · replace H := H.1 hq
    refine ev_p (pc' := 63) (loc' := [.ref 80, .int i1]) (st' := [.ref 80]) 1 am_q3 rfl ?_
    refine ev_c (vs := [.ref 80]) (rest := []) 10 am_q3 rfl rfl rfl rfl rfl rfl rfl rfl rfl rfl rfl rfl (Or.inr (congrArg some (lk80 Ly))) (Cl.mono H (Nat.le_refl _) (fun r2 h1 H => ?_))
    obtain ⟨x3, rfl, Ly, H⟩ := H
    exact ev_r (v := some (.int x3)) am_q3 rfl rfl rfl rfl H
  · replace H := H.2 hq
    refine ev_p (pc' := 53) (loc' := [.ref 80, .int i1]) (st' := [.int i1, .ref 80]) 2 am_q3 rfl ?_
    refine ev_c (vs := [.ref 80, .int i1]) (rest := []) 6 am_q3 rfl rfl rfl rfl rfl rfl rfl rfl rfl rfl rfl rfl (Or.inr (congrArg some (lk80 Ly))) (Cl.mono H (Nat.le_refl _) (fun r5 h4 H => ?_))
    obtain ⟨rfl, Ly, H⟩ := H
    refine ev_p (pc' := 43) (loc' := [.ref 80, .int (i1 + (1 : Int32))]) (st' := []) 2 am_q3 rfl ?_
    exact ev_m (loc' := [.ref 80, .int (i1 + (1 : Int32))]) am_q3 rfl rfl H
/-! 4: X0_setPrices -/
set_option maxRecDepth 20000 in
set_option maxHeartbeats 2000000 in
theorem ws4 {d : Nat}   {h : AH} {Q : Option Value → AH → Prop} (Ly : Lay h) (H : Ev (d + 1) 4 6 [.ref 80, .long (1792160394037 : Int64), .null, .int (1 : Int32), .null] [] h Q) : Cl (d + 1) 4 [.ref 80] h Q := by
  show Ev (d + 1) 4 0 [.ref 80, .null, .null, .null, .null] [] h Q
  refine ev_p (pc' := 6) (loc' := [.ref 80, .long (1792160394037 : Int64), .null, .int (1 : Int32), .null]) (st' := []) 4 am_q4 rfl ?_
  exact ev_m (loc' := [.ref 80, .long (1792160394037 : Int64), .null, .int (1 : Int32), .null]) am_q4 rfl rfl H
set_option maxRecDepth 20000 in
set_option maxHeartbeats 2000000 in
theorem ws4_6 {d : Nat}  (l1 : Int64) (i3 : Int32) {h : AH} {Q : Option Value → AH → Prop} (Ly : Lay h) (H : ((am_gi h 80 12) < i3 → Q none h) ∧ (¬ (am_gi h 80 12) < i3 → Ev (d + 1) 4 17 [.ref 80, .long l1, .null, .int i3, .int (0 : Int32)] [] h Q)) : Ev (d + 1) 4 6 [.ref 80, .long l1, .null, .int i3, .null] [] h Q := by
  refine ev_p (pc' := 8) (loc' := [.ref 80, .long l1, .null, .int i3, .null]) (st' := [.ref 80, .int i3]) 2 am_q4 rfl ?_
  refine ev_s (pc' := 11) (loc' := [.ref 80, .long l1, .null, .int i3, .null]) (st' := [.int (am_gi h 80 12), .int i3]) (h1 := h) am_q4 rfl rfl rfl (if_pos (e := none) (lk80 Ly)) ?_
  refine ev_jc (t := 63) am_q4 rfl rfl (fun hq => ?_) (fun hq => ?_)
  · replace H := H.1 hq
    exact ev_r (v := none) am_q4 rfl rfl rfl rfl H
  · replace H := H.2 hq
    refine ev_p (pc' := 17) (loc' := [.ref 80, .long l1, .null, .int i3, .int (0 : Int32)]) (st' := []) 2 am_q4 rfl ?_
    exact ev_m (loc' := [.ref 80, .long l1, .null, .int i3, .int (0 : Int32)]) am_q4 rfl rfl H
set_option maxRecDepth 20000 in
set_option maxHeartbeats 2000000 in
theorem ws4_17 {d : Nat}  (l1 : Int64) (i3 : Int32) (i4 : Int32) {h : AH} {Q : Option Value → AH → Prop} (Ly : Lay h) (H : ((am_gi h 80 11) ≤ i4 → ¬ (13 : Int64) = (0 : Int64) ∧ Ev (d + 1) 4 6 [.ref 80, .long (l1 / (13 : Int64)), .null, .int (i3 + (1 : Int32)), .null] [] h Q) ∧ (¬ (am_gi h 80 11) ≤ i4 → am_in i3 13 ∧ Cl d 5 [.ref 80, .int i3, .int i4, .long l1] h (fun r4 h3 => ∃ y5, r4 = some (.long y5) ∧ Lay h3 ∧ am_in (i4 + (1 : Int32)) 13 ∧ ∀ h7, h7 = am_sl h3 (86 + (Int32.toNatClampNeg i3)) (Int32.toNatClampNeg (i4 + (1 : Int32))) y5 → Ev (d + 1) 4 17 [.ref 80, .long l1, .null, .int i3, .int (i4 + (1 : Int32))] [] h7 Q))) : Ev (d + 1) 4 17 [.ref 80, .long l1, .null, .int i3, .int i4] [] h Q := by
  refine ev_p (pc' := 20) (loc' := [.ref 80, .long l1, .null, .int i3, .int i4]) (st' := [.ref 80, .int i4]) 2 am_q4 rfl ?_
  refine ev_s (pc' := 23) (loc' := [.ref 80, .long l1, .null, .int i3, .int i4]) (st' := [.int (am_gi h 80 11), .int i4]) (h1 := h) am_q4 rfl rfl rfl (if_pos (e := none) (lk80 Ly)) ?_
  refine ev_jc (t := 51) am_q4 rfl rfl (fun hq => ?_) (fun hq => ?_)
  · replace H := H.1 hq
    refine ev_p (pc' := 55) (loc' := [.ref 80, .long l1, .null, .int i3, .int i4]) (st' := [.long (13 : Int64), .long l1]) 2 am_q4 rfl ?_
    obtain ⟨g1, H⟩ := H
    refine ev_s (pc' := 56) (loc' := [.ref 80, .long l1, .null, .int i3, .int i4]) (st' := [.long (l1 / (13 : Int64))]) (h1 := h) am_q4 rfl rfl rfl (if_neg (t := none) g1) ?_
    refine ev_p (pc' := 6) (loc' := [.ref 80, .long (l1 / (13 : Int64)), .null, .int (i3 + (1 : Int32)), .int i4]) (st' := []) 3 am_q4 rfl ?_
    exact ev_m (loc' := [.ref 80, .long (l1 / (13 : Int64)), .null, .int (i3 + (1 : Int32)), .null]) am_q4 rfl rfl H
  · replace H := H.2 hq
    refine ev_p (pc' := 27) (loc' := [.ref 80, .long l1, .null, .int i3, .int i4]) (st' := [.ref 80]) 1 am_q4 rfl ?_
    refine ev_s (pc' := 30) (loc' := [.ref 80, .long l1, .null, .int i3, .int i4]) (st' := [.ref 85]) (h1 := h) am_q4 rfl rfl rfl (am_gf2 (lk80 Ly) (lr80_4 Ly)) ?_
    refine ev_p (pc' := 31) (loc' := [.ref 80, .long l1, .null, .int i3, .int i4]) (st' := [.int i3, .ref 85]) 1 am_q4 rfl ?_
    obtain ⟨g2, H⟩ := H
    refine ev_s (pc' := 32) (loc' := [.ref 80, .long l1, .null, .int i3, .int i4]) (st' := [.ref (86 + (Int32.toNatClampNeg i3))]) (h1 := h) am_q4 rfl rfl rfl (am_xa (am_rng (lk85 Ly) (by decide)) (am_inl (ln85 Ly) g2) (lr_price Ly (am_in_lt2 g2))) ?_
    refine ev_p (pc' := 41) (loc' := [.ref 80, .long l1, .null, .int i3, .int i4]) (st' := [.long l1, .int i4, .int i3, .ref 80, .int (i4 + (1 : Int32)), .ref (86 + (Int32.toNatClampNeg i3))]) 7 am_q4 rfl ?_
    refine ev_c (vs := [.ref 80, .int i3, .int i4, .long l1]) (rest := [.int (i4 + (1 : Int32)), .ref (86 + (Int32.toNatClampNeg i3))]) 5 am_q4 rfl rfl rfl rfl rfl rfl rfl rfl rfl rfl rfl rfl (Or.inr (congrArg some (lk80 Ly))) (Cl.mono H (Nat.le_refl _) (fun r4 h3 H => ?_))
    obtain ⟨y5, rfl, Ly, H⟩ := H
    obtain ⟨g6, H⟩ := H
    refine ev_s (pc' := 45) (loc' := [.ref 80, .long l1, .null, .int i3, .int i4]) (st' := []) (h1 := am_sl h3 (86 + (Int32.toNatClampNeg i3)) (Int32.toNatClampNeg (i4 + (1 : Int32))) y5) am_q4 rfl rfl rfl (am_xx (lk_price Ly (am_in_lt2 g2)) (am_inl (ln_price Ly (am_in_lt2 g2)) g6)) ?_
    replace H := H _ rfl
    replace Ly : Lay (am_sl h3 (86 + (Int32.toNatClampNeg i3)) (Int32.toNatClampNeg (i4 + (1 : Int32))) y5) := Ly.sl _ _ _
    generalize am_sl h3 (86 + (Int32.toNatClampNeg i3)) (Int32.toNatClampNeg (i4 + (1 : Int32))) y5 = h7 at H Ly ⊢
    refine ev_p (pc' := 17) (loc' := [.ref 80, .long l1, .null, .int i3, .int (i4 + (1 : Int32))]) (st' := []) 2 am_q4 rfl ?_
    exact ev_m (loc' := [.ref 80, .long l1, .null, .int i3, .int (i4 + (1 : Int32))]) am_q4 rfl rfl H
/-! 5: X0_priceOf -/
set_option maxRecDepth 20000 in
set_option maxHeartbeats 2000000 in
theorem ws5 {d : Nat}  (i1 : Int32) (i2 : Int32) (l3 : Int64) {h : AH} {Q : Option Value → AH → Prop} (Ly : Lay h) (H : am_in i1 13 ∧ ((¬ (am_gi h 83 (Int32.toNatClampNeg i1)) = i2) → am_in i1 13 ∧ (((((am_gi h 84 (Int32.toNatClampNeg i1)) &&& (am_gi h 80 13)) >>> (i2 &&& 31)) &&& (1 : Int32)) = (0 : Int32) → ((0 : Int32) = (0 : Int32) → Q (some (.long (10000000000000000 : Int64))) h) ∧ (¬ (0 : Int32) = (0 : Int32) → Q (some (.long (((Int32.toInt64 i2) * l3) - (23298085122481 : Int64)))) h)) ∧ (¬ ((((am_gi h 84 (Int32.toNatClampNeg i1)) &&& (am_gi h 80 13)) >>> (i2 &&& 31)) &&& (1 : Int32)) = (0 : Int32) → ((1 : Int32) = (0 : Int32) → Q (some (.long (10000000000000000 : Int64))) h) ∧ (¬ (1 : Int32) = (0 : Int32) → Q (some (.long (((Int32.toInt64 i2) * l3) - (23298085122481 : Int64)))) h))) ∧ (¬ (¬ (am_gi h 83 (Int32.toNatClampNeg i1)) = i2) → Q (some (.long ((12 : Int64) * l3))) h)) : Cl d 5 [.ref 80, .int i1, .int i2, .long l3] h Q := by
  show Ev d 5 0 [.ref 80, .int i1, .int i2, .long l3, .null, .null] [] h Q
  refine ev_p (pc' := 1) (loc' := [.ref 80, .int i1, .int i2, .long l3, .null, .null]) (st' := [.ref 80]) 1 am_q5 rfl ?_
  refine ev_s (pc' := 4) (loc' := [.ref 80, .int i1, .int i2, .long l3, .null, .null]) (st' := [.ref 83]) (h1 := h) am_q5 rfl rfl rfl (am_gf2 (lk80 Ly) (lr80_2 Ly)) ?_
  refine ev_p (pc' := 5) (loc' := [.ref 80, .int i1, .int i2, .long l3, .null, .null]) (st' := [.int i1, .ref 83]) 1 am_q5 rfl ?_
  obtain ⟨g1, H⟩ := H
  refine ev_s (pc' := 6) (loc' := [.ref 80, .int i1, .int i2, .long l3, .null, .null]) (st' := [.int (am_gi h 83 (Int32.toNatClampNeg i1))]) (h1 := h) am_q5 rfl rfl rfl (am_xx (lk83 Ly) (am_inl (ln83 Ly) g1)) ?_
  refine ev_p (pc' := 7) (loc' := [.ref 80, .int i1, .int i2, .long l3, .null, .null]) (st' := [.int i2, .int (am_gi h 83 (Int32.toNatClampNeg i1))]) 1 am_q5 rfl ?_
  refine ev_jc (t := 16) am_q5 rfl rfl (fun hq => ?_) (fun hq => ?_)
  · replace H := H.1 hq
    refine ev_p (pc' := 17) (loc' := [.ref 80, .int i1, .int i2, .long l3, .null, .null]) (st' := [.ref 80]) 1 am_q5 rfl ?_
    refine ev_s (pc' := 20) (loc' := [.ref 80, .int i1, .int i2, .long l3, .null, .null]) (st' := [.ref 84]) (h1 := h) am_q5 rfl rfl rfl (am_gf2 (lk80 Ly) (lr80_3 Ly)) ?_
    refine ev_p (pc' := 21) (loc' := [.ref 80, .int i1, .int i2, .long l3, .null, .null]) (st' := [.int i1, .ref 84]) 1 am_q5 rfl ?_
    obtain ⟨g2, H⟩ := H
    refine ev_s (pc' := 22) (loc' := [.ref 80, .int i1, .int i2, .long l3, .null, .null]) (st' := [.int (am_gi h 84 (Int32.toNatClampNeg i1))]) (h1 := h) am_q5 rfl rfl rfl (am_xx (lk84 Ly) (am_inl (ln84 Ly) g2)) ?_
    refine ev_p (pc' := 23) (loc' := [.ref 80, .int i1, .int i2, .long l3, .null, .null]) (st' := [.ref 80, .int (am_gi h 84 (Int32.toNatClampNeg i1))]) 1 am_q5 rfl ?_
    refine ev_s (pc' := 26) (loc' := [.ref 80, .int i1, .int i2, .long l3, .null, .null]) (st' := [.int (am_gi h 80 13), .int (am_gi h 84 (Int32.toNatClampNeg i1))]) (h1 := h) am_q5 rfl rfl rfl (if_pos (e := none) (lk80 Ly)) ?_
    refine ev_p (pc' := 31) (loc' := [.ref 80, .int i1, .int i2, .long l3, .null, .null]) (st' := [.int ((((am_gi h 84 (Int32.toNatClampNeg i1)) &&& (am_gi h 80 13)) >>> (i2 &&& 31)) &&& (1 : Int32))]) 5 am_q5 rfl ?_
    refine ev_jz (t := 38) am_q5 rfl rfl (fun hq => ?_) (fun hq => ?_)
    · replace H := H.1 hq
      refine ev_p (pc' := 43) (loc' := [.null, .null, .int i2, .long l3, .null, .int (0 : Int32)]) (st' := [.int (0 : Int32)]) 3 am_q5 rfl ?_
      refine ev_jz (t := 57) am_q5 rfl rfl (fun hq => ?_) (fun hq => ?_)
      · replace H := H.1 hq
        refine ev_p (pc' := 60) (loc' := [.null, .null, .int i2, .long l3, .null, .int (0 : Int32)]) (st' := [.long (10000000000000000 : Int64)]) 1 am_q5 rfl ?_
        exact ev_r (v := some (.long (10000000000000000 : Int64))) am_q5 rfl rfl rfl rfl H
      · replace H := H.2 hq
        refine ev_p (pc' := 60) (loc' := [.null, .null, .int i2, .long l3, .null, .int (0 : Int32)]) (st' := [.long (((Int32.toInt64 i2) * l3) - (23298085122481 : Int64))]) 7 am_q5 rfl ?_
        exact ev_r (v := some (.long (((Int32.toInt64 i2) * l3) - (23298085122481 : Int64)))) am_q5 rfl rfl rfl rfl H
    · replace H := H.2 hq
      refine ev_p (pc' := 43) (loc' := [.null, .null, .int i2, .long l3, .null, .int (1 : Int32)]) (st' := [.int (1 : Int32)]) 4 am_q5 rfl ?_
      refine ev_jz (t := 57) am_q5 rfl rfl (fun hq => ?_) (fun hq => ?_)
      · replace H := H.1 hq
        refine ev_p (pc' := 60) (loc' := [.null, .null, .int i2, .long l3, .null, .int (1 : Int32)]) (st' := [.long (10000000000000000 : Int64)]) 1 am_q5 rfl ?_
        exact ev_r (v := some (.long (10000000000000000 : Int64))) am_q5 rfl rfl rfl rfl H
      · replace H := H.2 hq
        refine ev_p (pc' := 60) (loc' := [.null, .null, .int i2, .long l3, .null, .int (1 : Int32)]) (st' := [.long (((Int32.toInt64 i2) * l3) - (23298085122481 : Int64))]) 7 am_q5 rfl ?_
        exact ev_r (v := some (.long (((Int32.toInt64 i2) * l3) - (23298085122481 : Int64)))) am_q5 rfl rfl rfl rfl H
  · replace H := H.2 hq
    refine ev_p (pc' := 15) (loc' := [.ref 80, .int i1, .int i2, .long l3, .null, .null]) (st' := [.long ((12 : Int64) * l3)]) 3 am_q5 rfl ?_
    exact ev_r (v := some (.long ((12 : Int64) * l3))) am_q5 rfl rfl rfl rfl H
/-! 6: X0_seat -/
set_option maxRecDepth 20000 in
set_option maxHeartbeats 2000000 in
theorem ws6 {d : Nat}  (i1 : Int32) {h : AH} {Q : Option Value → AH → Prop} (Ly : Lay h) (H : am_in (0 : Int32) 13 ∧ ∀ h2, h2 = am_si h 104 (Int32.toNatClampNeg (0 : Int32)) i1 → Ev (d + 1) 6 9 [.ref 80, .null, .int (0 : Int32), .null, .null] [] h2 Q) : Cl (d + 1) 6 [.ref 80, .int i1] h Q := by
  show Ev (d + 1) 6 0 [.ref 80, .int i1, .null, .null, .null] [] h Q
  refine ev_p (pc' := 1) (loc' := [.ref 80, .int i1, .null, .null, .null]) (st' := [.ref 80]) 1 am_q6 rfl ?_
  refine ev_s (pc' := 4) (loc' := [.ref 80, .int i1, .null, .null, .null]) (st' := [.ref 104]) (h1 := h) am_q6 rfl rfl rfl (am_gf2 (lk80 Ly) (lr80_10 Ly)) ?_
  refine ev_p (pc' := 6) (loc' := [.ref 80, .int i1, .null, .null, .null]) (st' := [.int i1, .int (0 : Int32), .ref 104]) 2 am_q6 rfl ?_
  obtain ⟨g1, H⟩ := H
  refine ev_s (pc' := 7) (loc' := [.ref 80, .int i1, .null, .null, .null]) (st' := []) (h1 := am_si h 104 (Int32.toNatClampNeg (0 : Int32)) i1) am_q6 rfl rfl rfl (am_xx ⟨lk104 Ly, (Nat.le_of_ble_eq_true rfl)⟩ (am_inl (ln104 Ly) g1)) ?_
  replace H := H _ rfl
  replace Ly : Lay (am_si h 104 (Int32.toNatClampNeg (0 : Int32)) i1) := Ly.si _ _ _
  generalize am_si h 104 (Int32.toNatClampNeg (0 : Int32)) i1 = h2 at H Ly ⊢
  refine ev_p (pc' := 9) (loc' := [.ref 80, .int i1, .int (0 : Int32), .null, .null]) (st' := []) 2 am_q6 rfl ?_
  exact ev_m (loc' := [.ref 80, .null, .int (0 : Int32), .null, .null]) am_q6 rfl rfl H
set_option maxRecDepth 20000 in
set_option maxHeartbeats 2000000 in
theorem ws6_9 {d : Nat}  (i2 : Int32) {h : AH} {Q : Option Value → AH → Prop} (Ly : Lay h) (H : ((am_gi h 80 11) < i2 → Ev (d + 1) 6 43 [.ref 80, .null, .int (0 : Int32), .int (0 : Int32), .null] [] h Q) ∧ (¬ (am_gi h 80 11) < i2 → am_in i2 13 ∧ ∀ h2, h2 = am_sl h 101 (Int32.toNatClampNeg i2) (4000000000000000000 : Int64) → am_in i2 13 ∧ ∀ h4, h4 = am_si h2 103 (Int32.toNatClampNeg i2) (0 : Int32) → Ev (d + 1) 6 9 [.ref 80, .null, .int (i2 + (1 : Int32)), .null, .null] [] h4 Q)) : Ev (d + 1) 6 9 [.ref 80, .null, .int i2, .null, .null] [] h Q := by
  refine ev_p (pc' := 11) (loc' := [.ref 80, .null, .int i2, .null, .null]) (st' := [.ref 80, .int i2]) 2 am_q6 rfl ?_
  refine ev_s (pc' := 14) (loc' := [.ref 80, .null, .int i2, .null, .null]) (st' := [.int (am_gi h 80 11), .int i2]) (h1 := h) am_q6 rfl rfl rfl (if_pos (e := none) (lk80 Ly)) ?_
  refine ev_jc (t := 39) am_q6 rfl rfl (fun hq => ?_) (fun hq => ?_)
  · replace H := H.1 hq
    refine ev_p (pc' := 43) (loc' := [.ref 80, .null, .int (0 : Int32), .int (0 : Int32), .null]) (st' := []) 4 am_q6 rfl ?_
    exact ev_m (loc' := [.ref 80, .null, .int (0 : Int32), .int (0 : Int32), .null]) am_q6 rfl rfl H
  · replace H := H.2 hq
    refine ev_p (pc' := 18) (loc' := [.ref 80, .null, .int i2, .null, .null]) (st' := [.ref 80]) 1 am_q6 rfl ?_
    refine ev_s (pc' := 21) (loc' := [.ref 80, .null, .int i2, .null, .null]) (st' := [.ref 101]) (h1 := h) am_q6 rfl rfl rfl (am_gf2 (lk80 Ly) (lr80_7 Ly)) ?_
    refine ev_p (pc' := 25) (loc' := [.ref 80, .null, .int i2, .null, .null]) (st' := [.long (4000000000000000000 : Int64), .int i2, .ref 101]) 2 am_q6 rfl ?_
    obtain ⟨g1, H⟩ := H
    refine ev_s (pc' := 26) (loc' := [.ref 80, .null, .int i2, .null, .null]) (st' := []) (h1 := am_sl h 101 (Int32.toNatClampNeg i2) (4000000000000000000 : Int64)) am_q6 rfl rfl rfl (am_xx (lk101 Ly) (am_inl (ln101 Ly) g1)) ?_
    replace H := H _ rfl
    replace Ly : Lay (am_sl h 101 (Int32.toNatClampNeg i2) (4000000000000000000 : Int64)) := Ly.sl _ _ _
    generalize am_sl h 101 (Int32.toNatClampNeg i2) (4000000000000000000 : Int64) = h2 at H Ly ⊢
    refine ev_p (pc' := 27) (loc' := [.ref 80, .null, .int i2, .null, .null]) (st' := [.ref 80]) 1 am_q6 rfl ?_
    refine ev_s (pc' := 30) (loc' := [.ref 80, .null, .int i2, .null, .null]) (st' := [.ref 103]) (h1 := h2) am_q6 rfl rfl rfl (am_gf2 (lk80 Ly) (lr80_9 Ly)) ?_
    refine ev_p (pc' := 32) (loc' := [.ref 80, .null, .int i2, .null, .null]) (st' := [.int (0 : Int32), .int i2, .ref 103]) 2 am_q6 rfl ?_
    obtain ⟨g3, H⟩ := H
    refine ev_s (pc' := 33) (loc' := [.ref 80, .null, .int i2, .null, .null]) (st' := []) (h1 := am_si h2 103 (Int32.toNatClampNeg i2) (0 : Int32)) am_q6 rfl rfl rfl (am_yz ⟨lk103 Ly, Or.inl rfl⟩ (am_inl (ln103 Ly) g3)) ?_
    replace H := H _ rfl
    replace Ly : Lay (am_si h2 103 (Int32.toNatClampNeg i2) (0 : Int32)) := Ly.si _ _ _
    generalize am_si h2 103 (Int32.toNatClampNeg i2) (0 : Int32) = h4 at H Ly ⊢
    refine ev_p (pc' := 9) (loc' := [.ref 80, .null, .int (i2 + (1 : Int32)), .null, .null]) (st' := []) 2 am_q6 rfl ?_
    exact ev_m (loc' := [.ref 80, .null, .int (i2 + (1 : Int32)), .null, .null]) am_q6 rfl rfl H
set_option maxRecDepth 20000 in
set_option maxHeartbeats 2000000 in
theorem ws6_43 {d : Nat}  (i2 : Int32) (i3 : Int32) {h : AH} {Q : Option Value → AH → Prop} (Ly : Lay h) (H : ((am_gi h 80 11) < i3 → Ev (d + 1) 6 100 [.ref 80, .null, .int i2, .int (0 : Int32), .null] [] h Q) ∧ (¬ (am_gi h 80 11) < i3 → am_in i2 13 ∧ ((am_gi h 104 (Int32.toNatClampNeg i2)) = (0 : Int32) → Ev (d + 1) 6 100 [.ref 80, .null, .int i2, .int (0 : Int32), .null] [] h Q) ∧ (¬ (am_gi h 104 (Int32.toNatClampNeg i2)) = (0 : Int32) → am_in i2 13 ∧ ∀ h3, h3 = am_si h 103 (Int32.toNatClampNeg i2) (1 : Int32) → Cl d 7 [.ref 80, .int i2] h3 (fun r5 h4 => r5 = none ∧ Lay h4 ∧ Cl d 8 [.ref 80] h4 (fun r7 h6 => ∃ x8, r7 = some (.int x8) ∧ Lay h6 ∧ am_in x8 13 ∧ Cl d 9 [.ref 80, .long (am_gl h6 101 (Int32.toNatClampNeg x8))] h6 (fun r11 h10 => r11 = none ∧ Lay h10 ∧ Ev (d + 1) 6 43 [.ref 80, .null, .int x8, .int (i3 + (1 : Int32)), .null] [] h10 Q)))))) : Ev (d + 1) 6 43 [.ref 80, .null, .int i2, .int i3, .null] [] h Q := by
  refine ev_p (pc' := 45) (loc' := [.ref 80, .null, .int i2, .int i3, .null]) (st' := [.ref 80, .int i3]) 2 am_q6 rfl ?_
  refine ev_s (pc' := 48) (loc' := [.ref 80, .null, .int i2, .int i3, .null]) (st' := [.int (am_gi h 80 11), .int i3]) (h1 := h) am_q6 rfl rfl rfl (if_pos (e := none) (lk80 Ly)) ?_
  refine ev_jc (t := 98) am_q6 rfl rfl (fun hq => ?_) (fun hq => ?_)
  · replace H := H.1 hq
    refine ev_p (pc' := 100) (loc' := [.ref 80, .null, .int i2, .int (0 : Int32), .null]) (st' := []) 2 am_q6 rfl ?_
    exact ev_m (loc' := [.ref 80, .null, .int i2, .int (0 : Int32), .null]) am_q6 rfl rfl H
  · replace H := H.2 hq
    refine ev_p (pc' := 52) (loc' := [.ref 80, .null, .int i2, .int i3, .null]) (st' := [.ref 80]) 1 am_q6 rfl ?_
    refine ev_s (pc' := 55) (loc' := [.ref 80, .null, .int i2, .int i3, .null]) (st' := [.ref 104]) (h1 := h) am_q6 rfl rfl rfl (am_gf2 (lk80 Ly) (lr80_10 Ly)) ?_
    refine ev_p (pc' := 56) (loc' := [.ref 80, .null, .int i2, .int i3, .null]) (st' := [.int i2, .ref 104]) 1 am_q6 rfl ?_
    obtain ⟨g1, H⟩ := H
    refine ev_s (pc' := 57) (loc' := [.ref 80, .null, .int i2, .int i3, .null]) (st' := [.int (am_gi h 104 (Int32.toNatClampNeg i2))]) (h1 := h) am_q6 rfl rfl rfl (am_xx (lk104 Ly) (am_inl (ln104 Ly) g1)) ?_
    refine ev_jz (t := 98) am_q6 rfl rfl (fun hq => ?_) (fun hq => ?_)
    · replace H := H.1 hq
      refine ev_p (pc' := 100) (loc' := [.ref 80, .null, .int i2, .int (0 : Int32), .null]) (st' := []) 2 am_q6 rfl ?_
      exact ev_m (loc' := [.ref 80, .null, .int i2, .int (0 : Int32), .null]) am_q6 rfl rfl H
    · replace H := H.2 hq
      refine ev_p (pc' := 61) (loc' := [.ref 80, .null, .int i2, .int i3, .null]) (st' := [.ref 80]) 1 am_q6 rfl ?_
      refine ev_s (pc' := 64) (loc' := [.ref 80, .null, .int i2, .int i3, .null]) (st' := [.ref 103]) (h1 := h) am_q6 rfl rfl rfl (am_gf2 (lk80 Ly) (lr80_9 Ly)) ?_
      refine ev_p (pc' := 66) (loc' := [.ref 80, .null, .int i2, .int i3, .null]) (st' := [.int (1 : Int32), .int i2, .ref 103]) 2 am_q6 rfl ?_
      obtain ⟨g2, H⟩ := H
      refine ev_s (pc' := 67) (loc' := [.ref 80, .null, .int i2, .int i3, .null]) (st' := []) (h1 := am_si h 103 (Int32.toNatClampNeg i2) (1 : Int32)) am_q6 rfl rfl rfl (am_yz ⟨lk103 Ly, Or.inr rfl⟩ (am_inl (ln103 Ly) g2)) ?_
      replace H := H _ rfl
      replace Ly : Lay (am_si h 103 (Int32.toNatClampNeg i2) (1 : Int32)) := Ly.si _ _ _
      generalize am_si h 103 (Int32.toNatClampNeg i2) (1 : Int32) = h3 at H Ly ⊢
      refine ev_p (pc' := 69) (loc' := [.ref 80, .null, .int i2, .int i3, .null]) (st' := [.int i2, .ref 80]) 2 am_q6 rfl ?_
      refine ev_c (vs := [.ref 80, .int i2]) (rest := []) 7 am_q6 rfl rfl rfl rfl rfl rfl rfl rfl rfl rfl rfl rfl (Or.inr (congrArg some (lk80 Ly))) (Cl.mono H (Nat.le_refl _) (fun r5 h4 H => ?_))
      obtain ⟨rfl, Ly, H⟩ := H
      refine ev_p (pc' := 73) (loc' := [.ref 80, .null, .int i2, .int i3, .null]) (st' := [.ref 80]) 1 am_q6 rfl ?_
      refine ev_c (vs := [.ref 80]) (rest := []) 8 am_q6 rfl rfl rfl rfl rfl rfl rfl rfl rfl rfl rfl rfl (Or.inr (congrArg some (lk80 Ly))) (Cl.mono H (Nat.le_refl _) (fun r7 h6 H => ?_))
      obtain ⟨x8, rfl, Ly, H⟩ := H
      refine ev_p (pc' := 80) (loc' := [.ref 80, .null, .int i2, .int i3, .int x8]) (st' := [.ref 80, .ref 80]) 3 am_q6 rfl ?_
      refine ev_s (pc' := 83) (loc' := [.ref 80, .null, .int i2, .int i3, .int x8]) (st' := [.ref 101, .ref 80]) (h1 := h6) am_q6 rfl rfl rfl (am_gf2 (lk80 Ly) (lr80_7 Ly)) ?_
      refine ev_p (pc' := 85) (loc' := [.ref 80, .null, .int i2, .int i3, .int x8]) (st' := [.int x8, .ref 101, .ref 80]) 1 am_q6 rfl ?_
      obtain ⟨g9, H⟩ := H
      refine ev_s (pc' := 86) (loc' := [.ref 80, .null, .int i2, .int i3, .int x8]) (st' := [.long (am_gl h6 101 (Int32.toNatClampNeg x8)), .ref 80]) (h1 := h6) am_q6 rfl rfl rfl (am_xx (lk101 Ly) (am_inl (ln101 Ly) g9)) ?_
      refine ev_c (vs := [.ref 80, .long (am_gl h6 101 (Int32.toNatClampNeg x8))]) (rest := []) 9 am_q6 rfl rfl rfl rfl rfl rfl rfl rfl rfl rfl rfl rfl (Or.inr (congrArg some (lk80 Ly))) (Cl.mono H (Nat.le_refl _) (fun r11 h10 H => ?_))
      obtain ⟨rfl, Ly, H⟩ := H
      refine ev_p (pc' := 43) (loc' := [.ref 80, .null, .int x8, .int (i3 + (1 : Int32)), .int x8]) (st' := []) 4 am_q6 rfl ?_
      exact ev_m (loc' := [.ref 80, .null, .int x8, .int (i3 + (1 : Int32)), .null]) am_q6 rfl rfl H
set_option maxRecDepth 20000 in
set_option maxHeartbeats 2000000 in
theorem ws6_100 {d : Nat}  (i2 : Int32) (i3 : Int32) {h : AH} {Q : Option Value → AH → Prop} (Ly : Lay h) (H : ((am_gi h 80 11) < i3 → Q none h) ∧ (¬ (am_gi h 80 11) < i3 → (i2 = (0 : Int32) → Q none h) ∧ (¬ i2 = (0 : Int32) → am_in i2 13 ∧ am_in (am_gi h 102 (Int32.toNatClampNeg i2)) 13 ∧ am_in i2 13 ∧ ∀ h4, h4 = am_si h 104 (Int32.toNatClampNeg i2) (am_gi h 104 (Int32.toNatClampNeg (am_gi h 102 (Int32.toNatClampNeg i2)))) → am_in i2 13 ∧ Ev (d + 1) 6 100 [.ref 80, .null, .int (am_gi h4 102 (Int32.toNatClampNeg i2)), .int (i3 + (1 : Int32)), .null] [] h4 Q))) : Ev (d + 1) 6 100 [.ref 80, .null, .int i2, .int i3, .null] [] h Q := by
  refine ev_p (pc' := 102) (loc' := [.ref 80, .null, .int i2, .int i3, .null]) (st' := [.ref 80, .int i3]) 2 am_q6 rfl ?_
  refine ev_s (pc' := 105) (loc' := [.ref 80, .null, .int i2, .int i3, .null]) (st' := [.int (am_gi h 80 11), .int i3]) (h1 := h) am_q6 rfl rfl rfl (if_pos (e := none) (lk80 Ly)) ?_
  refine ev_jc (t := 142) am_q6 rfl rfl (fun hq => ?_) (fun hq => ?_)
  · replace H := H.1 hq
    exact ev_r (v := none) am_q6 rfl rfl rfl rfl H
  · replace H := H.2 hq
    refine ev_p (pc' := 109) (loc' := [.ref 80, .null, .int i2, .int i3, .null]) (st' := [.int i2]) 1 am_q6 rfl ?_
    refine ev_jz (t := 142) am_q6 rfl rfl (fun hq => ?_) (fun hq => ?_)
    · replace H := H.1 hq
      exact ev_r (v := none) am_q6 rfl rfl rfl rfl H
    · replace H := H.2 hq
      refine ev_p (pc' := 113) (loc' := [.ref 80, .null, .int i2, .int i3, .null]) (st' := [.ref 80]) 1 am_q6 rfl ?_
      refine ev_s (pc' := 116) (loc' := [.ref 80, .null, .int i2, .int i3, .null]) (st' := [.ref 104]) (h1 := h) am_q6 rfl rfl rfl (am_gf2 (lk80 Ly) (lr80_10 Ly)) ?_
      refine ev_p (pc' := 118) (loc' := [.ref 80, .null, .int i2, .int i3, .null]) (st' := [.ref 80, .int i2, .ref 104]) 2 am_q6 rfl ?_
      refine ev_s (pc' := 121) (loc' := [.ref 80, .null, .int i2, .int i3, .null]) (st' := [.ref 104, .int i2, .ref 104]) (h1 := h) am_q6 rfl rfl rfl (am_gf2 (lk80 Ly) (lr80_10 Ly)) ?_
      refine ev_p (pc' := 122) (loc' := [.ref 80, .null, .int i2, .int i3, .null]) (st' := [.ref 80, .ref 104, .int i2, .ref 104]) 1 am_q6 rfl ?_
      refine ev_s (pc' := 125) (loc' := [.ref 80, .null, .int i2, .int i3, .null]) (st' := [.ref 102, .ref 104, .int i2, .ref 104]) (h1 := h) am_q6 rfl rfl rfl (am_gf2 (lk80 Ly) (lr80_8 Ly)) ?_
      refine ev_p (pc' := 126) (loc' := [.ref 80, .null, .int i2, .int i3, .null]) (st' := [.int i2, .ref 102, .ref 104, .int i2, .ref 104]) 1 am_q6 rfl ?_
      obtain ⟨g1, H⟩ := H
      refine ev_s (pc' := 127) (loc' := [.ref 80, .null, .int i2, .int i3, .null]) (st' := [.int (am_gi h 102 (Int32.toNatClampNeg i2)), .ref 104, .int i2, .ref 104]) (h1 := h) am_q6 rfl rfl rfl (am_xx (lk102 Ly) (am_inl (ln102 Ly) g1)) ?_
      obtain ⟨g2, H⟩ := H
      refine ev_s (pc' := 128) (loc' := [.ref 80, .null, .int i2, .int i3, .null]) (st' := [.int (am_gi h 104 (Int32.toNatClampNeg (am_gi h 102 (Int32.toNatClampNeg i2)))), .int i2, .ref 104]) (h1 := h) am_q6 rfl rfl rfl (am_xx (lk104 Ly) (am_inl (ln104 Ly) g2)) ?_
      obtain ⟨g3, H⟩ := H
      refine ev_s (pc' := 129) (loc' := [.ref 80, .null, .int i2, .int i3, .null]) (st' := []) (h1 := am_si h 104 (Int32.toNatClampNeg i2) (am_gi h 104 (Int32.toNatClampNeg (am_gi h 102 (Int32.toNatClampNeg i2))))) am_q6 rfl rfl rfl (am_xx ⟨lk104 Ly, (Nat.le_of_ble_eq_true rfl)⟩ (am_inl (ln104 Ly) g3)) ?_
      replace H := H _ rfl
      replace Ly : Lay (am_si h 104 (Int32.toNatClampNeg i2) (am_gi h 104 (Int32.toNatClampNeg (am_gi h 102 (Int32.toNatClampNeg i2))))) := Ly.si _ _ _
      generalize am_si h 104 (Int32.toNatClampNeg i2) (am_gi h 104 (Int32.toNatClampNeg (am_gi h 102 (Int32.toNatClampNeg i2)))) = h4 at H Ly ⊢
      refine ev_p (pc' := 130) (loc' := [.ref 80, .null, .int i2, .int i3, .null]) (st' := [.ref 80]) 1 am_q6 rfl ?_
      refine ev_s (pc' := 133) (loc' := [.ref 80, .null, .int i2, .int i3, .null]) (st' := [.ref 102]) (h1 := h4) am_q6 rfl rfl rfl (am_gf2 (lk80 Ly) (lr80_8 Ly)) ?_
      refine ev_p (pc' := 134) (loc' := [.ref 80, .null, .int i2, .int i3, .null]) (st' := [.int i2, .ref 102]) 1 am_q6 rfl ?_
      obtain ⟨g5, H⟩ := H
      refine ev_s (pc' := 135) (loc' := [.ref 80, .null, .int i2, .int i3, .null]) (st' := [.int (am_gi h4 102 (Int32.toNatClampNeg i2))]) (h1 := h4) am_q6 rfl rfl rfl (am_xx (lk102 Ly) (am_inl (ln102 Ly) g5)) ?_
      refine ev_p (pc' := 100) (loc' := [.ref 80, .null, .int (am_gi h4 102 (Int32.toNatClampNeg i2)), .int (i3 + (1 : Int32)), .null]) (st' := []) 3 am_q6 rfl ?_
      exact ev_m (loc' := [.ref 80, .null, .int (am_gi h4 102 (Int32.toNatClampNeg i2)), .int (i3 + (1 : Int32)), .null]) am_q6 rfl rfl H
/-! 7: X0_look -/
set_option maxRecDepth 20000 in
set_option maxHeartbeats 2000000 in
theorem ws7 {d : Nat}  (i1 : Int32) {h : AH} {Q : Option Value → AH → Prop} (Ly : Lay h) (H : am_in i1 13 ∧ Ev d 7 9 [.ref 80, .int i1, .int (am_gi h 104 (Int32.toNatClampNeg i1)), .int (1 : Int32), .null, .null] [] h Q) : Cl d 7 [.ref 80, .int i1] h Q := by
  show Ev d 7 0 [.ref 80, .int i1, .null, .null, .null, .null] [] h Q
  refine ev_p (pc' := 1) (loc' := [.ref 80, .int i1, .null, .null, .null, .null]) (st' := [.ref 80]) 1 am_q7 rfl ?_
  refine ev_s (pc' := 4) (loc' := [.ref 80, .int i1, .null, .null, .null, .null]) (st' := [.ref 104]) (h1 := h) am_q7 rfl rfl rfl (am_gf2 (lk80 Ly) (lr80_10 Ly)) ?_
  refine ev_p (pc' := 5) (loc' := [.ref 80, .int i1, .null, .null, .null, .null]) (st' := [.int i1, .ref 104]) 1 am_q7 rfl ?_
  obtain ⟨g1, H⟩ := H
  refine ev_s (pc' := 6) (loc' := [.ref 80, .int i1, .null, .null, .null, .null]) (st' := [.int (am_gi h 104 (Int32.toNatClampNeg i1))]) (h1 := h) am_q7 rfl rfl rfl (am_xx (lk104 Ly) (am_inl (ln104 Ly) g1)) ?_
  refine ev_p (pc' := 9) (loc' := [.ref 80, .int i1, .int (am_gi h 104 (Int32.toNatClampNeg i1)), .int (1 : Int32), .null, .null]) (st' := []) 3 am_q7 rfl ?_
  exact ev_m (loc' := [.ref 80, .int i1, .int (am_gi h 104 (Int32.toNatClampNeg i1)), .int (1 : Int32), .null, .null]) am_q7 rfl rfl H
set_option maxRecDepth 20000 in
set_option maxHeartbeats 2000000 in
theorem ws7_9 {d : Nat}  (i1 : Int32) (i2 : Int32) (i3 : Int32) {h : AH} {Q : Option Value → AH → Prop} (Ly : Lay h) (H : ((am_gi h 80 11) < i3 → Q none h) ∧ (¬ (am_gi h 80 11) < i3 → am_in i2 13 ∧ am_in i3 13 ∧ am_in i2 13 ∧ am_in i3 13 ∧ am_in i3 13 ∧ ((¬ (am_gi h 103 (Int32.toNatClampNeg i3)) = (0 : Int32)) → Ev d 7 9 [.ref 80, .int i1, .int i2, .int (i3 + (1 : Int32)), .null, .null] [] h Q) ∧ (¬ (¬ (am_gi h 103 (Int32.toNatClampNeg i3)) = (0 : Int32)) → am_in i3 13 ∧ ((0 : Int32) ≤ (lg_cmp (((am_gl h (86 + (Int32.toNatClampNeg i2)) (Int32.toNatClampNeg i3)) - (am_gl h 99 (Int32.toNatClampNeg i2))) - (am_gl h 100 (Int32.toNatClampNeg i3))) (am_gl h 101 (Int32.toNatClampNeg i3))) → Ev d 7 9 [.ref 80, .int i1, .int i2, .int (i3 + (1 : Int32)), .null, .null] [] h Q) ∧ (¬ (0 : Int32) ≤ (lg_cmp (((am_gl h (86 + (Int32.toNatClampNeg i2)) (Int32.toNatClampNeg i3)) - (am_gl h 99 (Int32.toNatClampNeg i2))) - (am_gl h 100 (Int32.toNatClampNeg i3))) (am_gl h 101 (Int32.toNatClampNeg i3))) → am_in i3 13 ∧ ∀ h8, h8 = am_sl h 101 (Int32.toNatClampNeg i3) (((am_gl h (86 + (Int32.toNatClampNeg i2)) (Int32.toNatClampNeg i3)) - (am_gl h 99 (Int32.toNatClampNeg i2))) - (am_gl h 100 (Int32.toNatClampNeg i3))) → am_in i3 13 ∧ ∀ h10, h10 = am_si h8 102 (Int32.toNatClampNeg i3) i1 → Ev d 7 9 [.ref 80, .int i1, .int i2, .int (i3 + (1 : Int32)), .null, .null] [] h10 Q)))) : Ev d 7 9 [.ref 80, .int i1, .int i2, .int i3, .null, .null] [] h Q := by
  refine ev_p (pc' := 11) (loc' := [.ref 80, .int i1, .int i2, .int i3, .null, .null]) (st' := [.ref 80, .int i3]) 2 am_q7 rfl ?_
  refine ev_s (pc' := 14) (loc' := [.ref 80, .int i1, .int i2, .int i3, .null, .null]) (st' := [.int (am_gi h 80 11), .int i3]) (h1 := h) am_q7 rfl rfl rfl (if_pos (e := none) (lk80 Ly)) ?_
  refine ev_jc (t := 83) am_q7 rfl rfl (fun hq => ?_) (fun hq => ?_)
  · replace H := H.1 hq
    exact ev_r (v := none) am_q7 rfl rfl rfl rfl H
  · replace H := H.2 hq
    refine ev_p (pc' := 18) (loc' := [.ref 80, .int i1, .int i2, .int i3, .null, .null]) (st' := [.ref 80]) 1 am_q7 rfl ?_
    refine ev_s (pc' := 21) (loc' := [.ref 80, .int i1, .int i2, .int i3, .null, .null]) (st' := [.ref 85]) (h1 := h) am_q7 rfl rfl rfl (am_gf2 (lk80 Ly) (lr80_4 Ly)) ?_
    refine ev_p (pc' := 22) (loc' := [.ref 80, .int i1, .int i2, .int i3, .null, .null]) (st' := [.int i2, .ref 85]) 1 am_q7 rfl ?_
    obtain ⟨g1, H⟩ := H
    refine ev_s (pc' := 23) (loc' := [.ref 80, .int i1, .int i2, .int i3, .null, .null]) (st' := [.ref (86 + (Int32.toNatClampNeg i2))]) (h1 := h) am_q7 rfl rfl rfl (am_xa (am_rng (lk85 Ly) (by decide)) (am_inl (ln85 Ly) g1) (lr_price Ly (am_in_lt2 g1))) ?_
    refine ev_p (pc' := 24) (loc' := [.ref 80, .int i1, .int i2, .int i3, .null, .null]) (st' := [.int i3, .ref (86 + (Int32.toNatClampNeg i2))]) 1 am_q7 rfl ?_
    obtain ⟨g2, H⟩ := H
    refine ev_s (pc' := 25) (loc' := [.ref 80, .int i1, .int i2, .int i3, .null, .null]) (st' := [.long (am_gl h (86 + (Int32.toNatClampNeg i2)) (Int32.toNatClampNeg i3))]) (h1 := h) am_q7 rfl rfl rfl (am_xx (lk_price Ly (am_in_lt2 g1)) (am_inl (ln_price Ly (am_in_lt2 g1)) g2)) ?_
    refine ev_p (pc' := 26) (loc' := [.ref 80, .int i1, .int i2, .int i3, .null, .null]) (st' := [.ref 80, .long (am_gl h (86 + (Int32.toNatClampNeg i2)) (Int32.toNatClampNeg i3))]) 1 am_q7 rfl ?_
    refine ev_s (pc' := 29) (loc' := [.ref 80, .int i1, .int i2, .int i3, .null, .null]) (st' := [.ref 99, .long (am_gl h (86 + (Int32.toNatClampNeg i2)) (Int32.toNatClampNeg i3))]) (h1 := h) am_q7 rfl rfl rfl (am_gf2 (lk80 Ly) (lr80_5 Ly)) ?_
    refine ev_p (pc' := 30) (loc' := [.ref 80, .int i1, .int i2, .int i3, .null, .null]) (st' := [.int i2, .ref 99, .long (am_gl h (86 + (Int32.toNatClampNeg i2)) (Int32.toNatClampNeg i3))]) 1 am_q7 rfl ?_
    obtain ⟨g3, H⟩ := H
    refine ev_s (pc' := 31) (loc' := [.ref 80, .int i1, .int i2, .int i3, .null, .null]) (st' := [.long (am_gl h 99 (Int32.toNatClampNeg i2)), .long (am_gl h (86 + (Int32.toNatClampNeg i2)) (Int32.toNatClampNeg i3))]) (h1 := h) am_q7 rfl rfl rfl (am_xx (lk99 Ly) (am_inl (ln99 Ly) g3)) ?_
    refine ev_p (pc' := 33) (loc' := [.ref 80, .int i1, .int i2, .int i3, .null, .null]) (st' := [.ref 80, .long ((am_gl h (86 + (Int32.toNatClampNeg i2)) (Int32.toNatClampNeg i3)) - (am_gl h 99 (Int32.toNatClampNeg i2)))]) 2 am_q7 rfl ?_
    refine ev_s (pc' := 36) (loc' := [.ref 80, .int i1, .int i2, .int i3, .null, .null]) (st' := [.ref 100, .long ((am_gl h (86 + (Int32.toNatClampNeg i2)) (Int32.toNatClampNeg i3)) - (am_gl h 99 (Int32.toNatClampNeg i2)))]) (h1 := h) am_q7 rfl rfl rfl (am_gf2 (lk80 Ly) (lr80_6 Ly)) ?_
    refine ev_p (pc' := 37) (loc' := [.ref 80, .int i1, .int i2, .int i3, .null, .null]) (st' := [.int i3, .ref 100, .long ((am_gl h (86 + (Int32.toNatClampNeg i2)) (Int32.toNatClampNeg i3)) - (am_gl h 99 (Int32.toNatClampNeg i2)))]) 1 am_q7 rfl ?_
    obtain ⟨g4, H⟩ := H
    refine ev_s (pc' := 38) (loc' := [.ref 80, .int i1, .int i2, .int i3, .null, .null]) (st' := [.long (am_gl h 100 (Int32.toNatClampNeg i3)), .long ((am_gl h (86 + (Int32.toNatClampNeg i2)) (Int32.toNatClampNeg i3)) - (am_gl h 99 (Int32.toNatClampNeg i2)))]) (h1 := h) am_q7 rfl rfl rfl (am_xx (lk100 Ly) (am_inl (ln100 Ly) g4)) ?_
    refine ev_p (pc' := 42) (loc' := [.ref 80, .int i1, .int i2, .int i3, .long (((am_gl h (86 + (Int32.toNatClampNeg i2)) (Int32.toNatClampNeg i3)) - (am_gl h 99 (Int32.toNatClampNeg i2))) - (am_gl h 100 (Int32.toNatClampNeg i3))), .null]) (st' := [.ref 80]) 3 am_q7 rfl ?_
    refine ev_s (pc' := 45) (loc' := [.ref 80, .int i1, .int i2, .int i3, .long (((am_gl h (86 + (Int32.toNatClampNeg i2)) (Int32.toNatClampNeg i3)) - (am_gl h 99 (Int32.toNatClampNeg i2))) - (am_gl h 100 (Int32.toNatClampNeg i3))), .null]) (st' := [.ref 103]) (h1 := h) am_q7 rfl rfl rfl (am_gf2 (lk80 Ly) (lr80_9 Ly)) ?_
    refine ev_p (pc' := 46) (loc' := [.ref 80, .int i1, .int i2, .int i3, .long (((am_gl h (86 + (Int32.toNatClampNeg i2)) (Int32.toNatClampNeg i3)) - (am_gl h 99 (Int32.toNatClampNeg i2))) - (am_gl h 100 (Int32.toNatClampNeg i3))), .null]) (st' := [.int i3, .ref 103]) 1 am_q7 rfl ?_
    obtain ⟨g5, H⟩ := H
    refine ev_s (pc' := 47) (loc' := [.ref 80, .int i1, .int i2, .int i3, .long (((am_gl h (86 + (Int32.toNatClampNeg i2)) (Int32.toNatClampNeg i3)) - (am_gl h 99 (Int32.toNatClampNeg i2))) - (am_gl h 100 (Int32.toNatClampNeg i3))), .null]) (st' := [.int (am_gi h 103 (Int32.toNatClampNeg i3))]) (h1 := h) am_q7 rfl rfl rfl (am_xx (Or.inr (lk103 Ly)) (am_inl (ln103 Ly) g5)) ?_
    refine ev_jz (t := 77) am_q7 rfl rfl (fun hq => ?_) (fun hq => ?_)
    · replace H := H.1 hq
      refine ev_p (pc' := 9) (loc' := [.ref 80, .int i1, .int i2, .int (i3 + (1 : Int32)), .null, .null]) (st' := []) 2 am_q7 rfl ?_
      exact ev_m (loc' := [.ref 80, .int i1, .int i2, .int (i3 + (1 : Int32)), .null, .null]) am_q7 rfl rfl H
    · replace H := H.2 hq
      refine ev_p (pc' := 53) (loc' := [.ref 80, .int i1, .int i2, .int i3, .long (((am_gl h (86 + (Int32.toNatClampNeg i2)) (Int32.toNatClampNeg i3)) - (am_gl h 99 (Int32.toNatClampNeg i2))) - (am_gl h 100 (Int32.toNatClampNeg i3))), .null]) (st' := [.ref 80, .long (((am_gl h (86 + (Int32.toNatClampNeg i2)) (Int32.toNatClampNeg i3)) - (am_gl h 99 (Int32.toNatClampNeg i2))) - (am_gl h 100 (Int32.toNatClampNeg i3)))]) 2 am_q7 rfl ?_
      refine ev_s (pc' := 56) (loc' := [.ref 80, .int i1, .int i2, .int i3, .long (((am_gl h (86 + (Int32.toNatClampNeg i2)) (Int32.toNatClampNeg i3)) - (am_gl h 99 (Int32.toNatClampNeg i2))) - (am_gl h 100 (Int32.toNatClampNeg i3))), .null]) (st' := [.ref 101, .long (((am_gl h (86 + (Int32.toNatClampNeg i2)) (Int32.toNatClampNeg i3)) - (am_gl h 99 (Int32.toNatClampNeg i2))) - (am_gl h 100 (Int32.toNatClampNeg i3)))]) (h1 := h) am_q7 rfl rfl rfl (am_gf2 (lk80 Ly) (lr80_7 Ly)) ?_
      refine ev_p (pc' := 57) (loc' := [.ref 80, .int i1, .int i2, .int i3, .long (((am_gl h (86 + (Int32.toNatClampNeg i2)) (Int32.toNatClampNeg i3)) - (am_gl h 99 (Int32.toNatClampNeg i2))) - (am_gl h 100 (Int32.toNatClampNeg i3))), .null]) (st' := [.int i3, .ref 101, .long (((am_gl h (86 + (Int32.toNatClampNeg i2)) (Int32.toNatClampNeg i3)) - (am_gl h 99 (Int32.toNatClampNeg i2))) - (am_gl h 100 (Int32.toNatClampNeg i3)))]) 1 am_q7 rfl ?_
      obtain ⟨g6, H⟩ := H
      refine ev_s (pc' := 58) (loc' := [.ref 80, .int i1, .int i2, .int i3, .long (((am_gl h (86 + (Int32.toNatClampNeg i2)) (Int32.toNatClampNeg i3)) - (am_gl h 99 (Int32.toNatClampNeg i2))) - (am_gl h 100 (Int32.toNatClampNeg i3))), .null]) (st' := [.long (am_gl h 101 (Int32.toNatClampNeg i3)), .long (((am_gl h (86 + (Int32.toNatClampNeg i2)) (Int32.toNatClampNeg i3)) - (am_gl h 99 (Int32.toNatClampNeg i2))) - (am_gl h 100 (Int32.toNatClampNeg i3)))]) (h1 := h) am_q7 rfl rfl rfl (am_xx (lk101 Ly) (am_inl (ln101 Ly) g6)) ?_
      refine ev_p (pc' := 59) (loc' := [.ref 80, .int i1, .int i2, .int i3, .long (((am_gl h (86 + (Int32.toNatClampNeg i2)) (Int32.toNatClampNeg i3)) - (am_gl h 99 (Int32.toNatClampNeg i2))) - (am_gl h 100 (Int32.toNatClampNeg i3))), .null]) (st' := [.int (lg_cmp (((am_gl h (86 + (Int32.toNatClampNeg i2)) (Int32.toNatClampNeg i3)) - (am_gl h 99 (Int32.toNatClampNeg i2))) - (am_gl h 100 (Int32.toNatClampNeg i3))) (am_gl h 101 (Int32.toNatClampNeg i3)))]) 1 am_q7 rfl ?_
      refine ev_jz (t := 77) am_q7 rfl rfl (fun hq => ?_) (fun hq => ?_)
      · replace H := H.1 hq
        refine ev_p (pc' := 9) (loc' := [.ref 80, .int i1, .int i2, .int (i3 + (1 : Int32)), .null, .null]) (st' := []) 2 am_q7 rfl ?_
        exact ev_m (loc' := [.ref 80, .int i1, .int i2, .int (i3 + (1 : Int32)), .null, .null]) am_q7 rfl rfl H
      · replace H := H.2 hq
        refine ev_p (pc' := 63) (loc' := [.ref 80, .int i1, .int i2, .int i3, .long (((am_gl h (86 + (Int32.toNatClampNeg i2)) (Int32.toNatClampNeg i3)) - (am_gl h 99 (Int32.toNatClampNeg i2))) - (am_gl h 100 (Int32.toNatClampNeg i3))), .null]) (st' := [.ref 80]) 1 am_q7 rfl ?_
        refine ev_s (pc' := 66) (loc' := [.ref 80, .int i1, .int i2, .int i3, .long (((am_gl h (86 + (Int32.toNatClampNeg i2)) (Int32.toNatClampNeg i3)) - (am_gl h 99 (Int32.toNatClampNeg i2))) - (am_gl h 100 (Int32.toNatClampNeg i3))), .null]) (st' := [.ref 101]) (h1 := h) am_q7 rfl rfl rfl (am_gf2 (lk80 Ly) (lr80_7 Ly)) ?_
        refine ev_p (pc' := 69) (loc' := [.ref 80, .int i1, .int i2, .int i3, .long (((am_gl h (86 + (Int32.toNatClampNeg i2)) (Int32.toNatClampNeg i3)) - (am_gl h 99 (Int32.toNatClampNeg i2))) - (am_gl h 100 (Int32.toNatClampNeg i3))), .null]) (st' := [.long (((am_gl h (86 + (Int32.toNatClampNeg i2)) (Int32.toNatClampNeg i3)) - (am_gl h 99 (Int32.toNatClampNeg i2))) - (am_gl h 100 (Int32.toNatClampNeg i3))), .int i3, .ref 101]) 2 am_q7 rfl ?_
        obtain ⟨g7, H⟩ := H
        refine ev_s (pc' := 70) (loc' := [.ref 80, .int i1, .int i2, .int i3, .long (((am_gl h (86 + (Int32.toNatClampNeg i2)) (Int32.toNatClampNeg i3)) - (am_gl h 99 (Int32.toNatClampNeg i2))) - (am_gl h 100 (Int32.toNatClampNeg i3))), .null]) (st' := []) (h1 := am_sl h 101 (Int32.toNatClampNeg i3) (((am_gl h (86 + (Int32.toNatClampNeg i2)) (Int32.toNatClampNeg i3)) - (am_gl h 99 (Int32.toNatClampNeg i2))) - (am_gl h 100 (Int32.toNatClampNeg i3)))) am_q7 rfl rfl rfl (am_xx (lk101 Ly) (am_inl (ln101 Ly) g7)) ?_
        replace H := H _ rfl
        replace Ly : Lay (am_sl h 101 (Int32.toNatClampNeg i3) (((am_gl h (86 + (Int32.toNatClampNeg i2)) (Int32.toNatClampNeg i3)) - (am_gl h 99 (Int32.toNatClampNeg i2))) - (am_gl h 100 (Int32.toNatClampNeg i3)))) := Ly.sl _ _ _
        generalize am_sl h 101 (Int32.toNatClampNeg i3) (((am_gl h (86 + (Int32.toNatClampNeg i2)) (Int32.toNatClampNeg i3)) - (am_gl h 99 (Int32.toNatClampNeg i2))) - (am_gl h 100 (Int32.toNatClampNeg i3))) = h8 at H Ly ⊢
        refine ev_p (pc' := 71) (loc' := [.ref 80, .int i1, .int i2, .int i3, .long (((am_gl h (86 + (Int32.toNatClampNeg i2)) (Int32.toNatClampNeg i3)) - (am_gl h 99 (Int32.toNatClampNeg i2))) - (am_gl h 100 (Int32.toNatClampNeg i3))), .null]) (st' := [.ref 80]) 1 am_q7 rfl ?_
        refine ev_s (pc' := 74) (loc' := [.ref 80, .int i1, .int i2, .int i3, .long (((am_gl h (86 + (Int32.toNatClampNeg i2)) (Int32.toNatClampNeg i3)) - (am_gl h 99 (Int32.toNatClampNeg i2))) - (am_gl h 100 (Int32.toNatClampNeg i3))), .null]) (st' := [.ref 102]) (h1 := h8) am_q7 rfl rfl rfl (am_gf2 (lk80 Ly) (lr80_8 Ly)) ?_
        refine ev_p (pc' := 76) (loc' := [.ref 80, .int i1, .int i2, .int i3, .long (((am_gl h (86 + (Int32.toNatClampNeg i2)) (Int32.toNatClampNeg i3)) - (am_gl h 99 (Int32.toNatClampNeg i2))) - (am_gl h 100 (Int32.toNatClampNeg i3))), .null]) (st' := [.int i1, .int i3, .ref 102]) 2 am_q7 rfl ?_
        obtain ⟨g9, H⟩ := H
        refine ev_s (pc' := 77) (loc' := [.ref 80, .int i1, .int i2, .int i3, .long (((am_gl h (86 + (Int32.toNatClampNeg i2)) (Int32.toNatClampNeg i3)) - (am_gl h 99 (Int32.toNatClampNeg i2))) - (am_gl h 100 (Int32.toNatClampNeg i3))), .null]) (st' := []) (h1 := am_si h8 102 (Int32.toNatClampNeg i3) i1) am_q7 rfl rfl rfl (am_xx ⟨lk102 Ly, (Nat.le_of_ble_eq_true rfl)⟩ (am_inl (ln102 Ly) g9)) ?_
        replace H := H _ rfl
        replace Ly : Lay (am_si h8 102 (Int32.toNatClampNeg i3) i1) := Ly.si _ _ _
        generalize am_si h8 102 (Int32.toNatClampNeg i3) i1 = h10 at H Ly ⊢
        refine ev_p (pc' := 9) (loc' := [.ref 80, .int i1, .int i2, .int (i3 + (1 : Int32)), .null, .null]) (st' := []) 2 am_q7 rfl ?_
        exact ev_m (loc' := [.ref 80, .int i1, .int i2, .int (i3 + (1 : Int32)), .null, .null]) am_q7 rfl rfl H
/-! 8: X0_nearest -/
set_option maxRecDepth 20000 in
set_option maxHeartbeats 2000000 in
theorem ws8 {d : Nat}   {h : AH} {Q : Option Value → AH → Prop} (Ly : Lay h) (H : Ev d 8 4 [.ref 80, .int (0 : Int32), .int (1 : Int32)] [] h Q) : Cl d 8 [.ref 80] h Q := by
  show Ev d 8 0 [.ref 80, .null, .null] [] h Q
  refine ev_p (pc' := 4) (loc' := [.ref 80, .int (0 : Int32), .int (1 : Int32)]) (st' := []) 4 am_q8 rfl ?_
  exact ev_m (loc' := [.ref 80, .int (0 : Int32), .int (1 : Int32)]) am_q8 rfl rfl H
set_option maxRecDepth 20000 in
set_option maxHeartbeats 2000000 in
theorem ws8_4 {d : Nat}  (i1 : Int32) (i2 : Int32) {h : AH} {Q : Option Value → AH → Prop} (Ly : Lay h) (H : ((am_gi h 80 11) < i2 → Q (some (.int i1)) h) ∧ (¬ (am_gi h 80 11) < i2 → am_in i2 13 ∧ ((¬ (am_gi h 103 (Int32.toNatClampNeg i2)) = (0 : Int32)) → Ev d 8 4 [.ref 80, .int i1, .int (i2 + (1 : Int32))] [] h Q) ∧ (¬ (¬ (am_gi h 103 (Int32.toNatClampNeg i2)) = (0 : Int32)) → (i1 = (0 : Int32) → Ev d 8 4 [.ref 80, .int i2, .int (i2 + (1 : Int32))] [] h Q) ∧ (¬ i1 = (0 : Int32) → am_in i2 13 ∧ am_in i1 13 ∧ ((0 : Int32) ≤ (lg_cmp (am_gl h 101 (Int32.toNatClampNeg i2)) (am_gl h 101 (Int32.toNatClampNeg i1))) → Ev d 8 4 [.ref 80, .int i1, .int (i2 + (1 : Int32))] [] h Q) ∧ (¬ (0 : Int32) ≤ (lg_cmp (am_gl h 101 (Int32.toNatClampNeg i2)) (am_gl h 101 (Int32.toNatClampNeg i1))) → Ev d 8 4 [.ref 80, .int i2, .int (i2 + (1 : Int32))] [] h Q))))) : Ev d 8 4 [.ref 80, .int i1, .int i2] [] h Q := by
  refine ev_p (pc' := 6) (loc' := [.ref 80, .int i1, .int i2]) (st' := [.ref 80, .int i2]) 2 am_q8 rfl ?_
  refine ev_s (pc' := 9) (loc' := [.ref 80, .int i1, .int i2]) (st' := [.int (am_gi h 80 11), .int i2]) (h1 := h) am_q8 rfl rfl rfl (if_pos (e := none) (lk80 Ly)) ?_
  refine ev_jc (t := 49) am_q8 rfl rfl (fun hq => ?_) (fun hq => ?_)
  · replace H := H.1 hq
    refine ev_p (pc' := 50) (loc' := [.ref 80, .int i1, .int i2]) (st' := [.int i1]) 1 am_q8 rfl ?_
    exact ev_r (v := some (.int i1)) am_q8 rfl rfl rfl rfl H
  · replace H := H.2 hq
    refine ev_p (pc' := 13) (loc' := [.ref 80, .int i1, .int i2]) (st' := [.ref 80]) 1 am_q8 rfl ?_
    refine ev_s (pc' := 16) (loc' := [.ref 80, .int i1, .int i2]) (st' := [.ref 103]) (h1 := h) am_q8 rfl rfl rfl (am_gf2 (lk80 Ly) (lr80_9 Ly)) ?_
    refine ev_p (pc' := 17) (loc' := [.ref 80, .int i1, .int i2]) (st' := [.int i2, .ref 103]) 1 am_q8 rfl ?_
    obtain ⟨g1, H⟩ := H
    refine ev_s (pc' := 18) (loc' := [.ref 80, .int i1, .int i2]) (st' := [.int (am_gi h 103 (Int32.toNatClampNeg i2))]) (h1 := h) am_q8 rfl rfl rfl (am_xx (Or.inr (lk103 Ly)) (am_inl (ln103 Ly) g1)) ?_
    refine ev_jz (t := 43) am_q8 rfl rfl (fun hq => ?_) (fun hq => ?_)
    · replace H := H.1 hq
      refine ev_p (pc' := 4) (loc' := [.ref 80, .int i1, .int (i2 + (1 : Int32))]) (st' := []) 2 am_q8 rfl ?_
      exact ev_m (loc' := [.ref 80, .int i1, .int (i2 + (1 : Int32))]) am_q8 rfl rfl H
    · replace H := H.2 hq
      refine ev_p (pc' := 22) (loc' := [.ref 80, .int i1, .int i2]) (st' := [.int i1]) 1 am_q8 rfl ?_
      refine ev_jz (t := 41) am_q8 rfl rfl (fun hq => ?_) (fun hq => ?_)
      · replace H := H.1 hq
        refine ev_p (pc' := 4) (loc' := [.ref 80, .int i2, .int (i2 + (1 : Int32))]) (st' := []) 4 am_q8 rfl ?_
        exact ev_m (loc' := [.ref 80, .int i2, .int (i2 + (1 : Int32))]) am_q8 rfl rfl H
      · replace H := H.2 hq
        refine ev_p (pc' := 26) (loc' := [.ref 80, .int i1, .int i2]) (st' := [.ref 80]) 1 am_q8 rfl ?_
        refine ev_s (pc' := 29) (loc' := [.ref 80, .int i1, .int i2]) (st' := [.ref 101]) (h1 := h) am_q8 rfl rfl rfl (am_gf2 (lk80 Ly) (lr80_7 Ly)) ?_
        refine ev_p (pc' := 30) (loc' := [.ref 80, .int i1, .int i2]) (st' := [.int i2, .ref 101]) 1 am_q8 rfl ?_
        obtain ⟨g2, H⟩ := H
        refine ev_s (pc' := 31) (loc' := [.ref 80, .int i1, .int i2]) (st' := [.long (am_gl h 101 (Int32.toNatClampNeg i2))]) (h1 := h) am_q8 rfl rfl rfl (am_xx (lk101 Ly) (am_inl (ln101 Ly) g2)) ?_
        refine ev_p (pc' := 32) (loc' := [.ref 80, .int i1, .int i2]) (st' := [.ref 80, .long (am_gl h 101 (Int32.toNatClampNeg i2))]) 1 am_q8 rfl ?_
        refine ev_s (pc' := 35) (loc' := [.ref 80, .int i1, .int i2]) (st' := [.ref 101, .long (am_gl h 101 (Int32.toNatClampNeg i2))]) (h1 := h) am_q8 rfl rfl rfl (am_gf2 (lk80 Ly) (lr80_7 Ly)) ?_
        refine ev_p (pc' := 36) (loc' := [.ref 80, .int i1, .int i2]) (st' := [.int i1, .ref 101, .long (am_gl h 101 (Int32.toNatClampNeg i2))]) 1 am_q8 rfl ?_
        obtain ⟨g3, H⟩ := H
        refine ev_s (pc' := 37) (loc' := [.ref 80, .int i1, .int i2]) (st' := [.long (am_gl h 101 (Int32.toNatClampNeg i1)), .long (am_gl h 101 (Int32.toNatClampNeg i2))]) (h1 := h) am_q8 rfl rfl rfl (am_xx (lk101 Ly) (am_inl (ln101 Ly) g3)) ?_
        refine ev_p (pc' := 38) (loc' := [.ref 80, .int i1, .int i2]) (st' := [.int (lg_cmp (am_gl h 101 (Int32.toNatClampNeg i2)) (am_gl h 101 (Int32.toNatClampNeg i1)))]) 1 am_q8 rfl ?_
        refine ev_jz (t := 43) am_q8 rfl rfl (fun hq => ?_) (fun hq => ?_)
        · replace H := H.1 hq
          refine ev_p (pc' := 4) (loc' := [.ref 80, .int i1, .int (i2 + (1 : Int32))]) (st' := []) 2 am_q8 rfl ?_
          exact ev_m (loc' := [.ref 80, .int i1, .int (i2 + (1 : Int32))]) am_q8 rfl rfl H
        · replace H := H.2 hq
          refine ev_p (pc' := 4) (loc' := [.ref 80, .int i2, .int (i2 + (1 : Int32))]) (st' := []) 4 am_q8 rfl ?_
          exact ev_m (loc' := [.ref 80, .int i2, .int (i2 + (1 : Int32))]) am_q8 rfl rfl H
/-! 9: X0_shiftRents -/
set_option maxRecDepth 20000 in
set_option maxHeartbeats 2000000 in
theorem ws9 {d : Nat}  (l1 : Int64) {h : AH} {Q : Option Value → AH → Prop} (Ly : Lay h) (H : Ev d 9 2 [.ref 80, .long l1, .null, .int (0 : Int32)] [] h Q) : Cl d 9 [.ref 80, .long l1] h Q := by
  show Ev d 9 0 [.ref 80, .long l1, .null, .null] [] h Q
  refine ev_p (pc' := 2) (loc' := [.ref 80, .long l1, .null, .int (0 : Int32)]) (st' := []) 2 am_q9 rfl ?_
  exact ev_m (loc' := [.ref 80, .long l1, .null, .int (0 : Int32)]) am_q9 rfl rfl H
set_option maxRecDepth 20000 in
set_option maxHeartbeats 2000000 in
theorem ws9_2 {d : Nat}  (l1 : Int64) (i3 : Int32) {h : AH} {Q : Option Value → AH → Prop} (Ly : Lay h) (H : ((am_gi h 80 11) < i3 → Q none h) ∧ (¬ (am_gi h 80 11) < i3 → am_in i3 13 ∧ ((am_gi h 103 (Int32.toNatClampNeg i3)) = (0 : Int32) → am_in i3 13 ∧ am_in i3 13 ∧ ∀ h4, h4 = am_sl h 101 (Int32.toNatClampNeg i3) ((am_gl h 101 (Int32.toNatClampNeg i3)) - l1) → Ev d 9 2 [.ref 80, .long l1, .null, .int (i3 + (1 : Int32))] [] h4 Q) ∧ (¬ (am_gi h 103 (Int32.toNatClampNeg i3)) = (0 : Int32) → am_in i3 13 ∧ am_in (am_gi h 104 (Int32.toNatClampNeg i3)) 13 ∧ am_in (am_gi h 104 (Int32.toNatClampNeg i3)) 13 ∧ ∀ h8, h8 = am_sl h 99 (Int32.toNatClampNeg (am_gi h 104 (Int32.toNatClampNeg i3))) ((am_gl h 99 (Int32.toNatClampNeg (am_gi h 104 (Int32.toNatClampNeg i3)))) + l1) → am_in i3 13 ∧ am_in i3 13 ∧ ∀ h11, h11 = am_sl h8 100 (Int32.toNatClampNeg i3) ((am_gl h8 100 (Int32.toNatClampNeg i3)) - l1) → Ev d 9 2 [.ref 80, .long l1, .null, .int (i3 + (1 : Int32))] [] h11 Q))) : Ev d 9 2 [.ref 80, .long l1, .null, .int i3] [] h Q := by
  refine ev_p (pc' := 4) (loc' := [.ref 80, .long l1, .null, .int i3]) (st' := [.ref 80, .int i3]) 2 am_q9 rfl ?_
  refine ev_s (pc' := 7) (loc' := [.ref 80, .long l1, .null, .int i3]) (st' := [.int (am_gi h 80 11), .int i3]) (h1 := h) am_q9 rfl rfl rfl (if_pos (e := none) (lk80 Ly)) ?_
  refine ev_jc (t := 63) am_q9 rfl rfl (fun hq => ?_) (fun hq => ?_)
  · replace H := H.1 hq
    exact ev_r (v := none) am_q9 rfl rfl rfl rfl H
  · replace H := H.2 hq
    refine ev_p (pc' := 11) (loc' := [.ref 80, .long l1, .null, .int i3]) (st' := [.ref 80]) 1 am_q9 rfl ?_
    refine ev_s (pc' := 14) (loc' := [.ref 80, .long l1, .null, .int i3]) (st' := [.ref 103]) (h1 := h) am_q9 rfl rfl rfl (am_gf2 (lk80 Ly) (lr80_9 Ly)) ?_
    refine ev_p (pc' := 15) (loc' := [.ref 80, .long l1, .null, .int i3]) (st' := [.int i3, .ref 103]) 1 am_q9 rfl ?_
    obtain ⟨g1, H⟩ := H
    refine ev_s (pc' := 16) (loc' := [.ref 80, .long l1, .null, .int i3]) (st' := [.int (am_gi h 103 (Int32.toNatClampNeg i3))]) (h1 := h) am_q9 rfl rfl rfl (am_xx (Or.inr (lk103 Ly)) (am_inl (ln103 Ly) g1)) ?_
    refine ev_jz (t := 47) am_q9 rfl rfl (fun hq => ?_) (fun hq => ?_)
    · replace H := H.1 hq
      refine ev_p (pc' := 48) (loc' := [.ref 80, .long l1, .null, .int i3]) (st' := [.ref 80]) 1 am_q9 rfl ?_
      refine ev_s (pc' := 51) (loc' := [.ref 80, .long l1, .null, .int i3]) (st' := [.ref 101]) (h1 := h) am_q9 rfl rfl rfl (am_gf2 (lk80 Ly) (lr80_7 Ly)) ?_
      refine ev_p (pc' := 53) (loc' := [.ref 80, .long l1, .null, .int i3]) (st' := [.int i3, .ref 101, .int i3, .ref 101]) 2 am_q9 rfl ?_
      obtain ⟨g2, H⟩ := H
      refine ev_s (pc' := 54) (loc' := [.ref 80, .long l1, .null, .int i3]) (st' := [.long (am_gl h 101 (Int32.toNatClampNeg i3)), .int i3, .ref 101]) (h1 := h) am_q9 rfl rfl rfl (am_xx (lk101 Ly) (am_inl (ln101 Ly) g2)) ?_
      refine ev_p (pc' := 56) (loc' := [.ref 80, .long l1, .null, .int i3]) (st' := [.long ((am_gl h 101 (Int32.toNatClampNeg i3)) - l1), .int i3, .ref 101]) 2 am_q9 rfl ?_
      obtain ⟨g3, H⟩ := H
      refine ev_s (pc' := 57) (loc' := [.ref 80, .long l1, .null, .int i3]) (st' := []) (h1 := am_sl h 101 (Int32.toNatClampNeg i3) ((am_gl h 101 (Int32.toNatClampNeg i3)) - l1)) am_q9 rfl rfl rfl (am_xx (lk101 Ly) (am_inl (ln101 Ly) g3)) ?_
      replace H := H _ rfl
      replace Ly : Lay (am_sl h 101 (Int32.toNatClampNeg i3) ((am_gl h 101 (Int32.toNatClampNeg i3)) - l1)) := Ly.sl _ _ _
      generalize am_sl h 101 (Int32.toNatClampNeg i3) ((am_gl h 101 (Int32.toNatClampNeg i3)) - l1) = h4 at H Ly ⊢
      refine ev_p (pc' := 2) (loc' := [.ref 80, .long l1, .null, .int (i3 + (1 : Int32))]) (st' := []) 2 am_q9 rfl ?_
      exact ev_m (loc' := [.ref 80, .long l1, .null, .int (i3 + (1 : Int32))]) am_q9 rfl rfl H
    · replace H := H.2 hq
      refine ev_p (pc' := 20) (loc' := [.ref 80, .long l1, .null, .int i3]) (st' := [.ref 80]) 1 am_q9 rfl ?_
      refine ev_s (pc' := 23) (loc' := [.ref 80, .long l1, .null, .int i3]) (st' := [.ref 99]) (h1 := h) am_q9 rfl rfl rfl (am_gf2 (lk80 Ly) (lr80_5 Ly)) ?_
      refine ev_p (pc' := 24) (loc' := [.ref 80, .long l1, .null, .int i3]) (st' := [.ref 80, .ref 99]) 1 am_q9 rfl ?_
      refine ev_s (pc' := 27) (loc' := [.ref 80, .long l1, .null, .int i3]) (st' := [.ref 104, .ref 99]) (h1 := h) am_q9 rfl rfl rfl (am_gf2 (lk80 Ly) (lr80_10 Ly)) ?_
      refine ev_p (pc' := 28) (loc' := [.ref 80, .long l1, .null, .int i3]) (st' := [.int i3, .ref 104, .ref 99]) 1 am_q9 rfl ?_
      obtain ⟨g5, H⟩ := H
      refine ev_s (pc' := 29) (loc' := [.ref 80, .long l1, .null, .int i3]) (st' := [.int (am_gi h 104 (Int32.toNatClampNeg i3)), .ref 99]) (h1 := h) am_q9 rfl rfl rfl (am_xx (lk104 Ly) (am_inl (ln104 Ly) g5)) ?_
      refine ev_p (pc' := 30) (loc' := [.ref 80, .long l1, .null, .int i3]) (st' := [.int (am_gi h 104 (Int32.toNatClampNeg i3)), .ref 99, .int (am_gi h 104 (Int32.toNatClampNeg i3)), .ref 99]) 1 am_q9 rfl ?_
      obtain ⟨g6, H⟩ := H
      refine ev_s (pc' := 31) (loc' := [.ref 80, .long l1, .null, .int i3]) (st' := [.long (am_gl h 99 (Int32.toNatClampNeg (am_gi h 104 (Int32.toNatClampNeg i3)))), .int (am_gi h 104 (Int32.toNatClampNeg i3)), .ref 99]) (h1 := h) am_q9 rfl rfl rfl (am_xx (lk99 Ly) (am_inl (ln99 Ly) g6)) ?_
      refine ev_p (pc' := 33) (loc' := [.ref 80, .long l1, .null, .int i3]) (st' := [.long ((am_gl h 99 (Int32.toNatClampNeg (am_gi h 104 (Int32.toNatClampNeg i3)))) + l1), .int (am_gi h 104 (Int32.toNatClampNeg i3)), .ref 99]) 2 am_q9 rfl ?_
      obtain ⟨g7, H⟩ := H
      refine ev_s (pc' := 34) (loc' := [.ref 80, .long l1, .null, .int i3]) (st' := []) (h1 := am_sl h 99 (Int32.toNatClampNeg (am_gi h 104 (Int32.toNatClampNeg i3))) ((am_gl h 99 (Int32.toNatClampNeg (am_gi h 104 (Int32.toNatClampNeg i3)))) + l1)) am_q9 rfl rfl rfl (am_xx (lk99 Ly) (am_inl (ln99 Ly) g7)) ?_
      replace H := H _ rfl
      replace Ly : Lay (am_sl h 99 (Int32.toNatClampNeg (am_gi h 104 (Int32.toNatClampNeg i3))) ((am_gl h 99 (Int32.toNatClampNeg (am_gi h 104 (Int32.toNatClampNeg i3)))) + l1)) := Ly.sl _ _ _
      generalize am_sl h 99 (Int32.toNatClampNeg (am_gi h 104 (Int32.toNatClampNeg i3))) ((am_gl h 99 (Int32.toNatClampNeg (am_gi h 104 (Int32.toNatClampNeg i3)))) + l1) = h8 at H Ly ⊢
      refine ev_p (pc' := 35) (loc' := [.ref 80, .long l1, .null, .int i3]) (st' := [.ref 80]) 1 am_q9 rfl ?_
      refine ev_s (pc' := 38) (loc' := [.ref 80, .long l1, .null, .int i3]) (st' := [.ref 100]) (h1 := h8) am_q9 rfl rfl rfl (am_gf2 (lk80 Ly) (lr80_6 Ly)) ?_
      refine ev_p (pc' := 40) (loc' := [.ref 80, .long l1, .null, .int i3]) (st' := [.int i3, .ref 100, .int i3, .ref 100]) 2 am_q9 rfl ?_
      obtain ⟨g9, H⟩ := H
      refine ev_s (pc' := 41) (loc' := [.ref 80, .long l1, .null, .int i3]) (st' := [.long (am_gl h8 100 (Int32.toNatClampNeg i3)), .int i3, .ref 100]) (h1 := h8) am_q9 rfl rfl rfl (am_xx (lk100 Ly) (am_inl (ln100 Ly) g9)) ?_
      refine ev_p (pc' := 43) (loc' := [.ref 80, .long l1, .null, .int i3]) (st' := [.long ((am_gl h8 100 (Int32.toNatClampNeg i3)) - l1), .int i3, .ref 100]) 2 am_q9 rfl ?_
      obtain ⟨g10, H⟩ := H
      refine ev_s (pc' := 44) (loc' := [.ref 80, .long l1, .null, .int i3]) (st' := []) (h1 := am_sl h8 100 (Int32.toNatClampNeg i3) ((am_gl h8 100 (Int32.toNatClampNeg i3)) - l1)) am_q9 rfl rfl rfl (am_xx (lk100 Ly) (am_inl (ln100 Ly) g10)) ?_
      replace H := H _ rfl
      replace Ly : Lay (am_sl h8 100 (Int32.toNatClampNeg i3) ((am_gl h8 100 (Int32.toNatClampNeg i3)) - l1)) := Ly.sl _ _ _
      generalize am_sl h8 100 (Int32.toNatClampNeg i3) ((am_gl h8 100 (Int32.toNatClampNeg i3)) - l1) = h11 at H Ly ⊢
      refine ev_p (pc' := 2) (loc' := [.ref 80, .long l1, .null, .int (i3 + (1 : Int32))]) (st' := []) 3 am_q9 rfl ?_
      exact ev_m (loc' := [.ref 80, .long l1, .null, .int (i3 + (1 : Int32))]) am_q9 rfl rfl H
/-! 10: X0_readGoals -/
set_option maxRecDepth 20000 in
set_option maxHeartbeats 2000000 in
theorem ws10 {d : Nat}   {h : AH} {Q : Option Value → AH → Prop} (Ly : Lay h) (H : Ev d 10 2 [.ref 80, .int (0 : Int32), .null, .null] [] h Q) : Cl d 10 [.ref 80] h Q := by
  show Ev d 10 0 [.ref 80, .null, .null, .null] [] h Q
  refine ev_p (pc' := 2) (loc' := [.ref 80, .int (0 : Int32), .null, .null]) (st' := []) 2 am_q10 rfl ?_
  exact ev_m (loc' := [.ref 80, .int (0 : Int32), .null, .null]) am_q10 rfl rfl H
set_option maxRecDepth 20000 in
set_option maxHeartbeats 2000000 in
theorem ws10_2 {d : Nat}  (i1 : Int32) {h : AH} {Q : Option Value → AH → Prop} (Ly : Lay h) (H : ((24 : Int32) ≤ i1 → Ev d 10 25 [.ref 80, .int (0 : Int32), .int (1 : Int32), .null] [] h Q) ∧ (¬ (24 : Int32) ≤ i1 → am_in i1 24 ∧ ∀ h2, h2 = am_si h 81 (Int32.toNatClampNeg i1) (-1 : Int32) → Ev d 10 2 [.ref 80, .int (i1 + (1 : Int32)), .null, .null] [] h2 Q)) : Ev d 10 2 [.ref 80, .int i1, .null, .null] [] h Q := by
  refine ev_p (pc' := 5) (loc' := [.ref 80, .int i1, .null, .null]) (st' := [.int (24 : Int32), .int i1]) 2 am_q10 rfl ?_
  refine ev_jc (t := 21) am_q10 rfl rfl (fun hq => ?_) (fun hq => ?_)
  · replace H := H.1 hq
    refine ev_p (pc' := 25) (loc' := [.ref 80, .int (0 : Int32), .int (1 : Int32), .null]) (st' := []) 4 am_q10 rfl ?_
    exact ev_m (loc' := [.ref 80, .int (0 : Int32), .int (1 : Int32), .null]) am_q10 rfl rfl H
  · replace H := H.2 hq
    refine ev_p (pc' := 9) (loc' := [.ref 80, .int i1, .null, .null]) (st' := [.ref 80]) 1 am_q10 rfl ?_
    refine ev_s (pc' := 12) (loc' := [.ref 80, .int i1, .null, .null]) (st' := [.ref 81]) (h1 := h) am_q10 rfl rfl rfl (am_gf2 (lk80 Ly) (lr80_0 Ly)) ?_
    refine ev_p (pc' := 14) (loc' := [.ref 80, .int i1, .null, .null]) (st' := [.int (-1 : Int32), .int i1, .ref 81]) 2 am_q10 rfl ?_
    obtain ⟨g1, H⟩ := H
    refine ev_s (pc' := 15) (loc' := [.ref 80, .int i1, .null, .null]) (st' := []) (h1 := am_si h 81 (Int32.toNatClampNeg i1) (-1 : Int32)) am_q10 rfl rfl rfl (am_xx ⟨lk81 Ly, (Nat.le_of_ble_eq_true rfl)⟩ (am_inl (ln81 Ly) g1)) ?_
    replace H := H _ rfl
    replace Ly : Lay (am_si h 81 (Int32.toNatClampNeg i1) (-1 : Int32)) := Ly.si _ _ _
    generalize am_si h 81 (Int32.toNatClampNeg i1) (-1 : Int32) = h2 at H Ly ⊢
    refine ev_p (pc' := 2) (loc' := [.ref 80, .int (i1 + (1 : Int32)), .null, .null]) (st' := []) 2 am_q10 rfl ?_
    exact ev_m (loc' := [.ref 80, .int (i1 + (1 : Int32)), .null, .null]) am_q10 rfl rfl H
set_option maxRecDepth 20000 in
set_option maxHeartbeats 2000000 in
theorem ws10_25 {d : Nat}  (i1 : Int32) (i2 : Int32) {h : AH} {Q : Option Value → AH → Prop} (Ly : Lay h) (H : ((am_gi h 80 11) < i2 → Q (some (.int i1)) h) ∧ (¬ (am_gi h 80 11) < i2 → am_in i2 13 ∧ ((am_gi h 104 (Int32.toNatClampNeg i2)) = (0 : Int32) → Ev d 10 25 [.ref 80, .int i1, .int (i2 + (1 : Int32)), .null] [] h Q) ∧ (¬ (am_gi h 104 (Int32.toNatClampNeg i2)) = (0 : Int32) → am_in (am_gi h 104 (Int32.toNatClampNeg i2)) 13 ∧ ((am_gi h 83 (Int32.toNatClampNeg (am_gi h 104 (Int32.toNatClampNeg i2)))) = (i2 - (1 : Int32)) → Ev d 10 25 [.ref 80, .int i1, .int (i2 + (1 : Int32)), .null] [] h Q) ∧ (¬ (am_gi h 83 (Int32.toNatClampNeg (am_gi h 104 (Int32.toNatClampNeg i2)))) = (i2 - (1 : Int32)) → am_in (am_gi h 104 (Int32.toNatClampNeg i2)) 13 ∧ am_in (am_gi h 82 (Int32.toNatClampNeg (am_gi h 104 (Int32.toNatClampNeg i2)))) 24 ∧ ∀ h5, h5 = am_si h 81 (Int32.toNatClampNeg (am_gi h 82 (Int32.toNatClampNeg (am_gi h 104 (Int32.toNatClampNeg i2))))) (i2 - (1 : Int32)) → Ev d 10 25 [.ref 80, .int (i1 + (1 : Int32)), .int (i2 + (1 : Int32)), .null] [] h5 Q)))) : Ev d 10 25 [.ref 80, .int i1, .int i2, .null] [] h Q := by
  refine ev_p (pc' := 27) (loc' := [.ref 80, .int i1, .int i2, .null]) (st' := [.ref 80, .int i2]) 2 am_q10 rfl ?_
  refine ev_s (pc' := 30) (loc' := [.ref 80, .int i1, .int i2, .null]) (st' := [.int (am_gi h 80 11), .int i2]) (h1 := h) am_q10 rfl rfl rfl (if_pos (e := none) (lk80 Ly)) ?_
  refine ev_jc (t := 79) am_q10 rfl rfl (fun hq => ?_) (fun hq => ?_)
  · replace H := H.1 hq
    refine ev_p (pc' := 80) (loc' := [.ref 80, .int i1, .int i2, .null]) (st' := [.int i1]) 1 am_q10 rfl ?_
    exact ev_r (v := some (.int i1)) am_q10 rfl rfl rfl rfl H
  · replace H := H.2 hq
    refine ev_p (pc' := 34) (loc' := [.ref 80, .int i1, .int i2, .null]) (st' := [.ref 80]) 1 am_q10 rfl ?_
    refine ev_s (pc' := 37) (loc' := [.ref 80, .int i1, .int i2, .null]) (st' := [.ref 104]) (h1 := h) am_q10 rfl rfl rfl (am_gf2 (lk80 Ly) (lr80_10 Ly)) ?_
    refine ev_p (pc' := 38) (loc' := [.ref 80, .int i1, .int i2, .null]) (st' := [.int i2, .ref 104]) 1 am_q10 rfl ?_
    obtain ⟨g1, H⟩ := H
    refine ev_s (pc' := 39) (loc' := [.ref 80, .int i1, .int i2, .null]) (st' := [.int (am_gi h 104 (Int32.toNatClampNeg i2))]) (h1 := h) am_q10 rfl rfl rfl (am_xx (lk104 Ly) (am_inl (ln104 Ly) g1)) ?_
    refine ev_p (pc' := 41) (loc' := [.ref 80, .int i1, .int i2, .int (am_gi h 104 (Int32.toNatClampNeg i2))]) (st' := [.int (am_gi h 104 (Int32.toNatClampNeg i2))]) 2 am_q10 rfl ?_
    refine ev_jz (t := 73) am_q10 rfl rfl (fun hq => ?_) (fun hq => ?_)
    · replace H := H.1 hq
      refine ev_p (pc' := 25) (loc' := [.ref 80, .int i1, .int (i2 + (1 : Int32)), .null]) (st' := []) 2 am_q10 rfl ?_
      exact ev_m (loc' := [.ref 80, .int i1, .int (i2 + (1 : Int32)), .null]) am_q10 rfl rfl H
    · replace H := H.2 hq
      refine ev_p (pc' := 45) (loc' := [.ref 80, .int i1, .int i2, .int (am_gi h 104 (Int32.toNatClampNeg i2))]) (st' := [.ref 80]) 1 am_q10 rfl ?_
      refine ev_s (pc' := 48) (loc' := [.ref 80, .int i1, .int i2, .int (am_gi h 104 (Int32.toNatClampNeg i2))]) (st' := [.ref 83]) (h1 := h) am_q10 rfl rfl rfl (am_gf2 (lk80 Ly) (lr80_2 Ly)) ?_
      refine ev_p (pc' := 49) (loc' := [.ref 80, .int i1, .int i2, .int (am_gi h 104 (Int32.toNatClampNeg i2))]) (st' := [.int (am_gi h 104 (Int32.toNatClampNeg i2)), .ref 83]) 1 am_q10 rfl ?_
      obtain ⟨g2, H⟩ := H
      refine ev_s (pc' := 50) (loc' := [.ref 80, .int i1, .int i2, .int (am_gi h 104 (Int32.toNatClampNeg i2))]) (st' := [.int (am_gi h 83 (Int32.toNatClampNeg (am_gi h 104 (Int32.toNatClampNeg i2))))]) (h1 := h) am_q10 rfl rfl rfl (am_xx (lk83 Ly) (am_inl (ln83 Ly) g2)) ?_
      refine ev_p (pc' := 53) (loc' := [.ref 80, .int i1, .int i2, .int (am_gi h 104 (Int32.toNatClampNeg i2))]) (st' := [.int (i2 - (1 : Int32)), .int (am_gi h 83 (Int32.toNatClampNeg (am_gi h 104 (Int32.toNatClampNeg i2))))]) 3 am_q10 rfl ?_
      refine ev_jc (t := 73) am_q10 rfl rfl (fun hq => ?_) (fun hq => ?_)
      · replace H := H.1 hq
        refine ev_p (pc' := 25) (loc' := [.ref 80, .int i1, .int (i2 + (1 : Int32)), .null]) (st' := []) 2 am_q10 rfl ?_
        exact ev_m (loc' := [.ref 80, .int i1, .int (i2 + (1 : Int32)), .null]) am_q10 rfl rfl H
      · replace H := H.2 hq
        refine ev_p (pc' := 57) (loc' := [.ref 80, .int i1, .int i2, .int (am_gi h 104 (Int32.toNatClampNeg i2))]) (st' := [.ref 80]) 1 am_q10 rfl ?_
        refine ev_s (pc' := 60) (loc' := [.ref 80, .int i1, .int i2, .int (am_gi h 104 (Int32.toNatClampNeg i2))]) (st' := [.ref 81]) (h1 := h) am_q10 rfl rfl rfl (am_gf2 (lk80 Ly) (lr80_0 Ly)) ?_
        refine ev_p (pc' := 61) (loc' := [.ref 80, .int i1, .int i2, .int (am_gi h 104 (Int32.toNatClampNeg i2))]) (st' := [.ref 80, .ref 81]) 1 am_q10 rfl ?_
        refine ev_s (pc' := 64) (loc' := [.ref 80, .int i1, .int i2, .int (am_gi h 104 (Int32.toNatClampNeg i2))]) (st' := [.ref 82, .ref 81]) (h1 := h) am_q10 rfl rfl rfl (am_gf2 (lk80 Ly) (lr80_1 Ly)) ?_
        refine ev_p (pc' := 65) (loc' := [.ref 80, .int i1, .int i2, .int (am_gi h 104 (Int32.toNatClampNeg i2))]) (st' := [.int (am_gi h 104 (Int32.toNatClampNeg i2)), .ref 82, .ref 81]) 1 am_q10 rfl ?_
        obtain ⟨g3, H⟩ := H
        refine ev_s (pc' := 66) (loc' := [.ref 80, .int i1, .int i2, .int (am_gi h 104 (Int32.toNatClampNeg i2))]) (st' := [.int (am_gi h 82 (Int32.toNatClampNeg (am_gi h 104 (Int32.toNatClampNeg i2)))), .ref 81]) (h1 := h) am_q10 rfl rfl rfl (am_xx (lk82 Ly) (am_inl (ln82 Ly) g3)) ?_
        refine ev_p (pc' := 69) (loc' := [.ref 80, .int i1, .int i2, .int (am_gi h 104 (Int32.toNatClampNeg i2))]) (st' := [.int (i2 - (1 : Int32)), .int (am_gi h 82 (Int32.toNatClampNeg (am_gi h 104 (Int32.toNatClampNeg i2)))), .ref 81]) 3 am_q10 rfl ?_
        obtain ⟨g4, H⟩ := H
        refine ev_s (pc' := 70) (loc' := [.ref 80, .int i1, .int i2, .int (am_gi h 104 (Int32.toNatClampNeg i2))]) (st' := []) (h1 := am_si h 81 (Int32.toNatClampNeg (am_gi h 82 (Int32.toNatClampNeg (am_gi h 104 (Int32.toNatClampNeg i2))))) (i2 - (1 : Int32))) am_q10 rfl rfl rfl (am_xx ⟨lk81 Ly, (Nat.le_of_ble_eq_true rfl)⟩ (am_inl (ln81 Ly) g4)) ?_
        replace H := H _ rfl
        replace Ly : Lay (am_si h 81 (Int32.toNatClampNeg (am_gi h 82 (Int32.toNatClampNeg (am_gi h 104 (Int32.toNatClampNeg i2))))) (i2 - (1 : Int32))) := Ly.si _ _ _
        generalize am_si h 81 (Int32.toNatClampNeg (am_gi h 82 (Int32.toNatClampNeg (am_gi h 104 (Int32.toNatClampNeg i2))))) (i2 - (1 : Int32)) = h5 at H Ly ⊢
        refine ev_p (pc' := 25) (loc' := [.ref 80, .int (i1 + (1 : Int32)), .int (i2 + (1 : Int32)), .null]) (st' := []) 3 am_q10 rfl ?_
        exact ev_m (loc' := [.ref 80, .int (i1 + (1 : Int32)), .int (i2 + (1 : Int32)), .null]) am_q10 rfl rfl H
/-! 12: X1_hasYear -/
set_option maxRecDepth 20000 in
set_option maxHeartbeats 2000000 in
theorem ws12 {d : Nat}  (i1 : Int32) {h : AH} {Q : Option Value → AH → Prop} (Ly : Lay h) (H : (i1 < (0 : Int32) → Q (some (.int (0 : Int32))) h) ∧ (¬ i1 < (0 : Int32) → ((40 : Int32) ≤ i1 → Q (some (.int (0 : Int32))) h) ∧ (¬ (40 : Int32) ≤ i1 → Q (some (.int (1 : Int32))) h))) : Cl d 12 [.ref 109, .int i1] h Q := by
  show Ev d 12 0 [.ref 109, .int i1] [] h Q
  refine ev_p (pc' := 1) (loc' := [.ref 109, .int i1]) (st' := [.int i1]) 1 am_q12 rfl ?_
  refine ev_jz (t := 14) am_q12 rfl rfl (fun hq => ?_) (fun hq => ?_)
  · replace H := H.1 hq
    refine ev_p (pc' := 15) (loc' := [.null, .null]) (st' := [.int (0 : Int32)]) 1 am_q12 rfl ?_
    exact ev_r (v := some (.int (0 : Int32))) am_q12 rfl rfl rfl rfl H
  · replace H := H.2 hq
    refine ev_p (pc' := 7) (loc' := [.ref 109, .int i1]) (st' := [.int (40 : Int32), .int i1]) 2 am_q12 rfl ?_
    refine ev_jc (t := 14) am_q12 rfl rfl (fun hq => ?_) (fun hq => ?_)
    · replace H := H.1 hq
      refine ev_p (pc' := 15) (loc' := [.null, .null]) (st' := [.int (0 : Int32)]) 1 am_q12 rfl ?_
      exact ev_r (v := some (.int (0 : Int32))) am_q12 rfl rfl rfl rfl H
    · replace H := H.2 hq
      refine ev_p (pc' := 15) (loc' := [.ref 109, .int i1]) (st' := [.int (1 : Int32)]) 2 am_q12 rfl ?_
      exact ev_r (v := some (.int (1 : Int32))) am_q12 rfl rfl rfl rfl H
/-! 13: X1_behindYear -/
set_option maxRecDepth 20000 in
set_option maxHeartbeats 2000000 in
theorem ws13 {d : Nat}  (i1 : Int32) (l2 : Int64) {h : AH} {Q : Option Value → AH → Prop} (Ly : Lay h) (H : Ev (d + 1) 13 6 [.ref 109, .int i1, .long l2, .null, .long (0 : Int64), .null, .int (0 : Int32)] [] h Q) : Cl (d + 1) 13 [.ref 109, .int i1, .long l2] h Q := by
  show Ev (d + 1) 13 0 [.ref 109, .int i1, .long l2, .null, .null, .null, .null] [] h Q
  refine ev_p (pc' := 6) (loc' := [.ref 109, .int i1, .long l2, .null, .long (0 : Int64), .null, .int (0 : Int32)]) (st' := []) 4 am_q13 rfl ?_
  exact ev_m (loc' := [.ref 109, .int i1, .long l2, .null, .long (0 : Int64), .null, .int (0 : Int32)]) am_q13 rfl rfl H
set_option maxRecDepth 20000 in
set_option maxHeartbeats 2000000 in
theorem ws13_6 {d : Nat}  (i1 : Int32) (l2 : Int64) (l4 : Int64) (i6 : Int32) {h : AH} {Q : Option Value → AH → Prop} (Ly : Lay h) (H : (i1 < i6 → Q (some (.long l4)) h) ∧ (¬ i1 < i6 → ((40 : Int32) ≤ i6 → Q (some (.long l4)) h) ∧ (¬ (40 : Int32) ≤ i6 → Cl d 16 [.ref 109, .long l4, .int i6, .long l2] h (fun r2 h1 => ∃ y3, r2 = some (.long y3) ∧ Lay h1 ∧ Ev (d + 1) 13 6 [.ref 109, .int i1, .long l2, .null, .long y3, .null, .int (i6 + (1 : Int32))] [] h1 Q)))) : Ev (d + 1) 13 6 [.ref 109, .int i1, .long l2, .null, .long l4, .null, .int i6] [] h Q := by
  refine ev_p (pc' := 9) (loc' := [.ref 109, .int i1, .long l2, .null, .long l4, .null, .int i6]) (st' := [.int i1, .int i6]) 2 am_q13 rfl ?_
  refine ev_jc (t := 36) am_q13 rfl rfl (fun hq => ?_) (fun hq => ?_)
  · replace H := H.1 hq
    refine ev_p (pc' := 38) (loc' := [.null, .null, .null, .null, .long l4, .null, .null]) (st' := [.long l4]) 1 am_q13 rfl ?_
    exact ev_r (v := some (.long l4)) am_q13 rfl rfl rfl rfl H
  · replace H := H.2 hq
    refine ev_p (pc' := 16) (loc' := [.ref 109, .int i1, .long l2, .null, .long l4, .null, .int i6]) (st' := [.int (40 : Int32), .int i6]) 2 am_q13 rfl ?_
    refine ev_jc (t := 36) am_q13 rfl rfl (fun hq => ?_) (fun hq => ?_)
    · replace H := H.1 hq
      refine ev_p (pc' := 38) (loc' := [.null, .null, .null, .null, .long l4, .null, .null]) (st' := [.long l4]) 1 am_q13 rfl ?_
      exact ev_r (v := some (.long l4)) am_q13 rfl rfl rfl rfl H
    · replace H := H.2 hq
      refine ev_p (pc' := 25) (loc' := [.ref 109, .int i1, .long l2, .null, .long l4, .null, .int i6]) (st' := [.long l2, .int i6, .long l4, .ref 109]) 4 am_q13 rfl ?_
      refine ev_c (vs := [.ref 109, .long l4, .int i6, .long l2]) (rest := []) 16 am_q13 rfl rfl rfl rfl rfl rfl rfl rfl rfl rfl rfl rfl (Or.inr (congrArg some (lk109 Ly))) (Cl.mono H (Nat.le_refl _) (fun r2 h1 H => ?_))
      obtain ⟨y3, rfl, Ly, H⟩ := H
      refine ev_p (pc' := 6) (loc' := [.ref 109, .int i1, .long l2, .null, .long y3, .null, .int (i6 + (1 : Int32))]) (st' := []) 3 am_q13 rfl ?_
      exact ev_m (loc' := [.ref 109, .int i1, .long l2, .null, .long y3, .null, .int (i6 + (1 : Int32))]) am_q13 rfl rfl H
/-! 14: X1_leastDue -/
set_option maxRecDepth 20000 in
set_option maxHeartbeats 2000000 in
theorem ws14 {d : Nat}   {h : AH} {Q : Option Value → AH → Prop} (Ly : Lay h) (H : Ev (d + 1) 14 7 [.ref 109, .int (0 : Int32), .int (1000000 : Int32), .int (0 : Int32), .null] [] h Q) : Cl (d + 1) 14 [.ref 109] h Q := by
  show Ev (d + 1) 14 0 [.ref 109, .null, .null, .null, .null] [] h Q
  refine ev_p (pc' := 7) (loc' := [.ref 109, .int (0 : Int32), .int (1000000 : Int32), .int (0 : Int32), .null]) (st' := []) 6 am_q14 rfl ?_
  exact ev_m (loc' := [.ref 109, .int (0 : Int32), .int (1000000 : Int32), .int (0 : Int32), .null]) am_q14 rfl rfl H
set_option maxRecDepth 20000 in
set_option maxHeartbeats 2000000 in
theorem ws14_7 {d : Nat}  (i1 : Int32) (i2 : Int32) (i3 : Int32) {h : AH} {Q : Option Value → AH → Prop} (Ly : Lay h) (H : ((32 : Int32) ≤ i3 → Q (some (.int i1)) h) ∧ (¬ (32 : Int32) ≤ i3 → (i2 ≤ i1 → Q (some (.int i1)) h) ∧ (¬ i2 ≤ i1 → ¬ (2 : Int32) = (0 : Int32) ∧ Cl d 15 [.ref 109, .int ((i1 + i2) / (2 : Int32))] h (fun r3 h2 => ∃ x4, r3 = some (.int x4) ∧ Lay h2 ∧ (x4 = (0 : Int32) → Ev (d + 1) 14 7 [.ref 109, .int (((i1 + i2) / (2 : Int32)) + (1 : Int32)), .int i2, .int (i3 + (1 : Int32)), .null] [] h2 Q) ∧ (¬ x4 = (0 : Int32) → Ev (d + 1) 14 7 [.ref 109, .int i1, .int ((i1 + i2) / (2 : Int32)), .int (i3 + (1 : Int32)), .null] [] h2 Q))))) : Ev (d + 1) 14 7 [.ref 109, .int i1, .int i2, .int i3, .null] [] h Q := by
  refine ev_p (pc' := 10) (loc' := [.ref 109, .int i1, .int i2, .int i3, .null]) (st' := [.int (32 : Int32), .int i3]) 2 am_q14 rfl ?_
  refine ev_jc (t := 51) am_q14 rfl rfl (fun hq => ?_) (fun hq => ?_)
  · replace H := H.1 hq
    refine ev_p (pc' := 52) (loc' := [.null, .int i1, .null, .null, .null]) (st' := [.int i1]) 1 am_q14 rfl ?_
    exact ev_r (v := some (.int i1)) am_q14 rfl rfl rfl rfl H
  · replace H := H.2 hq
    refine ev_p (pc' := 15) (loc' := [.ref 109, .int i1, .int i2, .int i3, .null]) (st' := [.int i2, .int i1]) 2 am_q14 rfl ?_
    refine ev_jc (t := 51) am_q14 rfl rfl (fun hq => ?_) (fun hq => ?_)
    · replace H := H.1 hq
      refine ev_p (pc' := 52) (loc' := [.null, .int i1, .null, .null, .null]) (st' := [.int i1]) 1 am_q14 rfl ?_
      exact ev_r (v := some (.int i1)) am_q14 rfl rfl rfl rfl H
    · replace H := H.2 hq
      refine ev_p (pc' := 22) (loc' := [.ref 109, .int i1, .int i2, .int i3, .null]) (st' := [.int (2 : Int32), .int (i1 + i2)]) 4 am_q14 rfl ?_
      obtain ⟨g1, H⟩ := H
      refine ev_s (pc' := 23) (loc' := [.ref 109, .int i1, .int i2, .int i3, .null]) (st' := [.int ((i1 + i2) / (2 : Int32))]) (h1 := h) am_q14 rfl rfl rfl (if_neg (t := none) g1) ?_
      refine ev_p (pc' := 28) (loc' := [.ref 109, .int i1, .int i2, .int i3, .int ((i1 + i2) / (2 : Int32))]) (st' := [.int ((i1 + i2) / (2 : Int32)), .ref 109]) 3 am_q14 rfl ?_
      refine ev_c (vs := [.ref 109, .int ((i1 + i2) / (2 : Int32))]) (rest := []) 15 am_q14 rfl rfl rfl rfl rfl rfl rfl rfl rfl rfl rfl rfl (Or.inr (congrArg some (lk109 Ly))) (Cl.mono H (Nat.le_refl _) (fun r3 h2 H => ?_))
      obtain ⟨x4, rfl, Ly, H⟩ := H
      refine ev_jz (t := 40) am_q14 rfl rfl (fun hq => ?_) (fun hq => ?_)
      · replace H := H.1 hq
        refine ev_p (pc' := 7) (loc' := [.ref 109, .int (((i1 + i2) / (2 : Int32)) + (1 : Int32)), .int i2, .int (i3 + (1 : Int32)), .null]) (st' := []) 6 am_q14 rfl ?_
        exact ev_m (loc' := [.ref 109, .int (((i1 + i2) / (2 : Int32)) + (1 : Int32)), .int i2, .int (i3 + (1 : Int32)), .null]) am_q14 rfl rfl H
      · replace H := H.2 hq
        refine ev_p (pc' := 7) (loc' := [.ref 109, .int i1, .int ((i1 + i2) / (2 : Int32)), .int (i3 + (1 : Int32)), .null]) (st' := []) 5 am_q14 rfl ?_
        exact ev_m (loc' := [.ref 109, .int i1, .int ((i1 + i2) / (2 : Int32)), .int (i3 + (1 : Int32)), .null]) am_q14 rfl rfl H
/-! 15: X1_isEnough -/
set_option maxRecDepth 20000 in
set_option maxHeartbeats 2000000 in
theorem ws15 {d : Nat}  (i1 : Int32) {h : AH} {Q : Option Value → AH → Prop} (Ly : Lay h) (H : Ev (d + 1) 15 5 [.ref 109, .int i1, .long (0 : Int64), .null, .int (0 : Int32)] [] h Q) : Cl (d + 1) 15 [.ref 109, .int i1] h Q := by
  show Ev (d + 1) 15 0 [.ref 109, .int i1, .null, .null, .null] [] h Q
  refine ev_p (pc' := 5) (loc' := [.ref 109, .int i1, .long (0 : Int64), .null, .int (0 : Int32)]) (st' := []) 4 am_q15 rfl ?_
  exact ev_m (loc' := [.ref 109, .int i1, .long (0 : Int64), .null, .int (0 : Int32)]) am_q15 rfl rfl H
set_option maxRecDepth 20000 in
set_option maxHeartbeats 2000000 in
theorem ws15_5 {d : Nat}  (i1 : Int32) (l2 : Int64) (i4 : Int32) {h : AH} {Q : Option Value → AH → Prop} (Ly : Lay h) (H : ((40 : Int32) ≤ i4 → Q (some (.int (1 : Int32))) h) ∧ (¬ (40 : Int32) ≤ i4 → Cl d 16 [.ref 109, .long l2, .int i4, .long (Int32.toInt64 i1)] h (fun r2 h1 => ∃ y3, r2 = some (.long y3) ∧ Lay h1 ∧ ((0 : Int32) ≤ (lg_cmp y3 (0 : Int64)) → Ev (d + 1) 15 5 [.ref 109, .int i1, .long y3, .null, .int (i4 + (1 : Int32))] [] h1 Q) ∧ (¬ (0 : Int32) ≤ (lg_cmp y3 (0 : Int64)) → Q (some (.int (0 : Int32))) h1)))) : Ev (d + 1) 15 5 [.ref 109, .int i1, .long l2, .null, .int i4] [] h Q := by
  refine ev_p (pc' := 9) (loc' := [.ref 109, .int i1, .long l2, .null, .int i4]) (st' := [.int (40 : Int32), .int i4]) 2 am_q15 rfl ?_
  refine ev_jc (t := 36) am_q15 rfl rfl (fun hq => ?_) (fun hq => ?_)
  · replace H := H.1 hq
    refine ev_p (pc' := 37) (loc' := [.ref 109, .int i1, .long l2, .null, .int i4]) (st' := [.int (1 : Int32)]) 1 am_q15 rfl ?_
    exact ev_r (v := some (.int (1 : Int32))) am_q15 rfl rfl rfl rfl H
  · replace H := H.2 hq
    refine ev_p (pc' := 18) (loc' := [.ref 109, .int i1, .long l2, .null, .int i4]) (st' := [.long (Int32.toInt64 i1), .int i4, .long l2, .ref 109]) 5 am_q15 rfl ?_
    refine ev_c (vs := [.ref 109, .long l2, .int i4, .long (Int32.toInt64 i1)]) (rest := []) 16 am_q15 rfl rfl rfl rfl rfl rfl rfl rfl rfl rfl rfl rfl (Or.inr (congrArg some (lk109 Ly))) (Cl.mono H (Nat.le_refl _) (fun r2 h1 H => ?_))
    obtain ⟨y3, rfl, Ly, H⟩ := H
    refine ev_p (pc' := 25) (loc' := [.ref 109, .int i1, .long y3, .null, .int i4]) (st' := [.int (lg_cmp y3 (0 : Int64))]) 4 am_q15 rfl ?_
    refine ev_jz (t := 30) am_q15 rfl rfl (fun hq => ?_) (fun hq => ?_)
    · replace H := H.1 hq
      refine ev_p (pc' := 5) (loc' := [.ref 109, .int i1, .long y3, .null, .int (i4 + (1 : Int32))]) (st' := []) 2 am_q15 rfl ?_
      exact ev_m (loc' := [.ref 109, .int i1, .long y3, .null, .int (i4 + (1 : Int32))]) am_q15 rfl rfl H
    · replace H := H.2 hq
      refine ev_p (pc' := 29) (loc' := [.ref 109, .int i1, .long y3, .null, .int i4]) (st' := [.int (0 : Int32)]) 1 am_q15 rfl ?_
      exact ev_r (v := some (.int (0 : Int32))) am_q15 rfl rfl rfl rfl H
/-! 16: X1_behindNext -/
set_option maxRecDepth 20000 in
set_option maxHeartbeats 2000000 in
theorem ws16 {d : Nat}  (l1 : Int64) (i3 : Int32) (l4 : Int64) {h : AH} {Q : Option Value → AH → Prop} (Ly : Lay h) (H : ¬ (1000 : Int64) = (0 : Int64) ∧ am_in i3 40 ∧ Q (some (.long (((l1 + l4) + (((l1 + l4) * (Int32.toInt64 (am_gi h 109 1))) / (1000 : Int64))) - (Int32.toInt64 (am_gi h 110 (Int32.toNatClampNeg i3)))))) h) : Cl d 16 [.ref 109, .long l1, .int i3, .long l4] h Q := by
  show Ev d 16 0 [.ref 109, .long l1, .null, .int i3, .long l4, .null, .null, .null] [] h Q
  refine ev_p (pc' := 11) (loc' := [.ref 109, .long l1, .null, .int i3, .long l4, .null, .long (l1 + l4), .null]) (st' := [.ref 109, .long (l1 + l4), .long (l1 + l4)]) 7 am_q16 rfl ?_
  refine ev_s (pc' := 14) (loc' := [.ref 109, .long l1, .null, .int i3, .long l4, .null, .long (l1 + l4), .null]) (st' := [.int (am_gi h 109 1), .long (l1 + l4), .long (l1 + l4)]) (h1 := h) am_q16 rfl rfl rfl (if_pos (e := none) (lk109 Ly)) ?_
  refine ev_p (pc' := 19) (loc' := [.ref 109, .long l1, .null, .int i3, .long l4, .null, .long (l1 + l4), .null]) (st' := [.long (1000 : Int64), .long ((l1 + l4) * (Int32.toInt64 (am_gi h 109 1))), .long (l1 + l4)]) 3 am_q16 rfl ?_
  obtain ⟨g1, H⟩ := H
  refine ev_s (pc' := 20) (loc' := [.ref 109, .long l1, .null, .int i3, .long l4, .null, .long (l1 + l4), .null]) (st' := [.long (((l1 + l4) * (Int32.toInt64 (am_gi h 109 1))) / (1000 : Int64)), .long (l1 + l4)]) (h1 := h) am_q16 rfl rfl rfl (if_neg (t := none) g1) ?_
  refine ev_p (pc' := 22) (loc' := [.ref 109, .long l1, .null, .int i3, .long l4, .null, .long (l1 + l4), .null]) (st' := [.ref 109, .long ((l1 + l4) + (((l1 + l4) * (Int32.toInt64 (am_gi h 109 1))) / (1000 : Int64)))]) 2 am_q16 rfl ?_
  refine ev_s (pc' := 25) (loc' := [.ref 109, .long l1, .null, .int i3, .long l4, .null, .long (l1 + l4), .null]) (st' := [.ref 110, .long ((l1 + l4) + (((l1 + l4) * (Int32.toInt64 (am_gi h 109 1))) / (1000 : Int64)))]) (h1 := h) am_q16 rfl rfl rfl (am_gf2 (lk109 Ly) (lr109_0 Ly)) ?_
  refine ev_p (pc' := 26) (loc' := [.ref 109, .long l1, .null, .int i3, .long l4, .null, .long (l1 + l4), .null]) (st' := [.int i3, .ref 110, .long ((l1 + l4) + (((l1 + l4) * (Int32.toInt64 (am_gi h 109 1))) / (1000 : Int64)))]) 1 am_q16 rfl ?_
  obtain ⟨g2, H⟩ := H
  refine ev_s (pc' := 27) (loc' := [.ref 109, .long l1, .null, .int i3, .long l4, .null, .long (l1 + l4), .null]) (st' := [.int (am_gi h 110 (Int32.toNatClampNeg i3)), .long ((l1 + l4) + (((l1 + l4) * (Int32.toInt64 (am_gi h 109 1))) / (1000 : Int64)))]) (h1 := h) am_q16 rfl rfl rfl (am_xx (lk110 Ly) (am_inl (ln110 Ly) g2)) ?_
  refine ev_p (pc' := 29) (loc' := [.ref 109, .long l1, .null, .int i3, .long l4, .null, .long (l1 + l4), .null]) (st' := [.long (((l1 + l4) + (((l1 + l4) * (Int32.toInt64 (am_gi h 109 1))) / (1000 : Int64))) - (Int32.toInt64 (am_gi h 110 (Int32.toNatClampNeg i3))))]) 2 am_q16 rfl ?_
  exact ev_r (v := some (.long (((l1 + l4) + (((l1 + l4) * (Int32.toInt64 (am_gi h 109 1))) / (1000 : Int64))) - (Int32.toInt64 (am_gi h 110 (Int32.toNatClampNeg i3)))))) am_q16 rfl rfl rfl rfl H
/-! 18: X2_build -/
set_option maxRecDepth 20000 in
set_option maxHeartbeats 2000000 in
theorem ws18 {d : Nat} {j0 : Nat} (hj0 : j0 < 12) (i1 : Int32) (i2 : Int32) (i3 : Int32) {h : AH} {Q : Option Value → AH → Prop} (Ly : Lay h) (H : ∀ h1, h1 = am_si h (112 + j0) 0 i1 → ∀ h2, h2 = am_si h1 (112 + j0) 1 i2 → ∀ h3, h3 = am_si h2 (112 + j0) 2 i3 → Q none h3) : Cl d 18 [.ref (112 + j0), .int i1, .int i2, .int i3] h Q := by
  show Ev d 18 0 [.ref (112 + j0), .int i1, .int i2, .int i3] [] h Q
  refine ev_p (pc' := 2) (loc' := [.ref (112 + j0), .int i1, .int i2, .int i3]) (st' := [.int i1, .ref (112 + j0)]) 2 am_q18 rfl ?_
  refine ev_s (pc' := 5) (loc' := [.ref (112 + j0), .int i1, .int i2, .int i3]) (st' := []) (h1 := am_si h (112 + j0) 0 i1) am_q18 rfl rfl rfl (if_pos (e := none) (lk_home Ly hj0)) ?_
  replace H := H _ rfl
  replace Ly : Lay (am_si h (112 + j0) 0 i1) := Ly.si _ _ _
  generalize am_si h (112 + j0) 0 i1 = h1 at H Ly ⊢
  refine ev_p (pc' := 7) (loc' := [.ref (112 + j0), .int i1, .int i2, .int i3]) (st' := [.int i2, .ref (112 + j0)]) 2 am_q18 rfl ?_
  refine ev_s (pc' := 10) (loc' := [.ref (112 + j0), .int i1, .int i2, .int i3]) (st' := []) (h1 := am_si h1 (112 + j0) 1 i2) am_q18 rfl rfl rfl (if_pos (e := none) (lk_home Ly hj0)) ?_
  replace H := H _ rfl
  replace Ly : Lay (am_si h1 (112 + j0) 1 i2) := Ly.si _ _ _
  generalize am_si h1 (112 + j0) 1 i2 = h2 at H Ly ⊢
  refine ev_p (pc' := 12) (loc' := [.ref (112 + j0), .int i1, .int i2, .int i3]) (st' := [.int i3, .ref (112 + j0)]) 2 am_q18 rfl ?_
  refine ev_s (pc' := 15) (loc' := [.ref (112 + j0), .int i1, .int i2, .int i3]) (st' := []) (h1 := am_si h2 (112 + j0) 2 i3) am_q18 rfl rfl rfl (if_pos (e := none) (lk_home Ly hj0)) ?_
  replace H := H _ rfl
  replace Ly : Lay (am_si h2 (112 + j0) 2 i3) := Ly.si _ _ _
  generalize am_si h2 (112 + j0) 2 i3 = h3 at H Ly ⊢
  exact ev_r (v := none) am_q18 rfl rfl rfl rfl H
/-! 20: X3_arrive -/
set_option maxRecDepth 20000 in
set_option maxHeartbeats 2000000 in
theorem ws20 {d : Nat} {j0 : Nat} (hj0 : j0 < 24) (i1 : Int32) (i2 : Int32) {h : AH} {Q : Option Value → AH → Prop} (Ly : Lay h) (H : ∀ h1, h1 = am_si h (124 + j0) 0 i1 → ∀ h2, h2 = am_si h1 (124 + j0) 1 i2 → Q none h2) : Cl d 20 [.ref (124 + j0), .int i1, .int i2] h Q := by
  show Ev d 20 0 [.ref (124 + j0), .int i1, .int i2] [] h Q
  refine ev_p (pc' := 2) (loc' := [.ref (124 + j0), .int i1, .int i2]) (st' := [.int i1, .ref (124 + j0)]) 2 am_q20 rfl ?_
  refine ev_s (pc' := 5) (loc' := [.ref (124 + j0), .int i1, .int i2]) (st' := []) (h1 := am_si h (124 + j0) 0 i1) am_q20 rfl rfl rfl (if_pos (e := none) (lk_member Ly hj0)) ?_
  replace H := H _ rfl
  replace Ly : Lay (am_si h (124 + j0) 0 i1) := Ly.si _ _ _
  generalize am_si h (124 + j0) 0 i1 = h1 at H Ly ⊢
  refine ev_p (pc' := 7) (loc' := [.ref (124 + j0), .int i1, .int i2]) (st' := [.int i2, .ref (124 + j0)]) 2 am_q20 rfl ?_
  refine ev_s (pc' := 10) (loc' := [.ref (124 + j0), .int i1, .int i2]) (st' := []) (h1 := am_si h1 (124 + j0) 1 i2) am_q20 rfl rfl rfl (if_pos (e := none) (lk_member Ly hj0)) ?_
  replace H := H _ rfl
  replace Ly : Lay (am_si h1 (124 + j0) 1 i2) := Ly.si _ _ _
  generalize am_si h1 (124 + j0) 1 i2 = h2 at H Ly ⊢
  exact ev_r (v := none) am_q20 rfl rfl rfl rfl H
/-! 21: X3_depart -/
set_option maxRecDepth 20000 in
set_option maxHeartbeats 2000000 in
theorem ws21 {d : Nat} {j0 : Nat} (hj0 : j0 < 24) (i1 : Int32) {h : AH} {Q : Option Value → AH → Prop} (Ly : Lay h) (H : ∀ h1, h1 = am_si h (124 + j0) 2 i1 → ∀ h2, h2 = am_si h1 (124 + j0) 3 (-1 : Int32) → ∀ h3, h3 = am_si h2 (124 + j0) 4 (0 : Int32) → Q none h3) : Cl d 21 [.ref (124 + j0), .int i1] h Q := by
  show Ev d 21 0 [.ref (124 + j0), .int i1] [] h Q
  refine ev_p (pc' := 2) (loc' := [.ref (124 + j0), .int i1]) (st' := [.int i1, .ref (124 + j0)]) 2 am_q21 rfl ?_
  refine ev_s (pc' := 5) (loc' := [.ref (124 + j0), .int i1]) (st' := []) (h1 := am_si h (124 + j0) 2 i1) am_q21 rfl rfl rfl (if_pos (e := none) (lk_member Ly hj0)) ?_
  replace H := H _ rfl
  replace Ly : Lay (am_si h (124 + j0) 2 i1) := Ly.si _ _ _
  generalize am_si h (124 + j0) 2 i1 = h1 at H Ly ⊢
  refine ev_p (pc' := 7) (loc' := [.ref (124 + j0), .int i1]) (st' := [.int (-1 : Int32), .ref (124 + j0)]) 2 am_q21 rfl ?_
  refine ev_s (pc' := 10) (loc' := [.ref (124 + j0), .int i1]) (st' := []) (h1 := am_si h1 (124 + j0) 3 (-1 : Int32)) am_q21 rfl rfl rfl (if_pos (e := none) (lk_member Ly hj0)) ?_
  replace H := H _ rfl
  replace Ly : Lay (am_si h1 (124 + j0) 3 (-1 : Int32)) := Ly.si _ _ _
  generalize am_si h1 (124 + j0) 3 (-1 : Int32) = h2 at H Ly ⊢
  refine ev_p (pc' := 12) (loc' := [.ref (124 + j0), .int i1]) (st' := [.int (0 : Int32), .ref (124 + j0)]) 2 am_q21 rfl ?_
  refine ev_s (pc' := 15) (loc' := [.ref (124 + j0), .int i1]) (st' := []) (h1 := am_si h2 (124 + j0) 4 (0 : Int32)) am_q21 rfl rfl rfl (if_pos (e := none) (lk_member Ly hj0)) ?_
  replace H := H _ rfl
  replace Ly : Lay (am_si h2 (124 + j0) 4 (0 : Int32)) := Ly.si _ _ _
  generalize am_si h2 (124 + j0) 4 (0 : Int32) = h3 at H Ly ⊢
  exact ev_r (v := none) am_q21 rfl rfl rfl rfl H
/-! 22: X3_isHere -/
set_option maxRecDepth 20000 in
set_option maxHeartbeats 2000000 in
theorem ws22 {d : Nat} {j0 : Nat} (hj0 : j0 < 24) (i1 : Int32) {h : AH} {Q : Option Value → AH → Prop} (Ly : Lay h) (H : (i1 < (am_gi h (124 + j0) 1) → Q (some (.int (0 : Int32))) h) ∧ (¬ i1 < (am_gi h (124 + j0) 1) → ((am_gi h (124 + j0) 2) = (-1 : Int32) → Q (some (.int (1 : Int32))) h) ∧ (¬ (am_gi h (124 + j0) 2) = (-1 : Int32) → ((am_gi h (124 + j0) 2) ≤ i1 → Q (some (.int (0 : Int32))) h) ∧ (¬ (am_gi h (124 + j0) 2) ≤ i1 → Q (some (.int (1 : Int32))) h)))) : Cl d 22 [.ref (124 + j0), .int i1] h Q := by
  show Ev d 22 0 [.ref (124 + j0), .int i1] [] h Q
  refine ev_p (pc' := 1) (loc' := [.ref (124 + j0), .int i1]) (st' := [.ref (124 + j0)]) 1 am_q22 rfl ?_
  refine ev_s (pc' := 4) (loc' := [.ref (124 + j0), .int i1]) (st' := [.int (am_gi h (124 + j0) 1)]) (h1 := h) am_q22 rfl rfl rfl (if_pos (e := none) (lk_member Ly hj0)) ?_
  refine ev_p (pc' := 5) (loc' := [.ref (124 + j0), .int i1]) (st' := [.int i1, .int (am_gi h (124 + j0) 1)]) 1 am_q22 rfl ?_
  refine ev_jc (t := 28) am_q22 rfl rfl (fun hq => ?_) (fun hq => ?_)
  · replace H := H.1 hq
    refine ev_p (pc' := 29) (loc' := [.null, .null]) (st' := [.int (0 : Int32)]) 1 am_q22 rfl ?_
    exact ev_r (v := some (.int (0 : Int32))) am_q22 rfl rfl rfl rfl H
  · replace H := H.2 hq
    refine ev_p (pc' := 9) (loc' := [.ref (124 + j0), .int i1]) (st' := [.ref (124 + j0)]) 1 am_q22 rfl ?_
    refine ev_s (pc' := 12) (loc' := [.ref (124 + j0), .int i1]) (st' := [.int (am_gi h (124 + j0) 2)]) (h1 := h) am_q22 rfl rfl rfl (if_pos (e := none) (lk_member Ly hj0)) ?_
    refine ev_p (pc' := 13) (loc' := [.ref (124 + j0), .int i1]) (st' := [.int (-1 : Int32), .int (am_gi h (124 + j0) 2)]) 1 am_q22 rfl ?_
    refine ev_jc (t := 24) am_q22 rfl rfl (fun hq => ?_) (fun hq => ?_)
    · replace H := H.1 hq
      refine ev_p (pc' := 29) (loc' := [.null, .null]) (st' := [.int (1 : Int32)]) 2 am_q22 rfl ?_
      exact ev_r (v := some (.int (1 : Int32))) am_q22 rfl rfl rfl rfl H
    · replace H := H.2 hq
      refine ev_p (pc' := 18) (loc' := [.ref (124 + j0), .int i1]) (st' := [.ref (124 + j0), .int i1]) 2 am_q22 rfl ?_
      refine ev_s (pc' := 21) (loc' := [.ref (124 + j0), .int i1]) (st' := [.int (am_gi h (124 + j0) 2), .int i1]) (h1 := h) am_q22 rfl rfl rfl (if_pos (e := none) (lk_member Ly hj0)) ?_
      refine ev_jc (t := 28) am_q22 rfl rfl (fun hq => ?_) (fun hq => ?_)
      · replace H := H.1 hq
        refine ev_p (pc' := 29) (loc' := [.null, .null]) (st' := [.int (0 : Int32)]) 1 am_q22 rfl ?_
        exact ev_r (v := some (.int (0 : Int32))) am_q22 rfl rfl rfl rfl H
      · replace H := H.2 hq
        refine ev_p (pc' := 29) (loc' := [.null, .null]) (st' := [.int (1 : Int32)]) 2 am_q22 rfl ?_
        exact ev_r (v := some (.int (1 : Int32))) am_q22 rfl rfl rfl rfl H
/-! 23: X3_waits -/
set_option maxRecDepth 20000 in
set_option maxHeartbeats 2000000 in
theorem ws23 {d : Nat} {j0 : Nat} (hj0 : j0 < 24)  {h : AH} {Q : Option Value → AH → Prop} (Ly : Lay h) (H : ((am_gi h (124 + j0) 3) = (-1 : Int32) → Q (some (.int (0 : Int32))) h) ∧ (¬ (am_gi h (124 + j0) 3) = (-1 : Int32) → Q (some (.int (1 : Int32))) h)) : Cl d 23 [.ref (124 + j0)] h Q := by
  show Ev d 23 0 [.ref (124 + j0)] [] h Q
  refine ev_p (pc' := 1) (loc' := [.ref (124 + j0)]) (st' := [.ref (124 + j0)]) 1 am_q23 rfl ?_
  refine ev_s (pc' := 4) (loc' := [.ref (124 + j0)]) (st' := [.int (am_gi h (124 + j0) 3)]) (h1 := h) am_q23 rfl rfl rfl (if_pos (e := none) (lk_member Ly hj0)) ?_
  refine ev_p (pc' := 5) (loc' := [.ref (124 + j0)]) (st' := [.int (-1 : Int32), .int (am_gi h (124 + j0) 3)]) 1 am_q23 rfl ?_
  refine ev_jc (t := 12) am_q23 rfl rfl (fun hq => ?_) (fun hq => ?_)
  · replace H := H.1 hq
    refine ev_p (pc' := 13) (loc' := [.ref (124 + j0)]) (st' := [.int (0 : Int32)]) 1 am_q23 rfl ?_
    exact ev_r (v := some (.int (0 : Int32))) am_q23 rfl rfl rfl rfl H
  · replace H := H.2 hq
    refine ev_p (pc' := 13) (loc' := [.ref (124 + j0)]) (st' := [.int (1 : Int32)]) 2 am_q23 rfl ?_
    exact ev_r (v := some (.int (1 : Int32))) am_q23 rfl rfl rfl rfl H
/-! 25: X4_begin -/
set_option maxRecDepth 20000 in
set_option maxHeartbeats 2000000 in
theorem ws25 {d : Nat}   {h : AH} {Q : Option Value → AH → Prop} (Ly : Lay h) (H : ∀ h1, h1 = am_sl h 105 4 (0 : Int64) → Ev d 25 7 [.ref 105, .int (0 : Int32)] [] h1 Q) : Cl d 25 [.ref 105] h Q := by
  show Ev d 25 0 [.ref 105, .null] [] h Q
  refine ev_p (pc' := 2) (loc' := [.ref 105, .null]) (st' := [.long (0 : Int64), .ref 105]) 2 am_q25 rfl ?_
  refine ev_s (pc' := 5) (loc' := [.ref 105, .null]) (st' := []) (h1 := am_sl h 105 4 (0 : Int64)) am_q25 rfl rfl rfl (if_pos (e := none) (lk105 Ly)) ?_
  replace H := H _ rfl
  replace Ly : Lay (am_sl h 105 4 (0 : Int64)) := Ly.sl _ _ _
  generalize am_sl h 105 4 (0 : Int64) = h1 at H Ly ⊢
  refine ev_p (pc' := 7) (loc' := [.ref 105, .int (0 : Int32)]) (st' := []) 2 am_q25 rfl ?_
  exact ev_m (loc' := [.ref 105, .int (0 : Int32)]) am_q25 rfl rfl H
set_option maxRecDepth 20000 in
set_option maxHeartbeats 2000000 in
theorem ws25_7 {d : Nat}  (i1 : Int32) {h : AH} {Q : Option Value → AH → Prop} (Ly : Lay h) (H : ((12 : Int32) ≤ i1 → Q none h) ∧ (¬ (12 : Int32) ≤ i1 → am_in i1 12 ∧ ∀ h2, h2 = am_sl h 107 (Int32.toNatClampNeg i1) (0 : Int64) → Ev d 25 7 [.ref 105, .int (i1 + (1 : Int32))] [] h2 Q)) : Ev d 25 7 [.ref 105, .int i1] [] h Q := by
  refine ev_p (pc' := 10) (loc' := [.ref 105, .int i1]) (st' := [.int (12 : Int32), .int i1]) 2 am_q25 rfl ?_
  refine ev_jc (t := 26) am_q25 rfl rfl (fun hq => ?_) (fun hq => ?_)
  · replace H := H.1 hq
    exact ev_r (v := none) am_q25 rfl rfl rfl rfl H
  · replace H := H.2 hq
    refine ev_p (pc' := 14) (loc' := [.ref 105, .int i1]) (st' := [.ref 105]) 1 am_q25 rfl ?_
    refine ev_s (pc' := 17) (loc' := [.ref 105, .int i1]) (st' := [.ref 107]) (h1 := h) am_q25 rfl rfl rfl (am_gf2 (lk105 Ly) (lr105_2 Ly)) ?_
    refine ev_p (pc' := 19) (loc' := [.ref 105, .int i1]) (st' := [.long (0 : Int64), .int i1, .ref 107]) 2 am_q25 rfl ?_
    obtain ⟨g1, H⟩ := H
    refine ev_s (pc' := 20) (loc' := [.ref 105, .int i1]) (st' := []) (h1 := am_sl h 107 (Int32.toNatClampNeg i1) (0 : Int64)) am_q25 rfl rfl rfl (am_xx (lk107 Ly) (am_inl (ln107 Ly) g1)) ?_
    replace H := H _ rfl
    replace Ly : Lay (am_sl h 107 (Int32.toNatClampNeg i1) (0 : Int64)) := Ly.sl _ _ _
    generalize am_sl h 107 (Int32.toNatClampNeg i1) (0 : Int64) = h2 at H Ly ⊢
    refine ev_p (pc' := 7) (loc' := [.ref 105, .int (i1 + (1 : Int32))]) (st' := []) 2 am_q25 rfl ?_
    exact ev_m (loc' := [.ref 105, .int (i1 + (1 : Int32))]) am_q25 rfl rfl H
/-! 26: X4_weigh -/
set_option maxRecDepth 20000 in
set_option maxHeartbeats 2000000 in
theorem ws26 {d : Nat}  (i1 : Int32) (l2 : Int64) {h : AH} {Q : Option Value → AH → Prop} (Ly : Lay h) (H : Cl d 266 [.long l2, .long (1000000 : Int64)] h (fun r2 h1 => ∃ y3, r2 = some (.long y3) ∧ Lay h1 ∧ Cl d 264 [.long (0 : Int64), .long y3] h1 (fun r5 h4 => ∃ y6, r5 = some (.long y6) ∧ Lay h4 ∧ am_in i1 12 ∧ ∀ h8, h8 = am_sl h4 107 (Int32.toNatClampNeg i1) y6 → am_in i1 12 ∧ ∀ h10, h10 = am_sl h8 105 4 ((am_gl h8 105 4) + (am_gl h8 107 (Int32.toNatClampNeg i1))) → Q none h10))) : Cl (d + 1) 26 [.ref 105, .int i1, .long l2] h Q := by
  show Ev (d + 1) 26 0 [.ref 105, .int i1, .long l2, .null] [] h Q
  refine ev_p (pc' := 1) (loc' := [.ref 105, .int i1, .long l2, .null]) (st' := [.ref 105]) 1 am_q26 rfl ?_
  refine ev_s (pc' := 4) (loc' := [.ref 105, .int i1, .long l2, .null]) (st' := [.ref 107]) (h1 := h) am_q26 rfl rfl rfl (am_gf2 (lk105 Ly) (lr105_2 Ly)) ?_
  refine ev_p (pc' := 10) (loc' := [.ref 105, .int i1, .long l2, .null]) (st' := [.long (1000000 : Int64), .long l2, .long (0 : Int64), .int i1, .ref 107]) 4 am_q26 rfl ?_
  refine ev_c (vs := [.long l2, .long (1000000 : Int64)]) (rest := [.long (0 : Int64), .int i1, .ref 107]) 266 am_q26 rfl rfl rfl rfl rfl rfl rfl rfl rfl rfl rfl rfl (Or.inl rfl) (Cl.mono H (Nat.le_refl _) (fun r2 h1 H => ?_))
  obtain ⟨y3, rfl, Ly, H⟩ := H
  refine ev_c (vs := [.long (0 : Int64), .long y3]) (rest := [.int i1, .ref 107]) 264 am_q26 rfl rfl rfl rfl rfl rfl rfl rfl rfl rfl rfl rfl (Or.inl rfl) (Cl.mono H (Nat.le_refl _) (fun r5 h4 H => ?_))
  obtain ⟨y6, rfl, Ly, H⟩ := H
  obtain ⟨g7, H⟩ := H
  refine ev_s (pc' := 17) (loc' := [.ref 105, .int i1, .long l2, .null]) (st' := []) (h1 := am_sl h4 107 (Int32.toNatClampNeg i1) y6) am_q26 rfl rfl rfl (am_xx (lk107 Ly) (am_inl (ln107 Ly) g7)) ?_
  replace H := H _ rfl
  replace Ly : Lay (am_sl h4 107 (Int32.toNatClampNeg i1) y6) := Ly.sl _ _ _
  generalize am_sl h4 107 (Int32.toNatClampNeg i1) y6 = h8 at H Ly ⊢
  refine ev_p (pc' := 19) (loc' := [.ref 105, .int i1, .long l2, .null]) (st' := [.ref 105, .ref 105]) 2 am_q26 rfl ?_
  refine ev_s (pc' := 22) (loc' := [.ref 105, .int i1, .long l2, .null]) (st' := [.long (am_gl h8 105 4), .ref 105]) (h1 := h8) am_q26 rfl rfl rfl (if_pos (e := none) (lk105 Ly)) ?_
  refine ev_p (pc' := 23) (loc' := [.ref 105, .int i1, .long l2, .null]) (st' := [.ref 105, .long (am_gl h8 105 4), .ref 105]) 1 am_q26 rfl ?_
  refine ev_s (pc' := 26) (loc' := [.ref 105, .int i1, .long l2, .null]) (st' := [.ref 107, .long (am_gl h8 105 4), .ref 105]) (h1 := h8) am_q26 rfl rfl rfl (am_gf2 (lk105 Ly) (lr105_2 Ly)) ?_
  refine ev_p (pc' := 27) (loc' := [.ref 105, .int i1, .long l2, .null]) (st' := [.int i1, .ref 107, .long (am_gl h8 105 4), .ref 105]) 1 am_q26 rfl ?_
  obtain ⟨g9, H⟩ := H
  refine ev_s (pc' := 28) (loc' := [.ref 105, .int i1, .long l2, .null]) (st' := [.long (am_gl h8 107 (Int32.toNatClampNeg i1)), .long (am_gl h8 105 4), .ref 105]) (h1 := h8) am_q26 rfl rfl rfl (am_xx (lk107 Ly) (am_inl (ln107 Ly) g9)) ?_
  refine ev_p (pc' := 29) (loc' := [.ref 105, .int i1, .long l2, .null]) (st' := [.long ((am_gl h8 105 4) + (am_gl h8 107 (Int32.toNatClampNeg i1))), .ref 105]) 1 am_q26 rfl ?_
  refine ev_s (pc' := 32) (loc' := [.ref 105, .int i1, .long l2, .null]) (st' := []) (h1 := am_sl h8 105 4 ((am_gl h8 105 4) + (am_gl h8 107 (Int32.toNatClampNeg i1)))) am_q26 rfl rfl rfl (if_pos (e := none) (lk105 Ly)) ?_
  replace H := H _ rfl
  replace Ly : Lay (am_sl h8 105 4 ((am_gl h8 105 4) + (am_gl h8 107 (Int32.toNatClampNeg i1)))) := Ly.sl _ _ _
  generalize am_sl h8 105 4 ((am_gl h8 105 4) + (am_gl h8 107 (Int32.toNatClampNeg i1))) = h10 at H Ly ⊢
  exact ev_r (v := none) am_q26 rfl rfl rfl rfl H
/-! 27: X4_divide -/
set_option maxRecDepth 20000 in
set_option maxHeartbeats 2000000 in
theorem ws27 {d : Nat}  (i1 : Int32) {h : AH} {Q : Option Value → AH → Prop} (Ly : Lay h) (H : ((30 : Int32) ≤ (am_gi h 105 1) → Q (some (.int (-1 : Int32))) h) ∧ (¬ (30 : Int32) ≤ (am_gi h 105 1) → ((0 : Int32) < (lg_cmp (am_gl h 105 4) (0 : Int64)) → Ev (d + 1) 27 33 [.ref 105, .int i1, .int ((am_gi h 105 1) * (12 : Int32)), .int i1, .int (0 : Int32), .null] [] h Q) ∧ (¬ (0 : Int32) < (lg_cmp (am_gl h 105 4) (0 : Int64)) → Q (some (.int (-1 : Int32))) h))) : Cl (d + 1) 27 [.ref 105, .int i1] h Q := by
  show Ev (d + 1) 27 0 [.ref 105, .int i1, .null, .null, .null, .null] [] h Q
  refine ev_p (pc' := 1) (loc' := [.ref 105, .int i1, .null, .null, .null, .null]) (st' := [.ref 105]) 1 am_q27 rfl ?_
  refine ev_s (pc' := 4) (loc' := [.ref 105, .int i1, .null, .null, .null, .null]) (st' := [.int (am_gi h 105 1)]) (h1 := h) am_q27 rfl rfl rfl (if_pos (e := none) (lk105 Ly)) ?_
  refine ev_p (pc' := 6) (loc' := [.ref 105, .int i1, .null, .null, .null, .null]) (st' := [.int (30 : Int32), .int (am_gi h 105 1)]) 1 am_q27 rfl ?_
  refine ev_jc (t := 18) am_q27 rfl rfl (fun hq => ?_) (fun hq => ?_)
  · replace H := H.1 hq
    refine ev_p (pc' := 19) (loc' := [.null, .null, .null, .null, .null, .null]) (st' := [.int (-1 : Int32)]) 1 am_q27 rfl ?_
    exact ev_r (v := some (.int (-1 : Int32))) am_q27 rfl rfl rfl rfl H
  · replace H := H.2 hq
    refine ev_p (pc' := 10) (loc' := [.ref 105, .int i1, .null, .null, .null, .null]) (st' := [.ref 105]) 1 am_q27 rfl ?_
    refine ev_s (pc' := 13) (loc' := [.ref 105, .int i1, .null, .null, .null, .null]) (st' := [.long (am_gl h 105 4)]) (h1 := h) am_q27 rfl rfl rfl (if_pos (e := none) (lk105 Ly)) ?_
    refine ev_p (pc' := 15) (loc' := [.ref 105, .int i1, .null, .null, .null, .null]) (st' := [.int (lg_cmp (am_gl h 105 4) (0 : Int64))]) 2 am_q27 rfl ?_
    refine ev_jz (t := 20) am_q27 rfl rfl (fun hq => ?_) (fun hq => ?_)
    · replace H := H.1 hq
      refine ev_p (pc' := 21) (loc' := [.ref 105, .int i1, .null, .null, .null, .null]) (st' := [.ref 105]) 1 am_q27 rfl ?_
      refine ev_s (pc' := 24) (loc' := [.ref 105, .int i1, .null, .null, .null, .null]) (st' := [.int (am_gi h 105 1)]) (h1 := h) am_q27 rfl rfl rfl (if_pos (e := none) (lk105 Ly)) ?_
      refine ev_p (pc' := 33) (loc' := [.ref 105, .int i1, .int ((am_gi h 105 1) * (12 : Int32)), .int i1, .int (0 : Int32), .null]) (st' := []) 7 am_q27 rfl ?_
      exact ev_m (loc' := [.ref 105, .int i1, .int ((am_gi h 105 1) * (12 : Int32)), .int i1, .int (0 : Int32), .null]) am_q27 rfl rfl H
    · replace H := H.2 hq
      refine ev_p (pc' := 19) (loc' := [.null, .null, .null, .null, .null, .null]) (st' := [.int (-1 : Int32)]) 1 am_q27 rfl ?_
      exact ev_r (v := some (.int (-1 : Int32))) am_q27 rfl rfl rfl rfl H
set_option maxRecDepth 20000 in
set_option maxHeartbeats 2000000 in
theorem ws27_33 {d : Nat}  (i1 : Int32) (i2 : Int32) (i3 : Int32) (i4 : Int32) {h : AH} {Q : Option Value → AH → Prop} (Ly : Lay h) (H : ((12 : Int32) ≤ i4 → Ev (d + 1) 27 105 [.ref 105, .null, .int i2, .int i3, .int (0 : Int32), .null] [] h Q) ∧ (¬ (12 : Int32) ≤ i4 → am_in i4 12 ∧ ¬ (am_gl h 105 4) = (0 : Int64) ∧ am_in (i2 + i4) 360 ∧ ∀ h4, h4 = am_si h 106 (Int32.toNatClampNeg (i2 + i4)) (Int64.toInt32 (((Int32.toInt64 i1) * (am_gl h 107 (Int32.toNatClampNeg i4))) / (am_gl h 105 4))) → am_in i4 12 ∧ ¬ (am_gl h4 105 4) = (0 : Int64) ∧ am_in i4 12 ∧ ∀ h8, h8 = am_sl h4 108 (Int32.toNatClampNeg i4) (((Int32.toInt64 i1) * (am_gl h4 107 (Int32.toNatClampNeg i4))) - ((Int32.toInt64 i1) * (am_gl h4 107 (Int32.toNatClampNeg i4))) / (am_gl h4 105 4) * (am_gl h4 105 4)) → Ev (d + 1) 27 33 [.ref 105, .int i1, .int i2, .int (i3 - (Int64.toInt32 (((Int32.toInt64 i1) * (am_gl h 107 (Int32.toNatClampNeg i4))) / (am_gl h 105 4)))), .int (i4 + (1 : Int32)), .null] [] h8 Q)) : Ev (d + 1) 27 33 [.ref 105, .int i1, .int i2, .int i3, .int i4, .null] [] h Q := by
  refine ev_p (pc' := 37) (loc' := [.ref 105, .int i1, .int i2, .int i3, .int i4, .null]) (st' := [.int (12 : Int32), .int i4]) 2 am_q27 rfl ?_
  refine ev_jc (t := 102) am_q27 rfl rfl (fun hq => ?_) (fun hq => ?_)
  · replace H := H.1 hq
    refine ev_p (pc' := 105) (loc' := [.ref 105, .int i1, .int i2, .int i3, .int (0 : Int32), .null]) (st' := []) 2 am_q27 rfl ?_
    exact ev_m (loc' := [.ref 105, .null, .int i2, .int i3, .int (0 : Int32), .null]) am_q27 rfl rfl H
  · replace H := H.2 hq
    refine ev_p (pc' := 43) (loc' := [.ref 105, .int i1, .int i2, .int i3, .int i4, .null]) (st' := [.ref 105, .long (Int32.toInt64 i1)]) 3 am_q27 rfl ?_
    refine ev_s (pc' := 46) (loc' := [.ref 105, .int i1, .int i2, .int i3, .int i4, .null]) (st' := [.ref 107, .long (Int32.toInt64 i1)]) (h1 := h) am_q27 rfl rfl rfl (am_gf2 (lk105 Ly) (lr105_2 Ly)) ?_
    refine ev_p (pc' := 48) (loc' := [.ref 105, .int i1, .int i2, .int i3, .int i4, .null]) (st' := [.int i4, .ref 107, .long (Int32.toInt64 i1)]) 1 am_q27 rfl ?_
    obtain ⟨g1, H⟩ := H
    refine ev_s (pc' := 49) (loc' := [.ref 105, .int i1, .int i2, .int i3, .int i4, .null]) (st' := [.long (am_gl h 107 (Int32.toNatClampNeg i4)), .long (Int32.toInt64 i1)]) (h1 := h) am_q27 rfl rfl rfl (am_xx (lk107 Ly) (am_inl (ln107 Ly) g1)) ?_
    refine ev_p (pc' := 51) (loc' := [.ref 105, .int i1, .int i2, .int i3, .int i4, .null]) (st' := [.ref 105, .long ((Int32.toInt64 i1) * (am_gl h 107 (Int32.toNatClampNeg i4)))]) 2 am_q27 rfl ?_
    refine ev_s (pc' := 54) (loc' := [.ref 105, .int i1, .int i2, .int i3, .int i4, .null]) (st' := [.long (am_gl h 105 4), .long ((Int32.toInt64 i1) * (am_gl h 107 (Int32.toNatClampNeg i4)))]) (h1 := h) am_q27 rfl rfl rfl (if_pos (e := none) (lk105 Ly)) ?_
    obtain ⟨g2, H⟩ := H
    refine ev_s (pc' := 55) (loc' := [.ref 105, .int i1, .int i2, .int i3, .int i4, .null]) (st' := [.long (((Int32.toInt64 i1) * (am_gl h 107 (Int32.toNatClampNeg i4))) / (am_gl h 105 4))]) (h1 := h) am_q27 rfl rfl rfl (if_neg (t := none) g2) ?_
    refine ev_p (pc' := 59) (loc' := [.ref 105, .int i1, .int i2, .int i3, .int i4, .int (Int64.toInt32 (((Int32.toInt64 i1) * (am_gl h 107 (Int32.toNatClampNeg i4))) / (am_gl h 105 4)))]) (st' := [.ref 105]) 3 am_q27 rfl ?_
    refine ev_s (pc' := 62) (loc' := [.ref 105, .int i1, .int i2, .int i3, .int i4, .int (Int64.toInt32 (((Int32.toInt64 i1) * (am_gl h 107 (Int32.toNatClampNeg i4))) / (am_gl h 105 4)))]) (st' := [.ref 106]) (h1 := h) am_q27 rfl rfl rfl (am_gf2 (lk105 Ly) (lr105_0 Ly)) ?_
    refine ev_p (pc' := 68) (loc' := [.ref 105, .int i1, .int i2, .int i3, .int i4, .int (Int64.toInt32 (((Int32.toInt64 i1) * (am_gl h 107 (Int32.toNatClampNeg i4))) / (am_gl h 105 4)))]) (st' := [.int (Int64.toInt32 (((Int32.toInt64 i1) * (am_gl h 107 (Int32.toNatClampNeg i4))) / (am_gl h 105 4))), .int (i2 + i4), .ref 106]) 4 am_q27 rfl ?_
    obtain ⟨g3, H⟩ := H
    refine ev_s (pc' := 69) (loc' := [.ref 105, .int i1, .int i2, .int i3, .int i4, .int (Int64.toInt32 (((Int32.toInt64 i1) * (am_gl h 107 (Int32.toNatClampNeg i4))) / (am_gl h 105 4)))]) (st' := []) (h1 := am_si h 106 (Int32.toNatClampNeg (i2 + i4)) (Int64.toInt32 (((Int32.toInt64 i1) * (am_gl h 107 (Int32.toNatClampNeg i4))) / (am_gl h 105 4)))) am_q27 rfl rfl rfl (am_xx ⟨lk106 Ly, (Nat.le_of_ble_eq_true rfl)⟩ (am_inl (ln106 Ly) g3)) ?_
    replace H := H _ rfl
    replace Ly : Lay (am_si h 106 (Int32.toNatClampNeg (i2 + i4)) (Int64.toInt32 (((Int32.toInt64 i1) * (am_gl h 107 (Int32.toNatClampNeg i4))) / (am_gl h 105 4)))) := Ly.si _ _ _
    generalize am_si h 106 (Int32.toNatClampNeg (i2 + i4)) (Int64.toInt32 (((Int32.toInt64 i1) * (am_gl h 107 (Int32.toNatClampNeg i4))) / (am_gl h 105 4))) = h4 at H Ly ⊢
    refine ev_p (pc' := 70) (loc' := [.ref 105, .int i1, .int i2, .int i3, .int i4, .int (Int64.toInt32 (((Int32.toInt64 i1) * (am_gl h 107 (Int32.toNatClampNeg i4))) / (am_gl h 105 4)))]) (st' := [.ref 105]) 1 am_q27 rfl ?_
    refine ev_s (pc' := 73) (loc' := [.ref 105, .int i1, .int i2, .int i3, .int i4, .int (Int64.toInt32 (((Int32.toInt64 i1) * (am_gl h 107 (Int32.toNatClampNeg i4))) / (am_gl h 105 4)))]) (st' := [.ref 108]) (h1 := h4) am_q27 rfl rfl rfl (am_gf2 (lk105 Ly) (lr105_3 Ly)) ?_
    refine ev_p (pc' := 78) (loc' := [.ref 105, .int i1, .int i2, .int i3, .int i4, .int (Int64.toInt32 (((Int32.toInt64 i1) * (am_gl h 107 (Int32.toNatClampNeg i4))) / (am_gl h 105 4)))]) (st' := [.ref 105, .long (Int32.toInt64 i1), .int i4, .ref 108]) 4 am_q27 rfl ?_
    refine ev_s (pc' := 81) (loc' := [.ref 105, .int i1, .int i2, .int i3, .int i4, .int (Int64.toInt32 (((Int32.toInt64 i1) * (am_gl h 107 (Int32.toNatClampNeg i4))) / (am_gl h 105 4)))]) (st' := [.ref 107, .long (Int32.toInt64 i1), .int i4, .ref 108]) (h1 := h4) am_q27 rfl rfl rfl (am_gf2 (lk105 Ly) (lr105_2 Ly)) ?_
    refine ev_p (pc' := 83) (loc' := [.ref 105, .int i1, .int i2, .int i3, .int i4, .int (Int64.toInt32 (((Int32.toInt64 i1) * (am_gl h 107 (Int32.toNatClampNeg i4))) / (am_gl h 105 4)))]) (st' := [.int i4, .ref 107, .long (Int32.toInt64 i1), .int i4, .ref 108]) 1 am_q27 rfl ?_
    obtain ⟨g5, H⟩ := H
    refine ev_s (pc' := 84) (loc' := [.ref 105, .int i1, .int i2, .int i3, .int i4, .int (Int64.toInt32 (((Int32.toInt64 i1) * (am_gl h 107 (Int32.toNatClampNeg i4))) / (am_gl h 105 4)))]) (st' := [.long (am_gl h4 107 (Int32.toNatClampNeg i4)), .long (Int32.toInt64 i1), .int i4, .ref 108]) (h1 := h4) am_q27 rfl rfl rfl (am_xx (lk107 Ly) (am_inl (ln107 Ly) g5)) ?_
    refine ev_p (pc' := 86) (loc' := [.ref 105, .int i1, .int i2, .int i3, .int i4, .int (Int64.toInt32 (((Int32.toInt64 i1) * (am_gl h 107 (Int32.toNatClampNeg i4))) / (am_gl h 105 4)))]) (st' := [.ref 105, .long ((Int32.toInt64 i1) * (am_gl h4 107 (Int32.toNatClampNeg i4))), .int i4, .ref 108]) 2 am_q27 rfl ?_
    refine ev_s (pc' := 89) (loc' := [.ref 105, .int i1, .int i2, .int i3, .int i4, .int (Int64.toInt32 (((Int32.toInt64 i1) * (am_gl h 107 (Int32.toNatClampNeg i4))) / (am_gl h 105 4)))]) (st' := [.long (am_gl h4 105 4), .long ((Int32.toInt64 i1) * (am_gl h4 107 (Int32.toNatClampNeg i4))), .int i4, .ref 108]) (h1 := h4) am_q27 rfl rfl rfl (if_pos (e := none) (lk105 Ly)) ?_
    obtain ⟨g6, H⟩ := H
    refine ev_s (pc' := 90) (loc' := [.ref 105, .int i1, .int i2, .int i3, .int i4, .int (Int64.toInt32 (((Int32.toInt64 i1) * (am_gl h 107 (Int32.toNatClampNeg i4))) / (am_gl h 105 4)))]) (st' := [.long (((Int32.toInt64 i1) * (am_gl h4 107 (Int32.toNatClampNeg i4))) - ((Int32.toInt64 i1) * (am_gl h4 107 (Int32.toNatClampNeg i4))) / (am_gl h4 105 4) * (am_gl h4 105 4)), .int i4, .ref 108]) (h1 := h4) am_q27 rfl rfl rfl (if_neg (t := none) g6) ?_
    obtain ⟨g7, H⟩ := H
    refine ev_s (pc' := 91) (loc' := [.ref 105, .int i1, .int i2, .int i3, .int i4, .int (Int64.toInt32 (((Int32.toInt64 i1) * (am_gl h 107 (Int32.toNatClampNeg i4))) / (am_gl h 105 4)))]) (st' := []) (h1 := am_sl h4 108 (Int32.toNatClampNeg i4) (((Int32.toInt64 i1) * (am_gl h4 107 (Int32.toNatClampNeg i4))) - ((Int32.toInt64 i1) * (am_gl h4 107 (Int32.toNatClampNeg i4))) / (am_gl h4 105 4) * (am_gl h4 105 4))) am_q27 rfl rfl rfl (am_xx (lk108 Ly) (am_inl (ln108 Ly) g7)) ?_
    replace H := H _ rfl
    replace Ly : Lay (am_sl h4 108 (Int32.toNatClampNeg i4) (((Int32.toInt64 i1) * (am_gl h4 107 (Int32.toNatClampNeg i4))) - ((Int32.toInt64 i1) * (am_gl h4 107 (Int32.toNatClampNeg i4))) / (am_gl h4 105 4) * (am_gl h4 105 4))) := Ly.sl _ _ _
    generalize am_sl h4 108 (Int32.toNatClampNeg i4) (((Int32.toInt64 i1) * (am_gl h4 107 (Int32.toNatClampNeg i4))) - ((Int32.toInt64 i1) * (am_gl h4 107 (Int32.toNatClampNeg i4))) / (am_gl h4 105 4) * (am_gl h4 105 4)) = h8 at H Ly ⊢
    refine ev_p (pc' := 33) (loc' := [.ref 105, .int i1, .int i2, .int (i3 - (Int64.toInt32 (((Int32.toInt64 i1) * (am_gl h 107 (Int32.toNatClampNeg i4))) / (am_gl h 105 4)))), .int (i4 + (1 : Int32)), .int (Int64.toInt32 (((Int32.toInt64 i1) * (am_gl h 107 (Int32.toNatClampNeg i4))) / (am_gl h 105 4)))]) (st' := []) 6 am_q27 rfl ?_
    exact ev_m (loc' := [.ref 105, .int i1, .int i2, .int (i3 - (Int64.toInt32 (((Int32.toInt64 i1) * (am_gl h 107 (Int32.toNatClampNeg i4))) / (am_gl h 105 4)))), .int (i4 + (1 : Int32)), .null]) am_q27 rfl rfl H
set_option maxRecDepth 20000 in
set_option maxHeartbeats 2000000 in
theorem ws27_105 {d : Nat}  (i2 : Int32) (i3 : Int32) (i4 : Int32) {h : AH} {Q : Option Value → AH → Prop} (Ly : Lay h) (H : (i3 ≤ i4 → ∀ h1, h1 = am_si h 105 1 ((am_gi h 105 1) + (1 : Int32)) → Q (some (.int ((am_gi h1 105 1) - (1 : Int32)))) h1) ∧ (¬ i3 ≤ i4 → ((12 : Int32) ≤ i4 → ∀ h2, h2 = am_si h 105 1 ((am_gi h 105 1) + (1 : Int32)) → Q (some (.int ((am_gi h2 105 1) - (1 : Int32)))) h2) ∧ (¬ (12 : Int32) ≤ i4 → Cl d 28 [.ref 105] h (fun r4 h3 => ∃ x5, r4 = some (.int x5) ∧ Lay h3 ∧ am_in (i2 + x5) 360 ∧ am_in (i2 + x5) 360 ∧ ∀ h8, h8 = am_si h3 106 (Int32.toNatClampNeg (i2 + x5)) ((am_gi h3 106 (Int32.toNatClampNeg (i2 + x5))) + (1 : Int32)) → am_in x5 12 ∧ ∀ h10, h10 = am_sl h8 108 (Int32.toNatClampNeg x5) (-1 : Int64) → Ev (d + 1) 27 105 [.ref 105, .null, .int i2, .int i3, .int (i4 + (1 : Int32)), .null] [] h10 Q)))) : Ev (d + 1) 27 105 [.ref 105, .null, .int i2, .int i3, .int i4, .null] [] h Q := by
  refine ev_p (pc' := 108) (loc' := [.ref 105, .null, .int i2, .int i3, .int i4, .null]) (st' := [.int i3, .int i4]) 2 am_q27 rfl ?_
  refine ev_jc (t := 153) am_q27 rfl rfl (fun hq => ?_) (fun hq => ?_)
  · replace H := H.1 hq
    refine ev_p (pc' := 155) (loc' := [.ref 105, .null, .null, .null, .null, .null]) (st' := [.ref 105, .ref 105]) 2 am_q27 rfl ?_
    refine ev_s (pc' := 158) (loc' := [.ref 105, .null, .null, .null, .null, .null]) (st' := [.int (am_gi h 105 1), .ref 105]) (h1 := h) am_q27 rfl rfl rfl (if_pos (e := none) (lk105 Ly)) ?_
    refine ev_p (pc' := 160) (loc' := [.ref 105, .null, .null, .null, .null, .null]) (st' := [.int ((am_gi h 105 1) + (1 : Int32)), .ref 105]) 2 am_q27 rfl ?_
    refine ev_s (pc' := 163) (loc' := [.ref 105, .null, .null, .null, .null, .null]) (st' := []) (h1 := am_si h 105 1 ((am_gi h 105 1) + (1 : Int32))) am_q27 rfl rfl rfl (if_pos (e := none) (lk105 Ly)) ?_
    replace H := H _ rfl
    replace Ly : Lay (am_si h 105 1 ((am_gi h 105 1) + (1 : Int32))) := Ly.si _ _ _
    generalize am_si h 105 1 ((am_gi h 105 1) + (1 : Int32)) = h1 at H Ly ⊢
    refine ev_p (pc' := 164) (loc' := [.ref 105, .null, .null, .null, .null, .null]) (st' := [.ref 105]) 1 am_q27 rfl ?_
    refine ev_s (pc' := 167) (loc' := [.ref 105, .null, .null, .null, .null, .null]) (st' := [.int (am_gi h1 105 1)]) (h1 := h1) am_q27 rfl rfl rfl (if_pos (e := none) (lk105 Ly)) ?_
    refine ev_p (pc' := 169) (loc' := [.ref 105, .null, .null, .null, .null, .null]) (st' := [.int ((am_gi h1 105 1) - (1 : Int32))]) 2 am_q27 rfl ?_
    exact ev_r (v := some (.int ((am_gi h1 105 1) - (1 : Int32)))) am_q27 rfl rfl rfl rfl H
  · replace H := H.2 hq
    refine ev_p (pc' := 115) (loc' := [.ref 105, .null, .int i2, .int i3, .int i4, .null]) (st' := [.int (12 : Int32), .int i4]) 2 am_q27 rfl ?_
    refine ev_jc (t := 153) am_q27 rfl rfl (fun hq => ?_) (fun hq => ?_)
    · replace H := H.1 hq
      refine ev_p (pc' := 155) (loc' := [.ref 105, .null, .null, .null, .null, .null]) (st' := [.ref 105, .ref 105]) 2 am_q27 rfl ?_
      refine ev_s (pc' := 158) (loc' := [.ref 105, .null, .null, .null, .null, .null]) (st' := [.int (am_gi h 105 1), .ref 105]) (h1 := h) am_q27 rfl rfl rfl (if_pos (e := none) (lk105 Ly)) ?_
      refine ev_p (pc' := 160) (loc' := [.ref 105, .null, .null, .null, .null, .null]) (st' := [.int ((am_gi h 105 1) + (1 : Int32)), .ref 105]) 2 am_q27 rfl ?_
      refine ev_s (pc' := 163) (loc' := [.ref 105, .null, .null, .null, .null, .null]) (st' := []) (h1 := am_si h 105 1 ((am_gi h 105 1) + (1 : Int32))) am_q27 rfl rfl rfl (if_pos (e := none) (lk105 Ly)) ?_
      replace H := H _ rfl
      replace Ly : Lay (am_si h 105 1 ((am_gi h 105 1) + (1 : Int32))) := Ly.si _ _ _
      generalize am_si h 105 1 ((am_gi h 105 1) + (1 : Int32)) = h2 at H Ly ⊢
      refine ev_p (pc' := 164) (loc' := [.ref 105, .null, .null, .null, .null, .null]) (st' := [.ref 105]) 1 am_q27 rfl ?_
      refine ev_s (pc' := 167) (loc' := [.ref 105, .null, .null, .null, .null, .null]) (st' := [.int (am_gi h2 105 1)]) (h1 := h2) am_q27 rfl rfl rfl (if_pos (e := none) (lk105 Ly)) ?_
      refine ev_p (pc' := 169) (loc' := [.ref 105, .null, .null, .null, .null, .null]) (st' := [.int ((am_gi h2 105 1) - (1 : Int32))]) 2 am_q27 rfl ?_
      exact ev_r (v := some (.int ((am_gi h2 105 1) - (1 : Int32)))) am_q27 rfl rfl rfl rfl H
    · replace H := H.2 hq
      refine ev_p (pc' := 119) (loc' := [.ref 105, .null, .int i2, .int i3, .int i4, .null]) (st' := [.ref 105]) 1 am_q27 rfl ?_
      refine ev_c (vs := [.ref 105]) (rest := []) 28 am_q27 rfl rfl rfl rfl rfl rfl rfl rfl rfl rfl rfl rfl (Or.inr (congrArg some (lk105 Ly))) (Cl.mono H (Nat.le_refl _) (fun r4 h3 H => ?_))
      obtain ⟨x5, rfl, Ly, H⟩ := H
      refine ev_p (pc' := 125) (loc' := [.ref 105, .null, .int i2, .int i3, .int i4, .int x5]) (st' := [.ref 105]) 2 am_q27 rfl ?_
      refine ev_s (pc' := 128) (loc' := [.ref 105, .null, .int i2, .int i3, .int i4, .int x5]) (st' := [.ref 106]) (h1 := h3) am_q27 rfl rfl rfl (am_gf2 (lk105 Ly) (lr105_0 Ly)) ?_
      refine ev_p (pc' := 133) (loc' := [.ref 105, .null, .int i2, .int i3, .int i4, .int x5]) (st' := [.int (i2 + x5), .ref 106, .int (i2 + x5), .ref 106]) 4 am_q27 rfl ?_
      obtain ⟨g6, H⟩ := H
      refine ev_s (pc' := 134) (loc' := [.ref 105, .null, .int i2, .int i3, .int i4, .int x5]) (st' := [.int (am_gi h3 106 (Int32.toNatClampNeg (i2 + x5))), .int (i2 + x5), .ref 106]) (h1 := h3) am_q27 rfl rfl rfl (am_xx (lk106 Ly) (am_inl (ln106 Ly) g6)) ?_
      refine ev_p (pc' := 136) (loc' := [.ref 105, .null, .int i2, .int i3, .int i4, .int x5]) (st' := [.int ((am_gi h3 106 (Int32.toNatClampNeg (i2 + x5))) + (1 : Int32)), .int (i2 + x5), .ref 106]) 2 am_q27 rfl ?_
      obtain ⟨g7, H⟩ := H
      refine ev_s (pc' := 137) (loc' := [.ref 105, .null, .int i2, .int i3, .int i4, .int x5]) (st' := []) (h1 := am_si h3 106 (Int32.toNatClampNeg (i2 + x5)) ((am_gi h3 106 (Int32.toNatClampNeg (i2 + x5))) + (1 : Int32))) am_q27 rfl rfl rfl (am_xx ⟨lk106 Ly, (Nat.le_of_ble_eq_true rfl)⟩ (am_inl (ln106 Ly) g7)) ?_
      replace H := H _ rfl
      replace Ly : Lay (am_si h3 106 (Int32.toNatClampNeg (i2 + x5)) ((am_gi h3 106 (Int32.toNatClampNeg (i2 + x5))) + (1 : Int32))) := Ly.si _ _ _
      generalize am_si h3 106 (Int32.toNatClampNeg (i2 + x5)) ((am_gi h3 106 (Int32.toNatClampNeg (i2 + x5))) + (1 : Int32)) = h8 at H Ly ⊢
      refine ev_p (pc' := 138) (loc' := [.ref 105, .null, .int i2, .int i3, .int i4, .int x5]) (st' := [.ref 105]) 1 am_q27 rfl ?_
      refine ev_s (pc' := 141) (loc' := [.ref 105, .null, .int i2, .int i3, .int i4, .int x5]) (st' := [.ref 108]) (h1 := h8) am_q27 rfl rfl rfl (am_gf2 (lk105 Ly) (lr105_3 Ly)) ?_
      refine ev_p (pc' := 146) (loc' := [.ref 105, .null, .int i2, .int i3, .int i4, .int x5]) (st' := [.long (-1 : Int64), .int x5, .ref 108]) 2 am_q27 rfl ?_
      obtain ⟨g9, H⟩ := H
      refine ev_s (pc' := 147) (loc' := [.ref 105, .null, .int i2, .int i3, .int i4, .int x5]) (st' := []) (h1 := am_sl h8 108 (Int32.toNatClampNeg x5) (-1 : Int64)) am_q27 rfl rfl rfl (am_xx (lk108 Ly) (am_inl (ln108 Ly) g9)) ?_
      replace H := H _ rfl
      replace Ly : Lay (am_sl h8 108 (Int32.toNatClampNeg x5) (-1 : Int64)) := Ly.sl _ _ _
      generalize am_sl h8 108 (Int32.toNatClampNeg x5) (-1 : Int64) = h10 at H Ly ⊢
      refine ev_p (pc' := 105) (loc' := [.ref 105, .null, .int i2, .int i3, .int (i4 + (1 : Int32)), .int x5]) (st' := []) 2 am_q27 rfl ?_
      exact ev_m (loc' := [.ref 105, .null, .int i2, .int i3, .int (i4 + (1 : Int32)), .null]) am_q27 rfl rfl H
/-! 28: X4_mostLacking -/
set_option maxRecDepth 20000 in
set_option maxHeartbeats 2000000 in
theorem ws28 {d : Nat}   {h : AH} {Q : Option Value → AH → Prop} (Ly : Lay h) (H : Ev d 28 4 [.ref 105, .int (0 : Int32), .int (1 : Int32)] [] h Q) : Cl d 28 [.ref 105] h Q := by
  show Ev d 28 0 [.ref 105, .null, .null] [] h Q
  refine ev_p (pc' := 4) (loc' := [.ref 105, .int (0 : Int32), .int (1 : Int32)]) (st' := []) 4 am_q28 rfl ?_
  exact ev_m (loc' := [.ref 105, .int (0 : Int32), .int (1 : Int32)]) am_q28 rfl rfl H
set_option maxRecDepth 20000 in
set_option maxHeartbeats 2000000 in
theorem ws28_4 {d : Nat}  (i1 : Int32) (i2 : Int32) {h : AH} {Q : Option Value → AH → Prop} (Ly : Lay h) (H : ((12 : Int32) ≤ i2 → Q (some (.int i1)) h) ∧ (¬ (12 : Int32) ≤ i2 → am_in i2 12 ∧ am_in i1 12 ∧ ((lg_cmp (am_gl h 108 (Int32.toNatClampNeg i2)) (am_gl h 108 (Int32.toNatClampNeg i1))) ≤ (0 : Int32) → Ev d 28 4 [.ref 105, .int i1, .int (i2 + (1 : Int32))] [] h Q) ∧ (¬ (lg_cmp (am_gl h 108 (Int32.toNatClampNeg i2)) (am_gl h 108 (Int32.toNatClampNeg i1))) ≤ (0 : Int32) → Ev d 28 4 [.ref 105, .int i2, .int (i2 + (1 : Int32))] [] h Q))) : Ev d 28 4 [.ref 105, .int i1, .int i2] [] h Q := by
  refine ev_p (pc' := 7) (loc' := [.ref 105, .int i1, .int i2]) (st' := [.int (12 : Int32), .int i2]) 2 am_q28 rfl ?_
  refine ev_jc (t := 34) am_q28 rfl rfl (fun hq => ?_) (fun hq => ?_)
  · replace H := H.1 hq
    refine ev_p (pc' := 35) (loc' := [.ref 105, .int i1, .int i2]) (st' := [.int i1]) 1 am_q28 rfl ?_
    exact ev_r (v := some (.int i1)) am_q28 rfl rfl rfl rfl H
  · replace H := H.2 hq
    refine ev_p (pc' := 11) (loc' := [.ref 105, .int i1, .int i2]) (st' := [.ref 105]) 1 am_q28 rfl ?_
    refine ev_s (pc' := 14) (loc' := [.ref 105, .int i1, .int i2]) (st' := [.ref 108]) (h1 := h) am_q28 rfl rfl rfl (am_gf2 (lk105 Ly) (lr105_3 Ly)) ?_
    refine ev_p (pc' := 15) (loc' := [.ref 105, .int i1, .int i2]) (st' := [.int i2, .ref 108]) 1 am_q28 rfl ?_
    obtain ⟨g1, H⟩ := H
    refine ev_s (pc' := 16) (loc' := [.ref 105, .int i1, .int i2]) (st' := [.long (am_gl h 108 (Int32.toNatClampNeg i2))]) (h1 := h) am_q28 rfl rfl rfl (am_xx (lk108 Ly) (am_inl (ln108 Ly) g1)) ?_
    refine ev_p (pc' := 17) (loc' := [.ref 105, .int i1, .int i2]) (st' := [.ref 105, .long (am_gl h 108 (Int32.toNatClampNeg i2))]) 1 am_q28 rfl ?_
    refine ev_s (pc' := 20) (loc' := [.ref 105, .int i1, .int i2]) (st' := [.ref 108, .long (am_gl h 108 (Int32.toNatClampNeg i2))]) (h1 := h) am_q28 rfl rfl rfl (am_gf2 (lk105 Ly) (lr105_3 Ly)) ?_
    refine ev_p (pc' := 21) (loc' := [.ref 105, .int i1, .int i2]) (st' := [.int i1, .ref 108, .long (am_gl h 108 (Int32.toNatClampNeg i2))]) 1 am_q28 rfl ?_
    obtain ⟨g2, H⟩ := H
    refine ev_s (pc' := 22) (loc' := [.ref 105, .int i1, .int i2]) (st' := [.long (am_gl h 108 (Int32.toNatClampNeg i1)), .long (am_gl h 108 (Int32.toNatClampNeg i2))]) (h1 := h) am_q28 rfl rfl rfl (am_xx (lk108 Ly) (am_inl (ln108 Ly) g2)) ?_
    refine ev_p (pc' := 23) (loc' := [.ref 105, .int i1, .int i2]) (st' := [.int (lg_cmp (am_gl h 108 (Int32.toNatClampNeg i2)) (am_gl h 108 (Int32.toNatClampNeg i1)))]) 1 am_q28 rfl ?_
    refine ev_jz (t := 28) am_q28 rfl rfl (fun hq => ?_) (fun hq => ?_)
    · replace H := H.1 hq
      refine ev_p (pc' := 4) (loc' := [.ref 105, .int i1, .int (i2 + (1 : Int32))]) (st' := []) 2 am_q28 rfl ?_
      exact ev_m (loc' := [.ref 105, .int i1, .int (i2 + (1 : Int32))]) am_q28 rfl rfl H
    · replace H := H.2 hq
      refine ev_p (pc' := 4) (loc' := [.ref 105, .int i2, .int (i2 + (1 : Int32))]) (st' := []) 4 am_q28 rfl ?_
      exact ev_m (loc' := [.ref 105, .int i2, .int (i2 + (1 : Int32))]) am_q28 rfl rfl H
/-! 29: X4_share -/
set_option maxRecDepth 20000 in
set_option maxHeartbeats 2000000 in
theorem ws29 {d : Nat}  (i1 : Int32) (i2 : Int32) {h : AH} {Q : Option Value → AH → Prop} (Ly : Lay h) (H : (i1 < (0 : Int32) → Q (some (.int (0 : Int32))) h) ∧ (¬ i1 < (0 : Int32) → (i1 < (am_gi h 105 1) → am_in ((i1 * (12 : Int32)) + i2) 360 ∧ Q (some (.int (am_gi h 106 (Int32.toNatClampNeg ((i1 * (12 : Int32)) + i2))))) h) ∧ (¬ i1 < (am_gi h 105 1) → Q (some (.int (0 : Int32))) h))) : Cl d 29 [.ref 105, .int i1, .int i2] h Q := by
  show Ev d 29 0 [.ref 105, .int i1, .int i2] [] h Q
  refine ev_p (pc' := 1) (loc' := [.ref 105, .int i1, .int i2]) (st' := [.int i1]) 1 am_q29 rfl ?_
  refine ev_jz (t := 12) am_q29 rfl rfl (fun hq => ?_) (fun hq => ?_)
  · replace H := H.1 hq
    refine ev_p (pc' := 13) (loc' := [.null, .null, .null]) (st' := [.int (0 : Int32)]) 1 am_q29 rfl ?_
    exact ev_r (v := some (.int (0 : Int32))) am_q29 rfl rfl rfl rfl H
  · replace H := H.2 hq
    refine ev_p (pc' := 6) (loc' := [.ref 105, .int i1, .int i2]) (st' := [.ref 105, .int i1]) 2 am_q29 rfl ?_
    refine ev_s (pc' := 9) (loc' := [.ref 105, .int i1, .int i2]) (st' := [.int (am_gi h 105 1), .int i1]) (h1 := h) am_q29 rfl rfl rfl (if_pos (e := none) (lk105 Ly)) ?_
    refine ev_jc (t := 14) am_q29 rfl rfl (fun hq => ?_) (fun hq => ?_)
    · replace H := H.1 hq
      refine ev_p (pc' := 15) (loc' := [.ref 105, .int i1, .int i2]) (st' := [.ref 105]) 1 am_q29 rfl ?_
      refine ev_s (pc' := 18) (loc' := [.ref 105, .int i1, .int i2]) (st' := [.ref 106]) (h1 := h) am_q29 rfl rfl rfl (am_gf2 (lk105 Ly) (lr105_0 Ly)) ?_
      refine ev_p (pc' := 24) (loc' := [.ref 105, .int i1, .int i2]) (st' := [.int ((i1 * (12 : Int32)) + i2), .ref 106]) 5 am_q29 rfl ?_
      obtain ⟨g1, H⟩ := H
      refine ev_s (pc' := 25) (loc' := [.ref 105, .int i1, .int i2]) (st' := [.int (am_gi h 106 (Int32.toNatClampNeg ((i1 * (12 : Int32)) + i2)))]) (h1 := h) am_q29 rfl rfl rfl (am_xx (lk106 Ly) (am_inl (ln106 Ly) g1)) ?_
      exact ev_r (v := some (.int (am_gi h 106 (Int32.toNatClampNeg ((i1 * (12 : Int32)) + i2))))) am_q29 rfl rfl rfl rfl H
    · replace H := H.2 hq
      refine ev_p (pc' := 13) (loc' := [.null, .null, .null]) (st' := [.int (0 : Int32)]) 1 am_q29 rfl ?_
      exact ev_r (v := some (.int (0 : Int32))) am_q29 rfl rfl rfl rfl H
