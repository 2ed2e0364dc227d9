/-! 216: X12_feed -/
set_option maxRecDepth 20000 in
set_option maxHeartbeats 2000000 in
theorem ws216 {d : Nat}  (i1 : Int32) (l2 : Int64) {h : AH} {Q : Option Value → AH → Prop} (Ly : Lay h) (H : Cl d 167 [.int i1, .int (1 : Int32), .int (8 : Int32)] h (fun r2 h1 => ∃ x3, r2 = some (.int x3) ∧ Lay h1 ∧ ((¬ x3 = (0 : Int32)) → (((am_gi h1 216 22) + i1) ≤ (400 : Int32) → Ev (d + 1) 216 31 [.ref 216, .int i1, .long l2, .null, .int (0 : Int32)] [] h1 Q) ∧ (¬ ((am_gi h1 216 22) + i1) ≤ (400 : Int32) → Q (some (.int (-4 : Int32))) h1)) ∧ (¬ (¬ x3 = (0 : Int32)) → Q (some (.int (-2 : Int32))) h1))) : Cl (d + 1) 216 [.ref 216, .int i1, .long l2] h Q := by
  show Ev (d + 1) 216 0 [.ref 216, .int i1, .long l2, .null, .null] [] h Q
  refine ev_p (pc' := 4) (loc' := [.ref 216, .int i1, .long l2, .null, .null]) (st' := [.int (8 : Int32), .int (1 : Int32), .int i1]) 3 am_q216 rfl ?_
  refine ev_c (vs := [.int i1, .int (1 : Int32), .int (8 : Int32)]) (rest := []) 167 am_q216 rfl rfl rfl rfl rfl rfl rfl rfl rfl rfl rfl rfl (Or.inl rfl) (Cl.mono H (Nat.le_refl _) (fun r2 h1 H => ?_))
  obtain ⟨x3, rfl, Ly, H⟩ := H
  refine ev_jz (t := 13) am_q216 rfl rfl (fun hq => ?_) (fun hq => ?_)
  · replace H := H.1 hq
    refine ev_p (pc' := 14) (loc' := [.ref 216, .int i1, .long l2, .null, .null]) (st' := [.ref 216]) 1 am_q216 rfl ?_
    refine ev_s (pc' := 17) (loc' := [.ref 216, .int i1, .long l2, .null, .null]) (st' := [.int (am_gi h1 216 22)]) (h1 := h1) am_q216 rfl rfl rfl (if_pos (e := none) (lk216 Ly)) ?_
    refine ev_p (pc' := 22) (loc' := [.ref 216, .int i1, .long l2, .null, .null]) (st' := [.int (400 : Int32), .int ((am_gi h1 216 22) + i1)]) 3 am_q216 rfl ?_
    refine ev_jc (t := 28) am_q216 rfl rfl (fun hq => ?_) (fun hq => ?_)
    · replace H := H.1 hq
      refine ev_p (pc' := 31) (loc' := [.ref 216, .int i1, .long l2, .null, .int (0 : Int32)]) (st' := []) 2 am_q216 rfl ?_
      exact ev_m (loc' := [.ref 216, .int i1, .long l2, .null, .int (0 : Int32)]) am_q216 rfl rfl H
    · replace H := H.2 hq
      refine ev_p (pc' := 27) (loc' := [.ref 216, .int i1, .long l2, .null, .null]) (st' := [.int (-4 : Int32)]) 1 am_q216 rfl ?_
      exact ev_r (v := some (.int (-4 : Int32))) am_q216 rfl rfl rfl rfl H
  · replace H := H.2 hq
    refine ev_p (pc' := 12) (loc' := [.ref 216, .int i1, .long l2, .null, .null]) (st' := [.int (-2 : Int32)]) 1 am_q216 rfl ?_
    exact ev_r (v := some (.int (-2 : Int32))) am_q216 rfl rfl rfl rfl H
set_option maxRecDepth 20000 in
set_option maxHeartbeats 2000000 in
theorem ws216_31 {d : Nat}  (i1 : Int32) (l2 : Int64) (i4 : Int32) {h : AH} {Q : Option Value → AH → Prop} (Ly : Lay h) (H : (i1 ≤ i4 → Q (some (.int (am_gi h 216 22))) h) ∧ (¬ i1 ≤ i4 → am_in (am_gi h 216 22) 400 ∧ ∀ h2, h2 = am_si h 234 (Int32.toNatClampNeg (am_gi h 216 22)) (Int64.toInt32 ((l2 >>> (Int32.toInt64 ((8 : Int32) * i4) &&& 63)) &&& (255 : Int64))) → ∀ h3, h3 = am_si h2 216 22 ((am_gi h2 216 22) + (1 : Int32)) → Ev (d + 1) 216 31 [.ref 216, .int i1, .long l2, .null, .int (i4 + (1 : Int32))] [] h3 Q)) : Ev (d + 1) 216 31 [.ref 216, .int i1, .long l2, .null, .int i4] [] h Q := by
  refine ev_p (pc' := 34) (loc' := [.ref 216, .int i1, .long l2, .null, .int i4]) (st' := [.int i1, .int i4]) 2 am_q216 rfl ?_
  refine ev_jc (t := 74) am_q216 rfl rfl (fun hq => ?_) (fun hq => ?_)
  · replace H := H.1 hq
    refine ev_p (pc' := 75) (loc' := [.ref 216, .int i1, .long l2, .null, .int i4]) (st' := [.ref 216]) 1 am_q216 rfl ?_
    refine ev_s (pc' := 78) (loc' := [.ref 216, .int i1, .long l2, .null, .int i4]) (st' := [.int (am_gi h 216 22)]) (h1 := h) am_q216 rfl rfl rfl (if_pos (e := none) (lk216 Ly)) ?_
    exact ev_r (v := some (.int (am_gi h 216 22))) am_q216 rfl rfl rfl rfl H
  · replace H := H.2 hq
    refine ev_p (pc' := 38) (loc' := [.ref 216, .int i1, .long l2, .null, .int i4]) (st' := [.ref 216]) 1 am_q216 rfl ?_
    refine ev_s (pc' := 41) (loc' := [.ref 216, .int i1, .long l2, .null, .int i4]) (st' := [.ref 234]) (h1 := h) am_q216 rfl rfl rfl (am_gf2 (lk216 Ly) (lr216_21 Ly)) ?_
    refine ev_p (pc' := 42) (loc' := [.ref 216, .int i1, .long l2, .null, .int i4]) (st' := [.ref 216, .ref 234]) 1 am_q216 rfl ?_
    refine ev_s (pc' := 45) (loc' := [.ref 216, .int i1, .long l2, .null, .int i4]) (st' := [.int (am_gi h 216 22), .ref 234]) (h1 := h) am_q216 rfl rfl rfl (if_pos (e := none) (lk216 Ly)) ?_
    refine ev_p (pc' := 57) (loc' := [.ref 216, .int i1, .long l2, .null, .int i4]) (st' := [.int (Int64.toInt32 ((l2 >>> (Int32.toInt64 ((8 : Int32) * i4) &&& 63)) &&& (255 : Int64))), .int (am_gi h 216 22), .ref 234]) 8 am_q216 rfl ?_
    obtain ⟨g1, H⟩ := H
    refine ev_s (pc' := 58) (loc' := [.ref 216, .int i1, .long l2, .null, .int i4]) (st' := []) (h1 := am_si h 234 (Int32.toNatClampNeg (am_gi h 216 22)) (Int64.toInt32 ((l2 >>> (Int32.toInt64 ((8 : Int32) * i4) &&& 63)) &&& (255 : Int64)))) am_q216 rfl rfl rfl (am_xx ⟨lk234 Ly, (Nat.le_of_ble_eq_true rfl)⟩ (am_inl (ln234 Ly) g1)) ?_
    replace H := H _ rfl
    replace Ly : Lay (am_si h 234 (Int32.toNatClampNeg (am_gi h 216 22)) (Int64.toInt32 ((l2 >>> (Int32.toInt64 ((8 : Int32) * i4) &&& 63)) &&& (255 : Int64)))) := Ly.si _ _ _
    generalize am_si h 234 (Int32.toNatClampNeg (am_gi h 216 22)) (Int64.toInt32 ((l2 >>> (Int32.toInt64 ((8 : Int32) * i4) &&& 63)) &&& (255 : Int64))) = h2 at H Ly ⊢
    refine ev_p (pc' := 60) (loc' := [.ref 216, .int i1, .long l2, .null, .int i4]) (st' := [.ref 216, .ref 216]) 2 am_q216 rfl ?_
    refine ev_s (pc' := 63) (loc' := [.ref 216, .int i1, .long l2, .null, .int i4]) (st' := [.int (am_gi h2 216 22), .ref 216]) (h1 := h2) am_q216 rfl rfl rfl (if_pos (e := none) (lk216 Ly)) ?_
    refine ev_p (pc' := 65) (loc' := [.ref 216, .int i1, .long l2, .null, .int i4]) (st' := [.int ((am_gi h2 216 22) + (1 : Int32)), .ref 216]) 2 am_q216 rfl ?_
    refine ev_s (pc' := 68) (loc' := [.ref 216, .int i1, .long l2, .null, .int i4]) (st' := []) (h1 := am_si h2 216 22 ((am_gi h2 216 22) + (1 : Int32))) am_q216 rfl rfl rfl (if_pos (e := none) (lk216 Ly)) ?_
    replace H := H _ rfl
    replace Ly : Lay (am_si h2 216 22 ((am_gi h2 216 22) + (1 : Int32))) := Ly.si _ _ _
    generalize am_si h2 216 22 ((am_gi h2 216 22) + (1 : Int32)) = h3 at H Ly ⊢
    refine ev_p (pc' := 31) (loc' := [.ref 216, .int i1, .long l2, .null, .int (i4 + (1 : Int32))]) (st' := []) 2 am_q216 rfl ?_
    exact ev_m (loc' := [.ref 216, .int i1, .long l2, .null, .int (i4 + (1 : Int32))]) am_q216 rfl rfl H
/-! 217: X12_propose -/
set_option maxRecDepth 20000 in
set_option maxHeartbeats 2000000 in
theorem ws217 {d : Nat}   {h : AH} {Q : Option Value → AH → Prop} (Ly : Lay h) (H : ((¬ (am_gi h 216 23) = (12 : Int32)) → Ev (d + 1) 217 19 [.ref 216, .int (am_gi h 216 23), .int (0 : Int32)] [] h Q) ∧ (¬ (¬ (am_gi h 216 23) = (12 : Int32)) → Q (some (.int (-4 : Int32))) h)) : Cl (d + 1) 217 [.ref 216] h Q := by
  show Ev (d + 1) 217 0 [.ref 216, .null, .null] [] h Q
  refine ev_p (pc' := 1) (loc' := [.ref 216, .null, .null]) (st' := [.ref 216]) 1 am_q217 rfl ?_
  refine ev_s (pc' := 4) (loc' := [.ref 216, .null, .null]) (st' := [.int (am_gi h 216 23)]) (h1 := h) am_q217 rfl rfl rfl (if_pos (e := none) (lk216 Ly)) ?_
  refine ev_p (pc' := 6) (loc' := [.ref 216, .null, .null]) (st' := [.int (12 : Int32), .int (am_gi h 216 23)]) 1 am_q217 rfl ?_
  refine ev_jc (t := 12) am_q217 rfl rfl (fun hq => ?_) (fun hq => ?_)
  · replace H := H.1 hq
    refine ev_p (pc' := 13) (loc' := [.ref 216, .null, .null]) (st' := [.ref 216]) 1 am_q217 rfl ?_
    refine ev_s (pc' := 16) (loc' := [.ref 216, .null, .null]) (st' := [.int (am_gi h 216 23)]) (h1 := h) am_q217 rfl rfl rfl (if_pos (e := none) (lk216 Ly)) ?_
    refine ev_p (pc' := 19) (loc' := [.ref 216, .int (am_gi h 216 23), .int (0 : Int32)]) (st' := []) 3 am_q217 rfl ?_
    exact ev_m (loc' := [.ref 216, .int (am_gi h 216 23), .int (0 : Int32)]) am_q217 rfl rfl H
  · replace H := H.2 hq
    refine ev_p (pc' := 11) (loc' := [.ref 216, .null, .null]) (st' := [.int (-4 : Int32)]) 1 am_q217 rfl ?_
    exact ev_r (v := some (.int (-4 : Int32))) am_q217 rfl rfl rfl rfl H
set_option maxRecDepth 20000 in
set_option maxHeartbeats 2000000 in
theorem ws217_19 {d : Nat}  (i1 : Int32) (i2 : Int32) {h : AH} {Q : Option Value → AH → Prop} (Ly : Lay h) (H : ((am_gi h 216 22) ≤ i2 → am_in i1 13 ∧ ∀ h2, h2 = am_si h 235 (Int32.toNatClampNeg i1) (am_gi h 216 22) → ∀ h3, h3 = am_si h2 216 22 (0 : Int32) → Cl d 203 [.ref 216, .int i1] h3 (fun r5 h4 => r5 = none ∧ Lay h4 ∧ ((am_gi h4 216 55) = (-1 : Int32) → ((am_gi h4 216 56) = (-1 : Int32) → Ev (d + 1) 217 97 [.ref 216, .int i1, .null] [.int (0 : Int32), .ref 216] h4 Q) ∧ (¬ (am_gi h4 216 56) = (-1 : Int32) → Ev (d + 1) 217 97 [.ref 216, .int i1, .null] [.int (2 : Int32), .ref 216] h4 Q)) ∧ (¬ (am_gi h4 216 55) = (-1 : Int32) → Ev (d + 1) 217 97 [.ref 216, .int i1, .null] [.int (1 : Int32), .ref 216] h4 Q))) ∧ (¬ (am_gi h 216 22) ≤ i2 → am_in i2 400 ∧ am_in (((400 : Int32) * i1) + i2) 5200 ∧ ∀ h8, h8 = am_si h 236 (Int32.toNatClampNeg (((400 : Int32) * i1) + i2)) (am_gi h 234 (Int32.toNatClampNeg i2)) → Ev (d + 1) 217 19 [.ref 216, .int i1, .int (i2 + (1 : Int32))] [] h8 Q)) : Ev (d + 1) 217 19 [.ref 216, .int i1, .int i2] [] h Q := by
  refine ev_p (pc' := 21) (loc' := [.ref 216, .int i1, .int i2]) (st' := [.ref 216, .int i2]) 2 am_q217 rfl ?_
  refine ev_s (pc' := 24) (loc' := [.ref 216, .int i1, .int i2]) (st' := [.int (am_gi h 216 22), .int i2]) (h1 := h) am_q217 rfl rfl rfl (if_pos (e := none) (lk216 Ly)) ?_
  refine ev_jc (t := 51) am_q217 rfl rfl (fun hq => ?_) (fun hq => ?_)
  · replace H := H.1 hq
    refine ev_p (pc' := 52) (loc' := [.ref 216, .int i1, .int i2]) (st' := [.ref 216]) 1 am_q217 rfl ?_
    refine ev_s (pc' := 55) (loc' := [.ref 216, .int i1, .int i2]) (st' := [.ref 235]) (h1 := h) am_q217 rfl rfl rfl (am_gf2 (lk216 Ly) (lr216_24 Ly)) ?_
    refine ev_p (pc' := 57) (loc' := [.ref 216, .int i1, .int i2]) (st' := [.ref 216, .int i1, .ref 235]) 2 am_q217 rfl ?_
    refine ev_s (pc' := 60) (loc' := [.ref 216, .int i1, .int i2]) (st' := [.int (am_gi h 216 22), .int i1, .ref 235]) (h1 := h) am_q217 rfl rfl rfl (if_pos (e := none) (lk216 Ly)) ?_
    obtain ⟨g1, H⟩ := H
    refine ev_s (pc' := 61) (loc' := [.ref 216, .int i1, .int i2]) (st' := []) (h1 := am_si h 235 (Int32.toNatClampNeg i1) (am_gi h 216 22)) am_q217 rfl rfl rfl (am_xx ⟨lk235 Ly, (Nat.le_of_ble_eq_true rfl)⟩ (am_inl (ln235 Ly) g1)) ?_
    replace H := H _ rfl
    replace Ly : Lay (am_si h 235 (Int32.toNatClampNeg i1) (am_gi h 216 22)) := Ly.si _ _ _
    generalize am_si h 235 (Int32.toNatClampNeg i1) (am_gi h 216 22) = h2 at H Ly ⊢
    refine ev_p (pc' := 63) (loc' := [.ref 216, .int i1, .int i2]) (st' := [.int (0 : Int32), .ref 216]) 2 am_q217 rfl ?_
    refine ev_s (pc' := 66) (loc' := [.ref 216, .int i1, .int i2]) (st' := []) (h1 := am_si h2 216 22 (0 : Int32)) am_q217 rfl rfl rfl (if_pos (e := none) (lk216 Ly)) ?_
    replace H := H _ rfl
    replace Ly : Lay (am_si h2 216 22 (0 : Int32)) := Ly.si _ _ _
    generalize am_si h2 216 22 (0 : Int32) = h3 at H Ly ⊢
    refine ev_p (pc' := 68) (loc' := [.ref 216, .int i1, .int i2]) (st' := [.int i1, .ref 216]) 2 am_q217 rfl ?_
    refine ev_c (vs := [.ref 216, .int i1]) (rest := []) 203 am_q217 rfl rfl rfl rfl rfl rfl rfl rfl rfl rfl rfl rfl (Or.inr (congrArg some (lk216 Ly))) (Cl.mono H (Nat.le_refl _) (fun r5 h4 H => ?_))
    obtain ⟨rfl, Ly, H⟩ := H
    refine ev_p (pc' := 73) (loc' := [.ref 216, .int i1, .int i2]) (st' := [.ref 216, .ref 216]) 2 am_q217 rfl ?_
    refine ev_s (pc' := 76) (loc' := [.ref 216, .int i1, .int i2]) (st' := [.int (am_gi h4 216 55), .ref 216]) (h1 := h4) am_q217 rfl rfl rfl (if_pos (e := none) (lk216 Ly)) ?_
    refine ev_p (pc' := 77) (loc' := [.ref 216, .int i1, .int i2]) (st' := [.int (-1 : Int32), .int (am_gi h4 216 55), .ref 216]) 1 am_q217 rfl ?_
    refine ev_jc (t := 84) am_q217 rfl rfl (fun hq => ?_) (fun hq => ?_)
    · replace H := H.1 hq
      refine ev_p (pc' := 85) (loc' := [.ref 216, .int i1, .int i2]) (st' := [.ref 216, .ref 216]) 1 am_q217 rfl ?_
      refine ev_s (pc' := 88) (loc' := [.ref 216, .int i1, .int i2]) (st' := [.int (am_gi h4 216 56), .ref 216]) (h1 := h4) am_q217 rfl rfl rfl (if_pos (e := none) (lk216 Ly)) ?_
      refine ev_p (pc' := 89) (loc' := [.ref 216, .int i1, .int i2]) (st' := [.int (-1 : Int32), .int (am_gi h4 216 56), .ref 216]) 1 am_q217 rfl ?_
      refine ev_jc (t := 96) am_q217 rfl rfl (fun hq => ?_) (fun hq => ?_)
      · replace H := H.1 hq
        refine ev_p (pc' := 97) (loc' := [.ref 216, .int i1, .int i2]) (st' := [.int (0 : Int32), .ref 216]) 1 am_q217 rfl ?_
        exact ev_m (loc' := [.ref 216, .int i1, .null]) am_q217 rfl rfl H
      · replace H := H.2 hq
        refine ev_p (pc' := 97) (loc' := [.ref 216, .int i1, .int i2]) (st' := [.int (2 : Int32), .ref 216]) 2 am_q217 rfl ?_
        exact ev_m (loc' := [.ref 216, .int i1, .null]) am_q217 rfl rfl H
    · replace H := H.2 hq
      refine ev_p (pc' := 97) (loc' := [.ref 216, .int i1, .int i2]) (st' := [.int (1 : Int32), .ref 216]) 2 am_q217 rfl ?_
      exact ev_m (loc' := [.ref 216, .int i1, .null]) am_q217 rfl rfl H
  · replace H := H.2 hq
    refine ev_p (pc' := 28) (loc' := [.ref 216, .int i1, .int i2]) (st' := [.ref 216]) 1 am_q217 rfl ?_
    refine ev_s (pc' := 31) (loc' := [.ref 216, .int i1, .int i2]) (st' := [.ref 236]) (h1 := h) am_q217 rfl rfl rfl (am_gf2 (lk216 Ly) (lr216_25 Ly)) ?_
    refine ev_p (pc' := 39) (loc' := [.ref 216, .int i1, .int i2]) (st' := [.ref 216, .int (((400 : Int32) * i1) + i2), .ref 236]) 6 am_q217 rfl ?_
    refine ev_s (pc' := 42) (loc' := [.ref 216, .int i1, .int i2]) (st' := [.ref 234, .int (((400 : Int32) * i1) + i2), .ref 236]) (h1 := h) am_q217 rfl rfl rfl (am_gf2 (lk216 Ly) (lr216_21 Ly)) ?_
    refine ev_p (pc' := 43) (loc' := [.ref 216, .int i1, .int i2]) (st' := [.int i2, .ref 234, .int (((400 : Int32) * i1) + i2), .ref 236]) 1 am_q217 rfl ?_
    obtain ⟨g6, H⟩ := H
    refine ev_s (pc' := 44) (loc' := [.ref 216, .int i1, .int i2]) (st' := [.int (am_gi h 234 (Int32.toNatClampNeg i2)), .int (((400 : Int32) * i1) + i2), .ref 236]) (h1 := h) am_q217 rfl rfl rfl (am_xx (lk234 Ly) (am_inl (ln234 Ly) g6)) ?_
    obtain ⟨g7, H⟩ := H
    refine ev_s (pc' := 45) (loc' := [.ref 216, .int i1, .int i2]) (st' := []) (h1 := am_si h 236 (Int32.toNatClampNeg (((400 : Int32) * i1) + i2)) (am_gi h 234 (Int32.toNatClampNeg i2))) am_q217 rfl rfl rfl (am_xx ⟨lk236 Ly, (Nat.le_of_ble_eq_true rfl)⟩ (am_inl (ln236 Ly) g7)) ?_
    replace H := H _ rfl
    replace Ly : Lay (am_si h 236 (Int32.toNatClampNeg (((400 : Int32) * i1) + i2)) (am_gi h 234 (Int32.toNatClampNeg i2))) := Ly.si _ _ _
    generalize am_si h 236 (Int32.toNatClampNeg (((400 : Int32) * i1) + i2)) (am_gi h 234 (Int32.toNatClampNeg i2)) = h8 at H Ly ⊢
    refine ev_p (pc' := 19) (loc' := [.ref 216, .int i1, .int (i2 + (1 : Int32))]) (st' := []) 2 am_q217 rfl ?_
    exact ev_m (loc' := [.ref 216, .int i1, .int (i2 + (1 : Int32))]) am_q217 rfl rfl H
set_option maxRecDepth 20000 in
set_option maxHeartbeats 2000000 in
theorem ws217_97 {d : Nat}  (i1 : Int32) (s1 : Int32) {h : AH} {Q : Option Value → AH → Prop} (Ly : Lay h) (H : ∀ h1, h1 = am_si h 216 37 s1 → ((am_gi h1 216 55) = (-1 : Int32) → Ev (d + 1) 217 120 [.ref 216, .int i1, .null] [.int (am_gi h1 216 56), .ref 216] h1 Q) ∧ (¬ (am_gi h1 216 55) = (-1 : Int32) → Ev (d + 1) 217 120 [.ref 216, .int i1, .null] [.int (am_gi h1 216 55), .ref 216] h1 Q)) : Ev (d + 1) 217 97 [.ref 216, .int i1, .null] [.int s1, .ref 216] h Q := by
  refine ev_s (pc' := 100) (loc' := [.ref 216, .int i1, .null]) (st' := []) (h1 := am_si h 216 37 s1) am_q217 rfl rfl rfl (if_pos (e := none) (lk216 Ly)) ?_
  replace H := H _ rfl
  replace Ly : Lay (am_si h 216 37 s1) := Ly.si _ _ _
  generalize am_si h 216 37 s1 = h1 at H Ly ⊢
  refine ev_p (pc' := 102) (loc' := [.ref 216, .int i1, .null]) (st' := [.ref 216, .ref 216]) 2 am_q217 rfl ?_
  refine ev_s (pc' := 105) (loc' := [.ref 216, .int i1, .null]) (st' := [.int (am_gi h1 216 55), .ref 216]) (h1 := h1) am_q217 rfl rfl rfl (if_pos (e := none) (lk216 Ly)) ?_
  refine ev_p (pc' := 106) (loc' := [.ref 216, .int i1, .null]) (st' := [.int (-1 : Int32), .int (am_gi h1 216 55), .ref 216]) 1 am_q217 rfl ?_
  refine ev_jc (t := 116) am_q217 rfl rfl (fun hq => ?_) (fun hq => ?_)
  · replace H := H.1 hq
    refine ev_p (pc' := 117) (loc' := [.ref 216, .int i1, .null]) (st' := [.ref 216, .ref 216]) 1 am_q217 rfl ?_
    refine ev_s (pc' := 120) (loc' := [.ref 216, .int i1, .null]) (st' := [.int (am_gi h1 216 56), .ref 216]) (h1 := h1) am_q217 rfl rfl rfl (if_pos (e := none) (lk216 Ly)) ?_
    exact ev_m (loc' := [.ref 216, .int i1, .null]) am_q217 rfl rfl H
  · replace H := H.2 hq
    refine ev_p (pc' := 110) (loc' := [.ref 216, .int i1, .null]) (st' := [.ref 216, .ref 216]) 1 am_q217 rfl ?_
    refine ev_s (pc' := 113) (loc' := [.ref 216, .int i1, .null]) (st' := [.int (am_gi h1 216 55), .ref 216]) (h1 := h1) am_q217 rfl rfl rfl (if_pos (e := none) (lk216 Ly)) ?_
    refine ev_p (pc' := 120) (loc' := [.ref 216, .int i1, .null]) (st' := [.int (am_gi h1 216 55), .ref 216]) 1 am_q217 rfl ?_
    exact ev_m (loc' := [.ref 216, .int i1, .null]) am_q217 rfl rfl H
set_option maxRecDepth 20000 in
set_option maxHeartbeats 2000000 in
theorem ws217_120 {d : Nat}  (i1 : Int32) (s1 : Int32) {h : AH} {Q : Option Value → AH → Prop} (Ly : Lay h) (H : ∀ h1, h1 = am_si h 216 38 s1 → ((am_gi h1 216 37) = (0 : Int32) → am_in i1 13 ∧ ∀ h3, h3 = am_si h1 240 (Int32.toNatClampNeg i1) (0 : Int32) → am_in i1 13 ∧ ∀ h5, h5 = am_si h3 241 (Int32.toNatClampNeg i1) (0 : Int32) → am_in i1 13 ∧ ∀ h7, h7 = am_si h5 242 (Int32.toNatClampNeg i1) (-1 : Int32) → am_in i1 13 ∧ ∀ h9, h9 = am_si h7 243 (Int32.toNatClampNeg i1) (0 : Int32) → am_in i1 13 ∧ ∀ h11, h11 = am_si h9 244 (Int32.toNatClampNeg i1) (-1 : Int32) → am_in i1 13 ∧ ∀ h13, h13 = am_si h11 245 (Int32.toNatClampNeg i1) (0 : Int32) → am_in i1 13 ∧ ∀ h15, h15 = am_si h13 246 (Int32.toNatClampNeg i1) (0 : Int32) → ∀ h16, h16 = am_si h15 216 23 ((am_gi h15 216 23) + (1 : Int32)) → Q (some (.int i1)) h16) ∧ (¬ (am_gi h1 216 37) = (0 : Int32) → Q (some (.int ((-10 : Int32) - (am_gi h1 216 37)))) h1)) : Ev (d + 1) 217 120 [.ref 216, .int i1, .null] [.int s1, .ref 216] h Q := by
  refine ev_s (pc' := 123) (loc' := [.ref 216, .int i1, .null]) (st' := []) (h1 := am_si h 216 38 s1) am_q217 rfl rfl rfl (if_pos (e := none) (lk216 Ly)) ?_
  replace H := H _ rfl
  replace Ly : Lay (am_si h 216 38 s1) := Ly.si _ _ _
  generalize am_si h 216 38 s1 = h1 at H Ly ⊢
  refine ev_p (pc' := 124) (loc' := [.ref 216, .int i1, .null]) (st' := [.ref 216]) 1 am_q217 rfl ?_
  refine ev_s (pc' := 127) (loc' := [.ref 216, .int i1, .null]) (st' := [.int (am_gi h1 216 37)]) (h1 := h1) am_q217 rfl rfl rfl (if_pos (e := none) (lk216 Ly)) ?_
  refine ev_jz (t := 138) am_q217 rfl rfl (fun hq => ?_) (fun hq => ?_)
  · replace H := H.1 hq
    refine ev_p (pc' := 139) (loc' := [.ref 216, .int i1, .null]) (st' := [.ref 216]) 1 am_q217 rfl ?_
    refine ev_s (pc' := 142) (loc' := [.ref 216, .int i1, .null]) (st' := [.ref 240]) (h1 := h1) am_q217 rfl rfl rfl (am_gf2 (lk216 Ly) (lr216_29 Ly)) ?_
    refine ev_p (pc' := 144) (loc' := [.ref 216, .int i1, .null]) (st' := [.int (0 : Int32), .int i1, .ref 240]) 2 am_q217 rfl ?_
    obtain ⟨g2, H⟩ := H
    refine ev_s (pc' := 145) (loc' := [.ref 216, .int i1, .null]) (st' := []) (h1 := am_si h1 240 (Int32.toNatClampNeg i1) (0 : Int32)) am_q217 rfl rfl rfl (am_yz ⟨lk240 Ly, Or.inl rfl⟩ (am_inl (ln240 Ly) g2)) ?_
    replace H := H _ rfl
    replace Ly : Lay (am_si h1 240 (Int32.toNatClampNeg i1) (0 : Int32)) := Ly.si _ _ _
    generalize am_si h1 240 (Int32.toNatClampNeg i1) (0 : Int32) = h3 at H Ly ⊢
    refine ev_p (pc' := 146) (loc' := [.ref 216, .int i1, .null]) (st' := [.ref 216]) 1 am_q217 rfl ?_
    refine ev_s (pc' := 149) (loc' := [.ref 216, .int i1, .null]) (st' := [.ref 241]) (h1 := h3) am_q217 rfl rfl rfl (am_gf2 (lk216 Ly) (lr216_30 Ly)) ?_
    refine ev_p (pc' := 151) (loc' := [.ref 216, .int i1, .null]) (st' := [.int (0 : Int32), .int i1, .ref 241]) 2 am_q217 rfl ?_
    obtain ⟨g4, H⟩ := H
    refine ev_s (pc' := 152) (loc' := [.ref 216, .int i1, .null]) (st' := []) (h1 := am_si h3 241 (Int32.toNatClampNeg i1) (0 : Int32)) am_q217 rfl rfl rfl (am_yz ⟨lk241 Ly, Or.inl rfl⟩ (am_inl (ln241 Ly) g4)) ?_
    replace H := H _ rfl
    replace Ly : Lay (am_si h3 241 (Int32.toNatClampNeg i1) (0 : Int32)) := Ly.si _ _ _
    generalize am_si h3 241 (Int32.toNatClampNeg i1) (0 : Int32) = h5 at H Ly ⊢
    refine ev_p (pc' := 153) (loc' := [.ref 216, .int i1, .null]) (st' := [.ref 216]) 1 am_q217 rfl ?_
    refine ev_s (pc' := 156) (loc' := [.ref 216, .int i1, .null]) (st' := [.ref 242]) (h1 := h5) am_q217 rfl rfl rfl (am_gf2 (lk216 Ly) (lr216_31 Ly)) ?_
    refine ev_p (pc' := 158) (loc' := [.ref 216, .int i1, .null]) (st' := [.int (-1 : Int32), .int i1, .ref 242]) 2 am_q217 rfl ?_
    obtain ⟨g6, H⟩ := H
    refine ev_s (pc' := 159) (loc' := [.ref 216, .int i1, .null]) (st' := []) (h1 := am_si h5 242 (Int32.toNatClampNeg i1) (-1 : Int32)) am_q217 rfl rfl rfl (am_xx ⟨lk242 Ly, (Nat.le_of_ble_eq_true rfl)⟩ (am_inl (ln242 Ly) g6)) ?_
    replace H := H _ rfl
    replace Ly : Lay (am_si h5 242 (Int32.toNatClampNeg i1) (-1 : Int32)) := Ly.si _ _ _
    generalize am_si h5 242 (Int32.toNatClampNeg i1) (-1 : Int32) = h7 at H Ly ⊢
    refine ev_p (pc' := 160) (loc' := [.ref 216, .int i1, .null]) (st' := [.ref 216]) 1 am_q217 rfl ?_
    refine ev_s (pc' := 163) (loc' := [.ref 216, .int i1, .null]) (st' := [.ref 243]) (h1 := h7) am_q217 rfl rfl rfl (am_gf2 (lk216 Ly) (lr216_32 Ly)) ?_
    refine ev_p (pc' := 165) (loc' := [.ref 216, .int i1, .null]) (st' := [.int (0 : Int32), .int i1, .ref 243]) 2 am_q217 rfl ?_
    obtain ⟨g8, H⟩ := H
    refine ev_s (pc' := 166) (loc' := [.ref 216, .int i1, .null]) (st' := []) (h1 := am_si h7 243 (Int32.toNatClampNeg i1) (0 : Int32)) am_q217 rfl rfl rfl (am_xx ⟨lk243 Ly, (Nat.le_of_ble_eq_true rfl)⟩ (am_inl (ln243 Ly) g8)) ?_
    replace H := H _ rfl
    replace Ly : Lay (am_si h7 243 (Int32.toNatClampNeg i1) (0 : Int32)) := Ly.si _ _ _
    generalize am_si h7 243 (Int32.toNatClampNeg i1) (0 : Int32) = h9 at H Ly ⊢
    refine ev_p (pc' := 167) (loc' := [.ref 216, .int i1, .null]) (st' := [.ref 216]) 1 am_q217 rfl ?_
    refine ev_s (pc' := 170) (loc' := [.ref 216, .int i1, .null]) (st' := [.ref 244]) (h1 := h9) am_q217 rfl rfl rfl (am_gf2 (lk216 Ly) (lr216_33 Ly)) ?_
    refine ev_p (pc' := 172) (loc' := [.ref 216, .int i1, .null]) (st' := [.int (-1 : Int32), .int i1, .ref 244]) 2 am_q217 rfl ?_
    obtain ⟨g10, H⟩ := H
    refine ev_s (pc' := 173) (loc' := [.ref 216, .int i1, .null]) (st' := []) (h1 := am_si h9 244 (Int32.toNatClampNeg i1) (-1 : Int32)) am_q217 rfl rfl rfl (am_xx ⟨lk244 Ly, (Nat.le_of_ble_eq_true rfl)⟩ (am_inl (ln244 Ly) g10)) ?_
    replace H := H _ rfl
    replace Ly : Lay (am_si h9 244 (Int32.toNatClampNeg i1) (-1 : Int32)) := Ly.si _ _ _
    generalize am_si h9 244 (Int32.toNatClampNeg i1) (-1 : Int32) = h11 at H Ly ⊢
    refine ev_p (pc' := 174) (loc' := [.ref 216, .int i1, .null]) (st' := [.ref 216]) 1 am_q217 rfl ?_
    refine ev_s (pc' := 177) (loc' := [.ref 216, .int i1, .null]) (st' := [.ref 245]) (h1 := h11) am_q217 rfl rfl rfl (am_gf2 (lk216 Ly) (lr216_34 Ly)) ?_
    refine ev_p (pc' := 179) (loc' := [.ref 216, .int i1, .null]) (st' := [.int (0 : Int32), .int i1, .ref 245]) 2 am_q217 rfl ?_
    obtain ⟨g12, H⟩ := H
    refine ev_s (pc' := 180) (loc' := [.ref 216, .int i1, .null]) (st' := []) (h1 := am_si h11 245 (Int32.toNatClampNeg i1) (0 : Int32)) am_q217 rfl rfl rfl (am_xx ⟨lk245 Ly, (Nat.le_of_ble_eq_true rfl)⟩ (am_inl (ln245 Ly) g12)) ?_
    replace H := H _ rfl
    replace Ly : Lay (am_si h11 245 (Int32.toNatClampNeg i1) (0 : Int32)) := Ly.si _ _ _
    generalize am_si h11 245 (Int32.toNatClampNeg i1) (0 : Int32) = h13 at H Ly ⊢
    refine ev_p (pc' := 181) (loc' := [.ref 216, .int i1, .null]) (st' := [.ref 216]) 1 am_q217 rfl ?_
    refine ev_s (pc' := 184) (loc' := [.ref 216, .int i1, .null]) (st' := [.ref 246]) (h1 := h13) am_q217 rfl rfl rfl (am_gf2 (lk216 Ly) (lr216_35 Ly)) ?_
    refine ev_p (pc' := 186) (loc' := [.ref 216, .int i1, .null]) (st' := [.int (0 : Int32), .int i1, .ref 246]) 2 am_q217 rfl ?_
    obtain ⟨g14, H⟩ := H
    refine ev_s (pc' := 187) (loc' := [.ref 216, .int i1, .null]) (st' := []) (h1 := am_si h13 246 (Int32.toNatClampNeg i1) (0 : Int32)) am_q217 rfl rfl rfl (am_xx ⟨lk246 Ly, (Nat.le_of_ble_eq_true rfl)⟩ (am_inl (ln246 Ly) g14)) ?_
    replace H := H _ rfl
    replace Ly : Lay (am_si h13 246 (Int32.toNatClampNeg i1) (0 : Int32)) := Ly.si _ _ _
    generalize am_si h13 246 (Int32.toNatClampNeg i1) (0 : Int32) = h15 at H Ly ⊢
    refine ev_p (pc' := 189) (loc' := [.ref 216, .int i1, .null]) (st' := [.ref 216, .ref 216]) 2 am_q217 rfl ?_
    refine ev_s (pc' := 192) (loc' := [.ref 216, .int i1, .null]) (st' := [.int (am_gi h15 216 23), .ref 216]) (h1 := h15) am_q217 rfl rfl rfl (if_pos (e := none) (lk216 Ly)) ?_
    refine ev_p (pc' := 194) (loc' := [.ref 216, .int i1, .null]) (st' := [.int ((am_gi h15 216 23) + (1 : Int32)), .ref 216]) 2 am_q217 rfl ?_
    refine ev_s (pc' := 197) (loc' := [.ref 216, .int i1, .null]) (st' := []) (h1 := am_si h15 216 23 ((am_gi h15 216 23) + (1 : Int32))) am_q217 rfl rfl rfl (if_pos (e := none) (lk216 Ly)) ?_
    replace H := H _ rfl
    replace Ly : Lay (am_si h15 216 23 ((am_gi h15 216 23) + (1 : Int32))) := Ly.si _ _ _
    generalize am_si h15 216 23 ((am_gi h15 216 23) + (1 : Int32)) = h16 at H Ly ⊢
    refine ev_p (pc' := 198) (loc' := [.ref 216, .int i1, .null]) (st' := [.int i1]) 1 am_q217 rfl ?_
    exact ev_r (v := some (.int i1)) am_q217 rfl rfl rfl rfl H
  · replace H := H.2 hq
    refine ev_p (pc' := 133) (loc' := [.ref 216, .int i1, .null]) (st' := [.ref 216, .int (-10 : Int32)]) 2 am_q217 rfl ?_
    refine ev_s (pc' := 136) (loc' := [.ref 216, .int i1, .null]) (st' := [.int (am_gi h1 216 37), .int (-10 : Int32)]) (h1 := h1) am_q217 rfl rfl rfl (if_pos (e := none) (lk216 Ly)) ?_
    refine ev_p (pc' := 137) (loc' := [.ref 216, .int i1, .null]) (st' := [.int ((-10 : Int32) - (am_gi h1 216 37))]) 1 am_q217 rfl ?_
    exact ev_r (v := some (.int ((-10 : Int32) - (am_gi h1 216 37)))) am_q217 rfl rfl rfl rfl H
/-! 218: X12_fault -/
set_option maxRecDepth 20000 in
set_option maxHeartbeats 2000000 in
theorem ws218 {d : Nat}  (i1 : Int32) {h : AH} {Q : Option Value → AH → Prop} (Ly : Lay h) (H : ((¬ i1 = (0 : Int32)) → ((¬ i1 = (1 : Int32)) → Q (some (.int (-2 : Int32))) h) ∧ (¬ (¬ i1 = (1 : Int32)) → Q (some (.int (am_gi h 216 38))) h)) ∧ (¬ (¬ i1 = (0 : Int32)) → Q (some (.int (am_gi h 216 37))) h)) : Cl d 218 [.ref 216, .int i1] h Q := by
  show Ev d 218 0 [.ref 216, .int i1] [] h Q
  refine ev_p (pc' := 1) (loc' := [.ref 216, .int i1]) (st' := [.int i1]) 1 am_q218 rfl ?_
  refine ev_jz (t := 11) am_q218 rfl rfl (fun hq => ?_) (fun hq => ?_)
  · replace H := H.1 hq
    refine ev_p (pc' := 13) (loc' := [.ref 216, .int i1]) (st' := [.int (1 : Int32), .int i1]) 2 am_q218 rfl ?_
    refine ev_jc (t := 23) am_q218 rfl rfl (fun hq => ?_) (fun hq => ?_)
    · replace H := H.1 hq
      refine ev_p (pc' := 25) (loc' := [.ref 216, .int i1]) (st' := [.int (-2 : Int32)]) 1 am_q218 rfl ?_
      exact ev_r (v := some (.int (-2 : Int32))) am_q218 rfl rfl rfl rfl H
    · replace H := H.2 hq
      refine ev_p (pc' := 17) (loc' := [.ref 216, .int i1]) (st' := [.ref 216]) 1 am_q218 rfl ?_
      refine ev_s (pc' := 20) (loc' := [.ref 216, .int i1]) (st' := [.int (am_gi h 216 38)]) (h1 := h) am_q218 rfl rfl rfl (if_pos (e := none) (lk216 Ly)) ?_
      refine ev_p (pc' := 25) (loc' := [.ref 216, .int i1]) (st' := [.int (am_gi h 216 38)]) 1 am_q218 rfl ?_
      exact ev_r (v := some (.int (am_gi h 216 38))) am_q218 rfl rfl rfl rfl H
  · replace H := H.2 hq
    refine ev_p (pc' := 5) (loc' := [.ref 216, .int i1]) (st' := [.ref 216]) 1 am_q218 rfl ?_
    refine ev_s (pc' := 8) (loc' := [.ref 216, .int i1]) (st' := [.int (am_gi h 216 37)]) (h1 := h) am_q218 rfl rfl rfl (if_pos (e := none) (lk216 Ly)) ?_
    refine ev_p (pc' := 25) (loc' := [.ref 216, .int i1]) (st' := [.int (am_gi h 216 37)]) 1 am_q218 rfl ?_
    exact ev_r (v := some (.int (am_gi h 216 37))) am_q218 rfl rfl rfl rfl H
/-! 219: X12_isText -/
set_option maxRecDepth 20000 in
set_option maxHeartbeats 2000000 in
theorem ws219 {d : Nat}  (i1 : Int32) {h : AH} {Q : Option Value → AH → Prop} (Ly : Lay h) (H : Cl d 167 [.int i1, .int (0 : Int32), .int ((am_gi h 216 23) - (1 : Int32))] h (fun r2 h1 => ∃ x3, r2 = some (.int x3) ∧ Lay h1 ∧ (x3 = (0 : Int32) ∨ x3 = (1 : Int32)) ∧ Q (some (.int x3)) h1)) : Cl (d + 1) 219 [.ref 216, .int i1] h Q := by
  show Ev (d + 1) 219 0 [.ref 216, .int i1] [] h Q
  refine ev_p (pc' := 3) (loc' := [.ref 216, .int i1]) (st' := [.ref 216, .int (0 : Int32), .int i1]) 3 am_q219 rfl ?_
  refine ev_s (pc' := 6) (loc' := [.ref 216, .int i1]) (st' := [.int (am_gi h 216 23), .int (0 : Int32), .int i1]) (h1 := h) am_q219 rfl rfl rfl (if_pos (e := none) (lk216 Ly)) ?_
  refine ev_p (pc' := 8) (loc' := [.ref 216, .int i1]) (st' := [.int ((am_gi h 216 23) - (1 : Int32)), .int (0 : Int32), .int i1]) 2 am_q219 rfl ?_
  refine ev_c (vs := [.int i1, .int (0 : Int32), .int ((am_gi h 216 23) - (1 : Int32))]) (rest := []) 167 am_q219 rfl rfl rfl rfl rfl rfl rfl rfl rfl rfl rfl rfl (Or.inl rfl) (Cl.mono H (Nat.le_refl _) (fun r2 h1 H => ?_))
  obtain ⟨x3, rfl, Ly, H⟩ := H
  exact ev_r (v := some (.int x3)) am_q219 rfl rfl rfl (decide_eq_true H.1) H.2
/-! 220: X12_vote -/
set_option maxRecDepth 20000 in
set_option maxHeartbeats 2000000 in
theorem ws220 {d : Nat}  (i1 : Int32) (i2 : Int32) (i3 : Int32) {h : AH} {Q : Option Value → AH → Prop} (Ly : Lay h) (H : Cl d 169 [.ref 216, .int i1] h (fun r2 h1 => ∃ x3, r2 = some (.int x3) ∧ Lay h1 ∧ (x3 = (0 : Int32) → Q (some (.int (-2 : Int32))) h1) ∧ (¬ x3 = (0 : Int32) → Cl d 219 [.ref 216, .int i2] h1 (fun r5 h4 => ∃ x6, r5 = some (.int x6) ∧ Lay h4 ∧ ((¬ x6 = (0 : Int32)) → am_in i2 13 ∧ ((¬ (am_gi h4 240 (Int32.toNatClampNeg i2)) = (0 : Int32)) → Q (some (.int (-3 : Int32))) h4) ∧ (¬ (¬ (am_gi h4 240 (Int32.toNatClampNeg i2)) = (0 : Int32)) → am_in i2 13 ∧ ((¬ (am_gi h4 241 (Int32.toNatClampNeg i2)) = (0 : Int32)) → Q (some (.int (-3 : Int32))) h4) ∧ (¬ (¬ (am_gi h4 241 (Int32.toNatClampNeg i2)) = (0 : Int32)) → Cl d 170 [.ref 216, .int i1] h4 (fun r10 h9 => ∃ x11, r10 = some (.int x11) ∧ Lay h9 ∧ (x11 = (0 : Int32) → Q (some (.int (-3 : Int32))) h9) ∧ (¬ x11 = (0 : Int32) → am_in i2 13 ∧ am_in i2 13 ∧ ((((am_gi h9 245 (Int32.toNatClampNeg i2)) ||| (am_gi h9 246 (Int32.toNatClampNeg i2))) &&& ((1 : Int32) <<< (i1 &&& 31))) = (0 : Int32) → am_in i2 13 ∧ (i3 = (0 : Int32) → Ev (d + 1) 220 89 [.ref 216, .null, .int i2, .int i3, .int ((1 : Int32) <<< (i1 &&& 31))] [.int (0 : Int32), .int (am_gi h9 245 (Int32.toNatClampNeg i2)), .int i2, .ref 245] h9 Q) ∧ (¬ i3 = (0 : Int32) → Ev (d + 1) 220 89 [.ref 216, .null, .int i2, .int i3, .int ((1 : Int32) <<< (i1 &&& 31))] [.int ((1 : Int32) <<< (i1 &&& 31)), .int (am_gi h9 245 (Int32.toNatClampNeg i2)), .int i2, .ref 245] h9 Q)) ∧ (¬ (((am_gi h9 245 (Int32.toNatClampNeg i2)) ||| (am_gi h9 246 (Int32.toNatClampNeg i2))) &&& ((1 : Int32) <<< (i1 &&& 31))) = (0 : Int32) → Q (some (.int (-3 : Int32))) h9)))))) ∧ (¬ (¬ x6 = (0 : Int32)) → Q (some (.int (-2 : Int32))) h4))))) : Cl (d + 1) 220 [.ref 216, .int i1, .int i2, .int i3] h Q := by
  show Ev (d + 1) 220 0 [.ref 216, .int i1, .int i2, .int i3, .null] [] h Q
  refine ev_p (pc' := 2) (loc' := [.ref 216, .int i1, .int i2, .int i3, .null]) (st' := [.int i1, .ref 216]) 2 am_q220 rfl ?_
  refine ev_c (vs := [.ref 216, .int i1]) (rest := []) 169 am_q220 rfl rfl rfl rfl rfl rfl rfl rfl rfl rfl rfl rfl (Or.inr (congrArg some (lk216 Ly))) (Cl.mono H (Nat.le_refl _) (fun r2 h1 H => ?_))
  obtain ⟨x3, rfl, Ly, H⟩ := H
  refine ev_jz (t := 16) am_q220 rfl rfl (fun hq => ?_) (fun hq => ?_)
  · replace H := H.1 hq
    refine ev_p (pc' := 18) (loc' := [.null, .null, .null, .null, .null]) (st' := [.int (-2 : Int32)]) 1 am_q220 rfl ?_
    exact ev_r (v := some (.int (-2 : Int32))) am_q220 rfl rfl rfl rfl H
  · replace H := H.2 hq
    refine ev_p (pc' := 10) (loc' := [.ref 216, .int i1, .int i2, .int i3, .null]) (st' := [.int i2, .ref 216]) 2 am_q220 rfl ?_
    refine ev_c (vs := [.ref 216, .int i2]) (rest := []) 219 am_q220 rfl rfl rfl rfl rfl rfl rfl rfl rfl rfl rfl rfl (Or.inr (congrArg some (lk216 Ly))) (Cl.mono H (Nat.le_refl _) (fun r5 h4 H => ?_))
    obtain ⟨x6, rfl, Ly, H⟩ := H
    refine ev_jz (t := 19) am_q220 rfl rfl (fun hq => ?_) (fun hq => ?_)
    · replace H := H.1 hq
      refine ev_p (pc' := 25) (loc' := [.ref 216, .int i1, .int i2, .int i3, .int ((1 : Int32) <<< (i1 &&& 31))]) (st' := [.ref 216]) 5 am_q220 rfl ?_
      refine ev_s (pc' := 28) (loc' := [.ref 216, .int i1, .int i2, .int i3, .int ((1 : Int32) <<< (i1 &&& 31))]) (st' := [.ref 240]) (h1 := h4) am_q220 rfl rfl rfl (am_gf2 (lk216 Ly) (lr216_29 Ly)) ?_
      refine ev_p (pc' := 29) (loc' := [.ref 216, .int i1, .int i2, .int i3, .int ((1 : Int32) <<< (i1 &&& 31))]) (st' := [.int i2, .ref 240]) 1 am_q220 rfl ?_
      obtain ⟨g7, H⟩ := H
      refine ev_s (pc' := 30) (loc' := [.ref 216, .int i1, .int i2, .int i3, .int ((1 : Int32) <<< (i1 &&& 31))]) (st' := [.int (am_gi h4 240 (Int32.toNatClampNeg i2))]) (h1 := h4) am_q220 rfl rfl rfl (am_xx (Or.inr (lk240 Ly)) (am_inl (ln240 Ly) g7)) ?_
      refine ev_jz (t := 69) am_q220 rfl rfl (fun hq => ?_) (fun hq => ?_)
      · replace H := H.1 hq
        refine ev_p (pc' := 71) (loc' := [.null, .null, .null, .null, .null]) (st' := [.int (-3 : Int32)]) 1 am_q220 rfl ?_
        exact ev_r (v := some (.int (-3 : Int32))) am_q220 rfl rfl rfl rfl H
      · replace H := H.2 hq
        refine ev_p (pc' := 34) (loc' := [.ref 216, .int i1, .int i2, .int i3, .int ((1 : Int32) <<< (i1 &&& 31))]) (st' := [.ref 216]) 1 am_q220 rfl ?_
        refine ev_s (pc' := 37) (loc' := [.ref 216, .int i1, .int i2, .int i3, .int ((1 : Int32) <<< (i1 &&& 31))]) (st' := [.ref 241]) (h1 := h4) am_q220 rfl rfl rfl (am_gf2 (lk216 Ly) (lr216_30 Ly)) ?_
        refine ev_p (pc' := 38) (loc' := [.ref 216, .int i1, .int i2, .int i3, .int ((1 : Int32) <<< (i1 &&& 31))]) (st' := [.int i2, .ref 241]) 1 am_q220 rfl ?_
        obtain ⟨g8, H⟩ := H
        refine ev_s (pc' := 39) (loc' := [.ref 216, .int i1, .int i2, .int i3, .int ((1 : Int32) <<< (i1 &&& 31))]) (st' := [.int (am_gi h4 241 (Int32.toNatClampNeg i2))]) (h1 := h4) am_q220 rfl rfl rfl (am_xx (Or.inr (lk241 Ly)) (am_inl (ln241 Ly) g8)) ?_
        refine ev_jz (t := 69) am_q220 rfl rfl (fun hq => ?_) (fun hq => ?_)
        · replace H := H.1 hq
          refine ev_p (pc' := 71) (loc' := [.null, .null, .null, .null, .null]) (st' := [.int (-3 : Int32)]) 1 am_q220 rfl ?_
          exact ev_r (v := some (.int (-3 : Int32))) am_q220 rfl rfl rfl rfl H
        · replace H := H.2 hq
          refine ev_p (pc' := 44) (loc' := [.ref 216, .int i1, .int i2, .int i3, .int ((1 : Int32) <<< (i1 &&& 31))]) (st' := [.int i1, .ref 216]) 2 am_q220 rfl ?_
          refine ev_c (vs := [.ref 216, .int i1]) (rest := []) 170 am_q220 rfl rfl rfl rfl rfl rfl rfl rfl rfl rfl rfl rfl (Or.inr (congrArg some (lk216 Ly))) (Cl.mono H (Nat.le_refl _) (fun r10 h9 H => ?_))
          obtain ⟨x11, rfl, Ly, H⟩ := H
          refine ev_jz (t := 69) am_q220 rfl rfl (fun hq => ?_) (fun hq => ?_)
          · replace H := H.1 hq
            refine ev_p (pc' := 71) (loc' := [.null, .null, .null, .null, .null]) (st' := [.int (-3 : Int32)]) 1 am_q220 rfl ?_
            exact ev_r (v := some (.int (-3 : Int32))) am_q220 rfl rfl rfl rfl H
          · replace H := H.2 hq
            refine ev_p (pc' := 51) (loc' := [.ref 216, .int i1, .int i2, .int i3, .int ((1 : Int32) <<< (i1 &&& 31))]) (st' := [.ref 216]) 1 am_q220 rfl ?_
            refine ev_s (pc' := 54) (loc' := [.ref 216, .int i1, .int i2, .int i3, .int ((1 : Int32) <<< (i1 &&& 31))]) (st' := [.ref 245]) (h1 := h9) am_q220 rfl rfl rfl (am_gf2 (lk216 Ly) (lr216_34 Ly)) ?_
            refine ev_p (pc' := 55) (loc' := [.ref 216, .int i1, .int i2, .int i3, .int ((1 : Int32) <<< (i1 &&& 31))]) (st' := [.int i2, .ref 245]) 1 am_q220 rfl ?_
            obtain ⟨g12, H⟩ := H
            refine ev_s (pc' := 56) (loc' := [.ref 216, .int i1, .int i2, .int i3, .int ((1 : Int32) <<< (i1 &&& 31))]) (st' := [.int (am_gi h9 245 (Int32.toNatClampNeg i2))]) (h1 := h9) am_q220 rfl rfl rfl (am_xx (lk245 Ly) (am_inl (ln245 Ly) g12)) ?_
            refine ev_p (pc' := 57) (loc' := [.ref 216, .int i1, .int i2, .int i3, .int ((1 : Int32) <<< (i1 &&& 31))]) (st' := [.ref 216, .int (am_gi h9 245 (Int32.toNatClampNeg i2))]) 1 am_q220 rfl ?_
            refine ev_s (pc' := 60) (loc' := [.ref 216, .int i1, .int i2, .int i3, .int ((1 : Int32) <<< (i1 &&& 31))]) (st' := [.ref 246, .int (am_gi h9 245 (Int32.toNatClampNeg i2))]) (h1 := h9) am_q220 rfl rfl rfl (am_gf2 (lk216 Ly) (lr216_35 Ly)) ?_
            refine ev_p (pc' := 61) (loc' := [.ref 216, .int i1, .int i2, .int i3, .int ((1 : Int32) <<< (i1 &&& 31))]) (st' := [.int i2, .ref 246, .int (am_gi h9 245 (Int32.toNatClampNeg i2))]) 1 am_q220 rfl ?_
            obtain ⟨g13, H⟩ := H
            refine ev_s (pc' := 62) (loc' := [.ref 216, .int i1, .int i2, .int i3, .int ((1 : Int32) <<< (i1 &&& 31))]) (st' := [.int (am_gi h9 246 (Int32.toNatClampNeg i2)), .int (am_gi h9 245 (Int32.toNatClampNeg i2))]) (h1 := h9) am_q220 rfl rfl rfl (am_xx (lk246 Ly) (am_inl (ln246 Ly) g13)) ?_
            refine ev_p (pc' := 66) (loc' := [.ref 216, .int i1, .int i2, .int i3, .int ((1 : Int32) <<< (i1 &&& 31))]) (st' := [.int (((am_gi h9 245 (Int32.toNatClampNeg i2)) ||| (am_gi h9 246 (Int32.toNatClampNeg i2))) &&& ((1 : Int32) <<< (i1 &&& 31)))]) 3 am_q220 rfl ?_
            refine ev_jz (t := 72) am_q220 rfl rfl (fun hq => ?_) (fun hq => ?_)
            · replace H := H.1 hq
              refine ev_p (pc' := 73) (loc' := [.ref 216, .int i1, .int i2, .int i3, .int ((1 : Int32) <<< (i1 &&& 31))]) (st' := [.ref 216]) 1 am_q220 rfl ?_
              refine ev_s (pc' := 76) (loc' := [.ref 216, .int i1, .int i2, .int i3, .int ((1 : Int32) <<< (i1 &&& 31))]) (st' := [.ref 245]) (h1 := h9) am_q220 rfl rfl rfl (am_gf2 (lk216 Ly) (lr216_34 Ly)) ?_
              refine ev_p (pc' := 78) (loc' := [.ref 216, .int i1, .int i2, .int i3, .int ((1 : Int32) <<< (i1 &&& 31))]) (st' := [.int i2, .ref 245, .int i2, .ref 245]) 2 am_q220 rfl ?_
              obtain ⟨g14, H⟩ := H
              refine ev_s (pc' := 79) (loc' := [.ref 216, .int i1, .int i2, .int i3, .int ((1 : Int32) <<< (i1 &&& 31))]) (st' := [.int (am_gi h9 245 (Int32.toNatClampNeg i2)), .int i2, .ref 245]) (h1 := h9) am_q220 rfl rfl rfl (am_xx (lk245 Ly) (am_inl (ln245 Ly) g14)) ?_
              refine ev_p (pc' := 80) (loc' := [.ref 216, .int i1, .int i2, .int i3, .int ((1 : Int32) <<< (i1 &&& 31))]) (st' := [.int i3, .int (am_gi h9 245 (Int32.toNatClampNeg i2)), .int i2, .ref 245]) 1 am_q220 rfl ?_
              refine ev_jz (t := 88) am_q220 rfl rfl (fun hq => ?_) (fun hq => ?_)
              · replace H := H.1 hq
                refine ev_p (pc' := 89) (loc' := [.ref 216, .int i1, .int i2, .int i3, .int ((1 : Int32) <<< (i1 &&& 31))]) (st' := [.int (0 : Int32), .int (am_gi h9 245 (Int32.toNatClampNeg i2)), .int i2, .ref 245]) 1 am_q220 rfl ?_
                exact ev_m (loc' := [.ref 216, .null, .int i2, .int i3, .int ((1 : Int32) <<< (i1 &&& 31))]) am_q220 rfl rfl H
              · replace H := H.2 hq
                refine ev_p (pc' := 89) (loc' := [.ref 216, .int i1, .int i2, .int i3, .int ((1 : Int32) <<< (i1 &&& 31))]) (st' := [.int ((1 : Int32) <<< (i1 &&& 31)), .int (am_gi h9 245 (Int32.toNatClampNeg i2)), .int i2, .ref 245]) 2 am_q220 rfl ?_
                exact ev_m (loc' := [.ref 216, .null, .int i2, .int i3, .int ((1 : Int32) <<< (i1 &&& 31))]) am_q220 rfl rfl H
            · replace H := H.2 hq
              refine ev_p (pc' := 71) (loc' := [.null, .null, .null, .null, .null]) (st' := [.int (-3 : Int32)]) 1 am_q220 rfl ?_
              exact ev_r (v := some (.int (-3 : Int32))) am_q220 rfl rfl rfl rfl H
    · replace H := H.2 hq
      refine ev_p (pc' := 18) (loc' := [.null, .null, .null, .null, .null]) (st' := [.int (-2 : Int32)]) 1 am_q220 rfl ?_
      exact ev_r (v := some (.int (-2 : Int32))) am_q220 rfl rfl rfl rfl H
set_option maxRecDepth 20000 in
set_option maxHeartbeats 2000000 in
theorem ws220_89 {d : Nat}  (i2 : Int32) (i3 : Int32) (i4 : Int32) (s1 : Int32) (s2 : Int32) (s3 : Int32) {h : AH} {Q : Option Value → AH → Prop} (Ly : Lay h) (H : am_in s1 13 ∧ ∀ h2, h2 = am_si h 245 (Int32.toNatClampNeg s1) (s2 ||| s3) → am_in i2 13 ∧ (i3 = (0 : Int32) → am_in i2 13 ∧ ∀ h5, h5 = am_si h2 246 (Int32.toNatClampNeg i2) ((am_gi h2 246 (Int32.toNatClampNeg i2)) ||| i4) → am_in i2 13 ∧ Cl d 190 [.int (am_gi h5 245 (Int32.toNatClampNeg i2))] h5 (fun r8 h7 => ∃ x9, r8 = some (.int x9) ∧ Lay h7 ∧ Q (some (.int x9)) h7)) ∧ (¬ i3 = (0 : Int32) → am_in i2 13 ∧ ∀ h11, h11 = am_si h2 246 (Int32.toNatClampNeg i2) ((am_gi h2 246 (Int32.toNatClampNeg i2)) ||| (0 : Int32)) → am_in i2 13 ∧ Cl d 190 [.int (am_gi h11 245 (Int32.toNatClampNeg i2))] h11 (fun r14 h13 => ∃ x15, r14 = some (.int x15) ∧ Lay h13 ∧ Q (some (.int x15)) h13))) : Ev (d + 1) 220 89 [.ref 216, .null, .int i2, .int i3, .int i4] [.int s3, .int s2, .int s1, .ref 245] h Q := by
  refine ev_p (pc' := 90) (loc' := [.ref 216, .null, .int i2, .int i3, .int i4]) (st' := [.int (s2 ||| s3), .int s1, .ref 245]) 1 am_q220 rfl ?_
  obtain ⟨g1, H⟩ := H
  refine ev_s (pc' := 91) (loc' := [.ref 216, .null, .int i2, .int i3, .int i4]) (st' := []) (h1 := am_si h 245 (Int32.toNatClampNeg s1) (s2 ||| s3)) am_q220 rfl rfl rfl (am_xx ⟨lk245 Ly, (Nat.le_of_ble_eq_true rfl)⟩ (am_inl (ln245 Ly) g1)) ?_
  replace H := H _ rfl
  replace Ly : Lay (am_si h 245 (Int32.toNatClampNeg s1) (s2 ||| s3)) := Ly.si _ _ _
  generalize am_si h 245 (Int32.toNatClampNeg s1) (s2 ||| s3) = h2 at H Ly ⊢
  refine ev_p (pc' := 92) (loc' := [.ref 216, .null, .int i2, .int i3, .int i4]) (st' := [.ref 216]) 1 am_q220 rfl ?_
  refine ev_s (pc' := 95) (loc' := [.ref 216, .null, .int i2, .int i3, .int i4]) (st' := [.ref 246]) (h1 := h2) am_q220 rfl rfl rfl (am_gf2 (lk216 Ly) (lr216_35 Ly)) ?_
  refine ev_p (pc' := 97) (loc' := [.ref 216, .null, .int i2, .int i3, .int i4]) (st' := [.int i2, .ref 246, .int i2, .ref 246]) 2 am_q220 rfl ?_
  obtain ⟨g3, H⟩ := H
  refine ev_s (pc' := 98) (loc' := [.ref 216, .null, .int i2, .int i3, .int i4]) (st' := [.int (am_gi h2 246 (Int32.toNatClampNeg i2)), .int i2, .ref 246]) (h1 := h2) am_q220 rfl rfl rfl (am_xx (lk246 Ly) (am_inl (ln246 Ly) g3)) ?_
  refine ev_p (pc' := 99) (loc' := [.ref 216, .null, .int i2, .int i3, .int i4]) (st' := [.int i3, .int (am_gi h2 246 (Int32.toNatClampNeg i2)), .int i2, .ref 246]) 1 am_q220 rfl ?_
  refine ev_jz (t := 106) am_q220 rfl rfl (fun hq => ?_) (fun hq => ?_)
  · replace H := H.1 hq
    refine ev_p (pc' := 109) (loc' := [.ref 216, .null, .int i2, .null, .null]) (st' := [.int ((am_gi h2 246 (Int32.toNatClampNeg i2)) ||| i4), .int i2, .ref 246]) 2 am_q220 rfl ?_
    obtain ⟨g4, H⟩ := H
    refine ev_s (pc' := 110) (loc' := [.ref 216, .null, .int i2, .null, .null]) (st' := []) (h1 := am_si h2 246 (Int32.toNatClampNeg i2) ((am_gi h2 246 (Int32.toNatClampNeg i2)) ||| i4)) am_q220 rfl rfl rfl (am_xx ⟨lk246 Ly, (Nat.le_of_ble_eq_true rfl)⟩ (am_inl (ln246 Ly) g4)) ?_
    replace H := H _ rfl
    replace Ly : Lay (am_si h2 246 (Int32.toNatClampNeg i2) ((am_gi h2 246 (Int32.toNatClampNeg i2)) ||| i4)) := Ly.si _ _ _
    generalize am_si h2 246 (Int32.toNatClampNeg i2) ((am_gi h2 246 (Int32.toNatClampNeg i2)) ||| i4) = h5 at H Ly ⊢
    refine ev_p (pc' := 111) (loc' := [.ref 216, .null, .int i2, .null, .null]) (st' := [.ref 216]) 1 am_q220 rfl ?_
    refine ev_s (pc' := 114) (loc' := [.ref 216, .null, .int i2, .null, .null]) (st' := [.ref 245]) (h1 := h5) am_q220 rfl rfl rfl (am_gf2 (lk216 Ly) (lr216_34 Ly)) ?_
    refine ev_p (pc' := 115) (loc' := [.ref 216, .null, .int i2, .null, .null]) (st' := [.int i2, .ref 245]) 1 am_q220 rfl ?_
    obtain ⟨g6, H⟩ := H
    refine ev_s (pc' := 116) (loc' := [.ref 216, .null, .int i2, .null, .null]) (st' := [.int (am_gi h5 245 (Int32.toNatClampNeg i2))]) (h1 := h5) am_q220 rfl rfl rfl (am_xx (lk245 Ly) (am_inl (ln245 Ly) g6)) ?_
    refine ev_c (vs := [.int (am_gi h5 245 (Int32.toNatClampNeg i2))]) (rest := []) 190 am_q220 rfl rfl rfl rfl rfl rfl rfl rfl rfl rfl rfl rfl (Or.inl rfl) (Cl.mono H (Nat.le_refl _) (fun r8 h7 H => ?_))
    obtain ⟨x9, rfl, Ly, H⟩ := H
    exact ev_r (v := some (.int x9)) am_q220 rfl rfl rfl rfl H
  · replace H := H.2 hq
    refine ev_p (pc' := 109) (loc' := [.ref 216, .null, .int i2, .null, .null]) (st' := [.int ((am_gi h2 246 (Int32.toNatClampNeg i2)) ||| (0 : Int32)), .int i2, .ref 246]) 3 am_q220 rfl ?_
    obtain ⟨g10, H⟩ := H
    refine ev_s (pc' := 110) (loc' := [.ref 216, .null, .int i2, .null, .null]) (st' := []) (h1 := am_si h2 246 (Int32.toNatClampNeg i2) ((am_gi h2 246 (Int32.toNatClampNeg i2)) ||| (0 : Int32))) am_q220 rfl rfl rfl (am_xx ⟨lk246 Ly, (Nat.le_of_ble_eq_true rfl)⟩ (am_inl (ln246 Ly) g10)) ?_
    replace H := H _ rfl
    replace Ly : Lay (am_si h2 246 (Int32.toNatClampNeg i2) ((am_gi h2 246 (Int32.toNatClampNeg i2)) ||| (0 : Int32))) := Ly.si _ _ _
    generalize am_si h2 246 (Int32.toNatClampNeg i2) ((am_gi h2 246 (Int32.toNatClampNeg i2)) ||| (0 : Int32)) = h11 at H Ly ⊢
    refine ev_p (pc' := 111) (loc' := [.ref 216, .null, .int i2, .null, .null]) (st' := [.ref 216]) 1 am_q220 rfl ?_
    refine ev_s (pc' := 114) (loc' := [.ref 216, .null, .int i2, .null, .null]) (st' := [.ref 245]) (h1 := h11) am_q220 rfl rfl rfl (am_gf2 (lk216 Ly) (lr216_34 Ly)) ?_
    refine ev_p (pc' := 115) (loc' := [.ref 216, .null, .int i2, .null, .null]) (st' := [.int i2, .ref 245]) 1 am_q220 rfl ?_
    obtain ⟨g12, H⟩ := H
    refine ev_s (pc' := 116) (loc' := [.ref 216, .null, .int i2, .null, .null]) (st' := [.int (am_gi h11 245 (Int32.toNatClampNeg i2))]) (h1 := h11) am_q220 rfl rfl rfl (am_xx (lk245 Ly) (am_inl (ln245 Ly) g12)) ?_
    refine ev_c (vs := [.int (am_gi h11 245 (Int32.toNatClampNeg i2))]) (rest := []) 190 am_q220 rfl rfl rfl rfl rfl rfl rfl rfl rfl rfl rfl rfl (Or.inl rfl) (Cl.mono H (Nat.le_refl _) (fun r14 h13 H => ?_))
    obtain ⟨x15, rfl, Ly, H⟩ := H
    exact ev_r (v := some (.int x15)) am_q220 rfl rfl rfl rfl H
/-! 221: X12_carry -/
set_option maxRecDepth 20000 in
set_option maxHeartbeats 2000000 in
theorem ws221 {d : Nat}  (i1 : Int32) (i2 : Int32) {h : AH} {Q : Option Value → AH → Prop} (Ly : Lay h) (H : Cl d 219 [.ref 216, .int i1] h (fun r2 h1 => ∃ x3, r2 = some (.int x3) ∧ Lay h1 ∧ (x3 = (0 : Int32) → Q (some (.int (-2 : Int32))) h1) ∧ (¬ x3 = (0 : Int32) → Cl d 167 [.int i2, .int (am_gi h1 216 0), .int (2000000 : Int32)] h1 (fun r5 h4 => ∃ x6, r5 = some (.int x6) ∧ Lay h4 ∧ ((¬ x6 = (0 : Int32)) → am_in i1 13 ∧ ((¬ (am_gi h4 240 (Int32.toNatClampNeg i1)) = (0 : Int32)) → Q (some (.int (-3 : Int32))) h4) ∧ (¬ (¬ (am_gi h4 240 (Int32.toNatClampNeg i1)) = (0 : Int32)) → am_in i1 13 ∧ ((am_gi h4 241 (Int32.toNatClampNeg i1)) = (0 : Int32) → am_in i1 13 ∧ Cl d 190 [.int (am_gi h4 245 (Int32.toNatClampNeg i1))] h4 (fun r11 h10 => ∃ x12, r11 = some (.int x12) ∧ Lay h10 ∧ Cl d 213 [.ref 216, .int (2 : Int32), .int (-1 : Int32), .int (-1 : Int32)] h10 (fun r14 h13 => ∃ y15, r14 = some (.long y15) ∧ Lay h13 ∧ ((0 : Int32) ≤ (lg_cmp (Int32.toInt64 x12) y15) → Cl d 215 [.ref 216, .int (am_gi h13 216 0)] h13 (fun r17 h16 => ∃ x18, r17 = some (.int x18) ∧ Lay h16 ∧ am_in i1 13 ∧ ∀ h20, h20 = am_si h16 244 (Int32.toNatClampNeg i1) x18 → am_in i1 13 ∧ ∀ h22, h22 = am_si h20 240 (Int32.toNatClampNeg i1) (1 : Int32) → am_in i1 13 ∧ ∀ h24, h24 = am_si h22 242 (Int32.toNatClampNeg i1) i2 → am_in i1 13 ∧ ∀ h26, h26 = am_si h24 243 (Int32.toNatClampNeg i1) (am_gi h24 216 36) → ∀ h27, h27 = am_si h26 216 36 ((am_gi h26 216 36) + (1 : Int32)) → Q (some (.int (1 : Int32))) h27)) ∧ (¬ (0 : Int32) ≤ (lg_cmp (Int32.toInt64 x12) y15) → Q (some (.int (0 : Int32))) h13)))) ∧ (¬ (am_gi h4 241 (Int32.toNatClampNeg i1)) = (0 : Int32) → Q (some (.int (-3 : Int32))) h4))) ∧ (¬ (¬ x6 = (0 : Int32)) → Q (some (.int (-2 : Int32))) h4))))) : Cl (d + 1) 221 [.ref 216, .int i1, .int i2] h Q := by
  show Ev (d + 1) 221 0 [.ref 216, .int i1, .int i2] [] h Q
  refine ev_p (pc' := 2) (loc' := [.ref 216, .int i1, .int i2]) (st' := [.int i1, .ref 216]) 2 am_q221 rfl ?_
  refine ev_c (vs := [.ref 216, .int i1]) (rest := []) 219 am_q221 rfl rfl rfl rfl rfl rfl rfl rfl rfl rfl rfl rfl (Or.inr (congrArg some (lk216 Ly))) (Cl.mono H (Nat.le_refl _) (fun r2 h1 H => ?_))
  obtain ⟨x3, rfl, Ly, H⟩ := H
  refine ev_jz (t := 21) am_q221 rfl rfl (fun hq => ?_) (fun hq => ?_)
  · replace H := H.1 hq
    refine ev_p (pc' := 23) (loc' := [.null, .null, .null]) (st' := [.int (-2 : Int32)]) 1 am_q221 rfl ?_
    exact ev_r (v := some (.int (-2 : Int32))) am_q221 rfl rfl rfl rfl H
  · replace H := H.2 hq
    refine ev_p (pc' := 10) (loc' := [.ref 216, .int i1, .int i2]) (st' := [.ref 216, .int i2]) 2 am_q221 rfl ?_
    refine ev_s (pc' := 13) (loc' := [.ref 216, .int i1, .int i2]) (st' := [.int (am_gi h1 216 0), .int i2]) (h1 := h1) am_q221 rfl rfl rfl (if_pos (e := none) (lk216 Ly)) ?_
    refine ev_p (pc' := 15) (loc' := [.ref 216, .int i1, .int i2]) (st' := [.int (2000000 : Int32), .int (am_gi h1 216 0), .int i2]) 1 am_q221 rfl ?_
    refine ev_c (vs := [.int i2, .int (am_gi h1 216 0), .int (2000000 : Int32)]) (rest := []) 167 am_q221 rfl rfl rfl rfl rfl rfl rfl rfl rfl rfl rfl rfl (Or.inl rfl) (Cl.mono H (Nat.le_refl _) (fun r5 h4 H => ?_))
    obtain ⟨x6, rfl, Ly, H⟩ := H
    refine ev_jz (t := 24) am_q221 rfl rfl (fun hq => ?_) (fun hq => ?_)
    · replace H := H.1 hq
      refine ev_p (pc' := 25) (loc' := [.ref 216, .int i1, .int i2]) (st' := [.ref 216]) 1 am_q221 rfl ?_
      refine ev_s (pc' := 28) (loc' := [.ref 216, .int i1, .int i2]) (st' := [.ref 240]) (h1 := h4) am_q221 rfl rfl rfl (am_gf2 (lk216 Ly) (lr216_29 Ly)) ?_
      refine ev_p (pc' := 29) (loc' := [.ref 216, .int i1, .int i2]) (st' := [.int i1, .ref 240]) 1 am_q221 rfl ?_
      obtain ⟨g7, H⟩ := H
      refine ev_s (pc' := 30) (loc' := [.ref 216, .int i1, .int i2]) (st' := [.int (am_gi h4 240 (Int32.toNatClampNeg i1))]) (h1 := h4) am_q221 rfl rfl rfl (am_xx (Or.inr (lk240 Ly)) (am_inl (ln240 Ly) g7)) ?_
      refine ev_jz (t := 42) am_q221 rfl rfl (fun hq => ?_) (fun hq => ?_)
      · replace H := H.1 hq
        refine ev_p (pc' := 44) (loc' := [.null, .null, .null]) (st' := [.int (-3 : Int32)]) 1 am_q221 rfl ?_
        exact ev_r (v := some (.int (-3 : Int32))) am_q221 rfl rfl rfl rfl H
      · replace H := H.2 hq
        refine ev_p (pc' := 34) (loc' := [.ref 216, .int i1, .int i2]) (st' := [.ref 216]) 1 am_q221 rfl ?_
        refine ev_s (pc' := 37) (loc' := [.ref 216, .int i1, .int i2]) (st' := [.ref 241]) (h1 := h4) am_q221 rfl rfl rfl (am_gf2 (lk216 Ly) (lr216_30 Ly)) ?_
        refine ev_p (pc' := 38) (loc' := [.ref 216, .int i1, .int i2]) (st' := [.int i1, .ref 241]) 1 am_q221 rfl ?_
        obtain ⟨g8, H⟩ := H
        refine ev_s (pc' := 39) (loc' := [.ref 216, .int i1, .int i2]) (st' := [.int (am_gi h4 241 (Int32.toNatClampNeg i1))]) (h1 := h4) am_q221 rfl rfl rfl (am_xx (Or.inr (lk241 Ly)) (am_inl (ln241 Ly) g8)) ?_
        refine ev_jz (t := 45) am_q221 rfl rfl (fun hq => ?_) (fun hq => ?_)
        · replace H := H.1 hq
          refine ev_p (pc' := 46) (loc' := [.ref 216, .int i1, .int i2]) (st' := [.ref 216]) 1 am_q221 rfl ?_
          refine ev_s (pc' := 49) (loc' := [.ref 216, .int i1, .int i2]) (st' := [.ref 245]) (h1 := h4) am_q221 rfl rfl rfl (am_gf2 (lk216 Ly) (lr216_34 Ly)) ?_
          refine ev_p (pc' := 50) (loc' := [.ref 216, .int i1, .int i2]) (st' := [.int i1, .ref 245]) 1 am_q221 rfl ?_
          obtain ⟨g9, H⟩ := H
          refine ev_s (pc' := 51) (loc' := [.ref 216, .int i1, .int i2]) (st' := [.int (am_gi h4 245 (Int32.toNatClampNeg i1))]) (h1 := h4) am_q221 rfl rfl rfl (am_xx (lk245 Ly) (am_inl (ln245 Ly) g9)) ?_
          refine ev_c (vs := [.int (am_gi h4 245 (Int32.toNatClampNeg i1))]) (rest := []) 190 am_q221 rfl rfl rfl rfl rfl rfl rfl rfl rfl rfl rfl rfl (Or.inl rfl) (Cl.mono H (Nat.le_refl _) (fun r11 h10 H => ?_))
          obtain ⟨x12, rfl, Ly, H⟩ := H
          refine ev_p (pc' := 59) (loc' := [.ref 216, .int i1, .int i2]) (st' := [.int (-1 : Int32), .int (-1 : Int32), .int (2 : Int32), .ref 216, .long (Int32.toInt64 x12)]) 5 am_q221 rfl ?_
          refine ev_c (vs := [.ref 216, .int (2 : Int32), .int (-1 : Int32), .int (-1 : Int32)]) (rest := [.long (Int32.toInt64 x12)]) 213 am_q221 rfl rfl rfl rfl rfl rfl rfl rfl rfl rfl rfl rfl (Or.inr (congrArg some (lk216 Ly))) (Cl.mono H (Nat.le_refl _) (fun r14 h13 H => ?_))
          obtain ⟨y15, rfl, Ly, H⟩ := H
          refine ev_p (pc' := 63) (loc' := [.ref 216, .int i1, .int i2]) (st' := [.int (lg_cmp (Int32.toInt64 x12) y15)]) 1 am_q221 rfl ?_
          refine ev_jz (t := 68) am_q221 rfl rfl (fun hq => ?_) (fun hq => ?_)
          · replace H := H.1 hq
            refine ev_p (pc' := 69) (loc' := [.ref 216, .int i1, .int i2]) (st' := [.ref 216]) 1 am_q221 rfl ?_
            refine ev_s (pc' := 72) (loc' := [.ref 216, .int i1, .int i2]) (st' := [.ref 244]) (h1 := h13) am_q221 rfl rfl rfl (am_gf2 (lk216 Ly) (lr216_33 Ly)) ?_
            refine ev_p (pc' := 75) (loc' := [.ref 216, .int i1, .int i2]) (st' := [.ref 216, .ref 216, .int i1, .ref 244]) 3 am_q221 rfl ?_
            refine ev_s (pc' := 78) (loc' := [.ref 216, .int i1, .int i2]) (st' := [.int (am_gi h13 216 0), .ref 216, .int i1, .ref 244]) (h1 := h13) am_q221 rfl rfl rfl (if_pos (e := none) (lk216 Ly)) ?_
            refine ev_c (vs := [.ref 216, .int (am_gi h13 216 0)]) (rest := [.int i1, .ref 244]) 215 am_q221 rfl rfl rfl rfl rfl rfl rfl rfl rfl rfl rfl rfl (Or.inr (congrArg some (lk216 Ly))) (Cl.mono H (Nat.le_refl _) (fun r17 h16 H => ?_))
            obtain ⟨x18, rfl, Ly, H⟩ := H
            obtain ⟨g19, H⟩ := H
            refine ev_s (pc' := 82) (loc' := [.ref 216, .int i1, .int i2]) (st' := []) (h1 := am_si h16 244 (Int32.toNatClampNeg i1) x18) am_q221 rfl rfl rfl (am_xx ⟨lk244 Ly, (Nat.le_of_ble_eq_true rfl)⟩ (am_inl (ln244 Ly) g19)) ?_
            replace H := H _ rfl
            replace Ly : Lay (am_si h16 244 (Int32.toNatClampNeg i1) x18) := Ly.si _ _ _
            generalize am_si h16 244 (Int32.toNatClampNeg i1) x18 = h20 at H Ly ⊢
            refine ev_p (pc' := 83) (loc' := [.ref 216, .int i1, .int i2]) (st' := [.ref 216]) 1 am_q221 rfl ?_
            refine ev_s (pc' := 86) (loc' := [.ref 216, .int i1, .int i2]) (st' := [.ref 240]) (h1 := h20) am_q221 rfl rfl rfl (am_gf2 (lk216 Ly) (lr216_29 Ly)) ?_
            refine ev_p (pc' := 88) (loc' := [.ref 216, .int i1, .int i2]) (st' := [.int (1 : Int32), .int i1, .ref 240]) 2 am_q221 rfl ?_
            obtain ⟨g21, H⟩ := H
            refine ev_s (pc' := 89) (loc' := [.ref 216, .int i1, .int i2]) (st' := []) (h1 := am_si h20 240 (Int32.toNatClampNeg i1) (1 : Int32)) am_q221 rfl rfl rfl (am_yz ⟨lk240 Ly, Or.inr rfl⟩ (am_inl (ln240 Ly) g21)) ?_
            replace H := H _ rfl
            replace Ly : Lay (am_si h20 240 (Int32.toNatClampNeg i1) (1 : Int32)) := Ly.si _ _ _
            generalize am_si h20 240 (Int32.toNatClampNeg i1) (1 : Int32) = h22 at H Ly ⊢
            refine ev_p (pc' := 90) (loc' := [.ref 216, .int i1, .int i2]) (st' := [.ref 216]) 1 am_q221 rfl ?_
            refine ev_s (pc' := 93) (loc' := [.ref 216, .int i1, .int i2]) (st' := [.ref 242]) (h1 := h22) am_q221 rfl rfl rfl (am_gf2 (lk216 Ly) (lr216_31 Ly)) ?_
            refine ev_p (pc' := 95) (loc' := [.ref 216, .int i1, .int i2]) (st' := [.int i2, .int i1, .ref 242]) 2 am_q221 rfl ?_
            obtain ⟨g23, H⟩ := H
            refine ev_s (pc' := 96) (loc' := [.ref 216, .int i1, .int i2]) (st' := []) (h1 := am_si h22 242 (Int32.toNatClampNeg i1) i2) am_q221 rfl rfl rfl (am_xx ⟨lk242 Ly, (Nat.le_of_ble_eq_true rfl)⟩ (am_inl (ln242 Ly) g23)) ?_
            replace H := H _ rfl
            replace Ly : Lay (am_si h22 242 (Int32.toNatClampNeg i1) i2) := Ly.si _ _ _
            generalize am_si h22 242 (Int32.toNatClampNeg i1) i2 = h24 at H Ly ⊢
            refine ev_p (pc' := 97) (loc' := [.ref 216, .int i1, .int i2]) (st' := [.ref 216]) 1 am_q221 rfl ?_
            refine ev_s (pc' := 100) (loc' := [.ref 216, .int i1, .int i2]) (st' := [.ref 243]) (h1 := h24) am_q221 rfl rfl rfl (am_gf2 (lk216 Ly) (lr216_32 Ly)) ?_
            refine ev_p (pc' := 102) (loc' := [.ref 216, .int i1, .int i2]) (st' := [.ref 216, .int i1, .ref 243]) 2 am_q221 rfl ?_
            refine ev_s (pc' := 105) (loc' := [.ref 216, .int i1, .int i2]) (st' := [.int (am_gi h24 216 36), .int i1, .ref 243]) (h1 := h24) am_q221 rfl rfl rfl (if_pos (e := none) (lk216 Ly)) ?_
            obtain ⟨g25, H⟩ := H
            refine ev_s (pc' := 106) (loc' := [.ref 216, .int i1, .int i2]) (st' := []) (h1 := am_si h24 243 (Int32.toNatClampNeg i1) (am_gi h24 216 36)) am_q221 rfl rfl rfl (am_xx ⟨lk243 Ly, (Nat.le_of_ble_eq_true rfl)⟩ (am_inl (ln243 Ly) g25)) ?_
            replace H := H _ rfl
            replace Ly : Lay (am_si h24 243 (Int32.toNatClampNeg i1) (am_gi h24 216 36)) := Ly.si _ _ _
            generalize am_si h24 243 (Int32.toNatClampNeg i1) (am_gi h24 216 36) = h26 at H Ly ⊢
            refine ev_p (pc' := 108) (loc' := [.ref 216, .int i1, .int i2]) (st' := [.ref 216, .ref 216]) 2 am_q221 rfl ?_
            refine ev_s (pc' := 111) (loc' := [.ref 216, .int i1, .int i2]) (st' := [.int (am_gi h26 216 36), .ref 216]) (h1 := h26) am_q221 rfl rfl rfl (if_pos (e := none) (lk216 Ly)) ?_
            refine ev_p (pc' := 113) (loc' := [.ref 216, .int i1, .int i2]) (st' := [.int ((am_gi h26 216 36) + (1 : Int32)), .ref 216]) 2 am_q221 rfl ?_
            refine ev_s (pc' := 116) (loc' := [.ref 216, .int i1, .int i2]) (st' := []) (h1 := am_si h26 216 36 ((am_gi h26 216 36) + (1 : Int32))) am_q221 rfl rfl rfl (if_pos (e := none) (lk216 Ly)) ?_
            replace H := H _ rfl
            replace Ly : Lay (am_si h26 216 36 ((am_gi h26 216 36) + (1 : Int32))) := Ly.si _ _ _
            generalize am_si h26 216 36 ((am_gi h26 216 36) + (1 : Int32)) = h27 at H Ly ⊢
            refine ev_p (pc' := 117) (loc' := [.ref 216, .int i1, .int i2]) (st' := [.int (1 : Int32)]) 1 am_q221 rfl ?_
            exact ev_r (v := some (.int (1 : Int32))) am_q221 rfl rfl rfl rfl H
          · replace H := H.2 hq
            refine ev_p (pc' := 67) (loc' := [.ref 216, .int i1, .int i2]) (st' := [.int (0 : Int32)]) 1 am_q221 rfl ?_
            exact ev_r (v := some (.int (0 : Int32))) am_q221 rfl rfl rfl rfl H
        · replace H := H.2 hq
          refine ev_p (pc' := 44) (loc' := [.null, .null, .null]) (st' := [.int (-3 : Int32)]) 1 am_q221 rfl ?_
          exact ev_r (v := some (.int (-3 : Int32))) am_q221 rfl rfl rfl rfl H
    · replace H := H.2 hq
      refine ev_p (pc' := 23) (loc' := [.null, .null, .null]) (st' := [.int (-2 : Int32)]) 1 am_q221 rfl ?_
      exact ev_r (v := some (.int (-2 : Int32))) am_q221 rfl rfl rfl rfl H
/-! 222: X12_tear -/
set_option maxRecDepth 20000 in
set_option maxHeartbeats 2000000 in
theorem ws222 {d : Nat}  (i1 : Int32) {h : AH} {Q : Option Value → AH → Prop} (Ly : Lay h) (H : Cl d 219 [.ref 216, .int i1] h (fun r2 h1 => ∃ x3, r2 = some (.int x3) ∧ Lay h1 ∧ (x3 = (0 : Int32) → Q (some (.int (-2 : Int32))) h1) ∧ (¬ x3 = (0 : Int32) → ((¬ i1 = (0 : Int32)) → am_in i1 13 ∧ ((am_gi h1 241 (Int32.toNatClampNeg i1)) = (0 : Int32) → am_in i1 13 ∧ ∀ h6, h6 = am_si h1 241 (Int32.toNatClampNeg i1) (1 : Int32) → Ev (d + 1) 222 38 [.ref 216, .null, .int (1 : Int32), .int (1 : Int32), .null] [] h6 Q) ∧ (¬ (am_gi h1 241 (Int32.toNatClampNeg i1)) = (0 : Int32) → Q (some (.int (-3 : Int32))) h1)) ∧ (¬ (¬ i1 = (0 : Int32)) → Q (some (.int (-2 : Int32))) h1)))) : Cl (d + 1) 222 [.ref 216, .int i1] h Q := by
  show Ev (d + 1) 222 0 [.ref 216, .int i1, .null, .null, .null] [] h Q
  refine ev_p (pc' := 2) (loc' := [.ref 216, .int i1, .null, .null, .null]) (st' := [.int i1, .ref 216]) 2 am_q222 rfl ?_
  refine ev_c (vs := [.ref 216, .int i1]) (rest := []) 219 am_q222 rfl rfl rfl rfl rfl rfl rfl rfl rfl rfl rfl rfl (Or.inr (congrArg some (lk216 Ly))) (Cl.mono H (Nat.le_refl _) (fun r2 h1 H => ?_))
  obtain ⟨x3, rfl, Ly, H⟩ := H
  refine ev_jz (t := 12) am_q222 rfl rfl (fun hq => ?_) (fun hq => ?_)
  · replace H := H.1 hq
    refine ev_p (pc' := 14) (loc' := [.null, .null, .null, .null, .null]) (st' := [.int (-2 : Int32)]) 1 am_q222 rfl ?_
    exact ev_r (v := some (.int (-2 : Int32))) am_q222 rfl rfl rfl rfl H
  · replace H := H.2 hq
    refine ev_p (pc' := 9) (loc' := [.ref 216, .int i1, .null, .null, .null]) (st' := [.int i1]) 1 am_q222 rfl ?_
    refine ev_jz (t := 15) am_q222 rfl rfl (fun hq => ?_) (fun hq => ?_)
    · replace H := H.1 hq
      refine ev_p (pc' := 16) (loc' := [.ref 216, .int i1, .null, .null, .null]) (st' := [.ref 216]) 1 am_q222 rfl ?_
      refine ev_s (pc' := 19) (loc' := [.ref 216, .int i1, .null, .null, .null]) (st' := [.ref 241]) (h1 := h1) am_q222 rfl rfl rfl (am_gf2 (lk216 Ly) (lr216_30 Ly)) ?_
      refine ev_p (pc' := 20) (loc' := [.ref 216, .int i1, .null, .null, .null]) (st' := [.int i1, .ref 241]) 1 am_q222 rfl ?_
      obtain ⟨g4, H⟩ := H
      refine ev_s (pc' := 21) (loc' := [.ref 216, .int i1, .null, .null, .null]) (st' := [.int (am_gi h1 241 (Int32.toNatClampNeg i1))]) (h1 := h1) am_q222 rfl rfl rfl (am_xx (Or.inr (lk241 Ly)) (am_inl (ln241 Ly) g4)) ?_
      refine ev_jz (t := 27) am_q222 rfl rfl (fun hq => ?_) (fun hq => ?_)
      · replace H := H.1 hq
        refine ev_p (pc' := 28) (loc' := [.ref 216, .int i1, .null, .null, .null]) (st' := [.ref 216]) 1 am_q222 rfl ?_
        refine ev_s (pc' := 31) (loc' := [.ref 216, .int i1, .null, .null, .null]) (st' := [.ref 241]) (h1 := h1) am_q222 rfl rfl rfl (am_gf2 (lk216 Ly) (lr216_30 Ly)) ?_
        refine ev_p (pc' := 33) (loc' := [.ref 216, .int i1, .null, .null, .null]) (st' := [.int (1 : Int32), .int i1, .ref 241]) 2 am_q222 rfl ?_
        obtain ⟨g5, H⟩ := H
        refine ev_s (pc' := 34) (loc' := [.ref 216, .int i1, .null, .null, .null]) (st' := []) (h1 := am_si h1 241 (Int32.toNatClampNeg i1) (1 : Int32)) am_q222 rfl rfl rfl (am_yz ⟨lk241 Ly, Or.inr rfl⟩ (am_inl (ln241 Ly) g5)) ?_
        replace H := H _ rfl
        replace Ly : Lay (am_si h1 241 (Int32.toNatClampNeg i1) (1 : Int32)) := Ly.si _ _ _
        generalize am_si h1 241 (Int32.toNatClampNeg i1) (1 : Int32) = h6 at H Ly ⊢
        refine ev_p (pc' := 38) (loc' := [.ref 216, .int i1, .int (1 : Int32), .int (1 : Int32), .null]) (st' := []) 4 am_q222 rfl ?_
        exact ev_m (loc' := [.ref 216, .null, .int (1 : Int32), .int (1 : Int32), .null]) am_q222 rfl rfl H
      · replace H := H.2 hq
        refine ev_p (pc' := 26) (loc' := [.ref 216, .int i1, .null, .null, .null]) (st' := [.int (-3 : Int32)]) 1 am_q222 rfl ?_
        exact ev_r (v := some (.int (-3 : Int32))) am_q222 rfl rfl rfl rfl H
    · replace H := H.2 hq
      refine ev_p (pc' := 14) (loc' := [.null, .null, .null, .null, .null]) (st' := [.int (-2 : Int32)]) 1 am_q222 rfl ?_
      exact ev_r (v := some (.int (-2 : Int32))) am_q222 rfl rfl rfl rfl H
set_option maxRecDepth 20000 in
set_option maxHeartbeats 2000000 in
theorem ws222_38 {d : Nat}  (i2 : Int32) (i3 : Int32) {h : AH} {Q : Option Value → AH → Prop} (Ly : Lay h) (H : (i3 = (0 : Int32) → Q (some (.int i2)) h) ∧ (¬ i3 = (0 : Int32) → Ev (d + 1) 222 47 [.ref 216, .null, .int i2, .int (0 : Int32), .int (0 : Int32)] [] h Q)) : Ev (d + 1) 222 38 [.ref 216, .null, .int i2, .int i3, .null] [] h Q := by
  refine ev_p (pc' := 39) (loc' := [.ref 216, .null, .int i2, .int i3, .null]) (st' := [.int i3]) 1 am_q222 rfl ?_
  refine ev_jz (t := 114) am_q222 rfl rfl (fun hq => ?_) (fun hq => ?_)
  · replace H := H.1 hq
    refine ev_p (pc' := 115) (loc' := [.ref 216, .null, .int i2, .int i3, .null]) (st' := [.int i2]) 1 am_q222 rfl ?_
    exact ev_r (v := some (.int i2)) am_q222 rfl rfl rfl rfl H
  · replace H := H.2 hq
    refine ev_p (pc' := 47) (loc' := [.ref 216, .null, .int i2, .int (0 : Int32), .int (0 : Int32)]) (st' := []) 4 am_q222 rfl ?_
    exact ev_m (loc' := [.ref 216, .null, .int i2, .int (0 : Int32), .int (0 : Int32)]) am_q222 rfl rfl H
set_option maxRecDepth 20000 in
set_option maxHeartbeats 2000000 in
theorem ws222_47 {d : Nat}  (i2 : Int32) (i3 : Int32) (i4 : Int32) {h : AH} {Q : Option Value → AH → Prop} (Ly : Lay h) (H : ((am_gi h 216 23) ≤ i4 → Ev (d + 1) 222 38 [.ref 216, .null, .int i2, .int i3, .null] [] h Q) ∧ (¬ (am_gi h 216 23) ≤ i4 → am_in i4 13 ∧ ((¬ (am_gi h 241 (Int32.toNatClampNeg i4)) = (0 : Int32)) → Ev (d + 1) 222 47 [.ref 216, .null, .int i2, .int i3, .int (i4 + (1 : Int32))] [] h Q) ∧ (¬ (¬ (am_gi h 241 (Int32.toNatClampNeg i4)) = (0 : Int32)) → am_in i4 13 ∧ ((am_gi h 244 (Int32.toNatClampNeg i4)) = (-1 : Int32) → Ev (d + 1) 222 47 [.ref 216, .null, .int i2, .int i3, .int (i4 + (1 : Int32))] [] h Q) ∧ (¬ (am_gi h 244 (Int32.toNatClampNeg i4)) = (-1 : Int32) → am_in i4 13 ∧ am_in (am_gi h 244 (Int32.toNatClampNeg i4)) 13 ∧ ((am_gi h 241 (Int32.toNatClampNeg (am_gi h 244 (Int32.toNatClampNeg i4)))) = (0 : Int32) → Ev (d + 1) 222 47 [.ref 216, .null, .int i2, .int i3, .int (i4 + (1 : Int32))] [] h Q) ∧ (¬ (am_gi h 241 (Int32.toNatClampNeg (am_gi h 244 (Int32.toNatClampNeg i4)))) = (0 : Int32) → am_in i4 13 ∧ ∀ h6, h6 = am_si h 241 (Int32.toNatClampNeg i4) (1 : Int32) → Ev (d + 1) 222 47 [.ref 216, .null, .int (i2 + (1 : Int32)), .int (1 : Int32), .int (i4 + (1 : Int32))] [] h6 Q))))) : Ev (d + 1) 222 47 [.ref 216, .null, .int i2, .int i3, .int i4] [] h Q := by
  refine ev_p (pc' := 50) (loc' := [.ref 216, .null, .int i2, .int i3, .int i4]) (st' := [.ref 216, .int i4]) 2 am_q222 rfl ?_
  refine ev_s (pc' := 53) (loc' := [.ref 216, .null, .int i2, .int i3, .int i4]) (st' := [.int (am_gi h 216 23), .int i4]) (h1 := h) am_q222 rfl rfl rfl (if_pos (e := none) (lk216 Ly)) ?_
  refine ev_jc (t := 111) am_q222 rfl rfl (fun hq => ?_) (fun hq => ?_)
  · replace H := H.1 hq
    refine ev_p (pc' := 38) (loc' := [.ref 216, .null, .int i2, .int i3, .int i4]) (st' := []) 1 am_q222 rfl ?_
    exact ev_m (loc' := [.ref 216, .null, .int i2, .int i3, .null]) am_q222 rfl rfl H
  · replace H := H.2 hq
    refine ev_p (pc' := 57) (loc' := [.ref 216, .null, .int i2, .int i3, .int i4]) (st' := [.ref 216]) 1 am_q222 rfl ?_
    refine ev_s (pc' := 60) (loc' := [.ref 216, .null, .int i2, .int i3, .int i4]) (st' := [.ref 241]) (h1 := h) am_q222 rfl rfl rfl (am_gf2 (lk216 Ly) (lr216_30 Ly)) ?_
    refine ev_p (pc' := 62) (loc' := [.ref 216, .null, .int i2, .int i3, .int i4]) (st' := [.int i4, .ref 241]) 1 am_q222 rfl ?_
    obtain ⟨g1, H⟩ := H
    refine ev_s (pc' := 63) (loc' := [.ref 216, .null, .int i2, .int i3, .int i4]) (st' := [.int (am_gi h 241 (Int32.toNatClampNeg i4))]) (h1 := h) am_q222 rfl rfl rfl (am_xx (Or.inr (lk241 Ly)) (am_inl (ln241 Ly) g1)) ?_
    refine ev_jz (t := 105) am_q222 rfl rfl (fun hq => ?_) (fun hq => ?_)
    · replace H := H.1 hq
      refine ev_p (pc' := 47) (loc' := [.ref 216, .null, .int i2, .int i3, .int (i4 + (1 : Int32))]) (st' := []) 2 am_q222 rfl ?_
      exact ev_m (loc' := [.ref 216, .null, .int i2, .int i3, .int (i4 + (1 : Int32))]) am_q222 rfl rfl H
    · replace H := H.2 hq
      refine ev_p (pc' := 67) (loc' := [.ref 216, .null, .int i2, .int i3, .int i4]) (st' := [.ref 216]) 1 am_q222 rfl ?_
      refine ev_s (pc' := 70) (loc' := [.ref 216, .null, .int i2, .int i3, .int i4]) (st' := [.ref 244]) (h1 := h) am_q222 rfl rfl rfl (am_gf2 (lk216 Ly) (lr216_33 Ly)) ?_
      refine ev_p (pc' := 72) (loc' := [.ref 216, .null, .int i2, .int i3, .int i4]) (st' := [.int i4, .ref 244]) 1 am_q222 rfl ?_
      obtain ⟨g2, H⟩ := H
      refine ev_s (pc' := 73) (loc' := [.ref 216, .null, .int i2, .int i3, .int i4]) (st' := [.int (am_gi h 244 (Int32.toNatClampNeg i4))]) (h1 := h) am_q222 rfl rfl rfl (am_xx (lk244 Ly) (am_inl (ln244 Ly) g2)) ?_
      refine ev_p (pc' := 74) (loc' := [.ref 216, .null, .int i2, .int i3, .int i4]) (st' := [.int (-1 : Int32), .int (am_gi h 244 (Int32.toNatClampNeg i4))]) 1 am_q222 rfl ?_
      refine ev_jc (t := 105) am_q222 rfl rfl (fun hq => ?_) (fun hq => ?_)
      · replace H := H.1 hq
        refine ev_p (pc' := 47) (loc' := [.ref 216, .null, .int i2, .int i3, .int (i4 + (1 : Int32))]) (st' := []) 2 am_q222 rfl ?_
        exact ev_m (loc' := [.ref 216, .null, .int i2, .int i3, .int (i4 + (1 : Int32))]) am_q222 rfl rfl H
      · replace H := H.2 hq
        refine ev_p (pc' := 78) (loc' := [.ref 216, .null, .int i2, .int i3, .int i4]) (st' := [.ref 216]) 1 am_q222 rfl ?_
        refine ev_s (pc' := 81) (loc' := [.ref 216, .null, .int i2, .int i3, .int i4]) (st' := [.ref 241]) (h1 := h) am_q222 rfl rfl rfl (am_gf2 (lk216 Ly) (lr216_30 Ly)) ?_
        refine ev_p (pc' := 82) (loc' := [.ref 216, .null, .int i2, .int i3, .int i4]) (st' := [.ref 216, .ref 241]) 1 am_q222 rfl ?_
        refine ev_s (pc' := 85) (loc' := [.ref 216, .null, .int i2, .int i3, .int i4]) (st' := [.ref 244, .ref 241]) (h1 := h) am_q222 rfl rfl rfl (am_gf2 (lk216 Ly) (lr216_33 Ly)) ?_
        refine ev_p (pc' := 87) (loc' := [.ref 216, .null, .int i2, .int i3, .int i4]) (st' := [.int i4, .ref 244, .ref 241]) 1 am_q222 rfl ?_
        obtain ⟨g3, H⟩ := H
        refine ev_s (pc' := 88) (loc' := [.ref 216, .null, .int i2, .int i3, .int i4]) (st' := [.int (am_gi h 244 (Int32.toNatClampNeg i4)), .ref 241]) (h1 := h) am_q222 rfl rfl rfl (am_xx (lk244 Ly) (am_inl (ln244 Ly) g3)) ?_
        obtain ⟨g4, H⟩ := H
        refine ev_s (pc' := 89) (loc' := [.ref 216, .null, .int i2, .int i3, .int i4]) (st' := [.int (am_gi h 241 (Int32.toNatClampNeg (am_gi h 244 (Int32.toNatClampNeg i4))))]) (h1 := h) am_q222 rfl rfl rfl (am_xx (Or.inr (lk241 Ly)) (am_inl (ln241 Ly) g4)) ?_
        refine ev_jz (t := 105) am_q222 rfl rfl (fun hq => ?_) (fun hq => ?_)
        · replace H := H.1 hq
          refine ev_p (pc' := 47) (loc' := [.ref 216, .null, .int i2, .int i3, .int (i4 + (1 : Int32))]) (st' := []) 2 am_q222 rfl ?_
          exact ev_m (loc' := [.ref 216, .null, .int i2, .int i3, .int (i4 + (1 : Int32))]) am_q222 rfl rfl H
        · replace H := H.2 hq
          refine ev_p (pc' := 93) (loc' := [.ref 216, .null, .int i2, .int i3, .int i4]) (st' := [.ref 216]) 1 am_q222 rfl ?_
          refine ev_s (pc' := 96) (loc' := [.ref 216, .null, .int i2, .int i3, .int i4]) (st' := [.ref 241]) (h1 := h) am_q222 rfl rfl rfl (am_gf2 (lk216 Ly) (lr216_30 Ly)) ?_
          refine ev_p (pc' := 99) (loc' := [.ref 216, .null, .int i2, .int i3, .int i4]) (st' := [.int (1 : Int32), .int i4, .ref 241]) 2 am_q222 rfl ?_
          obtain ⟨g5, H⟩ := H
          refine ev_s (pc' := 100) (loc' := [.ref 216, .null, .int i2, .int i3, .int i4]) (st' := []) (h1 := am_si h 241 (Int32.toNatClampNeg i4) (1 : Int32)) am_q222 rfl rfl rfl (am_yz ⟨lk241 Ly, Or.inr rfl⟩ (am_inl (ln241 Ly) g5)) ?_
          replace H := H _ rfl
          replace Ly : Lay (am_si h 241 (Int32.toNatClampNeg i4) (1 : Int32)) := Ly.si _ _ _
          generalize am_si h 241 (Int32.toNatClampNeg i4) (1 : Int32) = h6 at H Ly ⊢
          refine ev_p (pc' := 47) (loc' := [.ref 216, .null, .int (i2 + (1 : Int32)), .int (1 : Int32), .int (i4 + (1 : Int32))]) (st' := []) 5 am_q222 rfl ?_
          exact ev_m (loc' := [.ref 216, .null, .int (i2 + (1 : Int32)), .int (1 : Int32), .int (i4 + (1 : Int32))]) am_q222 rfl rfl H
/-! 223: X12_textTold -/
set_option maxRecDepth 20000 in
set_option maxHeartbeats 2000000 in
theorem ws223 {d : Nat}  (i1 : Int32) (i2 : Int32) {h : AH} {Q : Option Value → AH → Prop} (Ly : Lay h) (H : Cl d 219 [.ref 216, .int i1] h (fun r2 h1 => ∃ x3, r2 = some (.int x3) ∧ Lay h1 ∧ (x3 = (0 : Int32) → Q (some (.int (-2 : Int32))) h1) ∧ (¬ x3 = (0 : Int32) → Cl d 167 [.int i2, .int (0 : Int32), .int (6 : Int32)] h1 (fun r5 h4 => ∃ x6, r5 = some (.int x6) ∧ Lay h4 ∧ ((¬ x6 = (0 : Int32)) → (i2 = (0 : Int32) → am_in i1 13 ∧ ((am_gi h4 240 (Int32.toNatClampNeg i1)) = (0 : Int32) → Q (some (.int (0 : Int32))) h4) ∧ (¬ (am_gi h4 240 (Int32.toNatClampNeg i1)) = (0 : Int32) → Q (some (.int (1 : Int32))) h4)) ∧ (i2 = (1 : Int32) → am_in i1 13 ∧ ((am_gi h4 241 (Int32.toNatClampNeg i1)) = (0 : Int32) → Q (some (.int (0 : Int32))) h4) ∧ (¬ (am_gi h4 241 (Int32.toNatClampNeg i1)) = (0 : Int32) → Q (some (.int (1 : Int32))) h4)) ∧ (i2 = (2 : Int32) → am_in i1 13 ∧ Q (some (.int (am_gi h4 242 (Int32.toNatClampNeg i1)))) h4) ∧ (i2 = (3 : Int32) → am_in i1 13 ∧ Cl d 190 [.int (am_gi h4 245 (Int32.toNatClampNeg i1))] h4 (fun r15 h14 => ∃ x16, r15 = some (.int x16) ∧ Lay h14 ∧ Q (some (.int x16)) h14)) ∧ (i2 = (4 : Int32) → am_in i1 13 ∧ Cl d 190 [.int (am_gi h4 246 (Int32.toNatClampNeg i1))] h4 (fun r20 h19 => ∃ x21, r20 = some (.int x21) ∧ Lay h19 ∧ Q (some (.int x21)) h19)) ∧ (i2 = (5 : Int32) → am_in i1 13 ∧ Q (some (.int (am_gi h4 244 (Int32.toNatClampNeg i1)))) h4) ∧ (¬ i2 = (0 : Int32) ∧ ¬ i2 = (1 : Int32) ∧ ¬ i2 = (2 : Int32) ∧ ¬ i2 = (3 : Int32) ∧ ¬ i2 = (4 : Int32) ∧ ¬ i2 = (5 : Int32) → am_in i1 13 ∧ Q (some (.int (am_gi h4 235 (Int32.toNatClampNeg i1)))) h4)) ∧ (¬ (¬ x6 = (0 : Int32)) → Q (some (.int (-2 : Int32))) h4))))) : Cl (d + 1) 223 [.ref 216, .int i1, .int i2] h Q := by
  show Ev (d + 1) 223 0 [.ref 216, .int i1, .int i2] [] h Q
  refine ev_p (pc' := 2) (loc' := [.ref 216, .int i1, .int i2]) (st' := [.int i1, .ref 216]) 2 am_q223 rfl ?_
  refine ev_c (vs := [.ref 216, .int i1]) (rest := []) 219 am_q223 rfl rfl rfl rfl rfl rfl rfl rfl rfl rfl rfl rfl (Or.inr (congrArg some (lk216 Ly))) (Cl.mono H (Nat.le_refl _) (fun r2 h1 H => ?_))
  obtain ⟨x3, rfl, Ly, H⟩ := H
  refine ev_jz (t := 18) am_q223 rfl rfl (fun hq => ?_) (fun hq => ?_)
  · replace H := H.1 hq
    refine ev_p (pc' := 20) (loc' := [.null, .null, .null]) (st' := [.int (-2 : Int32)]) 1 am_q223 rfl ?_
    exact ev_r (v := some (.int (-2 : Int32))) am_q223 rfl rfl rfl rfl H
  · replace H := H.2 hq
    refine ev_p (pc' := 12) (loc' := [.ref 216, .int i1, .int i2]) (st' := [.int (6 : Int32), .int (0 : Int32), .int i2]) 3 am_q223 rfl ?_
    refine ev_c (vs := [.int i2, .int (0 : Int32), .int (6 : Int32)]) (rest := []) 167 am_q223 rfl rfl rfl rfl rfl rfl rfl rfl rfl rfl rfl rfl (Or.inl rfl) (Cl.mono H (Nat.le_refl _) (fun r5 h4 H => ?_))
    obtain ⟨x6, rfl, Ly, H⟩ := H
    refine ev_jz (t := 21) am_q223 rfl rfl (fun hq => ?_) (fun hq => ?_)
    · replace H := H.1 hq
      refine ev_p (pc' := 22) (loc' := [.ref 216, .int i1, .int i2]) (st' := [.int i2]) 1 am_q223 rfl ?_
      by_cases k8 : i2 = (0 : Int32)
      · replace H := H.1 k8
        refine ev_s (pc' := 60) (loc' := [.ref 216, .int i1, .int i2]) (st' := []) (h1 := h4) am_q223 rfl rfl rfl (by rw [k8]; rfl) ?_
        refine ev_p (pc' := 61) (loc' := [.ref 216, .int i1, .int i2]) (st' := [.ref 216]) 1 am_q223 rfl ?_
        refine ev_s (pc' := 64) (loc' := [.ref 216, .int i1, .int i2]) (st' := [.ref 240]) (h1 := h4) am_q223 rfl rfl rfl (am_gf2 (lk216 Ly) (lr216_29 Ly)) ?_
        refine ev_p (pc' := 65) (loc' := [.ref 216, .int i1, .int i2]) (st' := [.int i1, .ref 240]) 1 am_q223 rfl ?_
        obtain ⟨g7, H⟩ := H
        refine ev_s (pc' := 66) (loc' := [.ref 216, .int i1, .int i2]) (st' := [.int (am_gi h4 240 (Int32.toNatClampNeg i1))]) (h1 := h4) am_q223 rfl rfl rfl (am_xx (Or.inr (lk240 Ly)) (am_inl (ln240 Ly) g7)) ?_
        refine ev_jz (t := 73) am_q223 rfl rfl (fun hq => ?_) (fun hq => ?_)
        · replace H := H.1 hq
          refine ev_p (pc' := 74) (loc' := [.ref 216, .int i1, .int i2]) (st' := [.int (0 : Int32)]) 1 am_q223 rfl ?_
          exact ev_r (v := some (.int (0 : Int32))) am_q223 rfl rfl rfl rfl H
        · replace H := H.2 hq
          refine ev_p (pc' := 74) (loc' := [.ref 216, .int i1, .int i2]) (st' := [.int (1 : Int32)]) 2 am_q223 rfl ?_
          exact ev_r (v := some (.int (1 : Int32))) am_q223 rfl rfl rfl rfl H
      replace H := H.2
      by_cases k10 : i2 = (1 : Int32)
      · replace H := H.1 k10
        refine ev_s (pc' := 75) (loc' := [.ref 216, .int i1, .int i2]) (st' := []) (h1 := h4) am_q223 rfl rfl rfl (by rw [k10]; rfl) ?_
        refine ev_p (pc' := 76) (loc' := [.ref 216, .int i1, .int i2]) (st' := [.ref 216]) 1 am_q223 rfl ?_
        refine ev_s (pc' := 79) (loc' := [.ref 216, .int i1, .int i2]) (st' := [.ref 241]) (h1 := h4) am_q223 rfl rfl rfl (am_gf2 (lk216 Ly) (lr216_30 Ly)) ?_
        refine ev_p (pc' := 80) (loc' := [.ref 216, .int i1, .int i2]) (st' := [.int i1, .ref 241]) 1 am_q223 rfl ?_
        obtain ⟨g9, H⟩ := H
        refine ev_s (pc' := 81) (loc' := [.ref 216, .int i1, .int i2]) (st' := [.int (am_gi h4 241 (Int32.toNatClampNeg i1))]) (h1 := h4) am_q223 rfl rfl rfl (am_xx (Or.inr (lk241 Ly)) (am_inl (ln241 Ly) g9)) ?_
        refine ev_jz (t := 88) am_q223 rfl rfl (fun hq => ?_) (fun hq => ?_)
        · replace H := H.1 hq
          refine ev_p (pc' := 89) (loc' := [.ref 216, .int i1, .int i2]) (st' := [.int (0 : Int32)]) 1 am_q223 rfl ?_
          exact ev_r (v := some (.int (0 : Int32))) am_q223 rfl rfl rfl rfl H
        · replace H := H.2 hq
          refine ev_p (pc' := 89) (loc' := [.ref 216, .int i1, .int i2]) (st' := [.int (1 : Int32)]) 2 am_q223 rfl ?_
          exact ev_r (v := some (.int (1 : Int32))) am_q223 rfl rfl rfl rfl H
      replace H := H.2
      by_cases k12 : i2 = (2 : Int32)
      · replace H := H.1 k12
        refine ev_s (pc' := 90) (loc' := [.ref 216, .int i1, .int i2]) (st' := []) (h1 := h4) am_q223 rfl rfl rfl (by rw [k12]; rfl) ?_
        refine ev_p (pc' := 91) (loc' := [.ref 216, .int i1, .int i2]) (st' := [.ref 216]) 1 am_q223 rfl ?_
        refine ev_s (pc' := 94) (loc' := [.ref 216, .int i1, .int i2]) (st' := [.ref 242]) (h1 := h4) am_q223 rfl rfl rfl (am_gf2 (lk216 Ly) (lr216_31 Ly)) ?_
        refine ev_p (pc' := 95) (loc' := [.ref 216, .int i1, .int i2]) (st' := [.int i1, .ref 242]) 1 am_q223 rfl ?_
        obtain ⟨g11, H⟩ := H
        refine ev_s (pc' := 96) (loc' := [.ref 216, .int i1, .int i2]) (st' := [.int (am_gi h4 242 (Int32.toNatClampNeg i1))]) (h1 := h4) am_q223 rfl rfl rfl (am_xx (lk242 Ly) (am_inl (ln242 Ly) g11)) ?_
        exact ev_r (v := some (.int (am_gi h4 242 (Int32.toNatClampNeg i1)))) am_q223 rfl rfl rfl rfl H
      replace H := H.2
      by_cases k17 : i2 = (3 : Int32)
      · replace H := H.1 k17
        refine ev_s (pc' := 97) (loc' := [.ref 216, .int i1, .int i2]) (st' := []) (h1 := h4) am_q223 rfl rfl rfl (by rw [k17]; rfl) ?_
        refine ev_p (pc' := 98) (loc' := [.ref 216, .int i1, .int i2]) (st' := [.ref 216]) 1 am_q223 rfl ?_
        refine ev_s (pc' := 101) (loc' := [.ref 216, .int i1, .int i2]) (st' := [.ref 245]) (h1 := h4) am_q223 rfl rfl rfl (am_gf2 (lk216 Ly) (lr216_34 Ly)) ?_
        refine ev_p (pc' := 102) (loc' := [.ref 216, .int i1, .int i2]) (st' := [.int i1, .ref 245]) 1 am_q223 rfl ?_
        obtain ⟨g13, H⟩ := H
        refine ev_s (pc' := 103) (loc' := [.ref 216, .int i1, .int i2]) (st' := [.int (am_gi h4 245 (Int32.toNatClampNeg i1))]) (h1 := h4) am_q223 rfl rfl rfl (am_xx (lk245 Ly) (am_inl (ln245 Ly) g13)) ?_
        refine ev_c (vs := [.int (am_gi h4 245 (Int32.toNatClampNeg i1))]) (rest := []) 190 am_q223 rfl rfl rfl rfl rfl rfl rfl rfl rfl rfl rfl rfl (Or.inl rfl) (Cl.mono H (Nat.le_refl _) (fun r15 h14 H => ?_))
        obtain ⟨x16, rfl, Ly, H⟩ := H
        exact ev_r (v := some (.int x16)) am_q223 rfl rfl rfl rfl H
      replace H := H.2
      by_cases k22 : i2 = (4 : Int32)
      · replace H := H.1 k22
        refine ev_s (pc' := 107) (loc' := [.ref 216, .int i1, .int i2]) (st' := []) (h1 := h4) am_q223 rfl rfl rfl (by rw [k22]; rfl) ?_
        refine ev_p (pc' := 108) (loc' := [.ref 216, .int i1, .int i2]) (st' := [.ref 216]) 1 am_q223 rfl ?_
        refine ev_s (pc' := 111) (loc' := [.ref 216, .int i1, .int i2]) (st' := [.ref 246]) (h1 := h4) am_q223 rfl rfl rfl (am_gf2 (lk216 Ly) (lr216_35 Ly)) ?_
        refine ev_p (pc' := 112) (loc' := [.ref 216, .int i1, .int i2]) (st' := [.int i1, .ref 246]) 1 am_q223 rfl ?_
        obtain ⟨g18, H⟩ := H
        refine ev_s (pc' := 113) (loc' := [.ref 216, .int i1, .int i2]) (st' := [.int (am_gi h4 246 (Int32.toNatClampNeg i1))]) (h1 := h4) am_q223 rfl rfl rfl (am_xx (lk246 Ly) (am_inl (ln246 Ly) g18)) ?_
        refine ev_c (vs := [.int (am_gi h4 246 (Int32.toNatClampNeg i1))]) (rest := []) 190 am_q223 rfl rfl rfl rfl rfl rfl rfl rfl rfl rfl rfl rfl (Or.inl rfl) (Cl.mono H (Nat.le_refl _) (fun r20 h19 H => ?_))
        obtain ⟨x21, rfl, Ly, H⟩ := H
        exact ev_r (v := some (.int x21)) am_q223 rfl rfl rfl rfl H
      replace H := H.2
      by_cases k24 : i2 = (5 : Int32)
      · replace H := H.1 k24
        refine ev_s (pc' := 117) (loc' := [.ref 216, .int i1, .int i2]) (st' := []) (h1 := h4) am_q223 rfl rfl rfl (by rw [k24]; rfl) ?_
        refine ev_p (pc' := 118) (loc' := [.ref 216, .int i1, .int i2]) (st' := [.ref 216]) 1 am_q223 rfl ?_
        refine ev_s (pc' := 121) (loc' := [.ref 216, .int i1, .int i2]) (st' := [.ref 244]) (h1 := h4) am_q223 rfl rfl rfl (am_gf2 (lk216 Ly) (lr216_33 Ly)) ?_
        refine ev_p (pc' := 122) (loc' := [.ref 216, .int i1, .int i2]) (st' := [.int i1, .ref 244]) 1 am_q223 rfl ?_
        obtain ⟨g23, H⟩ := H
        refine ev_s (pc' := 123) (loc' := [.ref 216, .int i1, .int i2]) (st' := [.int (am_gi h4 244 (Int32.toNatClampNeg i1))]) (h1 := h4) am_q223 rfl rfl rfl (am_xx (lk244 Ly) (am_inl (ln244 Ly) g23)) ?_
        exact ev_r (v := some (.int (am_gi h4 244 (Int32.toNatClampNeg i1)))) am_q223 rfl rfl rfl rfl H
      replace H := H.2
      replace H := H ⟨k8, k10, k12, k17, k22, k24⟩
      refine ev_s (pc' := 124) (loc' := [.ref 216, .int i1, .int i2]) (st' := []) (h1 := h4) am_q223 rfl rfl rfl (am_tso (x := (i2).toInt) (by have z0 : (i2).toInt ≠ 0 := am_tn k8 (by decide); have z1 : (i2).toInt ≠ 1 := am_tn k10 (by decide); have z2 : (i2).toInt ≠ 2 := am_tn k12 (by decide); have z3 : (i2).toInt ≠ 3 := am_tn k17 (by decide); have z4 : (i2).toInt ≠ 4 := am_tn k22 (by decide); have z5 : (i2).toInt ≠ 5 := am_tn k24 (by decide); omega)) ?_
      refine ev_p (pc' := 125) (loc' := [.ref 216, .int i1, .int i2]) (st' := [.ref 216]) 1 am_q223 rfl ?_
      refine ev_s (pc' := 128) (loc' := [.ref 216, .int i1, .int i2]) (st' := [.ref 235]) (h1 := h4) am_q223 rfl rfl rfl (am_gf2 (lk216 Ly) (lr216_24 Ly)) ?_
      refine ev_p (pc' := 129) (loc' := [.ref 216, .int i1, .int i2]) (st' := [.int i1, .ref 235]) 1 am_q223 rfl ?_
      obtain ⟨g25, H⟩ := H
      refine ev_s (pc' := 130) (loc' := [.ref 216, .int i1, .int i2]) (st' := [.int (am_gi h4 235 (Int32.toNatClampNeg i1))]) (h1 := h4) am_q223 rfl rfl rfl (am_xx (lk235 Ly) (am_inl (ln235 Ly) g25)) ?_
      exact ev_r (v := some (.int (am_gi h4 235 (Int32.toNatClampNeg i1)))) am_q223 rfl rfl rfl rfl H
    · replace H := H.2 hq
      refine ev_p (pc' := 20) (loc' := [.null, .null, .null]) (st' := [.int (-2 : Int32)]) 1 am_q223 rfl ?_
      exact ev_r (v := some (.int (-2 : Int32))) am_q223 rfl rfl rfl rfl H
/-! 224: X12_text -/
set_option maxRecDepth 20000 in
set_option maxHeartbeats 2000000 in
theorem ws224 {d : Nat}  (i1 : Int32) {h : AH} {Q : Option Value → AH → Prop} (Ly : Lay h) (H : Cl d 167 [.int i1, .int (0 : Int32), .int (2000000 : Int32)] h (fun r2 h1 => ∃ x3, r2 = some (.int x3) ∧ Lay h1 ∧ (x3 = (0 : Int32) → Q (some (.int (-2 : Int32))) h1) ∧ (¬ x3 = (0 : Int32) → Cl d 215 [.ref 216, .int i1] h1 (fun r5 h4 => ∃ x6, r5 = some (.int x6) ∧ Lay h4 ∧ Q (some (.int x6)) h4)))) : Cl (d + 1) 224 [.ref 216, .int i1] h Q := by
  show Ev (d + 1) 224 0 [.ref 216, .int i1] [] h Q
  refine ev_p (pc' := 4) (loc' := [.ref 216, .int i1]) (st' := [.int (2000000 : Int32), .int (0 : Int32), .int i1]) 3 am_q224 rfl ?_
  refine ev_c (vs := [.int i1, .int (0 : Int32), .int (2000000 : Int32)]) (rest := []) 167 am_q224 rfl rfl rfl rfl rfl rfl rfl rfl rfl rfl rfl rfl (Or.inl rfl) (Cl.mono H (Nat.le_refl _) (fun r2 h1 H => ?_))
  obtain ⟨x3, rfl, Ly, H⟩ := H
  refine ev_jz (t := 18) am_q224 rfl rfl (fun hq => ?_) (fun hq => ?_)
  · replace H := H.1 hq
    refine ev_p (pc' := 20) (loc' := [.ref 216, .int i1]) (st' := [.int (-2 : Int32)]) 1 am_q224 rfl ?_
    exact ev_r (v := some (.int (-2 : Int32))) am_q224 rfl rfl rfl rfl H
  · replace H := H.2 hq
    refine ev_p (pc' := 12) (loc' := [.ref 216, .int i1]) (st' := [.int i1, .ref 216]) 2 am_q224 rfl ?_
    refine ev_c (vs := [.ref 216, .int i1]) (rest := []) 215 am_q224 rfl rfl rfl rfl rfl rfl rfl rfl rfl rfl rfl rfl (Or.inr (congrArg some (lk216 Ly))) (Cl.mono H (Nat.le_refl _) (fun r5 h4 H => ?_))
    obtain ⟨x6, rfl, Ly, H⟩ := H
    refine ev_p (pc' := 20) (loc' := [.ref 216, .int i1]) (st' := [.int x6]) 1 am_q224 rfl ?_
    exact ev_r (v := some (.int x6)) am_q224 rfl rfl rfl rfl H
/-! 225: X12_wait -/
set_option maxRecDepth 20000 in
set_option maxHeartbeats 2000000 in
theorem ws225 {d : Nat}  (i1 : Int32) {h : AH} {Q : Option Value → AH → Prop} (Ly : Lay h) (H : Cl d 169 [.ref 216, .int i1] h (fun r2 h1 => ∃ x3, r2 = some (.int x3) ∧ Lay h1 ∧ ((¬ x3 = (0 : Int32)) → Cl d 170 [.ref 216, .int i1] h1 (fun r5 h4 => ∃ x6, r5 = some (.int x6) ∧ Lay h4 ∧ ((¬ x6 = (0 : Int32)) → am_in i1 24 ∧ ((am_gi h4 225 (Int32.toNatClampNeg i1)) = (-1 : Int32) → am_in i1 24 ∧ ∀ h9, h9 = am_si h4 225 (Int32.toNatClampNeg i1) (am_gi h4 216 0) → Q (some (.int (1 : Int32))) h9) ∧ (¬ (am_gi h4 225 (Int32.toNatClampNeg i1)) = (-1 : Int32) → Q (some (.int (0 : Int32))) h4)) ∧ (¬ (¬ x6 = (0 : Int32)) → Q (some (.int (-3 : Int32))) h4))) ∧ (¬ (¬ x3 = (0 : Int32)) → Q (some (.int (-2 : Int32))) h1))) : Cl (d + 1) 225 [.ref 216, .int i1] h Q := by
  show Ev (d + 1) 225 0 [.ref 216, .int i1] [] h Q
  refine ev_p (pc' := 2) (loc' := [.ref 216, .int i1]) (st' := [.int i1, .ref 216]) 2 am_q225 rfl ?_
  refine ev_c (vs := [.ref 216, .int i1]) (rest := []) 169 am_q225 rfl rfl rfl rfl rfl rfl rfl rfl rfl rfl rfl rfl (Or.inr (congrArg some (lk216 Ly))) (Cl.mono H (Nat.le_refl _) (fun r2 h1 H => ?_))
  obtain ⟨x3, rfl, Ly, H⟩ := H
  refine ev_jz (t := 11) am_q225 rfl rfl (fun hq => ?_) (fun hq => ?_)
  · replace H := H.1 hq
    refine ev_p (pc' := 13) (loc' := [.ref 216, .int i1]) (st' := [.int i1, .ref 216]) 2 am_q225 rfl ?_
    refine ev_c (vs := [.ref 216, .int i1]) (rest := []) 170 am_q225 rfl rfl rfl rfl rfl rfl rfl rfl rfl rfl rfl rfl (Or.inr (congrArg some (lk216 Ly))) (Cl.mono H (Nat.le_refl _) (fun r5 h4 H => ?_))
    obtain ⟨x6, rfl, Ly, H⟩ := H
    refine ev_jz (t := 22) am_q225 rfl rfl (fun hq => ?_) (fun hq => ?_)
    · replace H := H.1 hq
      refine ev_p (pc' := 23) (loc' := [.ref 216, .int i1]) (st' := [.ref 216]) 1 am_q225 rfl ?_
      refine ev_s (pc' := 26) (loc' := [.ref 216, .int i1]) (st' := [.ref 225]) (h1 := h4) am_q225 rfl rfl rfl (am_gf2 (lk216 Ly) (lr216_11 Ly)) ?_
      refine ev_p (pc' := 27) (loc' := [.ref 216, .int i1]) (st' := [.int i1, .ref 225]) 1 am_q225 rfl ?_
      obtain ⟨g7, H⟩ := H
      refine ev_s (pc' := 28) (loc' := [.ref 216, .int i1]) (st' := [.int (am_gi h4 225 (Int32.toNatClampNeg i1))]) (h1 := h4) am_q225 rfl rfl rfl (am_xx (lk225 Ly) (am_inl (ln225 Ly) g7)) ?_
      refine ev_p (pc' := 29) (loc' := [.ref 216, .int i1]) (st' := [.int (-1 : Int32), .int (am_gi h4 225 (Int32.toNatClampNeg i1))]) 1 am_q225 rfl ?_
      refine ev_jc (t := 34) am_q225 rfl rfl (fun hq => ?_) (fun hq => ?_)
      · replace H := H.1 hq
        refine ev_p (pc' := 35) (loc' := [.ref 216, .int i1]) (st' := [.ref 216]) 1 am_q225 rfl ?_
        refine ev_s (pc' := 38) (loc' := [.ref 216, .int i1]) (st' := [.ref 225]) (h1 := h4) am_q225 rfl rfl rfl (am_gf2 (lk216 Ly) (lr216_11 Ly)) ?_
        refine ev_p (pc' := 40) (loc' := [.ref 216, .int i1]) (st' := [.ref 216, .int i1, .ref 225]) 2 am_q225 rfl ?_
        refine ev_s (pc' := 43) (loc' := [.ref 216, .int i1]) (st' := [.int (am_gi h4 216 0), .int i1, .ref 225]) (h1 := h4) am_q225 rfl rfl rfl (if_pos (e := none) (lk216 Ly)) ?_
        obtain ⟨g8, H⟩ := H
        refine ev_s (pc' := 44) (loc' := [.ref 216, .int i1]) (st' := []) (h1 := am_si h4 225 (Int32.toNatClampNeg i1) (am_gi h4 216 0)) am_q225 rfl rfl rfl (am_xx ⟨lk225 Ly, (Nat.le_of_ble_eq_true rfl)⟩ (am_inl (ln225 Ly) g8)) ?_
        replace H := H _ rfl
        replace Ly : Lay (am_si h4 225 (Int32.toNatClampNeg i1) (am_gi h4 216 0)) := Ly.si _ _ _
        generalize am_si h4 225 (Int32.toNatClampNeg i1) (am_gi h4 216 0) = h9 at H Ly ⊢
        refine ev_p (pc' := 45) (loc' := [.ref 216, .int i1]) (st' := [.int (1 : Int32)]) 1 am_q225 rfl ?_
        exact ev_r (v := some (.int (1 : Int32))) am_q225 rfl rfl rfl rfl H
      · replace H := H.2 hq
        refine ev_p (pc' := 33) (loc' := [.ref 216, .int i1]) (st' := [.int (0 : Int32)]) 1 am_q225 rfl ?_
        exact ev_r (v := some (.int (0 : Int32))) am_q225 rfl rfl rfl rfl H
    · replace H := H.2 hq
      refine ev_p (pc' := 21) (loc' := [.ref 216, .int i1]) (st' := [.int (-3 : Int32)]) 1 am_q225 rfl ?_
      exact ev_r (v := some (.int (-3 : Int32))) am_q225 rfl rfl rfl rfl H
  · replace H := H.2 hq
    refine ev_p (pc' := 10) (loc' := [.ref 216, .int i1]) (st' := [.int (-2 : Int32)]) 1 am_q225 rfl ?_
    exact ev_r (v := some (.int (-2 : Int32))) am_q225 rfl rfl rfl rfl H
/-! 226: X12_points -/
set_option maxRecDepth 20000 in
set_option maxHeartbeats 2000000 in
theorem ws226 {d : Nat}  (i1 : Int32) (i2 : Int32) (i3 : Int32) {h : AH} {Q : Option Value → AH → Prop} (Ly : Lay h) (H : Cl d 169 [.ref 216, .int i1] h (fun r2 h1 => ∃ x3, r2 = some (.int x3) ∧ Lay h1 ∧ (x3 = (0 : Int32) → Q (some (.long (-4611686018427387904 : Int64))) h1) ∧ (¬ x3 = (0 : Int32) → Cl d 168 [.ref 216, .int i2] h1 (fun r5 h4 => ∃ x6, r5 = some (.int x6) ∧ Lay h4 ∧ (x6 = (0 : Int32) → Q (some (.long (-4611686018427387904 : Int64))) h4) ∧ (¬ x6 = (0 : Int32) → Cl d 167 [.int i3, .int (0 : Int32), .int (1 : Int32)] h4 (fun r8 h7 => ∃ x9, r8 = some (.int x9) ∧ Lay h7 ∧ (x9 = (0 : Int32) → Q (some (.long (-4611686018427387904 : Int64))) h7) ∧ (¬ x9 = (0 : Int32) → Cl d 213 [.ref 216, .int i3, .int i1, .int i2] h7 (fun r11 h10 => ∃ y12, r11 = some (.long y12) ∧ Lay h10 ∧ Q (some (.long y12)) h10)))))))) : Cl (d + 1) 226 [.ref 216, .int i1, .int i2, .int i3] h Q := by
  show Ev (d + 1) 226 0 [.ref 216, .int i1, .int i2, .int i3] [] h Q
  refine ev_p (pc' := 2) (loc' := [.ref 216, .int i1, .int i2, .int i3]) (st' := [.int i1, .ref 216]) 2 am_q226 rfl ?_
  refine ev_c (vs := [.ref 216, .int i1]) (rest := []) 169 am_q226 rfl rfl rfl rfl rfl rfl rfl rfl rfl rfl rfl rfl (Or.inr (congrArg some (lk216 Ly))) (Cl.mono H (Nat.le_refl _) (fun r2 h1 H => ?_))
  obtain ⟨x3, rfl, Ly, H⟩ := H
  refine ev_jz (t := 35) am_q226 rfl rfl (fun hq => ?_) (fun hq => ?_)
  · replace H := H.1 hq
    refine ev_p (pc' := 38) (loc' := [.null, .null, .null, .null]) (st' := [.long (-4611686018427387904 : Int64)]) 1 am_q226 rfl ?_
    exact ev_r (v := some (.long (-4611686018427387904 : Int64))) am_q226 rfl rfl rfl rfl H
  · replace H := H.2 hq
    refine ev_p (pc' := 10) (loc' := [.ref 216, .int i1, .int i2, .int i3]) (st' := [.int i2, .ref 216]) 2 am_q226 rfl ?_
    refine ev_c (vs := [.ref 216, .int i2]) (rest := []) 168 am_q226 rfl rfl rfl rfl rfl rfl rfl rfl rfl rfl rfl rfl (Or.inr (congrArg some (lk216 Ly))) (Cl.mono H (Nat.le_refl _) (fun r5 h4 H => ?_))
    obtain ⟨x6, rfl, Ly, H⟩ := H
    refine ev_jz (t := 35) am_q226 rfl rfl (fun hq => ?_) (fun hq => ?_)
    · replace H := H.1 hq
      refine ev_p (pc' := 38) (loc' := [.null, .null, .null, .null]) (st' := [.long (-4611686018427387904 : Int64)]) 1 am_q226 rfl ?_
      exact ev_r (v := some (.long (-4611686018427387904 : Int64))) am_q226 rfl rfl rfl rfl H
    · replace H := H.2 hq
      refine ev_p (pc' := 19) (loc' := [.ref 216, .int i1, .int i2, .int i3]) (st' := [.int (1 : Int32), .int (0 : Int32), .int i3]) 3 am_q226 rfl ?_
      refine ev_c (vs := [.int i3, .int (0 : Int32), .int (1 : Int32)]) (rest := []) 167 am_q226 rfl rfl rfl rfl rfl rfl rfl rfl rfl rfl rfl rfl (Or.inl rfl) (Cl.mono H (Nat.le_refl _) (fun r8 h7 H => ?_))
      obtain ⟨x9, rfl, Ly, H⟩ := H
      refine ev_jz (t := 35) am_q226 rfl rfl (fun hq => ?_) (fun hq => ?_)
      · replace H := H.1 hq
        refine ev_p (pc' := 38) (loc' := [.null, .null, .null, .null]) (st' := [.long (-4611686018427387904 : Int64)]) 1 am_q226 rfl ?_
        exact ev_r (v := some (.long (-4611686018427387904 : Int64))) am_q226 rfl rfl rfl rfl H
      · replace H := H.2 hq
        refine ev_p (pc' := 29) (loc' := [.ref 216, .int i1, .int i2, .int i3]) (st' := [.int i2, .int i1, .int i3, .ref 216]) 4 am_q226 rfl ?_
        refine ev_c (vs := [.ref 216, .int i3, .int i1, .int i2]) (rest := []) 213 am_q226 rfl rfl rfl rfl rfl rfl rfl rfl rfl rfl rfl rfl (Or.inr (congrArg some (lk216 Ly))) (Cl.mono H (Nat.le_refl _) (fun r11 h10 H => ?_))
        obtain ⟨y12, rfl, Ly, H⟩ := H
        refine ev_p (pc' := 38) (loc' := [.ref 216, .int i1, .int i2, .int i3]) (st' := [.long y12]) 1 am_q226 rfl ?_
        exact ev_r (v := some (.long y12)) am_q226 rfl rfl rfl rfl H
/-! 227: X12_isIn -/
set_option maxRecDepth 20000 in
set_option maxHeartbeats 2000000 in
theorem ws227 {d : Nat}  (i1 : Int32) (i2 : Int32) {h : AH} {Q : Option Value → AH → Prop} (Ly : Lay h) (H : am_in i1 24 ∧ ((am_gi h 225 (Int32.toNatClampNeg i1)) = (-1 : Int32) → Q (some (.int (0 : Int32))) h) ∧ (¬ (am_gi h 225 (Int32.toNatClampNeg i1)) = (-1 : Int32) → Cl d 213 [.ref 216, .int (1 : Int32), .int i1, .int i2] h (fun r3 h2 => ∃ y4, r3 = some (.long y4) ∧ Lay h2 ∧ ((lg_cmp y4 (0 : Int64)) = (0 : Int32) → Q (some (.int (0 : Int32))) h2) ∧ (¬ (lg_cmp y4 (0 : Int64)) = (0 : Int32) → Q (some (.int (1 : Int32))) h2)))) : Cl (d + 1) 227 [.ref 216, .int i1, .int i2] h Q := by
  show Ev (d + 1) 227 0 [.ref 216, .int i1, .int i2] [] h Q
  refine ev_p (pc' := 1) (loc' := [.ref 216, .int i1, .int i2]) (st' := [.ref 216]) 1 am_q227 rfl ?_
  refine ev_s (pc' := 4) (loc' := [.ref 216, .int i1, .int i2]) (st' := [.ref 225]) (h1 := h) am_q227 rfl rfl rfl (am_gf2 (lk216 Ly) (lr216_11 Ly)) ?_
  refine ev_p (pc' := 5) (loc' := [.ref 216, .int i1, .int i2]) (st' := [.int i1, .ref 225]) 1 am_q227 rfl ?_
  obtain ⟨g1, H⟩ := H
  refine ev_s (pc' := 6) (loc' := [.ref 216, .int i1, .int i2]) (st' := [.int (am_gi h 225 (Int32.toNatClampNeg i1))]) (h1 := h) am_q227 rfl rfl rfl (am_xx (lk225 Ly) (am_inl (ln225 Ly) g1)) ?_
  refine ev_p (pc' := 7) (loc' := [.ref 216, .int i1, .int i2]) (st' := [.int (-1 : Int32), .int (am_gi h 225 (Int32.toNatClampNeg i1))]) 1 am_q227 rfl ?_
  refine ev_jc (t := 26) am_q227 rfl rfl (fun hq => ?_) (fun hq => ?_)
  · replace H := H.1 hq
    refine ev_p (pc' := 27) (loc' := [.null, .null, .null]) (st' := [.int (0 : Int32)]) 1 am_q227 rfl ?_
    exact ev_r (v := some (.int (0 : Int32))) am_q227 rfl rfl rfl rfl H
  · replace H := H.2 hq
    refine ev_p (pc' := 14) (loc' := [.ref 216, .int i1, .int i2]) (st' := [.int i2, .int i1, .int (1 : Int32), .ref 216]) 4 am_q227 rfl ?_
    refine ev_c (vs := [.ref 216, .int (1 : Int32), .int i1, .int i2]) (rest := []) 213 am_q227 rfl rfl rfl rfl rfl rfl rfl rfl rfl rfl rfl rfl (Or.inr (congrArg some (lk216 Ly))) (Cl.mono H (Nat.le_refl _) (fun r3 h2 H => ?_))
    obtain ⟨y4, rfl, Ly, H⟩ := H
    refine ev_p (pc' := 19) (loc' := [.ref 216, .int i1, .int i2]) (st' := [.int (lg_cmp y4 (0 : Int64))]) 2 am_q227 rfl ?_
    refine ev_jz (t := 26) am_q227 rfl rfl (fun hq => ?_) (fun hq => ?_)
    · replace H := H.1 hq
      refine ev_p (pc' := 27) (loc' := [.null, .null, .null]) (st' := [.int (0 : Int32)]) 1 am_q227 rfl ?_
      exact ev_r (v := some (.int (0 : Int32))) am_q227 rfl rfl rfl rfl H
    · replace H := H.2 hq
      refine ev_p (pc' := 27) (loc' := [.ref 216, .int i1, .int i2]) (st' := [.int (1 : Int32)]) 2 am_q227 rfl ?_
      exact ev_r (v := some (.int (1 : Int32))) am_q227 rfl rfl rfl rfl H
/-! 228: X12_isAhead -/
set_option maxRecDepth 20000 in
set_option maxHeartbeats 2000000 in
theorem ws228 {d : Nat}  (i1 : Int32) (i2 : Int32) (i3 : Int32) {h : AH} {Q : Option Value → AH → Prop} (Ly : Lay h) (H : Cl d 213 [.ref 216, .int (0 : Int32), .int i1, .int i3] h (fun r2 h1 => ∃ y3, r2 = some (.long y3) ∧ Lay h1 ∧ Cl d 213 [.ref 216, .int (0 : Int32), .int i2, .int i3] h1 (fun r5 h4 => ∃ y6, r5 = some (.long y6) ∧ Lay h4 ∧ ((lg_cmp y3 y6) = (0 : Int32) → am_in i1 24 ∧ am_in i2 24 ∧ ((am_gi h4 225 (Int32.toNatClampNeg i1)) = (am_gi h4 225 (Int32.toNatClampNeg i2)) → (i2 ≤ i1 → Q (some (.int (0 : Int32))) h4) ∧ (¬ i2 ≤ i1 → Q (some (.int (1 : Int32))) h4)) ∧ (¬ (am_gi h4 225 (Int32.toNatClampNeg i1)) = (am_gi h4 225 (Int32.toNatClampNeg i2)) → am_in i1 24 ∧ am_in i2 24 ∧ ((am_gi h4 225 (Int32.toNatClampNeg i2)) ≤ (am_gi h4 225 (Int32.toNatClampNeg i1)) → Q (some (.int (0 : Int32))) h4) ∧ (¬ (am_gi h4 225 (Int32.toNatClampNeg i2)) ≤ (am_gi h4 225 (Int32.toNatClampNeg i1)) → Q (some (.int (1 : Int32))) h4))) ∧ (¬ (lg_cmp y3 y6) = (0 : Int32) → ((lg_cmp y3 y6) ≤ (0 : Int32) → Q (some (.int (0 : Int32))) h4) ∧ (¬ (lg_cmp y3 y6) ≤ (0 : Int32) → Q (some (.int (1 : Int32))) h4))))) : Cl (d + 1) 228 [.ref 216, .int i1, .int i2, .int i3] h Q := by
  show Ev (d + 1) 228 0 [.ref 216, .int i1, .int i2, .int i3, .null, .null, .null, .null] [] h Q
  refine ev_p (pc' := 4) (loc' := [.ref 216, .int i1, .int i2, .int i3, .null, .null, .null, .null]) (st' := [.int i3, .int i1, .int (0 : Int32), .ref 216]) 4 am_q228 rfl ?_
  refine ev_c (vs := [.ref 216, .int (0 : Int32), .int i1, .int i3]) (rest := []) 213 am_q228 rfl rfl rfl rfl rfl rfl rfl rfl rfl rfl rfl rfl (Or.inr (congrArg some (lk216 Ly))) (Cl.mono H (Nat.le_refl _) (fun r2 h1 H => ?_))
  obtain ⟨y3, rfl, Ly, H⟩ := H
  refine ev_p (pc' := 13) (loc' := [.ref 216, .int i1, .int i2, .int i3, .long y3, .null, .null, .null]) (st' := [.int i3, .int i2, .int (0 : Int32), .ref 216]) 5 am_q228 rfl ?_
  refine ev_c (vs := [.ref 216, .int (0 : Int32), .int i2, .int i3]) (rest := []) 213 am_q228 rfl rfl rfl rfl rfl rfl rfl rfl rfl rfl rfl rfl (Or.inr (congrArg some (lk216 Ly))) (Cl.mono H (Nat.le_refl _) (fun r5 h4 H => ?_))
  obtain ⟨y6, rfl, Ly, H⟩ := H
  refine ev_p (pc' := 23) (loc' := [.ref 216, .int i1, .int i2, .int i3, .long y3, .null, .long y6, .null]) (st' := [.int (lg_cmp y3 y6)]) 4 am_q228 rfl ?_
  refine ev_jz (t := 42) am_q228 rfl rfl (fun hq => ?_) (fun hq => ?_)
  · replace H := H.1 hq
    refine ev_p (pc' := 43) (loc' := [.ref 216, .int i1, .int i2, .int i3, .long y3, .null, .long y6, .null]) (st' := [.ref 216]) 1 am_q228 rfl ?_
    refine ev_s (pc' := 46) (loc' := [.ref 216, .int i1, .int i2, .int i3, .long y3, .null, .long y6, .null]) (st' := [.ref 225]) (h1 := h4) am_q228 rfl rfl rfl (am_gf2 (lk216 Ly) (lr216_11 Ly)) ?_
    refine ev_p (pc' := 47) (loc' := [.ref 216, .int i1, .int i2, .int i3, .long y3, .null, .long y6, .null]) (st' := [.int i1, .ref 225]) 1 am_q228 rfl ?_
    obtain ⟨g7, H⟩ := H
    refine ev_s (pc' := 48) (loc' := [.ref 216, .int i1, .int i2, .int i3, .long y3, .null, .long y6, .null]) (st' := [.int (am_gi h4 225 (Int32.toNatClampNeg i1))]) (h1 := h4) am_q228 rfl rfl rfl (am_xx (lk225 Ly) (am_inl (ln225 Ly) g7)) ?_
    refine ev_p (pc' := 49) (loc' := [.ref 216, .int i1, .int i2, .int i3, .long y3, .null, .long y6, .null]) (st' := [.ref 216, .int (am_gi h4 225 (Int32.toNatClampNeg i1))]) 1 am_q228 rfl ?_
    refine ev_s (pc' := 52) (loc' := [.ref 216, .int i1, .int i2, .int i3, .long y3, .null, .long y6, .null]) (st' := [.ref 225, .int (am_gi h4 225 (Int32.toNatClampNeg i1))]) (h1 := h4) am_q228 rfl rfl rfl (am_gf2 (lk216 Ly) (lr216_11 Ly)) ?_
    refine ev_p (pc' := 53) (loc' := [.ref 216, .int i1, .int i2, .int i3, .long y3, .null, .long y6, .null]) (st' := [.int i2, .ref 225, .int (am_gi h4 225 (Int32.toNatClampNeg i1))]) 1 am_q228 rfl ?_
    obtain ⟨g8, H⟩ := H
    refine ev_s (pc' := 54) (loc' := [.ref 216, .int i1, .int i2, .int i3, .long y3, .null, .long y6, .null]) (st' := [.int (am_gi h4 225 (Int32.toNatClampNeg i2)), .int (am_gi h4 225 (Int32.toNatClampNeg i1))]) (h1 := h4) am_q228 rfl rfl rfl (am_xx (lk225 Ly) (am_inl (ln225 Ly) g8)) ?_
    refine ev_jc (t := 80) am_q228 rfl rfl (fun hq => ?_) (fun hq => ?_)
    · replace H := H.1 hq
      refine ev_p (pc' := 82) (loc' := [.ref 216, .int i1, .int i2, .int i3, .long y3, .null, .long y6, .null]) (st' := [.int i2, .int i1]) 2 am_q228 rfl ?_
      refine ev_jc (t := 89) am_q228 rfl rfl (fun hq => ?_) (fun hq => ?_)
      · replace H := H.1 hq
        refine ev_p (pc' := 90) (loc' := [.ref 216, .int i1, .int i2, .int i3, .long y3, .null, .long y6, .null]) (st' := [.int (0 : Int32)]) 1 am_q228 rfl ?_
        exact ev_r (v := some (.int (0 : Int32))) am_q228 rfl rfl rfl rfl H
      · replace H := H.2 hq
        refine ev_p (pc' := 90) (loc' := [.ref 216, .int i1, .int i2, .int i3, .long y3, .null, .long y6, .null]) (st' := [.int (1 : Int32)]) 2 am_q228 rfl ?_
        exact ev_r (v := some (.int (1 : Int32))) am_q228 rfl rfl rfl rfl H
    · replace H := H.2 hq
      refine ev_p (pc' := 58) (loc' := [.ref 216, .int i1, .int i2, .int i3, .long y3, .null, .long y6, .null]) (st' := [.ref 216]) 1 am_q228 rfl ?_
      refine ev_s (pc' := 61) (loc' := [.ref 216, .int i1, .int i2, .int i3, .long y3, .null, .long y6, .null]) (st' := [.ref 225]) (h1 := h4) am_q228 rfl rfl rfl (am_gf2 (lk216 Ly) (lr216_11 Ly)) ?_
      refine ev_p (pc' := 62) (loc' := [.ref 216, .int i1, .int i2, .int i3, .long y3, .null, .long y6, .null]) (st' := [.int i1, .ref 225]) 1 am_q228 rfl ?_
      obtain ⟨g9, H⟩ := H
      refine ev_s (pc' := 63) (loc' := [.ref 216, .int i1, .int i2, .int i3, .long y3, .null, .long y6, .null]) (st' := [.int (am_gi h4 225 (Int32.toNatClampNeg i1))]) (h1 := h4) am_q228 rfl rfl rfl (am_xx (lk225 Ly) (am_inl (ln225 Ly) g9)) ?_
      refine ev_p (pc' := 64) (loc' := [.ref 216, .int i1, .int i2, .int i3, .long y3, .null, .long y6, .null]) (st' := [.ref 216, .int (am_gi h4 225 (Int32.toNatClampNeg i1))]) 1 am_q228 rfl ?_
      refine ev_s (pc' := 67) (loc' := [.ref 216, .int i1, .int i2, .int i3, .long y3, .null, .long y6, .null]) (st' := [.ref 225, .int (am_gi h4 225 (Int32.toNatClampNeg i1))]) (h1 := h4) am_q228 rfl rfl rfl (am_gf2 (lk216 Ly) (lr216_11 Ly)) ?_
      refine ev_p (pc' := 68) (loc' := [.ref 216, .int i1, .int i2, .int i3, .long y3, .null, .long y6, .null]) (st' := [.int i2, .ref 225, .int (am_gi h4 225 (Int32.toNatClampNeg i1))]) 1 am_q228 rfl ?_
      obtain ⟨g10, H⟩ := H
      refine ev_s (pc' := 69) (loc' := [.ref 216, .int i1, .int i2, .int i3, .long y3, .null, .long y6, .null]) (st' := [.int (am_gi h4 225 (Int32.toNatClampNeg i2)), .int (am_gi h4 225 (Int32.toNatClampNeg i1))]) (h1 := h4) am_q228 rfl rfl rfl (am_xx (lk225 Ly) (am_inl (ln225 Ly) g10)) ?_
      refine ev_jc (t := 76) am_q228 rfl rfl (fun hq => ?_) (fun hq => ?_)
      · replace H := H.1 hq
        refine ev_p (pc' := 90) (loc' := [.ref 216, .int i1, .int i2, .int i3, .long y3, .null, .long y6, .null]) (st' := [.int (0 : Int32)]) 2 am_q228 rfl ?_
        exact ev_r (v := some (.int (0 : Int32))) am_q228 rfl rfl rfl rfl H
      · replace H := H.2 hq
        refine ev_p (pc' := 90) (loc' := [.ref 216, .int i1, .int i2, .int i3, .long y3, .null, .long y6, .null]) (st' := [.int (1 : Int32)]) 2 am_q228 rfl ?_
        exact ev_r (v := some (.int (1 : Int32))) am_q228 rfl rfl rfl rfl H
  · replace H := H.2 hq
    refine ev_p (pc' := 31) (loc' := [.ref 216, .int i1, .int i2, .int i3, .long y3, .null, .long y6, .null]) (st' := [.int (lg_cmp y3 y6)]) 3 am_q228 rfl ?_
    refine ev_jz (t := 38) am_q228 rfl rfl (fun hq => ?_) (fun hq => ?_)
    · replace H := H.1 hq
      refine ev_p (pc' := 90) (loc' := [.ref 216, .int i1, .int i2, .int i3, .long y3, .null, .long y6, .null]) (st' := [.int (0 : Int32)]) 2 am_q228 rfl ?_
      exact ev_r (v := some (.int (0 : Int32))) am_q228 rfl rfl rfl rfl H
    · replace H := H.2 hq
      refine ev_p (pc' := 90) (loc' := [.ref 216, .int i1, .int i2, .int i3, .long y3, .null, .long y6, .null]) (st' := [.int (1 : Int32)]) 2 am_q228 rfl ?_
      exact ev_r (v := some (.int (1 : Int32))) am_q228 rfl rfl rfl rfl H
/-! 229: X12_aheadOf -/
set_option maxRecDepth 20000 in
set_option maxHeartbeats 2000000 in
theorem ws229 {d : Nat}  (i1 : Int32) (i2 : Int32) {h : AH} {Q : Option Value → AH → Prop} (Ly : Lay h) (H : Ev (d + 1) 229 5 [.ref 216, .int i1, .int i2, .int (0 : Int32), .int (0 : Int32)] [] h Q) : Cl (d + 1) 229 [.ref 216, .int i1, .int i2] h Q := by
  show Ev (d + 1) 229 0 [.ref 216, .int i1, .int i2, .null, .null] [] h Q
  refine ev_p (pc' := 5) (loc' := [.ref 216, .int i1, .int i2, .int (0 : Int32), .int (0 : Int32)]) (st' := []) 4 am_q229 rfl ?_
  exact ev_m (loc' := [.ref 216, .int i1, .int i2, .int (0 : Int32), .int (0 : Int32)]) am_q229 rfl rfl H
set_option maxRecDepth 20000 in
set_option maxHeartbeats 2000000 in
theorem ws229_5 {d : Nat}  (i1 : Int32) (i2 : Int32) (i3 : Int32) (i4 : Int32) {h : AH} {Q : Option Value → AH → Prop} (Ly : Lay h) (H : ((am_gi h 216 7) ≤ i4 → Q (some (.int i3)) h) ∧ (¬ (am_gi h 216 7) ≤ i4 → (i4 = i1 → Ev (d + 1) 229 5 [.ref 216, .int i1, .int i2, .int (i3 + (0 : Int32)), .int (i4 + (1 : Int32))] [] h Q) ∧ (¬ i4 = i1 → Cl d 227 [.ref 216, .int i4, .int i2] h (fun r2 h1 => ∃ x3, r2 = some (.int x3) ∧ Lay h1 ∧ (x3 = (0 : Int32) → Ev (d + 1) 229 5 [.ref 216, .int i1, .int i2, .int (i3 + (0 : Int32)), .int (i4 + (1 : Int32))] [] h1 Q) ∧ (¬ x3 = (0 : Int32) → Cl d 228 [.ref 216, .int i4, .int i1, .int i2] h1 (fun r5 h4 => ∃ x6, r5 = some (.int x6) ∧ Lay h4 ∧ (x6 = (0 : Int32) → Ev (d + 1) 229 5 [.ref 216, .int i1, .int i2, .int (i3 + (0 : Int32)), .int (i4 + (1 : Int32))] [] h4 Q) ∧ (¬ x6 = (0 : Int32) → Ev (d + 1) 229 5 [.ref 216, .int i1, .int i2, .int (i3 + (1 : Int32)), .int (i4 + (1 : Int32))] [] h4 Q))))))) : Ev (d + 1) 229 5 [.ref 216, .int i1, .int i2, .int i3, .int i4] [] h Q := by
  refine ev_p (pc' := 8) (loc' := [.ref 216, .int i1, .int i2, .int i3, .int i4]) (st' := [.ref 216, .int i4]) 2 am_q229 rfl ?_
  refine ev_s (pc' := 11) (loc' := [.ref 216, .int i1, .int i2, .int i3, .int i4]) (st' := [.int (am_gi h 216 7), .int i4]) (h1 := h) am_q229 rfl rfl rfl (if_pos (e := none) (lk216 Ly)) ?_
  refine ev_jc (t := 55) am_q229 rfl rfl (fun hq => ?_) (fun hq => ?_)
  · replace H := H.1 hq
    refine ev_p (pc' := 56) (loc' := [.ref 216, .int i1, .int i2, .int i3, .int i4]) (st' := [.int i3]) 1 am_q229 rfl ?_
    exact ev_r (v := some (.int i3)) am_q229 rfl rfl rfl rfl H
  · replace H := H.2 hq
    refine ev_p (pc' := 18) (loc' := [.ref 216, .int i1, .int i2, .int i3, .int i4]) (st' := [.int i1, .int i4, .int i3]) 3 am_q229 rfl ?_
    refine ev_jc (t := 46) am_q229 rfl rfl (fun hq => ?_) (fun hq => ?_)
    · replace H := H.1 hq
      refine ev_p (pc' := 5) (loc' := [.ref 216, .int i1, .int i2, .int (i3 + (0 : Int32)), .int (i4 + (1 : Int32))]) (st' := []) 5 am_q229 rfl ?_
      exact ev_m (loc' := [.ref 216, .int i1, .int i2, .int (i3 + (0 : Int32)), .int (i4 + (1 : Int32))]) am_q229 rfl rfl H
    · replace H := H.2 hq
      refine ev_p (pc' := 25) (loc' := [.ref 216, .int i1, .int i2, .int i3, .int i4]) (st' := [.int i2, .int i4, .ref 216, .int i3]) 3 am_q229 rfl ?_
      refine ev_c (vs := [.ref 216, .int i4, .int i2]) (rest := [.int i3]) 227 am_q229 rfl rfl rfl rfl rfl rfl rfl rfl rfl rfl rfl rfl (Or.inr (congrArg some (lk216 Ly))) (Cl.mono H (Nat.le_refl _) (fun r2 h1 H => ?_))
      obtain ⟨x3, rfl, Ly, H⟩ := H
      refine ev_jz (t := 46) am_q229 rfl rfl (fun hq => ?_) (fun hq => ?_)
      · replace H := H.1 hq
        refine ev_p (pc' := 5) (loc' := [.ref 216, .int i1, .int i2, .int (i3 + (0 : Int32)), .int (i4 + (1 : Int32))]) (st' := []) 5 am_q229 rfl ?_
        exact ev_m (loc' := [.ref 216, .int i1, .int i2, .int (i3 + (0 : Int32)), .int (i4 + (1 : Int32))]) am_q229 rfl rfl H
      · replace H := H.2 hq
        refine ev_p (pc' := 36) (loc' := [.ref 216, .int i1, .int i2, .int i3, .int i4]) (st' := [.int i2, .int i1, .int i4, .ref 216, .int i3]) 4 am_q229 rfl ?_
        refine ev_c (vs := [.ref 216, .int i4, .int i1, .int i2]) (rest := [.int i3]) 228 am_q229 rfl rfl rfl rfl rfl rfl rfl rfl rfl rfl rfl rfl (Or.inr (congrArg some (lk216 Ly))) (Cl.mono H (Nat.le_refl _) (fun r5 h4 H => ?_))
        obtain ⟨x6, rfl, Ly, H⟩ := H
        refine ev_jz (t := 46) am_q229 rfl rfl (fun hq => ?_) (fun hq => ?_)
        · replace H := H.1 hq
          refine ev_p (pc' := 5) (loc' := [.ref 216, .int i1, .int i2, .int (i3 + (0 : Int32)), .int (i4 + (1 : Int32))]) (st' := []) 5 am_q229 rfl ?_
          exact ev_m (loc' := [.ref 216, .int i1, .int i2, .int (i3 + (0 : Int32)), .int (i4 + (1 : Int32))]) am_q229 rfl rfl H
        · replace H := H.2 hq
          refine ev_p (pc' := 5) (loc' := [.ref 216, .int i1, .int i2, .int (i3 + (1 : Int32)), .int (i4 + (1 : Int32))]) (st' := []) 6 am_q229 rfl ?_
          exact ev_m (loc' := [.ref 216, .int i1, .int i2, .int (i3 + (1 : Int32)), .int (i4 + (1 : Int32))]) am_q229 rfl rfl H
/-! 230: X12_order -/
set_option maxRecDepth 20000 in
set_option maxHeartbeats 2000000 in
theorem ws230 {d : Nat}  (i1 : Int32) (i2 : Int32) {h : AH} {Q : Option Value → AH → Prop} (Ly : Lay h) (H : Cl d 168 [.ref 216, .int i1] h (fun r2 h1 => ∃ x3, r2 = some (.int x3) ∧ Lay h1 ∧ ((¬ x3 = (0 : Int32)) → Ev (d + 1) 230 13 [.ref 216, .int i1, .int i2, .int (0 : Int32)] [] h1 Q) ∧ (¬ (¬ x3 = (0 : Int32)) → Q (some (.int (-2 : Int32))) h1))) : Cl (d + 1) 230 [.ref 216, .int i1, .int i2] h Q := by
  show Ev (d + 1) 230 0 [.ref 216, .int i1, .int i2, .null] [] h Q
  refine ev_p (pc' := 2) (loc' := [.ref 216, .int i1, .int i2, .null]) (st' := [.int i1, .ref 216]) 2 am_q230 rfl ?_
  refine ev_c (vs := [.ref 216, .int i1]) (rest := []) 168 am_q230 rfl rfl rfl rfl rfl rfl rfl rfl rfl rfl rfl rfl (Or.inr (congrArg some (lk216 Ly))) (Cl.mono H (Nat.le_refl _) (fun r2 h1 H => ?_))
  obtain ⟨x3, rfl, Ly, H⟩ := H
  refine ev_jz (t := 11) am_q230 rfl rfl (fun hq => ?_) (fun hq => ?_)
  · replace H := H.1 hq
    refine ev_p (pc' := 13) (loc' := [.ref 216, .int i1, .int i2, .int (0 : Int32)]) (st' := []) 2 am_q230 rfl ?_
    exact ev_m (loc' := [.ref 216, .int i1, .int i2, .int (0 : Int32)]) am_q230 rfl rfl H
  · replace H := H.2 hq
    refine ev_p (pc' := 10) (loc' := [.ref 216, .int i1, .int i2, .null]) (st' := [.int (-2 : Int32)]) 1 am_q230 rfl ?_
    exact ev_r (v := some (.int (-2 : Int32))) am_q230 rfl rfl rfl rfl H
set_option maxRecDepth 20000 in
set_option maxHeartbeats 2000000 in
theorem ws230_13 {d : Nat}  (i1 : Int32) (i2 : Int32) (i3 : Int32) {h : AH} {Q : Option Value → AH → Prop} (Ly : Lay h) (H : ((am_gi h 216 7) ≤ i3 → Q (some (.int (-1 : Int32))) h) ∧ (¬ (am_gi h 216 7) ≤ i3 → Cl d 227 [.ref 216, .int i3, .int i1] h (fun r2 h1 => ∃ x3, r2 = some (.int x3) ∧ Lay h1 ∧ (x3 = (0 : Int32) → Ev (d + 1) 230 13 [.ref 216, .int i1, .int i2, .int (i3 + (1 : Int32))] [] h1 Q) ∧ (¬ x3 = (0 : Int32) → Cl d 229 [.ref 216, .int i3, .int i1] h1 (fun r5 h4 => ∃ x6, r5 = some (.int x6) ∧ Lay h4 ∧ ((¬ x6 = i2) → Ev (d + 1) 230 13 [.ref 216, .int i1, .int i2, .int (i3 + (1 : Int32))] [] h4 Q) ∧ (¬ (¬ x6 = i2) → Q (some (.int i3)) h4)))))) : Ev (d + 1) 230 13 [.ref 216, .int i1, .int i2, .int i3] [] h Q := by
  refine ev_p (pc' := 15) (loc' := [.ref 216, .int i1, .int i2, .int i3]) (st' := [.ref 216, .int i3]) 2 am_q230 rfl ?_
  refine ev_s (pc' := 18) (loc' := [.ref 216, .int i1, .int i2, .int i3]) (st' := [.int (am_gi h 216 7), .int i3]) (h1 := h) am_q230 rfl rfl rfl (if_pos (e := none) (lk216 Ly)) ?_
  refine ev_jc (t := 48) am_q230 rfl rfl (fun hq => ?_) (fun hq => ?_)
  · replace H := H.1 hq
    refine ev_p (pc' := 49) (loc' := [.ref 216, .int i1, .int i2, .int i3]) (st' := [.int (-1 : Int32)]) 1 am_q230 rfl ?_
    exact ev_r (v := some (.int (-1 : Int32))) am_q230 rfl rfl rfl rfl H
  · replace H := H.2 hq
    refine ev_p (pc' := 24) (loc' := [.ref 216, .int i1, .int i2, .int i3]) (st' := [.int i1, .int i3, .ref 216]) 3 am_q230 rfl ?_
    refine ev_c (vs := [.ref 216, .int i3, .int i1]) (rest := []) 227 am_q230 rfl rfl rfl rfl rfl rfl rfl rfl rfl rfl rfl rfl (Or.inr (congrArg some (lk216 Ly))) (Cl.mono H (Nat.le_refl _) (fun r2 h1 H => ?_))
    obtain ⟨x3, rfl, Ly, H⟩ := H
    refine ev_jz (t := 42) am_q230 rfl rfl (fun hq => ?_) (fun hq => ?_)
    · replace H := H.1 hq
      refine ev_p (pc' := 13) (loc' := [.ref 216, .int i1, .int i2, .int (i3 + (1 : Int32))]) (st' := []) 2 am_q230 rfl ?_
      exact ev_m (loc' := [.ref 216, .int i1, .int i2, .int (i3 + (1 : Int32))]) am_q230 rfl rfl H
    · replace H := H.2 hq
      refine ev_p (pc' := 33) (loc' := [.ref 216, .int i1, .int i2, .int i3]) (st' := [.int i1, .int i3, .ref 216]) 3 am_q230 rfl ?_
      refine ev_c (vs := [.ref 216, .int i3, .int i1]) (rest := []) 229 am_q230 rfl rfl rfl rfl rfl rfl rfl rfl rfl rfl rfl rfl (Or.inr (congrArg some (lk216 Ly))) (Cl.mono H (Nat.le_refl _) (fun r5 h4 H => ?_))
      obtain ⟨x6, rfl, Ly, H⟩ := H
      refine ev_p (pc' := 37) (loc' := [.ref 216, .int i1, .int i2, .int i3]) (st' := [.int i2, .int x6]) 1 am_q230 rfl ?_
      refine ev_jc (t := 42) am_q230 rfl rfl (fun hq => ?_) (fun hq => ?_)
      · replace H := H.1 hq
        refine ev_p (pc' := 13) (loc' := [.ref 216, .int i1, .int i2, .int (i3 + (1 : Int32))]) (st' := []) 2 am_q230 rfl ?_
        exact ev_m (loc' := [.ref 216, .int i1, .int i2, .int (i3 + (1 : Int32))]) am_q230 rfl rfl H
      · replace H := H.2 hq
        refine ev_p (pc' := 41) (loc' := [.ref 216, .int i1, .int i2, .int i3]) (st' := [.int i3]) 1 am_q230 rfl ?_
        exact ev_r (v := some (.int i3)) am_q230 rfl rfl rfl rfl H
/-! 231: X12_offeredTo -/
set_option maxRecDepth 20000 in
set_option maxHeartbeats 2000000 in
theorem ws231 {d : Nat}  (i1 : Int32) {h : AH} {Q : Option Value → AH → Prop} (Ly : Lay h) (H : Ev (d + 1) 231 4 [.ref 216, .int i1, .int (-1 : Int32), .int (0 : Int32), .null] [] h Q) : Cl (d + 1) 231 [.ref 216, .int i1] h Q := by
  show Ev (d + 1) 231 0 [.ref 216, .int i1, .null, .null, .null] [] h Q
  refine ev_p (pc' := 4) (loc' := [.ref 216, .int i1, .int (-1 : Int32), .int (0 : Int32), .null]) (st' := []) 4 am_q231 rfl ?_
  exact ev_m (loc' := [.ref 216, .int i1, .int (-1 : Int32), .int (0 : Int32), .null]) am_q231 rfl rfl H
set_option maxRecDepth 20000 in
set_option maxHeartbeats 2000000 in
theorem ws231_4 {d : Nat}  (i1 : Int32) (i2 : Int32) (i3 : Int32) {h : AH} {Q : Option Value → AH → Prop} (Ly : Lay h) (H : ((am_gi h 216 7) ≤ i3 → Q (some (.int i2)) h) ∧ (¬ (am_gi h 216 7) ≤ i3 → am_in i1 12 ∧ ((am_gi h 220 (Int32.toNatClampNeg i1)) = (0 : Int32) → Q (some (.int i2)) h) ∧ (¬ (am_gi h 220 (Int32.toNatClampNeg i1)) = (0 : Int32) → am_in i1 12 ∧ ((¬ (((am_gi h 221 (Int32.toNatClampNeg i1)) >>> (i3 &&& 31)) &&& (1 : Int32)) = (0 : Int32)) → Ev (d + 1) 231 48 [.ref 216, .int i1, .int i2, .int i3, .null] [.int (0 : Int32)] h Q) ∧ (¬ (¬ (((am_gi h 221 (Int32.toNatClampNeg i1)) >>> (i3 &&& 31)) &&& (1 : Int32)) = (0 : Int32)) → Cl d 227 [.ref 216, .int i3, .int i1] h (fun r4 h3 => ∃ x5, r4 = some (.int x5) ∧ Lay h3 ∧ (x5 = (0 : Int32) → Ev (d + 1) 231 48 [.ref 216, .int i1, .int i2, .int i3, .null] [.int (0 : Int32)] h3 Q) ∧ (¬ x5 = (0 : Int32) → Ev (d + 1) 231 48 [.ref 216, .int i1, .int i2, .int i3, .null] [.int (1 : Int32)] h3 Q)))))) : Ev (d + 1) 231 4 [.ref 216, .int i1, .int i2, .int i3, .null] [] h Q := by
  refine ev_p (pc' := 6) (loc' := [.ref 216, .int i1, .int i2, .int i3, .null]) (st' := [.ref 216, .int i3]) 2 am_q231 rfl ?_
  refine ev_s (pc' := 9) (loc' := [.ref 216, .int i1, .int i2, .int i3, .null]) (st' := [.int (am_gi h 216 7), .int i3]) (h1 := h) am_q231 rfl rfl rfl (if_pos (e := none) (lk216 Ly)) ?_
  refine ev_jc (t := 82) am_q231 rfl rfl (fun hq => ?_) (fun hq => ?_)
  · replace H := H.1 hq
    refine ev_p (pc' := 83) (loc' := [.null, .null, .int i2, .null, .null]) (st' := [.int i2]) 1 am_q231 rfl ?_
    exact ev_r (v := some (.int i2)) am_q231 rfl rfl rfl rfl H
  · replace H := H.2 hq
    refine ev_p (pc' := 13) (loc' := [.ref 216, .int i1, .int i2, .int i3, .null]) (st' := [.ref 216]) 1 am_q231 rfl ?_
    refine ev_s (pc' := 16) (loc' := [.ref 216, .int i1, .int i2, .int i3, .null]) (st' := [.ref 220]) (h1 := h) am_q231 rfl rfl rfl (am_gf2 (lk216 Ly) (lr216_5 Ly)) ?_
    refine ev_p (pc' := 17) (loc' := [.ref 216, .int i1, .int i2, .int i3, .null]) (st' := [.int i1, .ref 220]) 1 am_q231 rfl ?_
    obtain ⟨g1, H⟩ := H
    refine ev_s (pc' := 18) (loc' := [.ref 216, .int i1, .int i2, .int i3, .null]) (st' := [.int (am_gi h 220 (Int32.toNatClampNeg i1))]) (h1 := h) am_q231 rfl rfl rfl (am_xx (Or.inr (lk220 Ly)) (am_inl (ln220 Ly) g1)) ?_
    refine ev_jz (t := 82) am_q231 rfl rfl (fun hq => ?_) (fun hq => ?_)
    · replace H := H.1 hq
      refine ev_p (pc' := 83) (loc' := [.null, .null, .int i2, .null, .null]) (st' := [.int i2]) 1 am_q231 rfl ?_
      exact ev_r (v := some (.int i2)) am_q231 rfl rfl rfl rfl H
    · replace H := H.2 hq
      refine ev_p (pc' := 22) (loc' := [.ref 216, .int i1, .int i2, .int i3, .null]) (st' := [.ref 216]) 1 am_q231 rfl ?_
      refine ev_s (pc' := 25) (loc' := [.ref 216, .int i1, .int i2, .int i3, .null]) (st' := [.ref 221]) (h1 := h) am_q231 rfl rfl rfl (am_gf2 (lk216 Ly) (lr216_6 Ly)) ?_
      refine ev_p (pc' := 26) (loc' := [.ref 216, .int i1, .int i2, .int i3, .null]) (st' := [.int i1, .ref 221]) 1 am_q231 rfl ?_
      obtain ⟨g2, H⟩ := H
      refine ev_s (pc' := 27) (loc' := [.ref 216, .int i1, .int i2, .int i3, .null]) (st' := [.int (am_gi h 221 (Int32.toNatClampNeg i1))]) (h1 := h) am_q231 rfl rfl rfl (am_xx (lk221 Ly) (am_inl (ln221 Ly) g2)) ?_
      refine ev_p (pc' := 31) (loc' := [.ref 216, .int i1, .int i2, .int i3, .null]) (st' := [.int (((am_gi h 221 (Int32.toNatClampNeg i1)) >>> (i3 &&& 31)) &&& (1 : Int32))]) 4 am_q231 rfl ?_
      refine ev_jz (t := 47) am_q231 rfl rfl (fun hq => ?_) (fun hq => ?_)
      · replace H := H.1 hq
        refine ev_p (pc' := 48) (loc' := [.ref 216, .int i1, .int i2, .int i3, .null]) (st' := [.int (0 : Int32)]) 1 am_q231 rfl ?_
        exact ev_m (loc' := [.ref 216, .int i1, .int i2, .int i3, .null]) am_q231 rfl rfl H
      · replace H := H.2 hq
        refine ev_p (pc' := 37) (loc' := [.ref 216, .int i1, .int i2, .int i3, .null]) (st' := [.int i1, .int i3, .ref 216]) 3 am_q231 rfl ?_
        refine ev_c (vs := [.ref 216, .int i3, .int i1]) (rest := []) 227 am_q231 rfl rfl rfl rfl rfl rfl rfl rfl rfl rfl rfl rfl (Or.inr (congrArg some (lk216 Ly))) (Cl.mono H (Nat.le_refl _) (fun r4 h3 H => ?_))
        obtain ⟨x5, rfl, Ly, H⟩ := H
        refine ev_jz (t := 47) am_q231 rfl rfl (fun hq => ?_) (fun hq => ?_)
        · replace H := H.1 hq
          refine ev_p (pc' := 48) (loc' := [.ref 216, .int i1, .int i2, .int i3, .null]) (st' := [.int (0 : Int32)]) 1 am_q231 rfl ?_
          exact ev_m (loc' := [.ref 216, .int i1, .int i2, .int i3, .null]) am_q231 rfl rfl H
        · replace H := H.2 hq
          refine ev_p (pc' := 48) (loc' := [.ref 216, .int i1, .int i2, .int i3, .null]) (st' := [.int (1 : Int32)]) 2 am_q231 rfl ?_
          exact ev_m (loc' := [.ref 216, .int i1, .int i2, .int i3, .null]) am_q231 rfl rfl H
set_option maxRecDepth 20000 in
set_option maxHeartbeats 2000000 in
theorem ws231_48 {d : Nat}  (i1 : Int32) (i2 : Int32) (i3 : Int32) (s0 : Int32) {h : AH} {Q : Option Value → AH → Prop} (Ly : Lay h) (H : (s0 = (0 : Int32) → Ev (d + 1) 231 4 [.ref 216, .int i1, .int i2, .int (i3 + (1 : Int32)), .null] [] h Q) ∧ (¬ s0 = (0 : Int32) → (i2 = (-1 : Int32) → Ev (d + 1) 231 4 [.ref 216, .int i1, .int i3, .int (i3 + (1 : Int32)), .null] [] h Q) ∧ (¬ i2 = (-1 : Int32) → Cl d 228 [.ref 216, .int i3, .int i2, .int i1] h (fun r2 h1 => ∃ x3, r2 = some (.int x3) ∧ Lay h1 ∧ (x3 = (0 : Int32) → Ev (d + 1) 231 4 [.ref 216, .int i1, .int i2, .int (i3 + (1 : Int32)), .null] [] h1 Q) ∧ (¬ x3 = (0 : Int32) → Ev (d + 1) 231 4 [.ref 216, .int i1, .int i3, .int (i3 + (1 : Int32)), .null] [] h1 Q))))) : Ev (d + 1) 231 48 [.ref 216, .int i1, .int i2, .int i3, .null] [.int s0] h Q := by
  refine ev_p (pc' := 52) (loc' := [.ref 216, .int i1, .int i2, .int i3, .int s0]) (st' := [.int s0]) 2 am_q231 rfl ?_
  refine ev_jz (t := 74) am_q231 rfl rfl (fun hq => ?_) (fun hq => ?_)
  · replace H := H.1 hq
    refine ev_p (pc' := 4) (loc' := [.ref 216, .int i1, .int i2, .int (i3 + (1 : Int32)), .null]) (st' := []) 4 am_q231 rfl ?_
    exact ev_m (loc' := [.ref 216, .int i1, .int i2, .int (i3 + (1 : Int32)), .null]) am_q231 rfl rfl H
  · replace H := H.2 hq
    refine ev_p (pc' := 57) (loc' := [.ref 216, .int i1, .int i2, .int i3, .int s0]) (st' := [.int (-1 : Int32), .int i2]) 2 am_q231 rfl ?_
    refine ev_jc (t := 70) am_q231 rfl rfl (fun hq => ?_) (fun hq => ?_)
    · replace H := H.1 hq
      refine ev_p (pc' := 4) (loc' := [.ref 216, .int i1, .int i3, .int (i3 + (1 : Int32)), .null]) (st' := []) 5 am_q231 rfl ?_
      exact ev_m (loc' := [.ref 216, .int i1, .int i3, .int (i3 + (1 : Int32)), .null]) am_q231 rfl rfl H
    · replace H := H.2 hq
      refine ev_p (pc' := 64) (loc' := [.ref 216, .int i1, .int i2, .int i3, .int s0]) (st' := [.int i1, .int i2, .int i3, .ref 216]) 4 am_q231 rfl ?_
      refine ev_c (vs := [.ref 216, .int i3, .int i2, .int i1]) (rest := []) 228 am_q231 rfl rfl rfl rfl rfl rfl rfl rfl rfl rfl rfl rfl (Or.inr (congrArg some (lk216 Ly))) (Cl.mono H (Nat.le_refl _) (fun r2 h1 H => ?_))
      obtain ⟨x3, rfl, Ly, H⟩ := H
      refine ev_jz (t := 74) am_q231 rfl rfl (fun hq => ?_) (fun hq => ?_)
      · replace H := H.1 hq
        refine ev_p (pc' := 4) (loc' := [.ref 216, .int i1, .int i2, .int (i3 + (1 : Int32)), .null]) (st' := []) 4 am_q231 rfl ?_
        exact ev_m (loc' := [.ref 216, .int i1, .int i2, .int (i3 + (1 : Int32)), .null]) am_q231 rfl rfl H
      · replace H := H.2 hq
        refine ev_p (pc' := 4) (loc' := [.ref 216, .int i1, .int i3, .int (i3 + (1 : Int32)), .null]) (st' := []) 5 am_q231 rfl ?_
        exact ev_m (loc' := [.ref 216, .int i1, .int i3, .int (i3 + (1 : Int32)), .null]) am_q231 rfl rfl H
/-! 232: X12_offer -/
set_option maxRecDepth 20000 in
set_option maxHeartbeats 2000000 in
theorem ws232 {d : Nat}  (i1 : Int32) {h : AH} {Q : Option Value → AH → Prop} (Ly : Lay h) (H : Cl d 168 [.ref 216, .int i1] h (fun r2 h1 => ∃ x3, r2 = some (.int x3) ∧ Lay h1 ∧ ((¬ x3 = (0 : Int32)) → Cl d 173 [.ref 216, .int i1, .int (am_gi h1 216 0)] h1 (fun r5 h4 => ∃ x6, r5 = some (.int x6) ∧ Lay h4 ∧ ((¬ x6 = (-1 : Int32)) → Q (some (.int (-3 : Int32))) h4) ∧ (¬ (¬ x6 = (-1 : Int32)) → am_in i1 12 ∧ ((am_gi h4 220 (Int32.toNatClampNeg i1)) = (0 : Int32) → am_in i1 12 ∧ ∀ h9, h9 = am_si h4 220 (Int32.toNatClampNeg i1) (1 : Int32) → am_in i1 12 ∧ ∀ h11, h11 = am_si h9 221 (Int32.toNatClampNeg i1) (0 : Int32) → Cl d 231 [.ref 216, .int i1] h11 (fun r13 h12 => ∃ x14, r13 = some (.int x14) ∧ Lay h12 ∧ Q (some (.int x14)) h12)) ∧ (¬ (am_gi h4 220 (Int32.toNatClampNeg i1)) = (0 : Int32) → Q (some (.int (-3 : Int32))) h4)))) ∧ (¬ (¬ x3 = (0 : Int32)) → Q (some (.int (-2 : Int32))) h1))) : Cl (d + 1) 232 [.ref 216, .int i1] h Q := by
  show Ev (d + 1) 232 0 [.ref 216, .int i1] [] h Q
  refine ev_p (pc' := 2) (loc' := [.ref 216, .int i1]) (st' := [.int i1, .ref 216]) 2 am_q232 rfl ?_
  refine ev_c (vs := [.ref 216, .int i1]) (rest := []) 168 am_q232 rfl rfl rfl rfl rfl rfl rfl rfl rfl rfl rfl rfl (Or.inr (congrArg some (lk216 Ly))) (Cl.mono H (Nat.le_refl _) (fun r2 h1 H => ?_))
  obtain ⟨x3, rfl, Ly, H⟩ := H
  refine ev_jz (t := 11) am_q232 rfl rfl (fun hq => ?_) (fun hq => ?_)
  · replace H := H.1 hq
    refine ev_p (pc' := 14) (loc' := [.ref 216, .int i1]) (st' := [.ref 216, .int i1, .ref 216]) 3 am_q232 rfl ?_
    refine ev_s (pc' := 17) (loc' := [.ref 216, .int i1]) (st' := [.int (am_gi h1 216 0), .int i1, .ref 216]) (h1 := h1) am_q232 rfl rfl rfl (if_pos (e := none) (lk216 Ly)) ?_
    refine ev_c (vs := [.ref 216, .int i1, .int (am_gi h1 216 0)]) (rest := []) 173 am_q232 rfl rfl rfl rfl rfl rfl rfl rfl rfl rfl rfl rfl (Or.inr (congrArg some (lk216 Ly))) (Cl.mono H (Nat.le_refl _) (fun r5 h4 H => ?_))
    obtain ⟨x6, rfl, Ly, H⟩ := H
    refine ev_p (pc' := 21) (loc' := [.ref 216, .int i1]) (st' := [.int (-1 : Int32), .int x6]) 1 am_q232 rfl ?_
    refine ev_jc (t := 33) am_q232 rfl rfl (fun hq => ?_) (fun hq => ?_)
    · replace H := H.1 hq
      refine ev_p (pc' := 35) (loc' := [.null, .null]) (st' := [.int (-3 : Int32)]) 1 am_q232 rfl ?_
      exact ev_r (v := some (.int (-3 : Int32))) am_q232 rfl rfl rfl rfl H
    · replace H := H.2 hq
      refine ev_p (pc' := 25) (loc' := [.ref 216, .int i1]) (st' := [.ref 216]) 1 am_q232 rfl ?_
      refine ev_s (pc' := 28) (loc' := [.ref 216, .int i1]) (st' := [.ref 220]) (h1 := h4) am_q232 rfl rfl rfl (am_gf2 (lk216 Ly) (lr216_5 Ly)) ?_
      refine ev_p (pc' := 29) (loc' := [.ref 216, .int i1]) (st' := [.int i1, .ref 220]) 1 am_q232 rfl ?_
      obtain ⟨g7, H⟩ := H
      refine ev_s (pc' := 30) (loc' := [.ref 216, .int i1]) (st' := [.int (am_gi h4 220 (Int32.toNatClampNeg i1))]) (h1 := h4) am_q232 rfl rfl rfl (am_xx (Or.inr (lk220 Ly)) (am_inl (ln220 Ly) g7)) ?_
      refine ev_jz (t := 36) am_q232 rfl rfl (fun hq => ?_) (fun hq => ?_)
      · replace H := H.1 hq
        refine ev_p (pc' := 37) (loc' := [.ref 216, .int i1]) (st' := [.ref 216]) 1 am_q232 rfl ?_
        refine ev_s (pc' := 40) (loc' := [.ref 216, .int i1]) (st' := [.ref 220]) (h1 := h4) am_q232 rfl rfl rfl (am_gf2 (lk216 Ly) (lr216_5 Ly)) ?_
        refine ev_p (pc' := 42) (loc' := [.ref 216, .int i1]) (st' := [.int (1 : Int32), .int i1, .ref 220]) 2 am_q232 rfl ?_
        obtain ⟨g8, H⟩ := H
        refine ev_s (pc' := 43) (loc' := [.ref 216, .int i1]) (st' := []) (h1 := am_si h4 220 (Int32.toNatClampNeg i1) (1 : Int32)) am_q232 rfl rfl rfl (am_yz ⟨lk220 Ly, Or.inr rfl⟩ (am_inl (ln220 Ly) g8)) ?_
        replace H := H _ rfl
        replace Ly : Lay (am_si h4 220 (Int32.toNatClampNeg i1) (1 : Int32)) := Ly.si _ _ _
        generalize am_si h4 220 (Int32.toNatClampNeg i1) (1 : Int32) = h9 at H Ly ⊢
        refine ev_p (pc' := 44) (loc' := [.ref 216, .int i1]) (st' := [.ref 216]) 1 am_q232 rfl ?_
        refine ev_s (pc' := 47) (loc' := [.ref 216, .int i1]) (st' := [.ref 221]) (h1 := h9) am_q232 rfl rfl rfl (am_gf2 (lk216 Ly) (lr216_6 Ly)) ?_
        refine ev_p (pc' := 49) (loc' := [.ref 216, .int i1]) (st' := [.int (0 : Int32), .int i1, .ref 221]) 2 am_q232 rfl ?_
        obtain ⟨g10, H⟩ := H
        refine ev_s (pc' := 50) (loc' := [.ref 216, .int i1]) (st' := []) (h1 := am_si h9 221 (Int32.toNatClampNeg i1) (0 : Int32)) am_q232 rfl rfl rfl (am_xx ⟨lk221 Ly, (Nat.le_of_ble_eq_true rfl)⟩ (am_inl (ln221 Ly) g10)) ?_
        replace H := H _ rfl
        replace Ly : Lay (am_si h9 221 (Int32.toNatClampNeg i1) (0 : Int32)) := Ly.si _ _ _
        generalize am_si h9 221 (Int32.toNatClampNeg i1) (0 : Int32) = h11 at H Ly ⊢
        refine ev_p (pc' := 52) (loc' := [.ref 216, .int i1]) (st' := [.int i1, .ref 216]) 2 am_q232 rfl ?_
        refine ev_c (vs := [.ref 216, .int i1]) (rest := []) 231 am_q232 rfl rfl rfl rfl rfl rfl rfl rfl rfl rfl rfl rfl (Or.inr (congrArg some (lk216 Ly))) (Cl.mono H (Nat.le_refl _) (fun r13 h12 H => ?_))
        obtain ⟨x14, rfl, Ly, H⟩ := H
        exact ev_r (v := some (.int x14)) am_q232 rfl rfl rfl rfl H
      · replace H := H.2 hq
        refine ev_p (pc' := 35) (loc' := [.null, .null]) (st' := [.int (-3 : Int32)]) 1 am_q232 rfl ?_
        exact ev_r (v := some (.int (-3 : Int32))) am_q232 rfl rfl rfl rfl H
  · replace H := H.2 hq
    refine ev_p (pc' := 10) (loc' := [.ref 216, .int i1]) (st' := [.int (-2 : Int32)]) 1 am_q232 rfl ?_
    exact ev_r (v := some (.int (-2 : Int32))) am_q232 rfl rfl rfl rfl H
/-! 233: X12_take -/
set_option maxRecDepth 20000 in
set_option maxHeartbeats 2000000 in
theorem ws233 {d : Nat}  (i1 : Int32) (i2 : Int32) {h : AH} {Q : Option Value → AH → Prop} (Ly : Lay h) (H : Cl d 168 [.ref 216, .int i1] h (fun r2 h1 => ∃ x3, r2 = some (.int x3) ∧ Lay h1 ∧ ((¬ x3 = (0 : Int32)) → Cl d 231 [.ref 216, .int i1] h1 (fun r5 h4 => ∃ x6, r5 = some (.int x6) ∧ Lay h4 ∧ ((¬ x6 = (-1 : Int32)) → ((¬ i2 = (0 : Int32)) → Cl d 185 [.ref 216, .int x6] h4 (fun r8 h7 => ∃ x9, r8 = some (.int x9) ∧ Lay h7 ∧ (x9 = (0 : Int32) → Ev (d + 1) 233 64 [.ref 216, .int i1, .null, .int x6] [.int (1 : Int32), .int (am_gi h4 216 14)] h7 Q) ∧ (¬ x9 = (0 : Int32) → Ev (d + 1) 233 64 [.ref 216, .int i1, .null, .int x6] [.int (2 : Int32), .int (am_gi h4 216 14)] h7 Q))) ∧ (¬ (¬ i2 = (0 : Int32)) → am_in i1 12 ∧ am_in i1 12 ∧ ∀ h12, h12 = am_si h4 221 (Int32.toNatClampNeg i1) ((am_gi h4 221 (Int32.toNatClampNeg i1)) ||| ((1 : Int32) <<< (x6 &&& 31))) → Cl d 231 [.ref 216, .int i1] h12 (fun r14 h13 => ∃ x15, r14 = some (.int x15) ∧ Lay h13 ∧ Q (some (.int x15)) h13))) ∧ (¬ (¬ x6 = (-1 : Int32)) → Q (some (.int (-3 : Int32))) h4))) ∧ (¬ (¬ x3 = (0 : Int32)) → Q (some (.int (-2 : Int32))) h1))) : Cl (d + 1) 233 [.ref 216, .int i1, .int i2] h Q := by
  show Ev (d + 1) 233 0 [.ref 216, .int i1, .int i2, .null] [] h Q
  refine ev_p (pc' := 2) (loc' := [.ref 216, .int i1, .int i2, .null]) (st' := [.int i1, .ref 216]) 2 am_q233 rfl ?_
  refine ev_c (vs := [.ref 216, .int i1]) (rest := []) 168 am_q233 rfl rfl rfl rfl rfl rfl rfl rfl rfl rfl rfl rfl (Or.inr (congrArg some (lk216 Ly))) (Cl.mono H (Nat.le_refl _) (fun r2 h1 H => ?_))
  obtain ⟨x3, rfl, Ly, H⟩ := H
  refine ev_jz (t := 11) am_q233 rfl rfl (fun hq => ?_) (fun hq => ?_)
  · replace H := H.1 hq
    refine ev_p (pc' := 13) (loc' := [.ref 216, .int i1, .int i2, .null]) (st' := [.int i1, .ref 216]) 2 am_q233 rfl ?_
    refine ev_c (vs := [.ref 216, .int i1]) (rest := []) 231 am_q233 rfl rfl rfl rfl rfl rfl rfl rfl rfl rfl rfl rfl (Or.inr (congrArg some (lk216 Ly))) (Cl.mono H (Nat.le_refl _) (fun r5 h4 H => ?_))
    obtain ⟨x6, rfl, Ly, H⟩ := H
    refine ev_p (pc' := 19) (loc' := [.ref 216, .int i1, .int i2, .int x6]) (st' := [.int (-1 : Int32), .int x6]) 3 am_q233 rfl ?_
    refine ev_jc (t := 25) am_q233 rfl rfl (fun hq => ?_) (fun hq => ?_)
    · replace H := H.1 hq
      refine ev_p (pc' := 26) (loc' := [.ref 216, .int i1, .int i2, .int x6]) (st' := [.int i2]) 1 am_q233 rfl ?_
      refine ev_jz (t := 47) am_q233 rfl rfl (fun hq => ?_) (fun hq => ?_)
      · replace H := H.1 hq
        refine ev_p (pc' := 48) (loc' := [.ref 216, .int i1, .int i2, .int x6]) (st' := [.ref 216]) 1 am_q233 rfl ?_
        refine ev_s (pc' := 51) (loc' := [.ref 216, .int i1, .int i2, .int x6]) (st' := [.int (am_gi h4 216 14)]) (h1 := h4) am_q233 rfl rfl rfl (if_pos (e := none) (lk216 Ly)) ?_
        refine ev_p (pc' := 53) (loc' := [.ref 216, .int i1, .int i2, .int x6]) (st' := [.int x6, .ref 216, .int (am_gi h4 216 14)]) 2 am_q233 rfl ?_
        refine ev_c (vs := [.ref 216, .int x6]) (rest := [.int (am_gi h4 216 14)]) 185 am_q233 rfl rfl rfl rfl rfl rfl rfl rfl rfl rfl rfl rfl (Or.inr (congrArg some (lk216 Ly))) (Cl.mono H (Nat.le_refl _) (fun r8 h7 H => ?_))
        obtain ⟨x9, rfl, Ly, H⟩ := H
        refine ev_jz (t := 63) am_q233 rfl rfl (fun hq => ?_) (fun hq => ?_)
        · replace H := H.1 hq
          refine ev_p (pc' := 64) (loc' := [.ref 216, .int i1, .int i2, .int x6]) (st' := [.int (1 : Int32), .int (am_gi h4 216 14)]) 1 am_q233 rfl ?_
          exact ev_m (loc' := [.ref 216, .int i1, .null, .int x6]) am_q233 rfl rfl H
        · replace H := H.2 hq
          refine ev_p (pc' := 64) (loc' := [.ref 216, .int i1, .int i2, .int x6]) (st' := [.int (2 : Int32), .int (am_gi h4 216 14)]) 2 am_q233 rfl ?_
          exact ev_m (loc' := [.ref 216, .int i1, .null, .int x6]) am_q233 rfl rfl H
      · replace H := H.2 hq
        refine ev_p (pc' := 30) (loc' := [.ref 216, .int i1, .int i2, .int x6]) (st' := [.ref 216]) 1 am_q233 rfl ?_
        refine ev_s (pc' := 33) (loc' := [.ref 216, .int i1, .int i2, .int x6]) (st' := [.ref 221]) (h1 := h4) am_q233 rfl rfl rfl (am_gf2 (lk216 Ly) (lr216_6 Ly)) ?_
        refine ev_p (pc' := 35) (loc' := [.ref 216, .int i1, .int i2, .int x6]) (st' := [.int i1, .ref 221, .int i1, .ref 221]) 2 am_q233 rfl ?_
        obtain ⟨g10, H⟩ := H
        refine ev_s (pc' := 36) (loc' := [.ref 216, .int i1, .int i2, .int x6]) (st' := [.int (am_gi h4 221 (Int32.toNatClampNeg i1)), .int i1, .ref 221]) (h1 := h4) am_q233 rfl rfl rfl (am_xx (lk221 Ly) (am_inl (ln221 Ly) g10)) ?_
        refine ev_p (pc' := 40) (loc' := [.ref 216, .int i1, .int i2, .int x6]) (st' := [.int ((am_gi h4 221 (Int32.toNatClampNeg i1)) ||| ((1 : Int32) <<< (x6 &&& 31))), .int i1, .ref 221]) 4 am_q233 rfl ?_
        obtain ⟨g11, H⟩ := H
        refine ev_s (pc' := 41) (loc' := [.ref 216, .int i1, .int i2, .int x6]) (st' := []) (h1 := am_si h4 221 (Int32.toNatClampNeg i1) ((am_gi h4 221 (Int32.toNatClampNeg i1)) ||| ((1 : Int32) <<< (x6 &&& 31)))) am_q233 rfl rfl rfl (am_xx ⟨lk221 Ly, (Nat.le_of_ble_eq_true rfl)⟩ (am_inl (ln221 Ly) g11)) ?_
        replace H := H _ rfl
        replace Ly : Lay (am_si h4 221 (Int32.toNatClampNeg i1) ((am_gi h4 221 (Int32.toNatClampNeg i1)) ||| ((1 : Int32) <<< (x6 &&& 31)))) := Ly.si _ _ _
        generalize am_si h4 221 (Int32.toNatClampNeg i1) ((am_gi h4 221 (Int32.toNatClampNeg i1)) ||| ((1 : Int32) <<< (x6 &&& 31))) = h12 at H Ly ⊢
        refine ev_p (pc' := 43) (loc' := [.ref 216, .int i1, .int i2, .int x6]) (st' := [.int i1, .ref 216]) 2 am_q233 rfl ?_
        refine ev_c (vs := [.ref 216, .int i1]) (rest := []) 231 am_q233 rfl rfl rfl rfl rfl rfl rfl rfl rfl rfl rfl rfl (Or.inr (congrArg some (lk216 Ly))) (Cl.mono H (Nat.le_refl _) (fun r14 h13 H => ?_))
        obtain ⟨x15, rfl, Ly, H⟩ := H
        exact ev_r (v := some (.int x15)) am_q233 rfl rfl rfl rfl H
    · replace H := H.2 hq
      refine ev_p (pc' := 24) (loc' := [.ref 216, .int i1, .int i2, .int x6]) (st' := [.int (-3 : Int32)]) 1 am_q233 rfl ?_
      exact ev_r (v := some (.int (-3 : Int32))) am_q233 rfl rfl rfl rfl H
  · replace H := H.2 hq
    refine ev_p (pc' := 10) (loc' := [.ref 216, .int i1, .int i2, .null]) (st' := [.int (-2 : Int32)]) 1 am_q233 rfl ?_
    exact ev_r (v := some (.int (-2 : Int32))) am_q233 rfl rfl rfl rfl H
set_option maxRecDepth 20000 in
set_option maxHeartbeats 2000000 in
theorem ws233_64 {d : Nat}  (i1 : Int32) (i3 : Int32) (s0 : Int32) (s1 : Int32) {h : AH} {Q : Option Value → AH → Prop} (Ly : Lay h) (H : ((s0 + s1) ≤ (60 : Int32) → Cl d 184 [.ref 216, .int i3] h (fun r2 h1 => ∃ x3, r2 = some (.int x3) ∧ Lay h1 ∧ am_in i3 24 ∧ ∀ h5, h5 = am_si h1 225 (Int32.toNatClampNeg i3) (-1 : Int32) → am_in i1 12 ∧ ∀ h7, h7 = am_si h5 220 (Int32.toNatClampNeg i1) (0 : Int32) → Cl d 175 [.ref 216, .int (0 : Int32), .int i1, .int i3, .int (-1 : Int32), .int (-1 : Int32)] h7 (fun r9 h8 => ∃ x10, r9 = some (.int x10) ∧ Lay h8 ∧ Q (some (.int x10)) h8))) ∧ (¬ (s0 + s1) ≤ (60 : Int32) → Q (some (.int (-4 : Int32))) h)) : Ev (d + 1) 233 64 [.ref 216, .int i1, .null, .int i3] [.int s1, .int s0] h Q := by
  refine ev_p (pc' := 67) (loc' := [.ref 216, .int i1, .null, .int i3]) (st' := [.int (60 : Int32), .int (s0 + s1)]) 2 am_q233 rfl ?_
  refine ev_jc (t := 73) am_q233 rfl rfl (fun hq => ?_) (fun hq => ?_)
  · replace H := H.1 hq
    refine ev_p (pc' := 75) (loc' := [.ref 216, .int i1, .null, .int i3]) (st' := [.int i3, .ref 216]) 2 am_q233 rfl ?_
    refine ev_c (vs := [.ref 216, .int i3]) (rest := []) 184 am_q233 rfl rfl rfl rfl rfl rfl rfl rfl rfl rfl rfl rfl (Or.inr (congrArg some (lk216 Ly))) (Cl.mono H (Nat.le_refl _) (fun r2 h1 H => ?_))
    obtain ⟨x3, rfl, Ly, H⟩ := H
    refine ev_p (pc' := 80) (loc' := [.ref 216, .int i1, .null, .int i3]) (st' := [.ref 216]) 2 am_q233 rfl ?_
    refine ev_s (pc' := 83) (loc' := [.ref 216, .int i1, .null, .int i3]) (st' := [.ref 225]) (h1 := h1) am_q233 rfl rfl rfl (am_gf2 (lk216 Ly) (lr216_11 Ly)) ?_
    refine ev_p (pc' := 85) (loc' := [.ref 216, .int i1, .null, .int i3]) (st' := [.int (-1 : Int32), .int i3, .ref 225]) 2 am_q233 rfl ?_
    obtain ⟨g4, H⟩ := H
    refine ev_s (pc' := 86) (loc' := [.ref 216, .int i1, .null, .int i3]) (st' := []) (h1 := am_si h1 225 (Int32.toNatClampNeg i3) (-1 : Int32)) am_q233 rfl rfl rfl (am_xx ⟨lk225 Ly, (Nat.le_of_ble_eq_true rfl)⟩ (am_inl (ln225 Ly) g4)) ?_
    replace H := H _ rfl
    replace Ly : Lay (am_si h1 225 (Int32.toNatClampNeg i3) (-1 : Int32)) := Ly.si _ _ _
    generalize am_si h1 225 (Int32.toNatClampNeg i3) (-1 : Int32) = h5 at H Ly ⊢
    refine ev_p (pc' := 87) (loc' := [.ref 216, .int i1, .null, .int i3]) (st' := [.ref 216]) 1 am_q233 rfl ?_
    refine ev_s (pc' := 90) (loc' := [.ref 216, .int i1, .null, .int i3]) (st' := [.ref 220]) (h1 := h5) am_q233 rfl rfl rfl (am_gf2 (lk216 Ly) (lr216_5 Ly)) ?_
    refine ev_p (pc' := 92) (loc' := [.ref 216, .int i1, .null, .int i3]) (st' := [.int (0 : Int32), .int i1, .ref 220]) 2 am_q233 rfl ?_
    obtain ⟨g6, H⟩ := H
    refine ev_s (pc' := 93) (loc' := [.ref 216, .int i1, .null, .int i3]) (st' := []) (h1 := am_si h5 220 (Int32.toNatClampNeg i1) (0 : Int32)) am_q233 rfl rfl rfl (am_yz ⟨lk220 Ly, Or.inl rfl⟩ (am_inl (ln220 Ly) g6)) ?_
    replace H := H _ rfl
    replace Ly : Lay (am_si h5 220 (Int32.toNatClampNeg i1) (0 : Int32)) := Ly.si _ _ _
    generalize am_si h5 220 (Int32.toNatClampNeg i1) (0 : Int32) = h7 at H Ly ⊢
    refine ev_p (pc' := 99) (loc' := [.ref 216, .int i1, .null, .int i3]) (st' := [.int (-1 : Int32), .int (-1 : Int32), .int i3, .int i1, .int (0 : Int32), .ref 216]) 6 am_q233 rfl ?_
    refine ev_c (vs := [.ref 216, .int (0 : Int32), .int i1, .int i3, .int (-1 : Int32), .int (-1 : Int32)]) (rest := []) 175 am_q233 rfl rfl rfl rfl rfl rfl rfl rfl rfl rfl rfl rfl (Or.inr (congrArg some (lk216 Ly))) (Cl.mono H (Nat.le_refl _) (fun r9 h8 H => ?_))
    obtain ⟨x10, rfl, Ly, H⟩ := H
    exact ev_r (v := some (.int x10)) am_q233 rfl rfl rfl rfl H
  · replace H := H.2 hq
    refine ev_p (pc' := 72) (loc' := [.ref 216, .int i1, .null, .int i3]) (st' := [.int (-4 : Int32)]) 1 am_q233 rfl ?_
    exact ev_r (v := some (.int (-4 : Int32))) am_q233 rfl rfl rfl rfl H
/-! 234: X12_withdraw -/
set_option maxRecDepth 20000 in
set_option maxHeartbeats 2000000 in
theorem ws234 {d : Nat}  (i1 : Int32) {h : AH} {Q : Option Value → AH → Prop} (Ly : Lay h) (H : Cl d 168 [.ref 216, .int i1] h (fun r2 h1 => ∃ x3, r2 = some (.int x3) ∧ Lay h1 ∧ ((¬ x3 = (0 : Int32)) → am_in i1 12 ∧ ((¬ (am_gi h1 220 (Int32.toNatClampNeg i1)) = (0 : Int32)) → am_in i1 12 ∧ ∀ h6, h6 = am_si h1 220 (Int32.toNatClampNeg i1) (0 : Int32) → Q (some (.int (1 : Int32))) h6) ∧ (¬ (¬ (am_gi h1 220 (Int32.toNatClampNeg i1)) = (0 : Int32)) → Q (some (.int (-3 : Int32))) h1)) ∧ (¬ (¬ x3 = (0 : Int32)) → Q (some (.int (-2 : Int32))) h1))) : Cl (d + 1) 234 [.ref 216, .int i1] h Q := by
  show Ev (d + 1) 234 0 [.ref 216, .int i1] [] h Q
  refine ev_p (pc' := 2) (loc' := [.ref 216, .int i1]) (st' := [.int i1, .ref 216]) 2 am_q234 rfl ?_
  refine ev_c (vs := [.ref 216, .int i1]) (rest := []) 168 am_q234 rfl rfl rfl rfl rfl rfl rfl rfl rfl rfl rfl rfl (Or.inr (congrArg some (lk216 Ly))) (Cl.mono H (Nat.le_refl _) (fun r2 h1 H => ?_))
  obtain ⟨x3, rfl, Ly, H⟩ := H
  refine ev_jz (t := 11) am_q234 rfl rfl (fun hq => ?_) (fun hq => ?_)
  · replace H := H.1 hq
    refine ev_p (pc' := 12) (loc' := [.ref 216, .int i1]) (st' := [.ref 216]) 1 am_q234 rfl ?_
    refine ev_s (pc' := 15) (loc' := [.ref 216, .int i1]) (st' := [.ref 220]) (h1 := h1) am_q234 rfl rfl rfl (am_gf2 (lk216 Ly) (lr216_5 Ly)) ?_
    refine ev_p (pc' := 16) (loc' := [.ref 216, .int i1]) (st' := [.int i1, .ref 220]) 1 am_q234 rfl ?_
    obtain ⟨g4, H⟩ := H
    refine ev_s (pc' := 17) (loc' := [.ref 216, .int i1]) (st' := [.int (am_gi h1 220 (Int32.toNatClampNeg i1))]) (h1 := h1) am_q234 rfl rfl rfl (am_xx (Or.inr (lk220 Ly)) (am_inl (ln220 Ly) g4)) ?_
    refine ev_jz (t := 23) am_q234 rfl rfl (fun hq => ?_) (fun hq => ?_)
    · replace H := H.1 hq
      refine ev_p (pc' := 24) (loc' := [.ref 216, .int i1]) (st' := [.ref 216]) 1 am_q234 rfl ?_
      refine ev_s (pc' := 27) (loc' := [.ref 216, .int i1]) (st' := [.ref 220]) (h1 := h1) am_q234 rfl rfl rfl (am_gf2 (lk216 Ly) (lr216_5 Ly)) ?_
      refine ev_p (pc' := 29) (loc' := [.ref 216, .int i1]) (st' := [.int (0 : Int32), .int i1, .ref 220]) 2 am_q234 rfl ?_
      obtain ⟨g5, H⟩ := H
      refine ev_s (pc' := 30) (loc' := [.ref 216, .int i1]) (st' := []) (h1 := am_si h1 220 (Int32.toNatClampNeg i1) (0 : Int32)) am_q234 rfl rfl rfl (am_yz ⟨lk220 Ly, Or.inl rfl⟩ (am_inl (ln220 Ly) g5)) ?_
      replace H := H _ rfl
      replace Ly : Lay (am_si h1 220 (Int32.toNatClampNeg i1) (0 : Int32)) := Ly.si _ _ _
      generalize am_si h1 220 (Int32.toNatClampNeg i1) (0 : Int32) = h6 at H Ly ⊢
      refine ev_p (pc' := 31) (loc' := [.ref 216, .int i1]) (st' := [.int (1 : Int32)]) 1 am_q234 rfl ?_
      exact ev_r (v := some (.int (1 : Int32))) am_q234 rfl rfl rfl rfl H
    · replace H := H.2 hq
      refine ev_p (pc' := 22) (loc' := [.ref 216, .int i1]) (st' := [.int (-3 : Int32)]) 1 am_q234 rfl ?_
      exact ev_r (v := some (.int (-3 : Int32))) am_q234 rfl rfl rfl rfl H
  · replace H := H.2 hq
    refine ev_p (pc' := 10) (loc' := [.ref 216, .int i1]) (st' := [.int (-2 : Int32)]) 1 am_q234 rfl ?_
    exact ev_r (v := some (.int (-2 : Int32))) am_q234 rfl rfl rfl rfl H
/-! 235: X12_wish -/
set_option maxRecDepth 20000 in
set_option maxHeartbeats 2000000 in
theorem ws235 {d : Nat}  (i1 : Int32) (i2 : Int32) (i3 : Int32) {h : AH} {Q : Option Value → AH → Prop} (Ly : Lay h) (H : Cl d 169 [.ref 216, .int i1] h (fun r2 h1 => ∃ x3, r2 = some (.int x3) ∧ Lay h1 ∧ (x3 = (0 : Int32) → Q (some (.int (-2 : Int32))) h1) ∧ (¬ x3 = (0 : Int32) → Cl d 168 [.ref 216, .int i2] h1 (fun r5 h4 => ∃ x6, r5 = some (.int x6) ∧ Lay h4 ∧ ((¬ x6 = (0 : Int32)) → Cl d 170 [.ref 216, .int i1] h4 (fun r8 h7 => ∃ x9, r8 = some (.int x9) ∧ Lay h7 ∧ ((¬ x9 = (0 : Int32)) → am_in i1 24 ∧ (i3 = (0 : Int32) → am_in i1 24 ∧ ∀ h12, h12 = am_si h7 226 (Int32.toNatClampNeg i1) ((am_gi h7 226 (Int32.toNatClampNeg i1)) &&& (((1 : Int32) <<< (i2 &&& 31)) ^^^ (-1 : Int32))) → am_in i1 24 ∧ ((¬ (am_gi h12 226 (Int32.toNatClampNeg i1)) = (am_gi h7 226 (Int32.toNatClampNeg i1))) → Q (some (.int (1 : Int32))) h12) ∧ (¬ (¬ (am_gi h12 226 (Int32.toNatClampNeg i1)) = (am_gi h7 226 (Int32.toNatClampNeg i1))) → Q (some (.int (0 : Int32))) h12)) ∧ (¬ i3 = (0 : Int32) → am_in i1 24 ∧ ∀ h15, h15 = am_si h7 226 (Int32.toNatClampNeg i1) ((am_gi h7 226 (Int32.toNatClampNeg i1)) ||| ((1 : Int32) <<< (i2 &&& 31))) → am_in i1 24 ∧ ((¬ (am_gi h15 226 (Int32.toNatClampNeg i1)) = (am_gi h7 226 (Int32.toNatClampNeg i1))) → Q (some (.int (1 : Int32))) h15) ∧ (¬ (¬ (am_gi h15 226 (Int32.toNatClampNeg i1)) = (am_gi h7 226 (Int32.toNatClampNeg i1))) → Q (some (.int (0 : Int32))) h15))) ∧ (¬ (¬ x9 = (0 : Int32)) → Q (some (.int (-3 : Int32))) h7))) ∧ (¬ (¬ x6 = (0 : Int32)) → Q (some (.int (-2 : Int32))) h4))))) : Cl (d + 1) 235 [.ref 216, .int i1, .int i2, .int i3] h Q := by
  show Ev (d + 1) 235 0 [.ref 216, .int i1, .int i2, .int i3, .null] [] h Q
  refine ev_p (pc' := 2) (loc' := [.ref 216, .int i1, .int i2, .int i3, .null]) (st' := [.int i1, .ref 216]) 2 am_q235 rfl ?_
  refine ev_c (vs := [.ref 216, .int i1]) (rest := []) 169 am_q235 rfl rfl rfl rfl rfl rfl rfl rfl rfl rfl rfl rfl (Or.inr (congrArg some (lk216 Ly))) (Cl.mono H (Nat.le_refl _) (fun r2 h1 H => ?_))
  obtain ⟨x3, rfl, Ly, H⟩ := H
  refine ev_jz (t := 16) am_q235 rfl rfl (fun hq => ?_) (fun hq => ?_)
  · replace H := H.1 hq
    refine ev_p (pc' := 18) (loc' := [.null, .null, .null, .null, .null]) (st' := [.int (-2 : Int32)]) 1 am_q235 rfl ?_
    exact ev_r (v := some (.int (-2 : Int32))) am_q235 rfl rfl rfl rfl H
  · replace H := H.2 hq
    refine ev_p (pc' := 10) (loc' := [.ref 216, .int i1, .int i2, .int i3, .null]) (st' := [.int i2, .ref 216]) 2 am_q235 rfl ?_
    refine ev_c (vs := [.ref 216, .int i2]) (rest := []) 168 am_q235 rfl rfl rfl rfl rfl rfl rfl rfl rfl rfl rfl rfl (Or.inr (congrArg some (lk216 Ly))) (Cl.mono H (Nat.le_refl _) (fun r5 h4 H => ?_))
    obtain ⟨x6, rfl, Ly, H⟩ := H
    refine ev_jz (t := 19) am_q235 rfl rfl (fun hq => ?_) (fun hq => ?_)
    · replace H := H.1 hq
      refine ev_p (pc' := 21) (loc' := [.ref 216, .int i1, .int i2, .int i3, .null]) (st' := [.int i1, .ref 216]) 2 am_q235 rfl ?_
      refine ev_c (vs := [.ref 216, .int i1]) (rest := []) 170 am_q235 rfl rfl rfl rfl rfl rfl rfl rfl rfl rfl rfl rfl (Or.inr (congrArg some (lk216 Ly))) (Cl.mono H (Nat.le_refl _) (fun r8 h7 H => ?_))
      obtain ⟨x9, rfl, Ly, H⟩ := H
      refine ev_jz (t := 30) am_q235 rfl rfl (fun hq => ?_) (fun hq => ?_)
      · replace H := H.1 hq
        refine ev_p (pc' := 31) (loc' := [.ref 216, .int i1, .int i2, .int i3, .null]) (st' := [.ref 216]) 1 am_q235 rfl ?_
        refine ev_s (pc' := 34) (loc' := [.ref 216, .int i1, .int i2, .int i3, .null]) (st' := [.ref 226]) (h1 := h7) am_q235 rfl rfl rfl (am_gf2 (lk216 Ly) (lr216_12 Ly)) ?_
        refine ev_p (pc' := 35) (loc' := [.ref 216, .int i1, .int i2, .int i3, .null]) (st' := [.int i1, .ref 226]) 1 am_q235 rfl ?_
        obtain ⟨g10, H⟩ := H
        refine ev_s (pc' := 36) (loc' := [.ref 216, .int i1, .int i2, .int i3, .null]) (st' := [.int (am_gi h7 226 (Int32.toNatClampNeg i1))]) (h1 := h7) am_q235 rfl rfl rfl (am_xx (lk226 Ly) (am_inl (ln226 Ly) g10)) ?_
        refine ev_p (pc' := 39) (loc' := [.ref 216, .int i1, .int i2, .int i3, .int (am_gi h7 226 (Int32.toNatClampNeg i1))]) (st' := [.ref 216]) 2 am_q235 rfl ?_
        refine ev_s (pc' := 42) (loc' := [.ref 216, .int i1, .int i2, .int i3, .int (am_gi h7 226 (Int32.toNatClampNeg i1))]) (st' := [.ref 226]) (h1 := h7) am_q235 rfl rfl rfl (am_gf2 (lk216 Ly) (lr216_12 Ly)) ?_
        refine ev_p (pc' := 44) (loc' := [.ref 216, .int i1, .int i2, .int i3, .int (am_gi h7 226 (Int32.toNatClampNeg i1))]) (st' := [.int i3, .int i1, .ref 226]) 2 am_q235 rfl ?_
        refine ev_jz (t := 56) am_q235 rfl rfl (fun hq => ?_) (fun hq => ?_)
        · replace H := H.1 hq
          refine ev_p (pc' := 64) (loc' := [.ref 216, .int i1, .int i2, .int i3, .int (am_gi h7 226 (Int32.toNatClampNeg i1))]) (st' := [.int ((am_gi h7 226 (Int32.toNatClampNeg i1)) &&& (((1 : Int32) <<< (i2 &&& 31)) ^^^ (-1 : Int32))), .int i1, .ref 226]) 7 am_q235 rfl ?_
          obtain ⟨g11, H⟩ := H
          refine ev_s (pc' := 65) (loc' := [.ref 216, .int i1, .null, .null, .int (am_gi h7 226 (Int32.toNatClampNeg i1))]) (st' := []) (h1 := am_si h7 226 (Int32.toNatClampNeg i1) ((am_gi h7 226 (Int32.toNatClampNeg i1)) &&& (((1 : Int32) <<< (i2 &&& 31)) ^^^ (-1 : Int32)))) am_q235 rfl rfl rfl (am_xx ⟨lk226 Ly, (Nat.le_of_ble_eq_true rfl)⟩ (am_inl (ln226 Ly) g11)) ?_
          replace H := H _ rfl
          replace Ly : Lay (am_si h7 226 (Int32.toNatClampNeg i1) ((am_gi h7 226 (Int32.toNatClampNeg i1)) &&& (((1 : Int32) <<< (i2 &&& 31)) ^^^ (-1 : Int32)))) := Ly.si _ _ _
          generalize am_si h7 226 (Int32.toNatClampNeg i1) ((am_gi h7 226 (Int32.toNatClampNeg i1)) &&& (((1 : Int32) <<< (i2 &&& 31)) ^^^ (-1 : Int32))) = h12 at H Ly ⊢
          refine ev_p (pc' := 66) (loc' := [.ref 216, .int i1, .null, .null, .int (am_gi h7 226 (Int32.toNatClampNeg i1))]) (st' := [.ref 216]) 1 am_q235 rfl ?_
          refine ev_s (pc' := 69) (loc' := [.ref 216, .int i1, .null, .null, .int (am_gi h7 226 (Int32.toNatClampNeg i1))]) (st' := [.ref 226]) (h1 := h12) am_q235 rfl rfl rfl (am_gf2 (lk216 Ly) (lr216_12 Ly)) ?_
          refine ev_p (pc' := 70) (loc' := [.ref 216, .int i1, .null, .null, .int (am_gi h7 226 (Int32.toNatClampNeg i1))]) (st' := [.int i1, .ref 226]) 1 am_q235 rfl ?_
          obtain ⟨g13, H⟩ := H
          refine ev_s (pc' := 71) (loc' := [.ref 216, .int i1, .null, .null, .int (am_gi h7 226 (Int32.toNatClampNeg i1))]) (st' := [.int (am_gi h12 226 (Int32.toNatClampNeg i1))]) (h1 := h12) am_q235 rfl rfl rfl (am_xx (lk226 Ly) (am_inl (ln226 Ly) g13)) ?_
          refine ev_p (pc' := 73) (loc' := [.ref 216, .int i1, .null, .null, .int (am_gi h7 226 (Int32.toNatClampNeg i1))]) (st' := [.int (am_gi h7 226 (Int32.toNatClampNeg i1)), .int (am_gi h12 226 (Int32.toNatClampNeg i1))]) 1 am_q235 rfl ?_
          refine ev_jc (t := 80) am_q235 rfl rfl (fun hq => ?_) (fun hq => ?_)
          · replace H := H.1 hq
            refine ev_p (pc' := 81) (loc' := [.ref 216, .int i1, .null, .null, .int (am_gi h7 226 (Int32.toNatClampNeg i1))]) (st' := [.int (1 : Int32)]) 1 am_q235 rfl ?_
            exact ev_r (v := some (.int (1 : Int32))) am_q235 rfl rfl rfl rfl H
          · replace H := H.2 hq
            refine ev_p (pc' := 81) (loc' := [.ref 216, .int i1, .null, .null, .int (am_gi h7 226 (Int32.toNatClampNeg i1))]) (st' := [.int (0 : Int32)]) 2 am_q235 rfl ?_
            exact ev_r (v := some (.int (0 : Int32))) am_q235 rfl rfl rfl rfl H
        · replace H := H.2 hq
          refine ev_p (pc' := 64) (loc' := [.ref 216, .int i1, .int i2, .int i3, .int (am_gi h7 226 (Int32.toNatClampNeg i1))]) (st' := [.int ((am_gi h7 226 (Int32.toNatClampNeg i1)) ||| ((1 : Int32) <<< (i2 &&& 31))), .int i1, .ref 226]) 6 am_q235 rfl ?_
          obtain ⟨g14, H⟩ := H
          refine ev_s (pc' := 65) (loc' := [.ref 216, .int i1, .null, .null, .int (am_gi h7 226 (Int32.toNatClampNeg i1))]) (st' := []) (h1 := am_si h7 226 (Int32.toNatClampNeg i1) ((am_gi h7 226 (Int32.toNatClampNeg i1)) ||| ((1 : Int32) <<< (i2 &&& 31)))) am_q235 rfl rfl rfl (am_xx ⟨lk226 Ly, (Nat.le_of_ble_eq_true rfl)⟩ (am_inl (ln226 Ly) g14)) ?_
          replace H := H _ rfl
          replace Ly : Lay (am_si h7 226 (Int32.toNatClampNeg i1) ((am_gi h7 226 (Int32.toNatClampNeg i1)) ||| ((1 : Int32) <<< (i2 &&& 31)))) := Ly.si _ _ _
          generalize am_si h7 226 (Int32.toNatClampNeg i1) ((am_gi h7 226 (Int32.toNatClampNeg i1)) ||| ((1 : Int32) <<< (i2 &&& 31))) = h15 at H Ly ⊢
          refine ev_p (pc' := 66) (loc' := [.ref 216, .int i1, .null, .null, .int (am_gi h7 226 (Int32.toNatClampNeg i1))]) (st' := [.ref 216]) 1 am_q235 rfl ?_
          refine ev_s (pc' := 69) (loc' := [.ref 216, .int i1, .null, .null, .int (am_gi h7 226 (Int32.toNatClampNeg i1))]) (st' := [.ref 226]) (h1 := h15) am_q235 rfl rfl rfl (am_gf2 (lk216 Ly) (lr216_12 Ly)) ?_
          refine ev_p (pc' := 70) (loc' := [.ref 216, .int i1, .null, .null, .int (am_gi h7 226 (Int32.toNatClampNeg i1))]) (st' := [.int i1, .ref 226]) 1 am_q235 rfl ?_
          obtain ⟨g16, H⟩ := H
          refine ev_s (pc' := 71) (loc' := [.ref 216, .int i1, .null, .null, .int (am_gi h7 226 (Int32.toNatClampNeg i1))]) (st' := [.int (am_gi h15 226 (Int32.toNatClampNeg i1))]) (h1 := h15) am_q235 rfl rfl rfl (am_xx (lk226 Ly) (am_inl (ln226 Ly) g16)) ?_
          refine ev_p (pc' := 73) (loc' := [.ref 216, .int i1, .null, .null, .int (am_gi h7 226 (Int32.toNatClampNeg i1))]) (st' := [.int (am_gi h7 226 (Int32.toNatClampNeg i1)), .int (am_gi h15 226 (Int32.toNatClampNeg i1))]) 1 am_q235 rfl ?_
          refine ev_jc (t := 80) am_q235 rfl rfl (fun hq => ?_) (fun hq => ?_)
          · replace H := H.1 hq
            refine ev_p (pc' := 81) (loc' := [.ref 216, .int i1, .null, .null, .int (am_gi h7 226 (Int32.toNatClampNeg i1))]) (st' := [.int (1 : Int32)]) 1 am_q235 rfl ?_
            exact ev_r (v := some (.int (1 : Int32))) am_q235 rfl rfl rfl rfl H
          · replace H := H.2 hq
            refine ev_p (pc' := 81) (loc' := [.ref 216, .int i1, .null, .null, .int (am_gi h7 226 (Int32.toNatClampNeg i1))]) (st' := [.int (0 : Int32)]) 2 am_q235 rfl ?_
            exact ev_r (v := some (.int (0 : Int32))) am_q235 rfl rfl rfl rfl H
      · replace H := H.2 hq
        refine ev_p (pc' := 29) (loc' := [.ref 216, .int i1, .int i2, .int i3, .null]) (st' := [.int (-3 : Int32)]) 1 am_q235 rfl ?_
        exact ev_r (v := some (.int (-3 : Int32))) am_q235 rfl rfl rfl rfl H
    · replace H := H.2 hq
      refine ev_p (pc' := 18) (loc' := [.null, .null, .null, .null, .null]) (st' := [.int (-2 : Int32)]) 1 am_q235 rfl ?_
      exact ev_r (v := some (.int (-2 : Int32))) am_q235 rfl rfl rfl rfl H
/-! 236: X12_mayMove -/
set_option maxRecDepth 20000 in
set_option maxHeartbeats 2000000 in
theorem ws236 {d : Nat}  (i1 : Int32) {h : AH} {Q : Option Value → AH → Prop} (Ly : Lay h) (H : Cl d 174 [.ref 216, .int i1, .int (am_gi h 216 0)] h (fun r2 h1 => ∃ x3, r2 = some (.int x3) ∧ Lay h1 ∧ (x3 = (-1 : Int32) → Q (some (.int (0 : Int32))) h1) ∧ (¬ x3 = (-1 : Int32) → am_in x3 60 ∧ ((am_gi h1 228 (Int32.toNatClampNeg x3)) = (1 : Int32) → Q (some (.int (0 : Int32))) h1) ∧ (¬ (am_gi h1 228 (Int32.toNatClampNeg x3)) = (1 : Int32) → am_in x3 60 ∧ ((¬ (am_gi h1 233 (Int32.toNatClampNeg x3)) = (-1 : Int32)) → Q (some (.int (0 : Int32))) h1) ∧ (¬ (¬ (am_gi h1 233 (Int32.toNatClampNeg x3)) = (-1 : Int32)) → am_in x3 60 ∧ ((¬ (am_gi h1 230 (Int32.toNatClampNeg x3)) = i1) → Q (some (.int (0 : Int32))) h1) ∧ (¬ (¬ (am_gi h1 230 (Int32.toNatClampNeg x3)) = i1) → Q (some (.int (1 : Int32))) h1)))))) : Cl (d + 1) 236 [.ref 216, .int i1] h Q := by
  show Ev (d + 1) 236 0 [.ref 216, .int i1, .null] [] h Q
  refine ev_p (pc' := 3) (loc' := [.ref 216, .int i1, .null]) (st' := [.ref 216, .int i1, .ref 216]) 3 am_q236 rfl ?_
  refine ev_s (pc' := 6) (loc' := [.ref 216, .int i1, .null]) (st' := [.int (am_gi h 216 0), .int i1, .ref 216]) (h1 := h) am_q236 rfl rfl rfl (if_pos (e := none) (lk216 Ly)) ?_
  refine ev_c (vs := [.ref 216, .int i1, .int (am_gi h 216 0)]) (rest := []) 174 am_q236 rfl rfl rfl rfl rfl rfl rfl rfl rfl rfl rfl rfl (Or.inr (congrArg some (lk216 Ly))) (Cl.mono H (Nat.le_refl _) (fun r2 h1 H => ?_))
  obtain ⟨x3, rfl, Ly, H⟩ := H
  refine ev_p (pc' := 12) (loc' := [.ref 216, .int i1, .int x3]) (st' := [.int (-1 : Int32), .int x3]) 3 am_q236 rfl ?_
  refine ev_jc (t := 49) am_q236 rfl rfl (fun hq => ?_) (fun hq => ?_)
  · replace H := H.1 hq
    refine ev_p (pc' := 50) (loc' := [.null, .null, .null]) (st' := [.int (0 : Int32)]) 1 am_q236 rfl ?_
    exact ev_r (v := some (.int (0 : Int32))) am_q236 rfl rfl rfl rfl H
  · replace H := H.2 hq
    refine ev_p (pc' := 16) (loc' := [.ref 216, .int i1, .int x3]) (st' := [.ref 216]) 1 am_q236 rfl ?_
    refine ev_s (pc' := 19) (loc' := [.ref 216, .int i1, .int x3]) (st' := [.ref 228]) (h1 := h1) am_q236 rfl rfl rfl (am_gf2 (lk216 Ly) (lr216_15 Ly)) ?_
    refine ev_p (pc' := 20) (loc' := [.ref 216, .int i1, .int x3]) (st' := [.int x3, .ref 228]) 1 am_q236 rfl ?_
    obtain ⟨g4, H⟩ := H
    refine ev_s (pc' := 21) (loc' := [.ref 216, .int i1, .int x3]) (st' := [.int (am_gi h1 228 (Int32.toNatClampNeg x3))]) (h1 := h1) am_q236 rfl rfl rfl (am_xx (lk228 Ly) (am_inl (ln228 Ly) g4)) ?_
    refine ev_p (pc' := 22) (loc' := [.ref 216, .int i1, .int x3]) (st' := [.int (1 : Int32), .int (am_gi h1 228 (Int32.toNatClampNeg x3))]) 1 am_q236 rfl ?_
    refine ev_jc (t := 49) am_q236 rfl rfl (fun hq => ?_) (fun hq => ?_)
    · replace H := H.1 hq
      refine ev_p (pc' := 50) (loc' := [.null, .null, .null]) (st' := [.int (0 : Int32)]) 1 am_q236 rfl ?_
      exact ev_r (v := some (.int (0 : Int32))) am_q236 rfl rfl rfl rfl H
    · replace H := H.2 hq
      refine ev_p (pc' := 26) (loc' := [.ref 216, .int i1, .int x3]) (st' := [.ref 216]) 1 am_q236 rfl ?_
      refine ev_s (pc' := 29) (loc' := [.ref 216, .int i1, .int x3]) (st' := [.ref 233]) (h1 := h1) am_q236 rfl rfl rfl (am_gf2 (lk216 Ly) (lr216_20 Ly)) ?_
      refine ev_p (pc' := 30) (loc' := [.ref 216, .int i1, .int x3]) (st' := [.int x3, .ref 233]) 1 am_q236 rfl ?_
      obtain ⟨g5, H⟩ := H
      refine ev_s (pc' := 31) (loc' := [.ref 216, .int i1, .int x3]) (st' := [.int (am_gi h1 233 (Int32.toNatClampNeg x3))]) (h1 := h1) am_q236 rfl rfl rfl (am_xx (lk233 Ly) (am_inl (ln233 Ly) g5)) ?_
      refine ev_p (pc' := 32) (loc' := [.ref 216, .int i1, .int x3]) (st' := [.int (-1 : Int32), .int (am_gi h1 233 (Int32.toNatClampNeg x3))]) 1 am_q236 rfl ?_
      refine ev_jc (t := 49) am_q236 rfl rfl (fun hq => ?_) (fun hq => ?_)
      · replace H := H.1 hq
        refine ev_p (pc' := 50) (loc' := [.null, .null, .null]) (st' := [.int (0 : Int32)]) 1 am_q236 rfl ?_
        exact ev_r (v := some (.int (0 : Int32))) am_q236 rfl rfl rfl rfl H
      · replace H := H.2 hq
        refine ev_p (pc' := 36) (loc' := [.ref 216, .int i1, .int x3]) (st' := [.ref 216]) 1 am_q236 rfl ?_
        refine ev_s (pc' := 39) (loc' := [.ref 216, .int i1, .int x3]) (st' := [.ref 230]) (h1 := h1) am_q236 rfl rfl rfl (am_gf2 (lk216 Ly) (lr216_17 Ly)) ?_
        refine ev_p (pc' := 40) (loc' := [.ref 216, .int i1, .int x3]) (st' := [.int x3, .ref 230]) 1 am_q236 rfl ?_
        obtain ⟨g6, H⟩ := H
        refine ev_s (pc' := 41) (loc' := [.ref 216, .int i1, .int x3]) (st' := [.int (am_gi h1 230 (Int32.toNatClampNeg x3))]) (h1 := h1) am_q236 rfl rfl rfl (am_xx (lk230 Ly) (am_inl (ln230 Ly) g6)) ?_
        refine ev_p (pc' := 42) (loc' := [.ref 216, .int i1, .int x3]) (st' := [.int i1, .int (am_gi h1 230 (Int32.toNatClampNeg x3))]) 1 am_q236 rfl ?_
        refine ev_jc (t := 49) am_q236 rfl rfl (fun hq => ?_) (fun hq => ?_)
        · replace H := H.1 hq
          refine ev_p (pc' := 50) (loc' := [.null, .null, .null]) (st' := [.int (0 : Int32)]) 1 am_q236 rfl ?_
          exact ev_r (v := some (.int (0 : Int32))) am_q236 rfl rfl rfl rfl H
        · replace H := H.2 hq
          refine ev_p (pc' := 50) (loc' := [.ref 216, .int i1, .int x3]) (st' := [.int (1 : Int32)]) 2 am_q236 rfl ?_
          exact ev_r (v := some (.int (1 : Int32))) am_q236 rfl rfl rfl rfl H
/-! 237: X12_gathers -/
set_option maxRecDepth 20000 in
set_option maxHeartbeats 2000000 in
theorem ws237 {d : Nat}   {h : AH} {Q : Option Value → AH → Prop} (Ly : Lay h) (H : ∀ h1, h1 = am_si h 216 61 (0 : Int32) → ∀ h2, h2 = am_si h1 216 66 (0 : Int32) → Ev (d + 1) 237 12 [.ref 216, .int (0 : Int32)] [] h2 Q) : Cl (d + 1) 237 [.ref 216] h Q := by
  show Ev (d + 1) 237 0 [.ref 216, .null] [] h Q
  refine ev_p (pc' := 2) (loc' := [.ref 216, .null]) (st' := [.int (0 : Int32), .ref 216]) 2 am_q237 rfl ?_
  refine ev_s (pc' := 5) (loc' := [.ref 216, .null]) (st' := []) (h1 := am_si h 216 61 (0 : Int32)) am_q237 rfl rfl rfl (if_pos (e := none) (lk216 Ly)) ?_
  replace H := H _ rfl
  replace Ly : Lay (am_si h 216 61 (0 : Int32)) := Ly.si _ _ _
  generalize am_si h 216 61 (0 : Int32) = h1 at H Ly ⊢
  refine ev_p (pc' := 7) (loc' := [.ref 216, .null]) (st' := [.int (0 : Int32), .ref 216]) 2 am_q237 rfl ?_
  refine ev_s (pc' := 10) (loc' := [.ref 216, .null]) (st' := []) (h1 := am_si h1 216 66 (0 : Int32)) am_q237 rfl rfl rfl (if_pos (e := none) (lk216 Ly)) ?_
  replace H := H _ rfl
  replace Ly : Lay (am_si h1 216 66 (0 : Int32)) := Ly.si _ _ _
  generalize am_si h1 216 66 (0 : Int32) = h2 at H Ly ⊢
  refine ev_p (pc' := 12) (loc' := [.ref 216, .int (0 : Int32)]) (st' := []) 2 am_q237 rfl ?_
  exact ev_m (loc' := [.ref 216, .int (0 : Int32)]) am_q237 rfl rfl H
set_option maxRecDepth 20000 in
set_option maxHeartbeats 2000000 in
theorem ws237_12 {d : Nat}  (i1 : Int32) {h : AH} {Q : Option Value → AH → Prop} (Ly : Lay h) (H : ((am_gi h 216 1) ≤ i1 → Ev (d + 1) 237 66 [.ref 216, .int (0 : Int32)] [] h Q) ∧ (¬ (am_gi h 216 1) ≤ i1 → Cl d 173 [.ref 216, .int i1, .int (am_gi h 216 0)] h (fun r2 h1 => ∃ x3, r2 = some (.int x3) ∧ Lay h1 ∧ ((¬ x3 = (-1 : Int32)) → ∀ h4, h4 = am_si h1 216 66 ((am_gi h 216 66) ||| (0 : Int32)) → Ev (d + 1) 237 12 [.ref 216, .int (i1 + (1 : Int32))] [] h4 Q) ∧ (¬ (¬ x3 = (-1 : Int32)) → am_in i1 12 ∧ ((¬ (am_gi h1 220 (Int32.toNatClampNeg i1)) = (0 : Int32)) → ∀ h6, h6 = am_si h1 216 66 ((am_gi h 216 66) ||| (0 : Int32)) → Ev (d + 1) 237 12 [.ref 216, .int (i1 + (1 : Int32))] [] h6 Q) ∧ (¬ (¬ (am_gi h1 220 (Int32.toNatClampNeg i1)) = (0 : Int32)) → ∀ h7, h7 = am_si h1 216 66 ((am_gi h 216 66) ||| ((1 : Int32) <<< (i1 &&& 31))) → Ev (d + 1) 237 12 [.ref 216, .int (i1 + (1 : Int32))] [] h7 Q))))) : Ev (d + 1) 237 12 [.ref 216, .int i1] [] h Q := by
  refine ev_p (pc' := 14) (loc' := [.ref 216, .int i1]) (st' := [.ref 216, .int i1]) 2 am_q237 rfl ?_
  refine ev_s (pc' := 17) (loc' := [.ref 216, .int i1]) (st' := [.int (am_gi h 216 1), .int i1]) (h1 := h) am_q237 rfl rfl rfl (if_pos (e := none) (lk216 Ly)) ?_
  refine ev_jc (t := 64) am_q237 rfl rfl (fun hq => ?_) (fun hq => ?_)
  · replace H := H.1 hq
    refine ev_p (pc' := 66) (loc' := [.ref 216, .int (0 : Int32)]) (st' := []) 2 am_q237 rfl ?_
    exact ev_m (loc' := [.ref 216, .int (0 : Int32)]) am_q237 rfl rfl H
  · replace H := H.2 hq
    refine ev_p (pc' := 22) (loc' := [.ref 216, .int i1]) (st' := [.ref 216, .ref 216]) 2 am_q237 rfl ?_
    refine ev_s (pc' := 25) (loc' := [.ref 216, .int i1]) (st' := [.int (am_gi h 216 66), .ref 216]) (h1 := h) am_q237 rfl rfl rfl (if_pos (e := none) (lk216 Ly)) ?_
    refine ev_p (pc' := 28) (loc' := [.ref 216, .int i1]) (st' := [.ref 216, .int i1, .ref 216, .int (am_gi h 216 66), .ref 216]) 3 am_q237 rfl ?_
    refine ev_s (pc' := 31) (loc' := [.ref 216, .int i1]) (st' := [.int (am_gi h 216 0), .int i1, .ref 216, .int (am_gi h 216 66), .ref 216]) (h1 := h) am_q237 rfl rfl rfl (if_pos (e := none) (lk216 Ly)) ?_
    refine ev_c (vs := [.ref 216, .int i1, .int (am_gi h 216 0)]) (rest := [.int (am_gi h 216 66), .ref 216]) 173 am_q237 rfl rfl rfl rfl rfl rfl rfl rfl rfl rfl rfl rfl (Or.inr (congrArg some (lk216 Ly))) (Cl.mono H (Nat.le_refl _) (fun r2 h1 H => ?_))
    obtain ⟨x3, rfl, Ly, H⟩ := H
    refine ev_p (pc' := 35) (loc' := [.ref 216, .int i1]) (st' := [.int (-1 : Int32), .int x3, .int (am_gi h 216 66), .ref 216]) 1 am_q237 rfl ?_
    refine ev_jc (t := 53) am_q237 rfl rfl (fun hq => ?_) (fun hq => ?_)
    · replace H := H.1 hq
      refine ev_p (pc' := 55) (loc' := [.ref 216, .int i1]) (st' := [.int ((am_gi h 216 66) ||| (0 : Int32)), .ref 216]) 2 am_q237 rfl ?_
      refine ev_s (pc' := 58) (loc' := [.ref 216, .int i1]) (st' := []) (h1 := am_si h1 216 66 ((am_gi h 216 66) ||| (0 : Int32))) am_q237 rfl rfl rfl (if_pos (e := none) (lk216 Ly)) ?_
      replace H := H _ rfl
      replace Ly : Lay (am_si h1 216 66 ((am_gi h 216 66) ||| (0 : Int32))) := Ly.si _ _ _
      generalize am_si h1 216 66 ((am_gi h 216 66) ||| (0 : Int32)) = h4 at H Ly ⊢
      refine ev_p (pc' := 12) (loc' := [.ref 216, .int (i1 + (1 : Int32))]) (st' := []) 2 am_q237 rfl ?_
      exact ev_m (loc' := [.ref 216, .int (i1 + (1 : Int32))]) am_q237 rfl rfl H
    · replace H := H.2 hq
      refine ev_p (pc' := 39) (loc' := [.ref 216, .int i1]) (st' := [.ref 216, .int (am_gi h 216 66), .ref 216]) 1 am_q237 rfl ?_
      refine ev_s (pc' := 42) (loc' := [.ref 216, .int i1]) (st' := [.ref 220, .int (am_gi h 216 66), .ref 216]) (h1 := h1) am_q237 rfl rfl rfl (am_gf2 (lk216 Ly) (lr216_5 Ly)) ?_
      refine ev_p (pc' := 43) (loc' := [.ref 216, .int i1]) (st' := [.int i1, .ref 220, .int (am_gi h 216 66), .ref 216]) 1 am_q237 rfl ?_
      obtain ⟨g5, H⟩ := H
      refine ev_s (pc' := 44) (loc' := [.ref 216, .int i1]) (st' := [.int (am_gi h1 220 (Int32.toNatClampNeg i1)), .int (am_gi h 216 66), .ref 216]) (h1 := h1) am_q237 rfl rfl rfl (am_xx (Or.inr (lk220 Ly)) (am_inl (ln220 Ly) g5)) ?_
      refine ev_jz (t := 53) am_q237 rfl rfl (fun hq => ?_) (fun hq => ?_)
      · replace H := H.1 hq
        refine ev_p (pc' := 55) (loc' := [.ref 216, .int i1]) (st' := [.int ((am_gi h 216 66) ||| (0 : Int32)), .ref 216]) 2 am_q237 rfl ?_
        refine ev_s (pc' := 58) (loc' := [.ref 216, .int i1]) (st' := []) (h1 := am_si h1 216 66 ((am_gi h 216 66) ||| (0 : Int32))) am_q237 rfl rfl rfl (if_pos (e := none) (lk216 Ly)) ?_
        replace H := H _ rfl
        replace Ly : Lay (am_si h1 216 66 ((am_gi h 216 66) ||| (0 : Int32))) := Ly.si _ _ _
        generalize am_si h1 216 66 ((am_gi h 216 66) ||| (0 : Int32)) = h6 at H Ly ⊢
        refine ev_p (pc' := 12) (loc' := [.ref 216, .int (i1 + (1 : Int32))]) (st' := []) 2 am_q237 rfl ?_
        exact ev_m (loc' := [.ref 216, .int (i1 + (1 : Int32))]) am_q237 rfl rfl H
      · replace H := H.2 hq
        refine ev_p (pc' := 55) (loc' := [.ref 216, .int i1]) (st' := [.int ((am_gi h 216 66) ||| ((1 : Int32) <<< (i1 &&& 31))), .ref 216]) 5 am_q237 rfl ?_
        refine ev_s (pc' := 58) (loc' := [.ref 216, .int i1]) (st' := []) (h1 := am_si h1 216 66 ((am_gi h 216 66) ||| ((1 : Int32) <<< (i1 &&& 31)))) am_q237 rfl rfl rfl (if_pos (e := none) (lk216 Ly)) ?_
        replace H := H _ rfl
        replace Ly : Lay (am_si h1 216 66 ((am_gi h 216 66) ||| ((1 : Int32) <<< (i1 &&& 31)))) := Ly.si _ _ _
        generalize am_si h1 216 66 ((am_gi h 216 66) ||| ((1 : Int32) <<< (i1 &&& 31))) = h7 at H Ly ⊢
        refine ev_p (pc' := 12) (loc' := [.ref 216, .int (i1 + (1 : Int32))]) (st' := []) 2 am_q237 rfl ?_
        exact ev_m (loc' := [.ref 216, .int (i1 + (1 : Int32))]) am_q237 rfl rfl H
set_option maxRecDepth 20000 in
set_option maxHeartbeats 2000000 in
theorem ws237_66 {d : Nat}  (i1 : Int32) {h : AH} {Q : Option Value → AH → Prop} (Ly : Lay h) (H : ((am_gi h 216 7) ≤ i1 → Q none h) ∧ (¬ (am_gi h 216 7) ≤ i1 → Cl d 236 [.ref 216, .int i1] h (fun r2 h1 => ∃ x3, r2 = some (.int x3) ∧ Lay h1 ∧ (x3 = (0 : Int32) → Ev (d + 1) 237 66 [.ref 216, .int (i1 + (1 : Int32))] [] h1 Q) ∧ (¬ x3 = (0 : Int32) → am_in (am_gi h1 216 61) 24 ∧ ∀ h5, h5 = am_si h1 256 (Int32.toNatClampNeg (am_gi h1 216 61)) i1 → Cl d 174 [.ref 216, .int i1, .int (am_gi h5 216 0)] h5 (fun r7 h6 => ∃ x8, r7 = some (.int x8) ∧ Lay h6 ∧ am_in x8 60 ∧ am_in (am_gi h5 216 61) 24 ∧ ∀ h11, h11 = am_si h6 257 (Int32.toNatClampNeg (am_gi h5 216 61)) (am_gi h6 229 (Int32.toNatClampNeg x8)) → am_in (am_gi h11 216 61) 24 ∧ ∀ h13, h13 = am_si h11 216 66 ((am_gi h11 216 66) ||| ((1 : Int32) <<< ((am_gi h11 257 (Int32.toNatClampNeg (am_gi h11 216 61))) &&& 31))) → ∀ h14, h14 = am_si h13 216 61 ((am_gi h13 216 61) + (1 : Int32)) → Ev (d + 1) 237 66 [.ref 216, .int (i1 + (1 : Int32))] [] h14 Q))))) : Ev (d + 1) 237 66 [.ref 216, .int i1] [] h Q := by
  refine ev_p (pc' := 68) (loc' := [.ref 216, .int i1]) (st' := [.ref 216, .int i1]) 2 am_q237 rfl ?_
  refine ev_s (pc' := 71) (loc' := [.ref 216, .int i1]) (st' := [.int (am_gi h 216 7), .int i1]) (h1 := h) am_q237 rfl rfl rfl (if_pos (e := none) (lk216 Ly)) ?_
  refine ev_jc (t := 151) am_q237 rfl rfl (fun hq => ?_) (fun hq => ?_)
  · replace H := H.1 hq
    exact ev_r (v := none) am_q237 rfl rfl rfl rfl H
  · replace H := H.2 hq
    refine ev_p (pc' := 76) (loc' := [.ref 216, .int i1]) (st' := [.int i1, .ref 216]) 2 am_q237 rfl ?_
    refine ev_c (vs := [.ref 216, .int i1]) (rest := []) 236 am_q237 rfl rfl rfl rfl rfl rfl rfl rfl rfl rfl rfl rfl (Or.inr (congrArg some (lk216 Ly))) (Cl.mono H (Nat.le_refl _) (fun r2 h1 H => ?_))
    obtain ⟨x3, rfl, Ly, H⟩ := H
    refine ev_jz (t := 145) am_q237 rfl rfl (fun hq => ?_) (fun hq => ?_)
    · replace H := H.1 hq
      refine ev_p (pc' := 66) (loc' := [.ref 216, .int (i1 + (1 : Int32))]) (st' := []) 2 am_q237 rfl ?_
      exact ev_m (loc' := [.ref 216, .int (i1 + (1 : Int32))]) am_q237 rfl rfl H
    · replace H := H.2 hq
      refine ev_p (pc' := 83) (loc' := [.ref 216, .int i1]) (st' := [.ref 216]) 1 am_q237 rfl ?_
      refine ev_s (pc' := 86) (loc' := [.ref 216, .int i1]) (st' := [.ref 256]) (h1 := h1) am_q237 rfl rfl rfl (am_gf2 (lk216 Ly) (lr216_62 Ly)) ?_
      refine ev_p (pc' := 87) (loc' := [.ref 216, .int i1]) (st' := [.ref 216, .ref 256]) 1 am_q237 rfl ?_
      refine ev_s (pc' := 90) (loc' := [.ref 216, .int i1]) (st' := [.int (am_gi h1 216 61), .ref 256]) (h1 := h1) am_q237 rfl rfl rfl (if_pos (e := none) (lk216 Ly)) ?_
      refine ev_p (pc' := 91) (loc' := [.ref 216, .int i1]) (st' := [.int i1, .int (am_gi h1 216 61), .ref 256]) 1 am_q237 rfl ?_
      obtain ⟨g4, H⟩ := H
      refine ev_s (pc' := 92) (loc' := [.ref 216, .int i1]) (st' := []) (h1 := am_si h1 256 (Int32.toNatClampNeg (am_gi h1 216 61)) i1) am_q237 rfl rfl rfl (am_xx ⟨lk256 Ly, (Nat.le_of_ble_eq_true rfl)⟩ (am_inl (ln256 Ly) g4)) ?_
      replace H := H _ rfl
      replace Ly : Lay (am_si h1 256 (Int32.toNatClampNeg (am_gi h1 216 61)) i1) := Ly.si _ _ _
      generalize am_si h1 256 (Int32.toNatClampNeg (am_gi h1 216 61)) i1 = h5 at H Ly ⊢
      refine ev_p (pc' := 93) (loc' := [.ref 216, .int i1]) (st' := [.ref 216]) 1 am_q237 rfl ?_
      refine ev_s (pc' := 96) (loc' := [.ref 216, .int i1]) (st' := [.ref 257]) (h1 := h5) am_q237 rfl rfl rfl (am_gf2 (lk216 Ly) (lr216_63 Ly)) ?_
      refine ev_p (pc' := 97) (loc' := [.ref 216, .int i1]) (st' := [.ref 216, .ref 257]) 1 am_q237 rfl ?_
      refine ev_s (pc' := 100) (loc' := [.ref 216, .int i1]) (st' := [.int (am_gi h5 216 61), .ref 257]) (h1 := h5) am_q237 rfl rfl rfl (if_pos (e := none) (lk216 Ly)) ?_
      refine ev_p (pc' := 101) (loc' := [.ref 216, .int i1]) (st' := [.ref 216, .int (am_gi h5 216 61), .ref 257]) 1 am_q237 rfl ?_
      refine ev_s (pc' := 104) (loc' := [.ref 216, .int i1]) (st' := [.ref 229, .int (am_gi h5 216 61), .ref 257]) (h1 := h5) am_q237 rfl rfl rfl (am_gf2 (lk216 Ly) (lr216_16 Ly)) ?_
      refine ev_p (pc' := 107) (loc' := [.ref 216, .int i1]) (st' := [.ref 216, .int i1, .ref 216, .ref 229, .int (am_gi h5 216 61), .ref 257]) 3 am_q237 rfl ?_
      refine ev_s (pc' := 110) (loc' := [.ref 216, .int i1]) (st' := [.int (am_gi h5 216 0), .int i1, .ref 216, .ref 229, .int (am_gi h5 216 61), .ref 257]) (h1 := h5) am_q237 rfl rfl rfl (if_pos (e := none) (lk216 Ly)) ?_
      refine ev_c (vs := [.ref 216, .int i1, .int (am_gi h5 216 0)]) (rest := [.ref 229, .int (am_gi h5 216 61), .ref 257]) 174 am_q237 rfl rfl rfl rfl rfl rfl rfl rfl rfl rfl rfl rfl (Or.inr (congrArg some (lk216 Ly))) (Cl.mono H (Nat.le_refl _) (fun r7 h6 H => ?_))
      obtain ⟨x8, rfl, Ly, H⟩ := H
      obtain ⟨g9, H⟩ := H
      refine ev_s (pc' := 114) (loc' := [.ref 216, .int i1]) (st' := [.int (am_gi h6 229 (Int32.toNatClampNeg x8)), .int (am_gi h5 216 61), .ref 257]) (h1 := h6) am_q237 rfl rfl rfl (am_xx (lk229 Ly) (am_inl (ln229 Ly) g9)) ?_
      obtain ⟨g10, H⟩ := H
      refine ev_s (pc' := 115) (loc' := [.ref 216, .int i1]) (st' := []) (h1 := am_si h6 257 (Int32.toNatClampNeg (am_gi h5 216 61)) (am_gi h6 229 (Int32.toNatClampNeg x8))) am_q237 rfl rfl rfl (am_xx ⟨lk257 Ly, (Nat.le_of_ble_eq_true rfl)⟩ (am_inl (ln257 Ly) g10)) ?_
      replace H := H _ rfl
      replace Ly : Lay (am_si h6 257 (Int32.toNatClampNeg (am_gi h5 216 61)) (am_gi h6 229 (Int32.toNatClampNeg x8))) := Ly.si _ _ _
      generalize am_si h6 257 (Int32.toNatClampNeg (am_gi h5 216 61)) (am_gi h6 229 (Int32.toNatClampNeg x8)) = h11 at H Ly ⊢
      refine ev_p (pc' := 117) (loc' := [.ref 216, .int i1]) (st' := [.ref 216, .ref 216]) 2 am_q237 rfl ?_
      refine ev_s (pc' := 120) (loc' := [.ref 216, .int i1]) (st' := [.int (am_gi h11 216 66), .ref 216]) (h1 := h11) am_q237 rfl rfl rfl (if_pos (e := none) (lk216 Ly)) ?_
      refine ev_p (pc' := 122) (loc' := [.ref 216, .int i1]) (st' := [.ref 216, .int (1 : Int32), .int (am_gi h11 216 66), .ref 216]) 2 am_q237 rfl ?_
      refine ev_s (pc' := 125) (loc' := [.ref 216, .int i1]) (st' := [.ref 257, .int (1 : Int32), .int (am_gi h11 216 66), .ref 216]) (h1 := h11) am_q237 rfl rfl rfl (am_gf2 (lk216 Ly) (lr216_63 Ly)) ?_
      refine ev_p (pc' := 126) (loc' := [.ref 216, .int i1]) (st' := [.ref 216, .ref 257, .int (1 : Int32), .int (am_gi h11 216 66), .ref 216]) 1 am_q237 rfl ?_
      refine ev_s (pc' := 129) (loc' := [.ref 216, .int i1]) (st' := [.int (am_gi h11 216 61), .ref 257, .int (1 : Int32), .int (am_gi h11 216 66), .ref 216]) (h1 := h11) am_q237 rfl rfl rfl (if_pos (e := none) (lk216 Ly)) ?_
      obtain ⟨g12, H⟩ := H
      refine ev_s (pc' := 130) (loc' := [.ref 216, .int i1]) (st' := [.int (am_gi h11 257 (Int32.toNatClampNeg (am_gi h11 216 61))), .int (1 : Int32), .int (am_gi h11 216 66), .ref 216]) (h1 := h11) am_q237 rfl rfl rfl (am_xx (lk257 Ly) (am_inl (ln257 Ly) g12)) ?_
      refine ev_p (pc' := 132) (loc' := [.ref 216, .int i1]) (st' := [.int ((am_gi h11 216 66) ||| ((1 : Int32) <<< ((am_gi h11 257 (Int32.toNatClampNeg (am_gi h11 216 61))) &&& 31))), .ref 216]) 2 am_q237 rfl ?_
      refine ev_s (pc' := 135) (loc' := [.ref 216, .int i1]) (st' := []) (h1 := am_si h11 216 66 ((am_gi h11 216 66) ||| ((1 : Int32) <<< ((am_gi h11 257 (Int32.toNatClampNeg (am_gi h11 216 61))) &&& 31)))) am_q237 rfl rfl rfl (if_pos (e := none) (lk216 Ly)) ?_
      replace H := H _ rfl
      replace Ly : Lay (am_si h11 216 66 ((am_gi h11 216 66) ||| ((1 : Int32) <<< ((am_gi h11 257 (Int32.toNatClampNeg (am_gi h11 216 61))) &&& 31)))) := Ly.si _ _ _
      generalize am_si h11 216 66 ((am_gi h11 216 66) ||| ((1 : Int32) <<< ((am_gi h11 257 (Int32.toNatClampNeg (am_gi h11 216 61))) &&& 31))) = h13 at H Ly ⊢
      refine ev_p (pc' := 137) (loc' := [.ref 216, .int i1]) (st' := [.ref 216, .ref 216]) 2 am_q237 rfl ?_
      refine ev_s (pc' := 140) (loc' := [.ref 216, .int i1]) (st' := [.int (am_gi h13 216 61), .ref 216]) (h1 := h13) am_q237 rfl rfl rfl (if_pos (e := none) (lk216 Ly)) ?_
      refine ev_p (pc' := 142) (loc' := [.ref 216, .int i1]) (st' := [.int ((am_gi h13 216 61) + (1 : Int32)), .ref 216]) 2 am_q237 rfl ?_
      refine ev_s (pc' := 145) (loc' := [.ref 216, .int i1]) (st' := []) (h1 := am_si h13 216 61 ((am_gi h13 216 61) + (1 : Int32))) am_q237 rfl rfl rfl (if_pos (e := none) (lk216 Ly)) ?_
      replace H := H _ rfl
      replace Ly : Lay (am_si h13 216 61 ((am_gi h13 216 61) + (1 : Int32))) := Ly.si _ _ _
      generalize am_si h13 216 61 ((am_gi h13 216 61) + (1 : Int32)) = h14 at H Ly ⊢
      refine ev_p (pc' := 66) (loc' := [.ref 216, .int (i1 + (1 : Int32))]) (st' := []) 2 am_q237 rfl ?_
      exact ev_m (loc' := [.ref 216, .int (i1 + (1 : Int32))]) am_q237 rfl rfl H
/-! 238: X12_reckons -/
set_option maxRecDepth 20000 in
set_option maxHeartbeats 2000000 in
theorem ws238 {d : Nat}   {h : AH} {Q : Option Value → AH → Prop} (Ly : Lay h) (H : Ev (d + 1) 238 2 [.ref 216, .int (0 : Int32), .null, .null, .null, .null] [] h Q) : Cl (d + 1) 238 [.ref 216] h Q := by
  show Ev (d + 1) 238 0 [.ref 216, .null, .null, .null, .null, .null] [] h Q
  refine ev_p (pc' := 2) (loc' := [.ref 216, .int (0 : Int32), .null, .null, .null, .null]) (st' := []) 2 am_q238 rfl ?_
  exact ev_m (loc' := [.ref 216, .int (0 : Int32), .null, .null, .null, .null]) am_q238 rfl rfl H
set_option maxRecDepth 20000 in
set_option maxHeartbeats 2000000 in
theorem ws238_2 {d : Nat}  (i1 : Int32) {h : AH} {Q : Option Value → AH → Prop} (Ly : Lay h) (H : ((4096 : Int32) ≤ i1 → Ev (d + 1) 238 38 [.ref 216, .int ((am_gi h 216 61) - (1 : Int32)), .null, .null, .null, .null] [] h Q) ∧ (¬ (4096 : Int32) ≤ i1 → am_in (((4096 : Int32) * (am_gi h 216 61)) + i1) 53248 ∧ ∀ h2, h2 = am_si h 259 (Int32.toNatClampNeg (((4096 : Int32) * (am_gi h 216 61)) + i1)) (0 : Int32) → Ev (d + 1) 238 2 [.ref 216, .int (i1 + (1 : Int32)), .null, .null, .null, .null] [] h2 Q)) : Ev (d + 1) 238 2 [.ref 216, .int i1, .null, .null, .null, .null] [] h Q := by
  refine ev_p (pc' := 6) (loc' := [.ref 216, .int i1, .null, .null, .null, .null]) (st' := [.int (4096 : Int32), .int i1]) 2 am_q238 rfl ?_
  refine ev_jc (t := 31) am_q238 rfl rfl (fun hq => ?_) (fun hq => ?_)
  · replace H := H.1 hq
    refine ev_p (pc' := 32) (loc' := [.ref 216, .int i1, .null, .null, .null, .null]) (st' := [.ref 216]) 1 am_q238 rfl ?_
    refine ev_s (pc' := 35) (loc' := [.ref 216, .int i1, .null, .null, .null, .null]) (st' := [.int (am_gi h 216 61)]) (h1 := h) am_q238 rfl rfl rfl (if_pos (e := none) (lk216 Ly)) ?_
    refine ev_p (pc' := 38) (loc' := [.ref 216, .int ((am_gi h 216 61) - (1 : Int32)), .null, .null, .null, .null]) (st' := []) 3 am_q238 rfl ?_
    exact ev_m (loc' := [.ref 216, .int ((am_gi h 216 61) - (1 : Int32)), .null, .null, .null, .null]) am_q238 rfl rfl H
  · replace H := H.2 hq
    refine ev_p (pc' := 10) (loc' := [.ref 216, .int i1, .null, .null, .null, .null]) (st' := [.ref 216]) 1 am_q238 rfl ?_
    refine ev_s (pc' := 13) (loc' := [.ref 216, .int i1, .null, .null, .null, .null]) (st' := [.ref 259]) (h1 := h) am_q238 rfl rfl rfl (am_gf2 (lk216 Ly) (lr216_65 Ly)) ?_
    refine ev_p (pc' := 17) (loc' := [.ref 216, .int i1, .null, .null, .null, .null]) (st' := [.ref 216, .int (4096 : Int32), .ref 259]) 2 am_q238 rfl ?_
    refine ev_s (pc' := 20) (loc' := [.ref 216, .int i1, .null, .null, .null, .null]) (st' := [.int (am_gi h 216 61), .int (4096 : Int32), .ref 259]) (h1 := h) am_q238 rfl rfl rfl (if_pos (e := none) (lk216 Ly)) ?_
    refine ev_p (pc' := 24) (loc' := [.ref 216, .int i1, .null, .null, .null, .null]) (st' := [.int (0 : Int32), .int (((4096 : Int32) * (am_gi h 216 61)) + i1), .ref 259]) 4 am_q238 rfl ?_
    obtain ⟨g1, H⟩ := H
    refine ev_s (pc' := 25) (loc' := [.ref 216, .int i1, .null, .null, .null, .null]) (st' := []) (h1 := am_si h 259 (Int32.toNatClampNeg (((4096 : Int32) * (am_gi h 216 61)) + i1)) (0 : Int32)) am_q238 rfl rfl rfl (am_xx ⟨lk259 Ly, (Nat.le_of_ble_eq_true rfl)⟩ (am_inl (ln259 Ly) g1)) ?_
    replace H := H _ rfl
    replace Ly : Lay (am_si h 259 (Int32.toNatClampNeg (((4096 : Int32) * (am_gi h 216 61)) + i1)) (0 : Int32)) := Ly.si _ _ _
    generalize am_si h 259 (Int32.toNatClampNeg (((4096 : Int32) * (am_gi h 216 61)) + i1)) (0 : Int32) = h2 at H Ly ⊢
    refine ev_p (pc' := 2) (loc' := [.ref 216, .int (i1 + (1 : Int32)), .null, .null, .null, .null]) (st' := []) 2 am_q238 rfl ?_
    exact ev_m (loc' := [.ref 216, .int (i1 + (1 : Int32)), .null, .null, .null, .null]) am_q238 rfl rfl H
set_option maxRecDepth 20000 in
set_option maxHeartbeats 2000000 in
theorem ws238_38 {d : Nat}  (i1 : Int32) {h : AH} {Q : Option Value → AH → Prop} (Ly : Lay h) (H : (i1 < (0 : Int32) → Q none h) ∧ (¬ i1 < (0 : Int32) → Ev (d + 1) 238 44 [.ref 216, .int i1, .int (0 : Int32), .null, .null, .null] [] h Q)) : Ev (d + 1) 238 38 [.ref 216, .int i1, .null, .null, .null, .null] [] h Q := by
  refine ev_p (pc' := 39) (loc' := [.ref 216, .int i1, .null, .null, .null, .null]) (st' := [.int i1]) 1 am_q238 rfl ?_
  refine ev_jz (t := 119) am_q238 rfl rfl (fun hq => ?_) (fun hq => ?_)
  · replace H := H.1 hq
    exact ev_r (v := none) am_q238 rfl rfl rfl rfl H
  · replace H := H.2 hq
    refine ev_p (pc' := 44) (loc' := [.ref 216, .int i1, .int (0 : Int32), .null, .null, .null]) (st' := []) 2 am_q238 rfl ?_
    exact ev_m (loc' := [.ref 216, .int i1, .int (0 : Int32), .null, .null, .null]) am_q238 rfl rfl H
set_option maxRecDepth 20000 in
set_option maxHeartbeats 2000000 in
theorem ws238_44 {d : Nat}  (i1 : Int32) (i2 : Int32) {h : AH} {Q : Option Value → AH → Prop} (Ly : Lay h) (H : ((4096 : Int32) ≤ i2 → Ev (d + 1) 238 38 [.ref 216, .int (i1 + (-1 : Int32)), .null, .null, .null, .null] [] h Q) ∧ (¬ (4096 : Int32) ≤ i2 → Ev (d + 1) 238 56 [.ref 216, .int i1, .int i2, .int (-1 : Int32), .int (0 : Int32), .null] [] h Q)) : Ev (d + 1) 238 44 [.ref 216, .int i1, .int i2, .null, .null, .null] [] h Q := by
  refine ev_p (pc' := 48) (loc' := [.ref 216, .int i1, .int i2, .null, .null, .null]) (st' := [.int (4096 : Int32), .int i2]) 2 am_q238 rfl ?_
  refine ev_jc (t := 113) am_q238 rfl rfl (fun hq => ?_) (fun hq => ?_)
  · replace H := H.1 hq
    refine ev_p (pc' := 38) (loc' := [.ref 216, .int (i1 + (-1 : Int32)), .int i2, .null, .null, .null]) (st' := []) 2 am_q238 rfl ?_
    exact ev_m (loc' := [.ref 216, .int (i1 + (-1 : Int32)), .null, .null, .null, .null]) am_q238 rfl rfl H
  · replace H := H.2 hq
    refine ev_p (pc' := 56) (loc' := [.ref 216, .int i1, .int i2, .int (-1 : Int32), .int (0 : Int32), .null]) (st' := []) 4 am_q238 rfl ?_
    exact ev_m (loc' := [.ref 216, .int i1, .int i2, .int (-1 : Int32), .int (0 : Int32), .null]) am_q238 rfl rfl H
set_option maxRecDepth 20000 in
set_option maxHeartbeats 2000000 in
theorem ws238_56 {d : Nat}  (i1 : Int32) (i2 : Int32) (i3 : Int32) (i4 : Int32) {h : AH} {Q : Option Value → AH → Prop} (Ly : Lay h) (H : ((am_gi h 216 1) ≤ i4 → am_in (((4096 : Int32) * i1) + i2) 53248 ∧ ∀ h2, h2 = am_si h 259 (Int32.toNatClampNeg (((4096 : Int32) * i1) + i2)) i3 → Ev (d + 1) 238 44 [.ref 216, .int i1, .int (i2 + (1 : Int32)), .null, .null, .null] [] h2 Q) ∧ (¬ (am_gi h 216 1) ≤ i4 → Cl d 239 [.ref 216, .int i1, .int i4, .int i2] h (fun r4 h3 => ∃ x5, r4 = some (.int x5) ∧ Lay h3 ∧ (x5 ≤ i3 → Ev (d + 1) 238 56 [.ref 216, .int i1, .int i2, .int i3, .int (i4 + (1 : Int32)), .null] [] h3 Q) ∧ (¬ x5 ≤ i3 → Ev (d + 1) 238 56 [.ref 216, .int i1, .int i2, .int x5, .int (i4 + (1 : Int32)), .null] [] h3 Q)))) : Ev (d + 1) 238 56 [.ref 216, .int i1, .int i2, .int i3, .int i4, .null] [] h Q := by
  refine ev_p (pc' := 59) (loc' := [.ref 216, .int i1, .int i2, .int i3, .int i4, .null]) (st' := [.ref 216, .int i4]) 2 am_q238 rfl ?_
  refine ev_s (pc' := 62) (loc' := [.ref 216, .int i1, .int i2, .int i3, .int i4, .null]) (st' := [.int (am_gi h 216 1), .int i4]) (h1 := h) am_q238 rfl rfl rfl (if_pos (e := none) (lk216 Ly)) ?_
  refine ev_jc (t := 94) am_q238 rfl rfl (fun hq => ?_) (fun hq => ?_)
  · replace H := H.1 hq
    refine ev_p (pc' := 95) (loc' := [.ref 216, .int i1, .int i2, .int i3, .int i4, .null]) (st' := [.ref 216]) 1 am_q238 rfl ?_
    refine ev_s (pc' := 98) (loc' := [.ref 216, .int i1, .int i2, .int i3, .int i4, .null]) (st' := [.ref 259]) (h1 := h) am_q238 rfl rfl rfl (am_gf2 (lk216 Ly) (lr216_65 Ly)) ?_
    refine ev_p (pc' := 106) (loc' := [.ref 216, .int i1, .int i2, .int i3, .int i4, .null]) (st' := [.int i3, .int (((4096 : Int32) * i1) + i2), .ref 259]) 6 am_q238 rfl ?_
    obtain ⟨g1, H⟩ := H
    refine ev_s (pc' := 107) (loc' := [.ref 216, .int i1, .int i2, .int i3, .int i4, .null]) (st' := []) (h1 := am_si h 259 (Int32.toNatClampNeg (((4096 : Int32) * i1) + i2)) i3) am_q238 rfl rfl rfl (am_xx ⟨lk259 Ly, (Nat.le_of_ble_eq_true rfl)⟩ (am_inl (ln259 Ly) g1)) ?_
    replace H := H _ rfl
    replace Ly : Lay (am_si h 259 (Int32.toNatClampNeg (((4096 : Int32) * i1) + i2)) i3) := Ly.si _ _ _
    generalize am_si h 259 (Int32.toNatClampNeg (((4096 : Int32) * i1) + i2)) i3 = h2 at H Ly ⊢
    refine ev_p (pc' := 44) (loc' := [.ref 216, .int i1, .int (i2 + (1 : Int32)), .int i3, .int i4, .null]) (st' := []) 2 am_q238 rfl ?_
    exact ev_m (loc' := [.ref 216, .int i1, .int (i2 + (1 : Int32)), .null, .null, .null]) am_q238 rfl rfl H
  · replace H := H.2 hq
    refine ev_p (pc' := 70) (loc' := [.ref 216, .int i1, .int i2, .int i3, .int i4, .null]) (st' := [.int i2, .int i4, .int i1, .ref 216]) 4 am_q238 rfl ?_
    refine ev_c (vs := [.ref 216, .int i1, .int i4, .int i2]) (rest := []) 239 am_q238 rfl rfl rfl rfl rfl rfl rfl rfl rfl rfl rfl rfl (Or.inr (congrArg some (lk216 Ly))) (Cl.mono H (Nat.le_refl _) (fun r4 h3 H => ?_))
    obtain ⟨x5, rfl, Ly, H⟩ := H
    refine ev_p (pc' := 78) (loc' := [.ref 216, .int i1, .int i2, .int i3, .int i4, .int x5]) (st' := [.int i3, .int x5]) 3 am_q238 rfl ?_
    refine ev_jc (t := 86) am_q238 rfl rfl (fun hq => ?_) (fun hq => ?_)
    · replace H := H.1 hq
      refine ev_p (pc' := 56) (loc' := [.ref 216, .int i1, .int i2, .int i3, .int (i4 + (1 : Int32)), .null]) (st' := []) 4 am_q238 rfl ?_
      exact ev_m (loc' := [.ref 216, .int i1, .int i2, .int i3, .int (i4 + (1 : Int32)), .null]) am_q238 rfl rfl H
    · replace H := H.2 hq
      refine ev_p (pc' := 56) (loc' := [.ref 216, .int i1, .int i2, .int x5, .int (i4 + (1 : Int32)), .null]) (st' := []) 5 am_q238 rfl ?_
      exact ev_m (loc' := [.ref 216, .int i1, .int i2, .int x5, .int (i4 + (1 : Int32)), .null]) am_q238 rfl rfl H
/-! 239: X12_choice -/
set_option maxRecDepth 20000 in
set_option maxHeartbeats 2000000 in
theorem ws239 {d : Nat}  (i1 : Int32) (i2 : Int32) (i3 : Int32) {h : AH} {Q : Option Value → AH → Prop} (Ly : Lay h) (H : ((¬ ((i3 >>> (i2 &&& 31)) &&& (1 : Int32)) = (0 : Int32)) → Ev d 239 54 [.ref 216, .int i1, .int i2, .int i3, .null, .null] [.int (0 : Int32)] h Q) ∧ (¬ (¬ ((i3 >>> (i2 &&& 31)) &&& (1 : Int32)) = (0 : Int32)) → ((¬ (((am_gi h 216 66) >>> (i2 &&& 31)) &&& (1 : Int32)) = (1 : Int32)) → Ev d 239 54 [.ref 216, .int i1, .int i2, .int i3, .null, .null] [.int (0 : Int32)] h Q) ∧ (¬ (¬ (((am_gi h 216 66) >>> (i2 &&& 31)) &&& (1 : Int32)) = (1 : Int32)) → am_in i1 24 ∧ (i2 = (am_gi h 257 (Int32.toNatClampNeg i1)) → Ev d 239 54 [.ref 216, .int i1, .int i2, .int i3, .null, .null] [.int (1 : Int32)] h Q) ∧ (¬ i2 = (am_gi h 257 (Int32.toNatClampNeg i1)) → am_in i1 24 ∧ am_in (am_gi h 256 (Int32.toNatClampNeg i1)) 24 ∧ ((¬ (((am_gi h 226 (Int32.toNatClampNeg (am_gi h 256 (Int32.toNatClampNeg i1)))) >>> (i2 &&& 31)) &&& (1 : Int32)) = (1 : Int32)) → Ev d 239 54 [.ref 216, .int i1, .int i2, .int i3, .null, .null] [.int (0 : Int32)] h Q) ∧ (¬ (¬ (((am_gi h 226 (Int32.toNatClampNeg (am_gi h 256 (Int32.toNatClampNeg i1)))) >>> (i2 &&& 31)) &&& (1 : Int32)) = (1 : Int32)) → Ev d 239 54 [.ref 216, .int i1, .int i2, .int i3, .null, .null] [.int (1 : Int32)] h Q))))) : Cl d 239 [.ref 216, .int i1, .int i2, .int i3] h Q := by
  show Ev d 239 0 [.ref 216, .int i1, .int i2, .int i3, .null, .null] [] h Q
  refine ev_p (pc' := 5) (loc' := [.ref 216, .int i1, .int i2, .int i3, .null, .null]) (st' := [.int ((i3 >>> (i2 &&& 31)) &&& (1 : Int32))]) 5 am_q239 rfl ?_
  refine ev_jz (t := 53) am_q239 rfl rfl (fun hq => ?_) (fun hq => ?_)
  · replace H := H.1 hq
    refine ev_p (pc' := 54) (loc' := [.ref 216, .int i1, .int i2, .int i3, .null, .null]) (st' := [.int (0 : Int32)]) 1 am_q239 rfl ?_
    exact ev_m (loc' := [.ref 216, .int i1, .int i2, .int i3, .null, .null]) am_q239 rfl rfl H
  · replace H := H.2 hq
    refine ev_p (pc' := 9) (loc' := [.ref 216, .int i1, .int i2, .int i3, .null, .null]) (st' := [.ref 216]) 1 am_q239 rfl ?_
    refine ev_s (pc' := 12) (loc' := [.ref 216, .int i1, .int i2, .int i3, .null, .null]) (st' := [.int (am_gi h 216 66)]) (h1 := h) am_q239 rfl rfl rfl (if_pos (e := none) (lk216 Ly)) ?_
    refine ev_p (pc' := 17) (loc' := [.ref 216, .int i1, .int i2, .int i3, .null, .null]) (st' := [.int (1 : Int32), .int (((am_gi h 216 66) >>> (i2 &&& 31)) &&& (1 : Int32))]) 5 am_q239 rfl ?_
    refine ev_jc (t := 53) am_q239 rfl rfl (fun hq => ?_) (fun hq => ?_)
    · replace H := H.1 hq
      refine ev_p (pc' := 54) (loc' := [.ref 216, .int i1, .int i2, .int i3, .null, .null]) (st' := [.int (0 : Int32)]) 1 am_q239 rfl ?_
      exact ev_m (loc' := [.ref 216, .int i1, .int i2, .int i3, .null, .null]) am_q239 rfl rfl H
    · replace H := H.2 hq
      refine ev_p (pc' := 22) (loc' := [.ref 216, .int i1, .int i2, .int i3, .null, .null]) (st' := [.ref 216, .int i2]) 2 am_q239 rfl ?_
      refine ev_s (pc' := 25) (loc' := [.ref 216, .int i1, .int i2, .int i3, .null, .null]) (st' := [.ref 257, .int i2]) (h1 := h) am_q239 rfl rfl rfl (am_gf2 (lk216 Ly) (lr216_63 Ly)) ?_
      refine ev_p (pc' := 26) (loc' := [.ref 216, .int i1, .int i2, .int i3, .null, .null]) (st' := [.int i1, .ref 257, .int i2]) 1 am_q239 rfl ?_
      obtain ⟨g1, H⟩ := H
      refine ev_s (pc' := 27) (loc' := [.ref 216, .int i1, .int i2, .int i3, .null, .null]) (st' := [.int (am_gi h 257 (Int32.toNatClampNeg i1)), .int i2]) (h1 := h) am_q239 rfl rfl rfl (am_xx (lk257 Ly) (am_inl (ln257 Ly) g1)) ?_
      refine ev_jc (t := 49) am_q239 rfl rfl (fun hq => ?_) (fun hq => ?_)
      · replace H := H.1 hq
        refine ev_p (pc' := 54) (loc' := [.ref 216, .int i1, .int i2, .int i3, .null, .null]) (st' := [.int (1 : Int32)]) 2 am_q239 rfl ?_
        exact ev_m (loc' := [.ref 216, .int i1, .int i2, .int i3, .null, .null]) am_q239 rfl rfl H
      · replace H := H.2 hq
        refine ev_p (pc' := 31) (loc' := [.ref 216, .int i1, .int i2, .int i3, .null, .null]) (st' := [.ref 216]) 1 am_q239 rfl ?_
        refine ev_s (pc' := 34) (loc' := [.ref 216, .int i1, .int i2, .int i3, .null, .null]) (st' := [.ref 226]) (h1 := h) am_q239 rfl rfl rfl (am_gf2 (lk216 Ly) (lr216_12 Ly)) ?_
        refine ev_p (pc' := 35) (loc' := [.ref 216, .int i1, .int i2, .int i3, .null, .null]) (st' := [.ref 216, .ref 226]) 1 am_q239 rfl ?_
        refine ev_s (pc' := 38) (loc' := [.ref 216, .int i1, .int i2, .int i3, .null, .null]) (st' := [.ref 256, .ref 226]) (h1 := h) am_q239 rfl rfl rfl (am_gf2 (lk216 Ly) (lr216_62 Ly)) ?_
        refine ev_p (pc' := 39) (loc' := [.ref 216, .int i1, .int i2, .int i3, .null, .null]) (st' := [.int i1, .ref 256, .ref 226]) 1 am_q239 rfl ?_
        obtain ⟨g2, H⟩ := H
        refine ev_s (pc' := 40) (loc' := [.ref 216, .int i1, .int i2, .int i3, .null, .null]) (st' := [.int (am_gi h 256 (Int32.toNatClampNeg i1)), .ref 226]) (h1 := h) am_q239 rfl rfl rfl (am_xx (lk256 Ly) (am_inl (ln256 Ly) g2)) ?_
        obtain ⟨g3, H⟩ := H
        refine ev_s (pc' := 41) (loc' := [.ref 216, .int i1, .int i2, .int i3, .null, .null]) (st' := [.int (am_gi h 226 (Int32.toNatClampNeg (am_gi h 256 (Int32.toNatClampNeg i1))))]) (h1 := h) am_q239 rfl rfl rfl (am_xx (lk226 Ly) (am_inl (ln226 Ly) g3)) ?_
        refine ev_p (pc' := 46) (loc' := [.ref 216, .int i1, .int i2, .int i3, .null, .null]) (st' := [.int (1 : Int32), .int (((am_gi h 226 (Int32.toNatClampNeg (am_gi h 256 (Int32.toNatClampNeg i1)))) >>> (i2 &&& 31)) &&& (1 : Int32))]) 5 am_q239 rfl ?_
        refine ev_jc (t := 53) am_q239 rfl rfl (fun hq => ?_) (fun hq => ?_)
        · replace H := H.1 hq
          refine ev_p (pc' := 54) (loc' := [.ref 216, .int i1, .int i2, .int i3, .null, .null]) (st' := [.int (0 : Int32)]) 1 am_q239 rfl ?_
          exact ev_m (loc' := [.ref 216, .int i1, .int i2, .int i3, .null, .null]) am_q239 rfl rfl H
        · replace H := H.2 hq
          refine ev_p (pc' := 54) (loc' := [.ref 216, .int i1, .int i2, .int i3, .null, .null]) (st' := [.int (1 : Int32)]) 2 am_q239 rfl ?_
          exact ev_m (loc' := [.ref 216, .int i1, .int i2, .int i3, .null, .null]) am_q239 rfl rfl H
set_option maxRecDepth 20000 in
set_option maxHeartbeats 2000000 in
theorem ws239_54 {d : Nat}  (i1 : Int32) (i2 : Int32) (i3 : Int32) (s0 : Int32) {h : AH} {Q : Option Value → AH → Prop} (Ly : Lay h) (H : (s0 = (0 : Int32) → Ev d 239 83 [.ref 216, .int i1, .int i2, .null, .null, .null] [.int (-1 : Int32)] h Q) ∧ (¬ s0 = (0 : Int32) → am_in (((4096 : Int32) * (i1 + (1 : Int32))) + (i3 ||| ((1 : Int32) <<< (i2 &&& 31)))) 53248 ∧ Ev d 239 83 [.ref 216, .int i1, .int i2, .null, .null, .null] [.int (am_gi h 259 (Int32.toNatClampNeg (((4096 : Int32) * (i1 + (1 : Int32))) + (i3 ||| ((1 : Int32) <<< (i2 &&& 31))))))] h Q)) : Ev d 239 54 [.ref 216, .int i1, .int i2, .int i3, .null, .null] [.int s0] h Q := by
  refine ev_p (pc' := 58) (loc' := [.ref 216, .int i1, .int i2, .int i3, .int s0, .null]) (st' := [.int s0]) 2 am_q239 rfl ?_
  refine ev_jz (t := 82) am_q239 rfl rfl (fun hq => ?_) (fun hq => ?_)
  · replace H := H.1 hq
    refine ev_p (pc' := 83) (loc' := [.ref 216, .int i1, .int i2, .int i3, .int s0, .null]) (st' := [.int (-1 : Int32)]) 1 am_q239 rfl ?_
    exact ev_m (loc' := [.ref 216, .int i1, .int i2, .null, .null, .null]) am_q239 rfl rfl H
  · replace H := H.2 hq
    refine ev_p (pc' := 62) (loc' := [.ref 216, .int i1, .int i2, .int i3, .int s0, .null]) (st' := [.ref 216]) 1 am_q239 rfl ?_
    refine ev_s (pc' := 65) (loc' := [.ref 216, .int i1, .int i2, .int i3, .int s0, .null]) (st' := [.ref 259]) (h1 := h) am_q239 rfl rfl rfl (am_gf2 (lk216 Ly) (lr216_65 Ly)) ?_
    refine ev_p (pc' := 78) (loc' := [.ref 216, .int i1, .int i2, .int i3, .int s0, .null]) (st' := [.int (((4096 : Int32) * (i1 + (1 : Int32))) + (i3 ||| ((1 : Int32) <<< (i2 &&& 31)))), .ref 259]) 11 am_q239 rfl ?_
    obtain ⟨g1, H⟩ := H
    refine ev_s (pc' := 79) (loc' := [.ref 216, .int i1, .int i2, .int i3, .int s0, .null]) (st' := [.int (am_gi h 259 (Int32.toNatClampNeg (((4096 : Int32) * (i1 + (1 : Int32))) + (i3 ||| ((1 : Int32) <<< (i2 &&& 31))))))]) (h1 := h) am_q239 rfl rfl rfl (am_xx (lk259 Ly) (am_inl (ln259 Ly) g1)) ?_
    refine ev_p (pc' := 83) (loc' := [.ref 216, .int i1, .int i2, .int i3, .int s0, .null]) (st' := [.int (am_gi h 259 (Int32.toNatClampNeg (((4096 : Int32) * (i1 + (1 : Int32))) + (i3 ||| ((1 : Int32) <<< (i2 &&& 31))))))]) 1 am_q239 rfl ?_
    exact ev_m (loc' := [.ref 216, .int i1, .int i2, .null, .null, .null]) am_q239 rfl rfl H
set_option maxRecDepth 20000 in
set_option maxHeartbeats 2000000 in
theorem ws239_83 {d : Nat}  (i1 : Int32) (i2 : Int32) (s0 : Int32) {h : AH} {Q : Option Value → AH → Prop} (Ly : Lay h) (H : ((¬ s0 = (-1 : Int32)) → am_in i1 24 ∧ ((¬ i2 = (am_gi h 257 (Int32.toNatClampNeg i1))) → Q (some (.int (s0 + (1 : Int32)))) h) ∧ (¬ (¬ i2 = (am_gi h 257 (Int32.toNatClampNeg i1))) → Q (some (.int (s0 + (0 : Int32)))) h)) ∧ (¬ (¬ s0 = (-1 : Int32)) → Q (some (.int (-1 : Int32))) h)) : Ev d 239 83 [.ref 216, .int i1, .int i2, .null, .null, .null] [.int s0] h Q := by
  refine ev_p (pc' := 88) (loc' := [.ref 216, .int i1, .int i2, .null, .null, .int s0]) (st' := [.int (-1 : Int32), .int s0]) 3 am_q239 rfl ?_
  refine ev_jc (t := 95) am_q239 rfl rfl (fun hq => ?_) (fun hq => ?_)
  · replace H := H.1 hq
    refine ev_p (pc' := 99) (loc' := [.ref 216, .int i1, .int i2, .null, .null, .int s0]) (st' := [.ref 216, .int i2, .int s0]) 3 am_q239 rfl ?_
    refine ev_s (pc' := 102) (loc' := [.ref 216, .int i1, .int i2, .null, .null, .int s0]) (st' := [.ref 257, .int i2, .int s0]) (h1 := h) am_q239 rfl rfl rfl (am_gf2 (lk216 Ly) (lr216_63 Ly)) ?_
    refine ev_p (pc' := 103) (loc' := [.ref 216, .int i1, .int i2, .null, .null, .int s0]) (st' := [.int i1, .ref 257, .int i2, .int s0]) 1 am_q239 rfl ?_
    obtain ⟨g1, H⟩ := H
    refine ev_s (pc' := 104) (loc' := [.ref 216, .int i1, .int i2, .null, .null, .int s0]) (st' := [.int (am_gi h 257 (Int32.toNatClampNeg i1)), .int i2, .int s0]) (h1 := h) am_q239 rfl rfl rfl (am_xx (lk257 Ly) (am_inl (ln257 Ly) g1)) ?_
    refine ev_jc (t := 111) am_q239 rfl rfl (fun hq => ?_) (fun hq => ?_)
    · replace H := H.1 hq
      refine ev_p (pc' := 113) (loc' := [.null, .null, .null, .null, .null, .null]) (st' := [.int (s0 + (1 : Int32))]) 2 am_q239 rfl ?_
      exact ev_r (v := some (.int (s0 + (1 : Int32)))) am_q239 rfl rfl rfl rfl H
    · replace H := H.2 hq
      refine ev_p (pc' := 113) (loc' := [.null, .null, .null, .null, .null, .null]) (st' := [.int (s0 + (0 : Int32))]) 3 am_q239 rfl ?_
      exact ev_r (v := some (.int (s0 + (0 : Int32)))) am_q239 rfl rfl rfl rfl H
  · replace H := H.2 hq
    refine ev_p (pc' := 113) (loc' := [.ref 216, .int i1, .int i2, .null, .null, .int s0]) (st' := [.int (-1 : Int32)]) 2 am_q239 rfl ?_
    exact ev_r (v := some (.int (-1 : Int32))) am_q239 rfl rfl rfl rfl H
/-! 240: X12_changes -/
set_option maxRecDepth 20000 in
set_option maxHeartbeats 2000000 in
theorem ws240 {d : Nat}   {h : AH} {Q : Option Value → AH → Prop} (Ly : Lay h) (H : Cl d 237 [.ref 216] h (fun r2 h1 => r2 = none ∧ Lay h1 ∧ Cl d 238 [.ref 216] h1 (fun r4 h3 => r4 = none ∧ Lay h3 ∧ Ev (d + 1) 240 12 [.ref 216, .int (0 : Int32), .int (0 : Int32), .null, .null] [] h3 Q))) : Cl (d + 1) 240 [.ref 216] h Q := by
  show Ev (d + 1) 240 0 [.ref 216, .null, .null, .null, .null] [] h Q
  refine ev_p (pc' := 1) (loc' := [.ref 216, .null, .null, .null, .null]) (st' := [.ref 216]) 1 am_q240 rfl ?_
  refine ev_c (vs := [.ref 216]) (rest := []) 237 am_q240 rfl rfl rfl rfl rfl rfl rfl rfl rfl rfl rfl rfl (Or.inr (congrArg some (lk216 Ly))) (Cl.mono H (Nat.le_refl _) (fun r2 h1 H => ?_))
  obtain ⟨rfl, Ly, H⟩ := H
  refine ev_p (pc' := 5) (loc' := [.ref 216, .null, .null, .null, .null]) (st' := [.ref 216]) 1 am_q240 rfl ?_
  refine ev_c (vs := [.ref 216]) (rest := []) 238 am_q240 rfl rfl rfl rfl rfl rfl rfl rfl rfl rfl rfl rfl (Or.inr (congrArg some (lk216 Ly))) (Cl.mono H (Nat.le_refl _) (fun r4 h3 H => ?_))
  obtain ⟨rfl, Ly, H⟩ := H
  refine ev_p (pc' := 12) (loc' := [.ref 216, .int (0 : Int32), .int (0 : Int32), .null, .null]) (st' := []) 4 am_q240 rfl ?_
  exact ev_m (loc' := [.ref 216, .int (0 : Int32), .int (0 : Int32), .null, .null]) am_q240 rfl rfl H
set_option maxRecDepth 20000 in
set_option maxHeartbeats 2000000 in
theorem ws240_12 {d : Nat}  (i1 : Int32) (i2 : Int32) {h : AH} {Q : Option Value → AH → Prop} (Ly : Lay h) (H : ((am_gi h 216 61) ≤ i2 → Q none h) ∧ (¬ (am_gi h 216 61) ≤ i2 → am_in (((4096 : Int32) * i2) + i1) 53248 ∧ am_in i2 24 ∧ am_in i2 24 ∧ ∀ h4, h4 = am_si h 258 (Int32.toNatClampNeg i2) (am_gi h 257 (Int32.toNatClampNeg i2)) → Ev (d + 1) 240 53 [.ref 216, .int i1, .int i2, .int (am_gi h 259 (Int32.toNatClampNeg (((4096 : Int32) * i2) + i1))), .int ((am_gi h4 216 1) - (1 : Int32))] [] h4 Q)) : Ev (d + 1) 240 12 [.ref 216, .int i1, .int i2, .null, .null] [] h Q := by
  refine ev_p (pc' := 14) (loc' := [.ref 216, .int i1, .int i2, .null, .null]) (st' := [.ref 216, .int i2]) 2 am_q240 rfl ?_
  refine ev_s (pc' := 17) (loc' := [.ref 216, .int i1, .int i2, .null, .null]) (st' := [.int (am_gi h 216 61), .int i2]) (h1 := h) am_q240 rfl rfl rfl (if_pos (e := none) (lk216 Ly)) ?_
  refine ev_jc (t := 121) am_q240 rfl rfl (fun hq => ?_) (fun hq => ?_)
  · replace H := H.1 hq
    exact ev_r (v := none) am_q240 rfl rfl rfl rfl H
  · replace H := H.2 hq
    refine ev_p (pc' := 21) (loc' := [.ref 216, .int i1, .int i2, .null, .null]) (st' := [.ref 216]) 1 am_q240 rfl ?_
    refine ev_s (pc' := 24) (loc' := [.ref 216, .int i1, .int i2, .null, .null]) (st' := [.ref 259]) (h1 := h) am_q240 rfl rfl rfl (am_gf2 (lk216 Ly) (lr216_65 Ly)) ?_
    refine ev_p (pc' := 31) (loc' := [.ref 216, .int i1, .int i2, .null, .null]) (st' := [.int (((4096 : Int32) * i2) + i1), .ref 259]) 5 am_q240 rfl ?_
    obtain ⟨g1, H⟩ := H
    refine ev_s (pc' := 32) (loc' := [.ref 216, .int i1, .int i2, .null, .null]) (st' := [.int (am_gi h 259 (Int32.toNatClampNeg (((4096 : Int32) * i2) + i1)))]) (h1 := h) am_q240 rfl rfl rfl (am_xx (lk259 Ly) (am_inl (ln259 Ly) g1)) ?_
    refine ev_p (pc' := 34) (loc' := [.ref 216, .int i1, .int i2, .int (am_gi h 259 (Int32.toNatClampNeg (((4096 : Int32) * i2) + i1))), .null]) (st' := [.ref 216]) 2 am_q240 rfl ?_
    refine ev_s (pc' := 37) (loc' := [.ref 216, .int i1, .int i2, .int (am_gi h 259 (Int32.toNatClampNeg (((4096 : Int32) * i2) + i1))), .null]) (st' := [.ref 258]) (h1 := h) am_q240 rfl rfl rfl (am_gf2 (lk216 Ly) (lr216_64 Ly)) ?_
    refine ev_p (pc' := 39) (loc' := [.ref 216, .int i1, .int i2, .int (am_gi h 259 (Int32.toNatClampNeg (((4096 : Int32) * i2) + i1))), .null]) (st' := [.ref 216, .int i2, .ref 258]) 2 am_q240 rfl ?_
    refine ev_s (pc' := 42) (loc' := [.ref 216, .int i1, .int i2, .int (am_gi h 259 (Int32.toNatClampNeg (((4096 : Int32) * i2) + i1))), .null]) (st' := [.ref 257, .int i2, .ref 258]) (h1 := h) am_q240 rfl rfl rfl (am_gf2 (lk216 Ly) (lr216_63 Ly)) ?_
    refine ev_p (pc' := 43) (loc' := [.ref 216, .int i1, .int i2, .int (am_gi h 259 (Int32.toNatClampNeg (((4096 : Int32) * i2) + i1))), .null]) (st' := [.int i2, .ref 257, .int i2, .ref 258]) 1 am_q240 rfl ?_
    obtain ⟨g2, H⟩ := H
    refine ev_s (pc' := 44) (loc' := [.ref 216, .int i1, .int i2, .int (am_gi h 259 (Int32.toNatClampNeg (((4096 : Int32) * i2) + i1))), .null]) (st' := [.int (am_gi h 257 (Int32.toNatClampNeg i2)), .int i2, .ref 258]) (h1 := h) am_q240 rfl rfl rfl (am_xx (lk257 Ly) (am_inl (ln257 Ly) g2)) ?_
    obtain ⟨g3, H⟩ := H
    refine ev_s (pc' := 45) (loc' := [.ref 216, .int i1, .int i2, .int (am_gi h 259 (Int32.toNatClampNeg (((4096 : Int32) * i2) + i1))), .null]) (st' := []) (h1 := am_si h 258 (Int32.toNatClampNeg i2) (am_gi h 257 (Int32.toNatClampNeg i2))) am_q240 rfl rfl rfl (am_xx ⟨lk258 Ly, (Nat.le_of_ble_eq_true rfl)⟩ (am_inl (ln258 Ly) g3)) ?_
    replace H := H _ rfl
    replace Ly : Lay (am_si h 258 (Int32.toNatClampNeg i2) (am_gi h 257 (Int32.toNatClampNeg i2))) := Ly.si _ _ _
    generalize am_si h 258 (Int32.toNatClampNeg i2) (am_gi h 257 (Int32.toNatClampNeg i2)) = h4 at H Ly ⊢
    refine ev_p (pc' := 46) (loc' := [.ref 216, .int i1, .int i2, .int (am_gi h 259 (Int32.toNatClampNeg (((4096 : Int32) * i2) + i1))), .null]) (st' := [.ref 216]) 1 am_q240 rfl ?_
    refine ev_s (pc' := 49) (loc' := [.ref 216, .int i1, .int i2, .int (am_gi h 259 (Int32.toNatClampNeg (((4096 : Int32) * i2) + i1))), .null]) (st' := [.int (am_gi h4 216 1)]) (h1 := h4) am_q240 rfl rfl rfl (if_pos (e := none) (lk216 Ly)) ?_
    refine ev_p (pc' := 53) (loc' := [.ref 216, .int i1, .int i2, .int (am_gi h 259 (Int32.toNatClampNeg (((4096 : Int32) * i2) + i1))), .int ((am_gi h4 216 1) - (1 : Int32))]) (st' := []) 3 am_q240 rfl ?_
    exact ev_m (loc' := [.ref 216, .int i1, .int i2, .int (am_gi h 259 (Int32.toNatClampNeg (((4096 : Int32) * i2) + i1))), .int ((am_gi h4 216 1) - (1 : Int32))]) am_q240 rfl rfl H
set_option maxRecDepth 20000 in
set_option maxHeartbeats 2000000 in
theorem ws240_53 {d : Nat}  (i1 : Int32) (i2 : Int32) (i3 : Int32) (i4 : Int32) {h : AH} {Q : Option Value → AH → Prop} (Ly : Lay h) (H : (i4 < (0 : Int32) → am_in i2 24 ∧ Ev (d + 1) 240 12 [.ref 216, .int (i1 ||| ((1 : Int32) <<< ((am_gi h 258 (Int32.toNatClampNeg i2)) &&& 31))), .int (i2 + (1 : Int32)), .null, .null] [] h Q) ∧ (¬ i4 < (0 : Int32) → am_in i2 24 ∧ (i4 = (am_gi h 257 (Int32.toNatClampNeg i2)) → am_in i2 24 ∧ am_in i2 24 ∧ ∀ h5, h5 = am_si h 258 (Int32.toNatClampNeg i2) (am_gi h 258 (Int32.toNatClampNeg i2)) → Ev (d + 1) 240 53 [.ref 216, .int i1, .int i2, .int i3, .int (i4 + (-1 : Int32))] [] h5 Q) ∧ (¬ i4 = (am_gi h 257 (Int32.toNatClampNeg i2)) → Cl d 239 [.ref 216, .int i2, .int i4, .int i1] h (fun r7 h6 => ∃ x8, r7 = some (.int x8) ∧ Lay h6 ∧ ((¬ x8 = i3) → am_in i2 24 ∧ am_in i2 24 ∧ ∀ h11, h11 = am_si h6 258 (Int32.toNatClampNeg i2) (am_gi h6 258 (Int32.toNatClampNeg i2)) → Ev (d + 1) 240 53 [.ref 216, .int i1, .int i2, .int i3, .int (i4 + (-1 : Int32))] [] h11 Q) ∧ (¬ (¬ x8 = i3) → am_in i2 24 ∧ ∀ h13, h13 = am_si h6 258 (Int32.toNatClampNeg i2) i4 → Ev (d + 1) 240 53 [.ref 216, .int i1, .int i2, .int i3, .int (i4 + (-1 : Int32))] [] h13 Q))))) : Ev (d + 1) 240 53 [.ref 216, .int i1, .int i2, .int i3, .int i4] [] h Q := by
  refine ev_p (pc' := 55) (loc' := [.ref 216, .int i1, .int i2, .int i3, .int i4]) (st' := [.int i4]) 1 am_q240 rfl ?_
  refine ev_jz (t := 104) am_q240 rfl rfl (fun hq => ?_) (fun hq => ?_)
  · replace H := H.1 hq
    refine ev_p (pc' := 107) (loc' := [.ref 216, .int i1, .int i2, .int i3, .int i4]) (st' := [.ref 216, .int (1 : Int32), .int i1]) 3 am_q240 rfl ?_
    refine ev_s (pc' := 110) (loc' := [.ref 216, .int i1, .int i2, .int i3, .int i4]) (st' := [.ref 258, .int (1 : Int32), .int i1]) (h1 := h) am_q240 rfl rfl rfl (am_gf2 (lk216 Ly) (lr216_64 Ly)) ?_
    refine ev_p (pc' := 111) (loc' := [.ref 216, .int i1, .int i2, .int i3, .int i4]) (st' := [.int i2, .ref 258, .int (1 : Int32), .int i1]) 1 am_q240 rfl ?_
    obtain ⟨g1, H⟩ := H
    refine ev_s (pc' := 112) (loc' := [.ref 216, .int i1, .int i2, .int i3, .int i4]) (st' := [.int (am_gi h 258 (Int32.toNatClampNeg i2)), .int (1 : Int32), .int i1]) (h1 := h) am_q240 rfl rfl rfl (am_xx (lk258 Ly) (am_inl (ln258 Ly) g1)) ?_
    refine ev_p (pc' := 12) (loc' := [.ref 216, .int (i1 ||| ((1 : Int32) <<< ((am_gi h 258 (Int32.toNatClampNeg i2)) &&& 31))), .int (i2 + (1 : Int32)), .int i3, .int i4]) (st' := []) 5 am_q240 rfl ?_
    exact ev_m (loc' := [.ref 216, .int (i1 ||| ((1 : Int32) <<< ((am_gi h 258 (Int32.toNatClampNeg i2)) &&& 31))), .int (i2 + (1 : Int32)), .null, .null]) am_q240 rfl rfl H
  · replace H := H.2 hq
    refine ev_p (pc' := 59) (loc' := [.ref 216, .int i1, .int i2, .int i3, .int i4]) (st' := [.ref 216]) 1 am_q240 rfl ?_
    refine ev_s (pc' := 62) (loc' := [.ref 216, .int i1, .int i2, .int i3, .int i4]) (st' := [.ref 258]) (h1 := h) am_q240 rfl rfl rfl (am_gf2 (lk216 Ly) (lr216_64 Ly)) ?_
    refine ev_p (pc' := 66) (loc' := [.ref 216, .int i1, .int i2, .int i3, .int i4]) (st' := [.ref 216, .int i4, .int i2, .ref 258]) 3 am_q240 rfl ?_
    refine ev_s (pc' := 69) (loc' := [.ref 216, .int i1, .int i2, .int i3, .int i4]) (st' := [.ref 257, .int i4, .int i2, .ref 258]) (h1 := h) am_q240 rfl rfl rfl (am_gf2 (lk216 Ly) (lr216_63 Ly)) ?_
    refine ev_p (pc' := 70) (loc' := [.ref 216, .int i1, .int i2, .int i3, .int i4]) (st' := [.int i2, .ref 257, .int i4, .int i2, .ref 258]) 1 am_q240 rfl ?_
    obtain ⟨g2, H⟩ := H
    refine ev_s (pc' := 71) (loc' := [.ref 216, .int i1, .int i2, .int i3, .int i4]) (st' := [.int (am_gi h 257 (Int32.toNatClampNeg i2)), .int i4, .int i2, .ref 258]) (h1 := h) am_q240 rfl rfl rfl (am_xx (lk257 Ly) (am_inl (ln257 Ly) g2)) ?_
    refine ev_jc (t := 91) am_q240 rfl rfl (fun hq => ?_) (fun hq => ?_)
    · replace H := H.1 hq
      refine ev_p (pc' := 92) (loc' := [.ref 216, .int i1, .int i2, .int i3, .int i4]) (st' := [.ref 216, .int i2, .ref 258]) 1 am_q240 rfl ?_
      refine ev_s (pc' := 95) (loc' := [.ref 216, .int i1, .int i2, .int i3, .int i4]) (st' := [.ref 258, .int i2, .ref 258]) (h1 := h) am_q240 rfl rfl rfl (am_gf2 (lk216 Ly) (lr216_64 Ly)) ?_
      refine ev_p (pc' := 96) (loc' := [.ref 216, .int i1, .int i2, .int i3, .int i4]) (st' := [.int i2, .ref 258, .int i2, .ref 258]) 1 am_q240 rfl ?_
      obtain ⟨g3, H⟩ := H
      refine ev_s (pc' := 97) (loc' := [.ref 216, .int i1, .int i2, .int i3, .int i4]) (st' := [.int (am_gi h 258 (Int32.toNatClampNeg i2)), .int i2, .ref 258]) (h1 := h) am_q240 rfl rfl rfl (am_xx (lk258 Ly) (am_inl (ln258 Ly) g3)) ?_
      obtain ⟨g4, H⟩ := H
      refine ev_s (pc' := 98) (loc' := [.ref 216, .int i1, .int i2, .int i3, .int i4]) (st' := []) (h1 := am_si h 258 (Int32.toNatClampNeg i2) (am_gi h 258 (Int32.toNatClampNeg i2))) am_q240 rfl rfl rfl (am_xx ⟨lk258 Ly, (Nat.le_of_ble_eq_true rfl)⟩ (am_inl (ln258 Ly) g4)) ?_
      replace H := H _ rfl
      replace Ly : Lay (am_si h 258 (Int32.toNatClampNeg i2) (am_gi h 258 (Int32.toNatClampNeg i2))) := Ly.si _ _ _
      generalize am_si h 258 (Int32.toNatClampNeg i2) (am_gi h 258 (Int32.toNatClampNeg i2)) = h5 at H Ly ⊢
      refine ev_p (pc' := 53) (loc' := [.ref 216, .int i1, .int i2, .int i3, .int (i4 + (-1 : Int32))]) (st' := []) 2 am_q240 rfl ?_
      exact ev_m (loc' := [.ref 216, .int i1, .int i2, .int i3, .int (i4 + (-1 : Int32))]) am_q240 rfl rfl H
    · replace H := H.2 hq
      refine ev_p (pc' := 79) (loc' := [.ref 216, .int i1, .int i2, .int i3, .int i4]) (st' := [.int i1, .int i4, .int i2, .ref 216, .int i2, .ref 258]) 4 am_q240 rfl ?_
      refine ev_c (vs := [.ref 216, .int i2, .int i4, .int i1]) (rest := [.int i2, .ref 258]) 239 am_q240 rfl rfl rfl rfl rfl rfl rfl rfl rfl rfl rfl rfl (Or.inr (congrArg some (lk216 Ly))) (Cl.mono H (Nat.le_refl _) (fun r7 h6 H => ?_))
      obtain ⟨x8, rfl, Ly, H⟩ := H
      refine ev_p (pc' := 83) (loc' := [.ref 216, .int i1, .int i2, .int i3, .int i4]) (st' := [.int i3, .int x8, .int i2, .ref 258]) 1 am_q240 rfl ?_
      refine ev_jc (t := 91) am_q240 rfl rfl (fun hq => ?_) (fun hq => ?_)
      · replace H := H.1 hq
        refine ev_p (pc' := 92) (loc' := [.ref 216, .int i1, .int i2, .int i3, .int i4]) (st' := [.ref 216, .int i2, .ref 258]) 1 am_q240 rfl ?_
        refine ev_s (pc' := 95) (loc' := [.ref 216, .int i1, .int i2, .int i3, .int i4]) (st' := [.ref 258, .int i2, .ref 258]) (h1 := h6) am_q240 rfl rfl rfl (am_gf2 (lk216 Ly) (lr216_64 Ly)) ?_
        refine ev_p (pc' := 96) (loc' := [.ref 216, .int i1, .int i2, .int i3, .int i4]) (st' := [.int i2, .ref 258, .int i2, .ref 258]) 1 am_q240 rfl ?_
        obtain ⟨g9, H⟩ := H
        refine ev_s (pc' := 97) (loc' := [.ref 216, .int i1, .int i2, .int i3, .int i4]) (st' := [.int (am_gi h6 258 (Int32.toNatClampNeg i2)), .int i2, .ref 258]) (h1 := h6) am_q240 rfl rfl rfl (am_xx (lk258 Ly) (am_inl (ln258 Ly) g9)) ?_
        obtain ⟨g10, H⟩ := H
        refine ev_s (pc' := 98) (loc' := [.ref 216, .int i1, .int i2, .int i3, .int i4]) (st' := []) (h1 := am_si h6 258 (Int32.toNatClampNeg i2) (am_gi h6 258 (Int32.toNatClampNeg i2))) am_q240 rfl rfl rfl (am_xx ⟨lk258 Ly, (Nat.le_of_ble_eq_true rfl)⟩ (am_inl (ln258 Ly) g10)) ?_
        replace H := H _ rfl
        replace Ly : Lay (am_si h6 258 (Int32.toNatClampNeg i2) (am_gi h6 258 (Int32.toNatClampNeg i2))) := Ly.si _ _ _
        generalize am_si h6 258 (Int32.toNatClampNeg i2) (am_gi h6 258 (Int32.toNatClampNeg i2)) = h11 at H Ly ⊢
        refine ev_p (pc' := 53) (loc' := [.ref 216, .int i1, .int i2, .int i3, .int (i4 + (-1 : Int32))]) (st' := []) 2 am_q240 rfl ?_
        exact ev_m (loc' := [.ref 216, .int i1, .int i2, .int i3, .int (i4 + (-1 : Int32))]) am_q240 rfl rfl H
      · replace H := H.2 hq
        refine ev_p (pc' := 97) (loc' := [.ref 216, .int i1, .int i2, .int i3, .int i4]) (st' := [.int i4, .int i2, .ref 258]) 2 am_q240 rfl ?_
        obtain ⟨g12, H⟩ := H
        refine ev_s (pc' := 98) (loc' := [.ref 216, .int i1, .int i2, .int i3, .int i4]) (st' := []) (h1 := am_si h6 258 (Int32.toNatClampNeg i2) i4) am_q240 rfl rfl rfl (am_xx ⟨lk258 Ly, (Nat.le_of_ble_eq_true rfl)⟩ (am_inl (ln258 Ly) g12)) ?_
        replace H := H _ rfl
        replace Ly : Lay (am_si h6 258 (Int32.toNatClampNeg i2) i4) := Ly.si _ _ _
        generalize am_si h6 258 (Int32.toNatClampNeg i2) i4 = h13 at H Ly ⊢
        refine ev_p (pc' := 53) (loc' := [.ref 216, .int i1, .int i2, .int i3, .int (i4 + (-1 : Int32))]) (st' := []) 2 am_q240 rfl ?_
        exact ev_m (loc' := [.ref 216, .int i1, .int i2, .int i3, .int (i4 + (-1 : Int32))]) am_q240 rfl rfl H
/-! 241: X12_best -/
set_option maxRecDepth 20000 in
set_option maxHeartbeats 2000000 in
theorem ws241 {d : Nat}   {h : AH} {Q : Option Value → AH → Prop} (Ly : Lay h) (H : Cl d 240 [.ref 216] h (fun r2 h1 => r2 = none ∧ Lay h1 ∧ am_in (0 : Int32) 53248 ∧ Q (some (.int (am_gi h1 259 (Int32.toNatClampNeg (0 : Int32))))) h1)) : Cl (d + 1) 241 [.ref 216] h Q := by
  show Ev (d + 1) 241 0 [.ref 216] [] h Q
  refine ev_p (pc' := 1) (loc' := [.ref 216]) (st' := [.ref 216]) 1 am_q241 rfl ?_
  refine ev_c (vs := [.ref 216]) (rest := []) 240 am_q241 rfl rfl rfl rfl rfl rfl rfl rfl rfl rfl rfl rfl (Or.inr (congrArg some (lk216 Ly))) (Cl.mono H (Nat.le_refl _) (fun r2 h1 H => ?_))
  obtain ⟨rfl, Ly, H⟩ := H
  refine ev_p (pc' := 5) (loc' := [.ref 216]) (st' := [.ref 216]) 1 am_q241 rfl ?_
  refine ev_s (pc' := 8) (loc' := [.ref 216]) (st' := [.ref 259]) (h1 := h1) am_q241 rfl rfl rfl (am_gf2 (lk216 Ly) (lr216_65 Ly)) ?_
  refine ev_p (pc' := 9) (loc' := [.ref 216]) (st' := [.int (0 : Int32), .ref 259]) 1 am_q241 rfl ?_
  obtain ⟨g3, H⟩ := H
  refine ev_s (pc' := 10) (loc' := [.ref 216]) (st' := [.int (am_gi h1 259 (Int32.toNatClampNeg (0 : Int32)))]) (h1 := h1) am_q241 rfl rfl rfl (am_xx (lk259 Ly) (am_inl (ln259 Ly) g3)) ?_
  exact ev_r (v := some (.int (am_gi h1 259 (Int32.toNatClampNeg (0 : Int32))))) am_q241 rfl rfl rfl rfl H
/-! 242: X12_moves -/
set_option maxRecDepth 20000 in
set_option maxHeartbeats 2000000 in
theorem ws242 {d : Nat}  (i1 : Int32) {h : AH} {Q : Option Value → AH → Prop} (Ly : Lay h) (H : Cl d 169 [.ref 216, .int i1] h (fun r2 h1 => ∃ x3, r2 = some (.int x3) ∧ Lay h1 ∧ ((¬ x3 = (0 : Int32)) → Cl d 240 [.ref 216] h1 (fun r5 h4 => r5 = none ∧ Lay h4 ∧ Ev (d + 1) 242 17 [.ref 216, .int i1, .int (0 : Int32)] [] h4 Q)) ∧ (¬ (¬ x3 = (0 : Int32)) → Q (some (.int (-2 : Int32))) h1))) : Cl (d + 1) 242 [.ref 216, .int i1] h Q := by
  show Ev (d + 1) 242 0 [.ref 216, .int i1, .null] [] h Q
  refine ev_p (pc' := 2) (loc' := [.ref 216, .int i1, .null]) (st' := [.int i1, .ref 216]) 2 am_q242 rfl ?_
  refine ev_c (vs := [.ref 216, .int i1]) (rest := []) 169 am_q242 rfl rfl rfl rfl rfl rfl rfl rfl rfl rfl rfl rfl (Or.inr (congrArg some (lk216 Ly))) (Cl.mono H (Nat.le_refl _) (fun r2 h1 H => ?_))
  obtain ⟨x3, rfl, Ly, H⟩ := H
  refine ev_jz (t := 11) am_q242 rfl rfl (fun hq => ?_) (fun hq => ?_)
  · replace H := H.1 hq
    refine ev_p (pc' := 12) (loc' := [.ref 216, .int i1, .null]) (st' := [.ref 216]) 1 am_q242 rfl ?_
    refine ev_c (vs := [.ref 216]) (rest := []) 240 am_q242 rfl rfl rfl rfl rfl rfl rfl rfl rfl rfl rfl rfl (Or.inr (congrArg some (lk216 Ly))) (Cl.mono H (Nat.le_refl _) (fun r5 h4 H => ?_))
    obtain ⟨rfl, Ly, H⟩ := H
    refine ev_p (pc' := 17) (loc' := [.ref 216, .int i1, .int (0 : Int32)]) (st' := []) 2 am_q242 rfl ?_
    exact ev_m (loc' := [.ref 216, .int i1, .int (0 : Int32)]) am_q242 rfl rfl H
  · replace H := H.2 hq
    refine ev_p (pc' := 10) (loc' := [.ref 216, .int i1, .null]) (st' := [.int (-2 : Int32)]) 1 am_q242 rfl ?_
    exact ev_r (v := some (.int (-2 : Int32))) am_q242 rfl rfl rfl rfl H
set_option maxRecDepth 20000 in
set_option maxHeartbeats 2000000 in
theorem ws242_17 {d : Nat}  (i1 : Int32) (i2 : Int32) {h : AH} {Q : Option Value → AH → Prop} (Ly : Lay h) (H : ((am_gi h 216 61) ≤ i2 → Q (some (.int (-1 : Int32))) h) ∧ (¬ (am_gi h 216 61) ≤ i2 → am_in i2 24 ∧ ((¬ (am_gi h 256 (Int32.toNatClampNeg i2)) = i1) → Ev (d + 1) 242 17 [.ref 216, .int i1, .int (i2 + (1 : Int32))] [] h Q) ∧ (¬ (¬ (am_gi h 256 (Int32.toNatClampNeg i2)) = i1) → am_in i2 24 ∧ am_in i2 24 ∧ ((am_gi h 258 (Int32.toNatClampNeg i2)) = (am_gi h 257 (Int32.toNatClampNeg i2)) → Ev (d + 1) 242 17 [.ref 216, .int i1, .int (i2 + (1 : Int32))] [] h Q) ∧ (¬ (am_gi h 258 (Int32.toNatClampNeg i2)) = (am_gi h 257 (Int32.toNatClampNeg i2)) → am_in i2 24 ∧ Q (some (.int (am_gi h 258 (Int32.toNatClampNeg i2)))) h)))) : Ev (d + 1) 242 17 [.ref 216, .int i1, .int i2] [] h Q := by
  refine ev_p (pc' := 19) (loc' := [.ref 216, .int i1, .int i2]) (st' := [.ref 216, .int i2]) 2 am_q242 rfl ?_
  refine ev_s (pc' := 22) (loc' := [.ref 216, .int i1, .int i2]) (st' := [.int (am_gi h 216 61), .int i2]) (h1 := h) am_q242 rfl rfl rfl (if_pos (e := none) (lk216 Ly)) ?_
  refine ev_jc (t := 63) am_q242 rfl rfl (fun hq => ?_) (fun hq => ?_)
  · replace H := H.1 hq
    refine ev_p (pc' := 64) (loc' := [.ref 216, .int i1, .int i2]) (st' := [.int (-1 : Int32)]) 1 am_q242 rfl ?_
    exact ev_r (v := some (.int (-1 : Int32))) am_q242 rfl rfl rfl rfl H
  · replace H := H.2 hq
    refine ev_p (pc' := 26) (loc' := [.ref 216, .int i1, .int i2]) (st' := [.ref 216]) 1 am_q242 rfl ?_
    refine ev_s (pc' := 29) (loc' := [.ref 216, .int i1, .int i2]) (st' := [.ref 256]) (h1 := h) am_q242 rfl rfl rfl (am_gf2 (lk216 Ly) (lr216_62 Ly)) ?_
    refine ev_p (pc' := 30) (loc' := [.ref 216, .int i1, .int i2]) (st' := [.int i2, .ref 256]) 1 am_q242 rfl ?_
    obtain ⟨g1, H⟩ := H
    refine ev_s (pc' := 31) (loc' := [.ref 216, .int i1, .int i2]) (st' := [.int (am_gi h 256 (Int32.toNatClampNeg i2))]) (h1 := h) am_q242 rfl rfl rfl (am_xx (lk256 Ly) (am_inl (ln256 Ly) g1)) ?_
    refine ev_p (pc' := 32) (loc' := [.ref 216, .int i1, .int i2]) (st' := [.int i1, .int (am_gi h 256 (Int32.toNatClampNeg i2))]) 1 am_q242 rfl ?_
    refine ev_jc (t := 57) am_q242 rfl rfl (fun hq => ?_) (fun hq => ?_)
    · replace H := H.1 hq
      refine ev_p (pc' := 17) (loc' := [.ref 216, .int i1, .int (i2 + (1 : Int32))]) (st' := []) 2 am_q242 rfl ?_
      exact ev_m (loc' := [.ref 216, .int i1, .int (i2 + (1 : Int32))]) am_q242 rfl rfl H
    · replace H := H.2 hq
      refine ev_p (pc' := 36) (loc' := [.ref 216, .int i1, .int i2]) (st' := [.ref 216]) 1 am_q242 rfl ?_
      refine ev_s (pc' := 39) (loc' := [.ref 216, .int i1, .int i2]) (st' := [.ref 258]) (h1 := h) am_q242 rfl rfl rfl (am_gf2 (lk216 Ly) (lr216_64 Ly)) ?_
      refine ev_p (pc' := 40) (loc' := [.ref 216, .int i1, .int i2]) (st' := [.int i2, .ref 258]) 1 am_q242 rfl ?_
      obtain ⟨g2, H⟩ := H
      refine ev_s (pc' := 41) (loc' := [.ref 216, .int i1, .int i2]) (st' := [.int (am_gi h 258 (Int32.toNatClampNeg i2))]) (h1 := h) am_q242 rfl rfl rfl (am_xx (lk258 Ly) (am_inl (ln258 Ly) g2)) ?_
      refine ev_p (pc' := 42) (loc' := [.ref 216, .int i1, .int i2]) (st' := [.ref 216, .int (am_gi h 258 (Int32.toNatClampNeg i2))]) 1 am_q242 rfl ?_
      refine ev_s (pc' := 45) (loc' := [.ref 216, .int i1, .int i2]) (st' := [.ref 257, .int (am_gi h 258 (Int32.toNatClampNeg i2))]) (h1 := h) am_q242 rfl rfl rfl (am_gf2 (lk216 Ly) (lr216_63 Ly)) ?_
      refine ev_p (pc' := 46) (loc' := [.ref 216, .int i1, .int i2]) (st' := [.int i2, .ref 257, .int (am_gi h 258 (Int32.toNatClampNeg i2))]) 1 am_q242 rfl ?_
      obtain ⟨g3, H⟩ := H
      refine ev_s (pc' := 47) (loc' := [.ref 216, .int i1, .int i2]) (st' := [.int (am_gi h 257 (Int32.toNatClampNeg i2)), .int (am_gi h 258 (Int32.toNatClampNeg i2))]) (h1 := h) am_q242 rfl rfl rfl (am_xx (lk257 Ly) (am_inl (ln257 Ly) g3)) ?_
      refine ev_jc (t := 57) am_q242 rfl rfl (fun hq => ?_) (fun hq => ?_)
      · replace H := H.1 hq
        refine ev_p (pc' := 17) (loc' := [.ref 216, .int i1, .int (i2 + (1 : Int32))]) (st' := []) 2 am_q242 rfl ?_
        exact ev_m (loc' := [.ref 216, .int i1, .int (i2 + (1 : Int32))]) am_q242 rfl rfl H
      · replace H := H.2 hq
        refine ev_p (pc' := 51) (loc' := [.ref 216, .int i1, .int i2]) (st' := [.ref 216]) 1 am_q242 rfl ?_
        refine ev_s (pc' := 54) (loc' := [.ref 216, .int i1, .int i2]) (st' := [.ref 258]) (h1 := h) am_q242 rfl rfl rfl (am_gf2 (lk216 Ly) (lr216_64 Ly)) ?_
        refine ev_p (pc' := 55) (loc' := [.ref 216, .int i1, .int i2]) (st' := [.int i2, .ref 258]) 1 am_q242 rfl ?_
        obtain ⟨g4, H⟩ := H
        refine ev_s (pc' := 56) (loc' := [.ref 216, .int i1, .int i2]) (st' := [.int (am_gi h 258 (Int32.toNatClampNeg i2))]) (h1 := h) am_q242 rfl rfl rfl (am_xx (lk258 Ly) (am_inl (ln258 Ly) g4)) ?_
        exact ev_r (v := some (.int (am_gi h 258 (Int32.toNatClampNeg i2)))) am_q242 rfl rfl rfl rfl H
/-! 243: X12_change -/
set_option maxRecDepth 20000 in
set_option maxHeartbeats 2000000 in
theorem ws243 {d : Nat}   {h : AH} {Q : Option Value → AH → Prop} (Ly : Lay h) (H : Cl d 240 [.ref 216] h (fun r2 h1 => r2 = none ∧ Lay h1 ∧ am_in (0 : Int32) 53248 ∧ (((am_gi h1 216 14) + (am_gi h1 259 (Int32.toNatClampNeg (0 : Int32)))) ≤ (60 : Int32) → Ev (d + 1) 243 27 [.ref 216, .int (am_gi h1 259 (Int32.toNatClampNeg (0 : Int32))), .int (0 : Int32), .null] [] h1 Q) ∧ (¬ ((am_gi h1 216 14) + (am_gi h1 259 (Int32.toNatClampNeg (0 : Int32)))) ≤ (60 : Int32) → Q (some (.int (-4 : Int32))) h1))) : Cl (d + 1) 243 [.ref 216] h Q := by
  show Ev (d + 1) 243 0 [.ref 216, .null, .null, .null] [] h Q
  refine ev_p (pc' := 1) (loc' := [.ref 216, .null, .null, .null]) (st' := [.ref 216]) 1 am_q243 rfl ?_
  refine ev_c (vs := [.ref 216]) (rest := []) 240 am_q243 rfl rfl rfl rfl rfl rfl rfl rfl rfl rfl rfl rfl (Or.inr (congrArg some (lk216 Ly))) (Cl.mono H (Nat.le_refl _) (fun r2 h1 H => ?_))
  obtain ⟨rfl, Ly, H⟩ := H
  refine ev_p (pc' := 5) (loc' := [.ref 216, .null, .null, .null]) (st' := [.ref 216]) 1 am_q243 rfl ?_
  refine ev_s (pc' := 8) (loc' := [.ref 216, .null, .null, .null]) (st' := [.ref 259]) (h1 := h1) am_q243 rfl rfl rfl (am_gf2 (lk216 Ly) (lr216_65 Ly)) ?_
  refine ev_p (pc' := 9) (loc' := [.ref 216, .null, .null, .null]) (st' := [.int (0 : Int32), .ref 259]) 1 am_q243 rfl ?_
  obtain ⟨g3, H⟩ := H
  refine ev_s (pc' := 10) (loc' := [.ref 216, .null, .null, .null]) (st' := [.int (am_gi h1 259 (Int32.toNatClampNeg (0 : Int32)))]) (h1 := h1) am_q243 rfl rfl rfl (am_xx (lk259 Ly) (am_inl (ln259 Ly) g3)) ?_
  refine ev_p (pc' := 12) (loc' := [.ref 216, .int (am_gi h1 259 (Int32.toNatClampNeg (0 : Int32))), .null, .null]) (st' := [.ref 216]) 2 am_q243 rfl ?_
  refine ev_s (pc' := 15) (loc' := [.ref 216, .int (am_gi h1 259 (Int32.toNatClampNeg (0 : Int32))), .null, .null]) (st' := [.int (am_gi h1 216 14)]) (h1 := h1) am_q243 rfl rfl rfl (if_pos (e := none) (lk216 Ly)) ?_
  refine ev_p (pc' := 19) (loc' := [.ref 216, .int (am_gi h1 259 (Int32.toNatClampNeg (0 : Int32))), .null, .null]) (st' := [.int (60 : Int32), .int ((am_gi h1 216 14) + (am_gi h1 259 (Int32.toNatClampNeg (0 : Int32))))]) 3 am_q243 rfl ?_
  refine ev_jc (t := 25) am_q243 rfl rfl (fun hq => ?_) (fun hq => ?_)
  · replace H := H.1 hq
    refine ev_p (pc' := 27) (loc' := [.ref 216, .int (am_gi h1 259 (Int32.toNatClampNeg (0 : Int32))), .int (0 : Int32), .null]) (st' := []) 2 am_q243 rfl ?_
    exact ev_m (loc' := [.ref 216, .int (am_gi h1 259 (Int32.toNatClampNeg (0 : Int32))), .int (0 : Int32), .null]) am_q243 rfl rfl H
  · replace H := H.2 hq
    refine ev_p (pc' := 24) (loc' := [.ref 216, .int (am_gi h1 259 (Int32.toNatClampNeg (0 : Int32))), .null, .null]) (st' := [.int (-4 : Int32)]) 1 am_q243 rfl ?_
    exact ev_r (v := some (.int (-4 : Int32))) am_q243 rfl rfl rfl rfl H
set_option maxRecDepth 20000 in
set_option maxHeartbeats 2000000 in
theorem ws243_27 {d : Nat}  (i1 : Int32) (i2 : Int32) {h : AH} {Q : Option Value → AH → Prop} (Ly : Lay h) (H : ((am_gi h 216 61) ≤ i2 → Ev (d + 1) 243 82 [.ref 216, .int i1, .int (0 : Int32), .null] [] h Q) ∧ (¬ (am_gi h 216 61) ≤ i2 → am_in i2 24 ∧ am_in i2 24 ∧ ((am_gi h 258 (Int32.toNatClampNeg i2)) = (am_gi h 257 (Int32.toNatClampNeg i2)) → am_in i2 24 ∧ ∀ h4, h4 = am_si h 260 (Int32.toNatClampNeg i2) (-1 : Int32) → Ev (d + 1) 243 27 [.ref 216, .int i1, .int (i2 + (1 : Int32)), .null] [] h4 Q) ∧ (¬ (am_gi h 258 (Int32.toNatClampNeg i2)) = (am_gi h 257 (Int32.toNatClampNeg i2)) → am_in i2 24 ∧ Cl d 174 [.ref 216, .int (am_gi h 256 (Int32.toNatClampNeg i2)), .int (am_gi h 216 0)] h (fun r7 h6 => ∃ x8, r7 = some (.int x8) ∧ Lay h6 ∧ am_in i2 24 ∧ ∀ h10, h10 = am_si h6 260 (Int32.toNatClampNeg i2) x8 → Ev (d + 1) 243 27 [.ref 216, .int i1, .int (i2 + (1 : Int32)), .null] [] h10 Q)))) : Ev (d + 1) 243 27 [.ref 216, .int i1, .int i2, .null] [] h Q := by
  refine ev_p (pc' := 29) (loc' := [.ref 216, .int i1, .int i2, .null]) (st' := [.ref 216, .int i2]) 2 am_q243 rfl ?_
  refine ev_s (pc' := 32) (loc' := [.ref 216, .int i1, .int i2, .null]) (st' := [.int (am_gi h 216 61), .int i2]) (h1 := h) am_q243 rfl rfl rfl (if_pos (e := none) (lk216 Ly)) ?_
  refine ev_jc (t := 80) am_q243 rfl rfl (fun hq => ?_) (fun hq => ?_)
  · replace H := H.1 hq
    refine ev_p (pc' := 82) (loc' := [.ref 216, .int i1, .int (0 : Int32), .null]) (st' := []) 2 am_q243 rfl ?_
    exact ev_m (loc' := [.ref 216, .int i1, .int (0 : Int32), .null]) am_q243 rfl rfl H
  · replace H := H.2 hq
    refine ev_p (pc' := 36) (loc' := [.ref 216, .int i1, .int i2, .null]) (st' := [.ref 216]) 1 am_q243 rfl ?_
    refine ev_s (pc' := 39) (loc' := [.ref 216, .int i1, .int i2, .null]) (st' := [.ref 260]) (h1 := h) am_q243 rfl rfl rfl (am_gf2 (lk216 Ly) (lr216_67 Ly)) ?_
    refine ev_p (pc' := 41) (loc' := [.ref 216, .int i1, .int i2, .null]) (st' := [.ref 216, .int i2, .ref 260]) 2 am_q243 rfl ?_
    refine ev_s (pc' := 44) (loc' := [.ref 216, .int i1, .int i2, .null]) (st' := [.ref 258, .int i2, .ref 260]) (h1 := h) am_q243 rfl rfl rfl (am_gf2 (lk216 Ly) (lr216_64 Ly)) ?_
    refine ev_p (pc' := 45) (loc' := [.ref 216, .int i1, .int i2, .null]) (st' := [.int i2, .ref 258, .int i2, .ref 260]) 1 am_q243 rfl ?_
    obtain ⟨g1, H⟩ := H
    refine ev_s (pc' := 46) (loc' := [.ref 216, .int i1, .int i2, .null]) (st' := [.int (am_gi h 258 (Int32.toNatClampNeg i2)), .int i2, .ref 260]) (h1 := h) am_q243 rfl rfl rfl (am_xx (lk258 Ly) (am_inl (ln258 Ly) g1)) ?_
    refine ev_p (pc' := 47) (loc' := [.ref 216, .int i1, .int i2, .null]) (st' := [.ref 216, .int (am_gi h 258 (Int32.toNatClampNeg i2)), .int i2, .ref 260]) 1 am_q243 rfl ?_
    refine ev_s (pc' := 50) (loc' := [.ref 216, .int i1, .int i2, .null]) (st' := [.ref 257, .int (am_gi h 258 (Int32.toNatClampNeg i2)), .int i2, .ref 260]) (h1 := h) am_q243 rfl rfl rfl (am_gf2 (lk216 Ly) (lr216_63 Ly)) ?_
    refine ev_p (pc' := 51) (loc' := [.ref 216, .int i1, .int i2, .null]) (st' := [.int i2, .ref 257, .int (am_gi h 258 (Int32.toNatClampNeg i2)), .int i2, .ref 260]) 1 am_q243 rfl ?_
    obtain ⟨g2, H⟩ := H
    refine ev_s (pc' := 52) (loc' := [.ref 216, .int i1, .int i2, .null]) (st' := [.int (am_gi h 257 (Int32.toNatClampNeg i2)), .int (am_gi h 258 (Int32.toNatClampNeg i2)), .int i2, .ref 260]) (h1 := h) am_q243 rfl rfl rfl (am_xx (lk257 Ly) (am_inl (ln257 Ly) g2)) ?_
    refine ev_jc (t := 72) am_q243 rfl rfl (fun hq => ?_) (fun hq => ?_)
    · replace H := H.1 hq
      refine ev_p (pc' := 73) (loc' := [.ref 216, .int i1, .int i2, .null]) (st' := [.int (-1 : Int32), .int i2, .ref 260]) 1 am_q243 rfl ?_
      obtain ⟨g3, H⟩ := H
      refine ev_s (pc' := 74) (loc' := [.ref 216, .int i1, .int i2, .null]) (st' := []) (h1 := am_si h 260 (Int32.toNatClampNeg i2) (-1 : Int32)) am_q243 rfl rfl rfl (am_xx ⟨lk260 Ly, (Nat.le_of_ble_eq_true rfl)⟩ (am_inl (ln260 Ly) g3)) ?_
      replace H := H _ rfl
      replace Ly : Lay (am_si h 260 (Int32.toNatClampNeg i2) (-1 : Int32)) := Ly.si _ _ _
      generalize am_si h 260 (Int32.toNatClampNeg i2) (-1 : Int32) = h4 at H Ly ⊢
      refine ev_p (pc' := 27) (loc' := [.ref 216, .int i1, .int (i2 + (1 : Int32)), .null]) (st' := []) 2 am_q243 rfl ?_
      exact ev_m (loc' := [.ref 216, .int i1, .int (i2 + (1 : Int32)), .null]) am_q243 rfl rfl H
    · replace H := H.2 hq
      refine ev_p (pc' := 57) (loc' := [.ref 216, .int i1, .int i2, .null]) (st' := [.ref 216, .ref 216, .int i2, .ref 260]) 2 am_q243 rfl ?_
      refine ev_s (pc' := 60) (loc' := [.ref 216, .int i1, .int i2, .null]) (st' := [.ref 256, .ref 216, .int i2, .ref 260]) (h1 := h) am_q243 rfl rfl rfl (am_gf2 (lk216 Ly) (lr216_62 Ly)) ?_
      refine ev_p (pc' := 61) (loc' := [.ref 216, .int i1, .int i2, .null]) (st' := [.int i2, .ref 256, .ref 216, .int i2, .ref 260]) 1 am_q243 rfl ?_
      obtain ⟨g5, H⟩ := H
      refine ev_s (pc' := 62) (loc' := [.ref 216, .int i1, .int i2, .null]) (st' := [.int (am_gi h 256 (Int32.toNatClampNeg i2)), .ref 216, .int i2, .ref 260]) (h1 := h) am_q243 rfl rfl rfl (am_xx (lk256 Ly) (am_inl (ln256 Ly) g5)) ?_
      refine ev_p (pc' := 63) (loc' := [.ref 216, .int i1, .int i2, .null]) (st' := [.ref 216, .int (am_gi h 256 (Int32.toNatClampNeg i2)), .ref 216, .int i2, .ref 260]) 1 am_q243 rfl ?_
      refine ev_s (pc' := 66) (loc' := [.ref 216, .int i1, .int i2, .null]) (st' := [.int (am_gi h 216 0), .int (am_gi h 256 (Int32.toNatClampNeg i2)), .ref 216, .int i2, .ref 260]) (h1 := h) am_q243 rfl rfl rfl (if_pos (e := none) (lk216 Ly)) ?_
      refine ev_c (vs := [.ref 216, .int (am_gi h 256 (Int32.toNatClampNeg i2)), .int (am_gi h 216 0)]) (rest := [.int i2, .ref 260]) 174 am_q243 rfl rfl rfl rfl rfl rfl rfl rfl rfl rfl rfl rfl (Or.inr (congrArg some (lk216 Ly))) (Cl.mono H (Nat.le_refl _) (fun r7 h6 H => ?_))
      obtain ⟨x8, rfl, Ly, H⟩ := H
      refine ev_p (pc' := 73) (loc' := [.ref 216, .int i1, .int i2, .null]) (st' := [.int x8, .int i2, .ref 260]) 1 am_q243 rfl ?_
      obtain ⟨g9, H⟩ := H
      refine ev_s (pc' := 74) (loc' := [.ref 216, .int i1, .int i2, .null]) (st' := []) (h1 := am_si h6 260 (Int32.toNatClampNeg i2) x8) am_q243 rfl rfl rfl (am_xx ⟨lk260 Ly, (Nat.le_of_ble_eq_true rfl)⟩ (am_inl (ln260 Ly) g9)) ?_
      replace H := H _ rfl
      replace Ly : Lay (am_si h6 260 (Int32.toNatClampNeg i2) x8) := Ly.si _ _ _
      generalize am_si h6 260 (Int32.toNatClampNeg i2) x8 = h10 at H Ly ⊢
      refine ev_p (pc' := 27) (loc' := [.ref 216, .int i1, .int (i2 + (1 : Int32)), .null]) (st' := []) 2 am_q243 rfl ?_
      exact ev_m (loc' := [.ref 216, .int i1, .int (i2 + (1 : Int32)), .null]) am_q243 rfl rfl H
set_option maxRecDepth 20000 in
set_option maxHeartbeats 2000000 in
theorem ws243_82 {d : Nat}  (i1 : Int32) (i2 : Int32) {h : AH} {Q : Option Value → AH → Prop} (Ly : Lay h) (H : ((am_gi h 216 61) ≤ i2 → Q (some (.int i1)) h) ∧ (¬ (am_gi h 216 61) ≤ i2 → am_in i2 24 ∧ ((am_gi h 260 (Int32.toNatClampNeg i2)) = (-1 : Int32) → Ev (d + 1) 243 82 [.ref 216, .int i1, .int (i2 + (1 : Int32)), .null] [] h Q) ∧ (¬ (am_gi h 260 (Int32.toNatClampNeg i2)) = (-1 : Int32) → am_in (am_gi h 260 (Int32.toNatClampNeg i2)) 60 ∧ ∀ h3, h3 = am_si h 233 (Int32.toNatClampNeg (am_gi h 260 (Int32.toNatClampNeg i2))) (am_gi h 216 0) → am_in (am_gi h 260 (Int32.toNatClampNeg i2)) 60 ∧ am_in i2 24 ∧ am_in (am_gi h 260 (Int32.toNatClampNeg i2)) 60 ∧ am_in (am_gi h 260 (Int32.toNatClampNeg i2)) 60 ∧ Cl d 175 [.ref 216, .int (am_gi h3 228 (Int32.toNatClampNeg (am_gi h 260 (Int32.toNatClampNeg i2)))), .int (am_gi h3 258 (Int32.toNatClampNeg i2)), .int (am_gi h3 230 (Int32.toNatClampNeg (am_gi h 260 (Int32.toNatClampNeg i2)))), .int (am_gi h3 231 (Int32.toNatClampNeg (am_gi h 260 (Int32.toNatClampNeg i2)))), .int (-1 : Int32)] h3 (fun r9 h8 => ∃ x10, r9 = some (.int x10) ∧ Lay h8 ∧ am_in i2 24 ∧ am_in (am_gi h8 256 (Int32.toNatClampNeg i2)) 24 ∧ ∀ h13, h13 = am_si h8 226 (Int32.toNatClampNeg (am_gi h8 256 (Int32.toNatClampNeg i2))) (0 : Int32) → Ev (d + 1) 243 82 [.ref 216, .int i1, .int (i2 + (1 : Int32)), .null] [] h13 Q)))) : Ev (d + 1) 243 82 [.ref 216, .int i1, .int i2, .null] [] h Q := by
  refine ev_p (pc' := 84) (loc' := [.ref 216, .int i1, .int i2, .null]) (st' := [.ref 216, .int i2]) 2 am_q243 rfl ?_
  refine ev_s (pc' := 87) (loc' := [.ref 216, .int i1, .int i2, .null]) (st' := [.int (am_gi h 216 61), .int i2]) (h1 := h) am_q243 rfl rfl rfl (if_pos (e := none) (lk216 Ly)) ?_
  refine ev_jc (t := 160) am_q243 rfl rfl (fun hq => ?_) (fun hq => ?_)
  · replace H := H.1 hq
    refine ev_p (pc' := 161) (loc' := [.ref 216, .int i1, .int i2, .null]) (st' := [.int i1]) 1 am_q243 rfl ?_
    exact ev_r (v := some (.int i1)) am_q243 rfl rfl rfl rfl H
  · replace H := H.2 hq
    refine ev_p (pc' := 91) (loc' := [.ref 216, .int i1, .int i2, .null]) (st' := [.ref 216]) 1 am_q243 rfl ?_
    refine ev_s (pc' := 94) (loc' := [.ref 216, .int i1, .int i2, .null]) (st' := [.ref 260]) (h1 := h) am_q243 rfl rfl rfl (am_gf2 (lk216 Ly) (lr216_67 Ly)) ?_
    refine ev_p (pc' := 95) (loc' := [.ref 216, .int i1, .int i2, .null]) (st' := [.int i2, .ref 260]) 1 am_q243 rfl ?_
    obtain ⟨g1, H⟩ := H
    refine ev_s (pc' := 96) (loc' := [.ref 216, .int i1, .int i2, .null]) (st' := [.int (am_gi h 260 (Int32.toNatClampNeg i2))]) (h1 := h) am_q243 rfl rfl rfl (am_xx (lk260 Ly) (am_inl (ln260 Ly) g1)) ?_
    refine ev_p (pc' := 99) (loc' := [.ref 216, .int i1, .int i2, .int (am_gi h 260 (Int32.toNatClampNeg i2))]) (st' := [.int (-1 : Int32), .int (am_gi h 260 (Int32.toNatClampNeg i2))]) 3 am_q243 rfl ?_
    refine ev_jc (t := 154) am_q243 rfl rfl (fun hq => ?_) (fun hq => ?_)
    · replace H := H.1 hq
      refine ev_p (pc' := 82) (loc' := [.ref 216, .int i1, .int (i2 + (1 : Int32)), .null]) (st' := []) 2 am_q243 rfl ?_
      exact ev_m (loc' := [.ref 216, .int i1, .int (i2 + (1 : Int32)), .null]) am_q243 rfl rfl H
    · replace H := H.2 hq
      refine ev_p (pc' := 103) (loc' := [.ref 216, .int i1, .int i2, .int (am_gi h 260 (Int32.toNatClampNeg i2))]) (st' := [.ref 216]) 1 am_q243 rfl ?_
      refine ev_s (pc' := 106) (loc' := [.ref 216, .int i1, .int i2, .int (am_gi h 260 (Int32.toNatClampNeg i2))]) (st' := [.ref 233]) (h1 := h) am_q243 rfl rfl rfl (am_gf2 (lk216 Ly) (lr216_20 Ly)) ?_
      refine ev_p (pc' := 108) (loc' := [.ref 216, .int i1, .int i2, .int (am_gi h 260 (Int32.toNatClampNeg i2))]) (st' := [.ref 216, .int (am_gi h 260 (Int32.toNatClampNeg i2)), .ref 233]) 2 am_q243 rfl ?_
      refine ev_s (pc' := 111) (loc' := [.ref 216, .int i1, .int i2, .int (am_gi h 260 (Int32.toNatClampNeg i2))]) (st' := [.int (am_gi h 216 0), .int (am_gi h 260 (Int32.toNatClampNeg i2)), .ref 233]) (h1 := h) am_q243 rfl rfl rfl (if_pos (e := none) (lk216 Ly)) ?_
      obtain ⟨g2, H⟩ := H
      refine ev_s (pc' := 112) (loc' := [.ref 216, .int i1, .int i2, .int (am_gi h 260 (Int32.toNatClampNeg i2))]) (st' := []) (h1 := am_si h 233 (Int32.toNatClampNeg (am_gi h 260 (Int32.toNatClampNeg i2))) (am_gi h 216 0)) am_q243 rfl rfl rfl (am_xx ⟨lk233 Ly, (Nat.le_of_ble_eq_true rfl)⟩ (am_inl (ln233 Ly) g2)) ?_
      replace H := H _ rfl
      replace Ly : Lay (am_si h 233 (Int32.toNatClampNeg (am_gi h 260 (Int32.toNatClampNeg i2))) (am_gi h 216 0)) := Ly.si _ _ _
      generalize am_si h 233 (Int32.toNatClampNeg (am_gi h 260 (Int32.toNatClampNeg i2))) (am_gi h 216 0) = h3 at H Ly ⊢
      refine ev_p (pc' := 114) (loc' := [.ref 216, .int i1, .int i2, .int (am_gi h 260 (Int32.toNatClampNeg i2))]) (st' := [.ref 216, .ref 216]) 2 am_q243 rfl ?_
      refine ev_s (pc' := 117) (loc' := [.ref 216, .int i1, .int i2, .int (am_gi h 260 (Int32.toNatClampNeg i2))]) (st' := [.ref 228, .ref 216]) (h1 := h3) am_q243 rfl rfl rfl (am_gf2 (lk216 Ly) (lr216_15 Ly)) ?_
      refine ev_p (pc' := 118) (loc' := [.ref 216, .int i1, .int i2, .int (am_gi h 260 (Int32.toNatClampNeg i2))]) (st' := [.int (am_gi h 260 (Int32.toNatClampNeg i2)), .ref 228, .ref 216]) 1 am_q243 rfl ?_
      obtain ⟨g4, H⟩ := H
      refine ev_s (pc' := 119) (loc' := [.ref 216, .int i1, .int i2, .int (am_gi h 260 (Int32.toNatClampNeg i2))]) (st' := [.int (am_gi h3 228 (Int32.toNatClampNeg (am_gi h 260 (Int32.toNatClampNeg i2)))), .ref 216]) (h1 := h3) am_q243 rfl rfl rfl (am_xx (lk228 Ly) (am_inl (ln228 Ly) g4)) ?_
      refine ev_p (pc' := 120) (loc' := [.ref 216, .int i1, .int i2, .int (am_gi h 260 (Int32.toNatClampNeg i2))]) (st' := [.ref 216, .int (am_gi h3 228 (Int32.toNatClampNeg (am_gi h 260 (Int32.toNatClampNeg i2)))), .ref 216]) 1 am_q243 rfl ?_
      refine ev_s (pc' := 123) (loc' := [.ref 216, .int i1, .int i2, .int (am_gi h 260 (Int32.toNatClampNeg i2))]) (st' := [.ref 258, .int (am_gi h3 228 (Int32.toNatClampNeg (am_gi h 260 (Int32.toNatClampNeg i2)))), .ref 216]) (h1 := h3) am_q243 rfl rfl rfl (am_gf2 (lk216 Ly) (lr216_64 Ly)) ?_
      refine ev_p (pc' := 124) (loc' := [.ref 216, .int i1, .int i2, .int (am_gi h 260 (Int32.toNatClampNeg i2))]) (st' := [.int i2, .ref 258, .int (am_gi h3 228 (Int32.toNatClampNeg (am_gi h 260 (Int32.toNatClampNeg i2)))), .ref 216]) 1 am_q243 rfl ?_
      obtain ⟨g5, H⟩ := H
      refine ev_s (pc' := 125) (loc' := [.ref 216, .int i1, .int i2, .int (am_gi h 260 (Int32.toNatClampNeg i2))]) (st' := [.int (am_gi h3 258 (Int32.toNatClampNeg i2)), .int (am_gi h3 228 (Int32.toNatClampNeg (am_gi h 260 (Int32.toNatClampNeg i2)))), .ref 216]) (h1 := h3) am_q243 rfl rfl rfl (am_xx (lk258 Ly) (am_inl (ln258 Ly) g5)) ?_
      refine ev_p (pc' := 126) (loc' := [.ref 216, .int i1, .int i2, .int (am_gi h 260 (Int32.toNatClampNeg i2))]) (st' := [.ref 216, .int (am_gi h3 258 (Int32.toNatClampNeg i2)), .int (am_gi h3 228 (Int32.toNatClampNeg (am_gi h 260 (Int32.toNatClampNeg i2)))), .ref 216]) 1 am_q243 rfl ?_
      refine ev_s (pc' := 129) (loc' := [.ref 216, .int i1, .int i2, .int (am_gi h 260 (Int32.toNatClampNeg i2))]) (st' := [.ref 230, .int (am_gi h3 258 (Int32.toNatClampNeg i2)), .int (am_gi h3 228 (Int32.toNatClampNeg (am_gi h 260 (Int32.toNatClampNeg i2)))), .ref 216]) (h1 := h3) am_q243 rfl rfl rfl (am_gf2 (lk216 Ly) (lr216_17 Ly)) ?_
      refine ev_p (pc' := 130) (loc' := [.ref 216, .int i1, .int i2, .int (am_gi h 260 (Int32.toNatClampNeg i2))]) (st' := [.int (am_gi h 260 (Int32.toNatClampNeg i2)), .ref 230, .int (am_gi h3 258 (Int32.toNatClampNeg i2)), .int (am_gi h3 228 (Int32.toNatClampNeg (am_gi h 260 (Int32.toNatClampNeg i2)))), .ref 216]) 1 am_q243 rfl ?_
      obtain ⟨g6, H⟩ := H
      refine ev_s (pc' := 131) (loc' := [.ref 216, .int i1, .int i2, .int (am_gi h 260 (Int32.toNatClampNeg i2))]) (st' := [.int (am_gi h3 230 (Int32.toNatClampNeg (am_gi h 260 (Int32.toNatClampNeg i2)))), .int (am_gi h3 258 (Int32.toNatClampNeg i2)), .int (am_gi h3 228 (Int32.toNatClampNeg (am_gi h 260 (Int32.toNatClampNeg i2)))), .ref 216]) (h1 := h3) am_q243 rfl rfl rfl (am_xx (lk230 Ly) (am_inl (ln230 Ly) g6)) ?_
      refine ev_p (pc' := 132) (loc' := [.ref 216, .int i1, .int i2, .int (am_gi h 260 (Int32.toNatClampNeg i2))]) (st' := [.ref 216, .int (am_gi h3 230 (Int32.toNatClampNeg (am_gi h 260 (Int32.toNatClampNeg i2)))), .int (am_gi h3 258 (Int32.toNatClampNeg i2)), .int (am_gi h3 228 (Int32.toNatClampNeg (am_gi h 260 (Int32.toNatClampNeg i2)))), .ref 216]) 1 am_q243 rfl ?_
      refine ev_s (pc' := 135) (loc' := [.ref 216, .int i1, .int i2, .int (am_gi h 260 (Int32.toNatClampNeg i2))]) (st' := [.ref 231, .int (am_gi h3 230 (Int32.toNatClampNeg (am_gi h 260 (Int32.toNatClampNeg i2)))), .int (am_gi h3 258 (Int32.toNatClampNeg i2)), .int (am_gi h3 228 (Int32.toNatClampNeg (am_gi h 260 (Int32.toNatClampNeg i2)))), .ref 216]) (h1 := h3) am_q243 rfl rfl rfl (am_gf2 (lk216 Ly) (lr216_18 Ly)) ?_
      refine ev_p (pc' := 136) (loc' := [.ref 216, .int i1, .int i2, .int (am_gi h 260 (Int32.toNatClampNeg i2))]) (st' := [.int (am_gi h 260 (Int32.toNatClampNeg i2)), .ref 231, .int (am_gi h3 230 (Int32.toNatClampNeg (am_gi h 260 (Int32.toNatClampNeg i2)))), .int (am_gi h3 258 (Int32.toNatClampNeg i2)), .int (am_gi h3 228 (Int32.toNatClampNeg (am_gi h 260 (Int32.toNatClampNeg i2)))), .ref 216]) 1 am_q243 rfl ?_
      obtain ⟨g7, H⟩ := H
      refine ev_s (pc' := 137) (loc' := [.ref 216, .int i1, .int i2, .int (am_gi h 260 (Int32.toNatClampNeg i2))]) (st' := [.int (am_gi h3 231 (Int32.toNatClampNeg (am_gi h 260 (Int32.toNatClampNeg i2)))), .int (am_gi h3 230 (Int32.toNatClampNeg (am_gi h 260 (Int32.toNatClampNeg i2)))), .int (am_gi h3 258 (Int32.toNatClampNeg i2)), .int (am_gi h3 228 (Int32.toNatClampNeg (am_gi h 260 (Int32.toNatClampNeg i2)))), .ref 216]) (h1 := h3) am_q243 rfl rfl rfl (am_xx (lk231 Ly) (am_inl (ln231 Ly) g7)) ?_
      refine ev_p (pc' := 138) (loc' := [.ref 216, .int i1, .int i2, .int (am_gi h 260 (Int32.toNatClampNeg i2))]) (st' := [.int (-1 : Int32), .int (am_gi h3 231 (Int32.toNatClampNeg (am_gi h 260 (Int32.toNatClampNeg i2)))), .int (am_gi h3 230 (Int32.toNatClampNeg (am_gi h 260 (Int32.toNatClampNeg i2)))), .int (am_gi h3 258 (Int32.toNatClampNeg i2)), .int (am_gi h3 228 (Int32.toNatClampNeg (am_gi h 260 (Int32.toNatClampNeg i2)))), .ref 216]) 1 am_q243 rfl ?_
      refine ev_c (vs := [.ref 216, .int (am_gi h3 228 (Int32.toNatClampNeg (am_gi h 260 (Int32.toNatClampNeg i2)))), .int (am_gi h3 258 (Int32.toNatClampNeg i2)), .int (am_gi h3 230 (Int32.toNatClampNeg (am_gi h 260 (Int32.toNatClampNeg i2)))), .int (am_gi h3 231 (Int32.toNatClampNeg (am_gi h 260 (Int32.toNatClampNeg i2)))), .int (-1 : Int32)]) (rest := []) 175 am_q243 rfl rfl rfl rfl rfl rfl rfl rfl rfl rfl rfl rfl (Or.inr (congrArg some (lk216 Ly))) (Cl.mono H (Nat.le_refl _) (fun r9 h8 H => ?_))
      obtain ⟨x10, rfl, Ly, H⟩ := H
      refine ev_p (pc' := 143) (loc' := [.ref 216, .int i1, .int i2, .int (am_gi h 260 (Int32.toNatClampNeg i2))]) (st' := [.ref 216]) 2 am_q243 rfl ?_
      refine ev_s (pc' := 146) (loc' := [.ref 216, .int i1, .int i2, .int (am_gi h 260 (Int32.toNatClampNeg i2))]) (st' := [.ref 226]) (h1 := h8) am_q243 rfl rfl rfl (am_gf2 (lk216 Ly) (lr216_12 Ly)) ?_
      refine ev_p (pc' := 147) (loc' := [.ref 216, .int i1, .int i2, .int (am_gi h 260 (Int32.toNatClampNeg i2))]) (st' := [.ref 216, .ref 226]) 1 am_q243 rfl ?_
      refine ev_s (pc' := 150) (loc' := [.ref 216, .int i1, .int i2, .int (am_gi h 260 (Int32.toNatClampNeg i2))]) (st' := [.ref 256, .ref 226]) (h1 := h8) am_q243 rfl rfl rfl (am_gf2 (lk216 Ly) (lr216_62 Ly)) ?_
      refine ev_p (pc' := 151) (loc' := [.ref 216, .int i1, .int i2, .int (am_gi h 260 (Int32.toNatClampNeg i2))]) (st' := [.int i2, .ref 256, .ref 226]) 1 am_q243 rfl ?_
      obtain ⟨g11, H⟩ := H
      refine ev_s (pc' := 152) (loc' := [.ref 216, .int i1, .int i2, .int (am_gi h 260 (Int32.toNatClampNeg i2))]) (st' := [.int (am_gi h8 256 (Int32.toNatClampNeg i2)), .ref 226]) (h1 := h8) am_q243 rfl rfl rfl (am_xx (lk256 Ly) (am_inl (ln256 Ly) g11)) ?_
      refine ev_p (pc' := 153) (loc' := [.ref 216, .int i1, .int i2, .int (am_gi h 260 (Int32.toNatClampNeg i2))]) (st' := [.int (0 : Int32), .int (am_gi h8 256 (Int32.toNatClampNeg i2)), .ref 226]) 1 am_q243 rfl ?_
      obtain ⟨g12, H⟩ := H
      refine ev_s (pc' := 154) (loc' := [.ref 216, .int i1, .int i2, .int (am_gi h 260 (Int32.toNatClampNeg i2))]) (st' := []) (h1 := am_si h8 226 (Int32.toNatClampNeg (am_gi h8 256 (Int32.toNatClampNeg i2))) (0 : Int32)) am_q243 rfl rfl rfl (am_xx ⟨lk226 Ly, (Nat.le_of_ble_eq_true rfl)⟩ (am_inl (ln226 Ly) g12)) ?_
      replace H := H _ rfl
      replace Ly : Lay (am_si h8 226 (Int32.toNatClampNeg (am_gi h8 256 (Int32.toNatClampNeg i2))) (0 : Int32)) := Ly.si _ _ _
      generalize am_si h8 226 (Int32.toNatClampNeg (am_gi h8 256 (Int32.toNatClampNeg i2))) (0 : Int32) = h13 at H Ly ⊢
      refine ev_p (pc' := 82) (loc' := [.ref 216, .int i1, .int (i2 + (1 : Int32)), .null]) (st' := []) 2 am_q243 rfl ?_
      exact ev_m (loc' := [.ref 216, .int i1, .int (i2 + (1 : Int32)), .null]) am_q243 rfl rfl H
/-! 244: X12_cost -/
set_option maxRecDepth 20000 in
set_option maxHeartbeats 2000000 in
theorem ws244 {d : Nat}  (i1 : Int32) {h : AH} {Q : Option Value → AH → Prop} (Ly : Lay h) (H : Cl d 167 [.int i1, .int (1 : Int32), .int (1000000 : Int32)] h (fun r2 h1 => ∃ x3, r2 = some (.int x3) ∧ Lay h1 ∧ ((¬ x3 = (0 : Int32)) → Ev (d + 1) 244 18 [.ref 216, .int i1, .long (0 : Int64), .null, .int (0 : Int32), .null, .null, .null] [] h1 Q) ∧ (¬ (¬ x3 = (0 : Int32)) → Q (some (.int (-2 : Int32))) h1))) : Cl (d + 1) 244 [.ref 216, .int i1] h Q := by
  show Ev (d + 1) 244 0 [.ref 216, .int i1, .null, .null, .null, .null, .null, .null] [] h Q
  refine ev_p (pc' := 4) (loc' := [.ref 216, .int i1, .null, .null, .null, .null, .null, .null]) (st' := [.int (1000000 : Int32), .int (1 : Int32), .int i1]) 3 am_q244 rfl ?_
  refine ev_c (vs := [.int i1, .int (1 : Int32), .int (1000000 : Int32)]) (rest := []) 167 am_q244 rfl rfl rfl rfl rfl rfl rfl rfl rfl rfl rfl rfl (Or.inl rfl) (Cl.mono H (Nat.le_refl _) (fun r2 h1 H => ?_))
  obtain ⟨x3, rfl, Ly, H⟩ := H
  refine ev_jz (t := 13) am_q244 rfl rfl (fun hq => ?_) (fun hq => ?_)
  · replace H := H.1 hq
    refine ev_p (pc' := 18) (loc' := [.ref 216, .int i1, .long (0 : Int64), .null, .int (0 : Int32), .null, .null, .null]) (st' := []) 4 am_q244 rfl ?_
    exact ev_m (loc' := [.ref 216, .int i1, .long (0 : Int64), .null, .int (0 : Int32), .null, .null, .null]) am_q244 rfl rfl H
  · replace H := H.2 hq
    refine ev_p (pc' := 12) (loc' := [.ref 216, .int i1, .null, .null, .null, .null, .null, .null]) (st' := [.int (-2 : Int32)]) 1 am_q244 rfl ?_
    exact ev_r (v := some (.int (-2 : Int32))) am_q244 rfl rfl rfl rfl H
set_option maxRecDepth 20000 in
set_option maxHeartbeats 2000000 in
theorem ws244_18 {d : Nat}  (i1 : Int32) (l2 : Int64) (i4 : Int32) {h : AH} {Q : Option Value → AH → Prop} (Ly : Lay h) (H : ((am_gi h 216 1) ≤ i4 → ((¬ (lg_cmp l2 (0 : Int64)) = (0 : Int32)) → ((¬ (am_gi h 216 39) = (30 : Int32)) → Ev (d + 1) 244 143 [.ref 216, .int i1, .long l2, .null, .int i1, .int (0 : Int32), .null, .null] [] h Q) ∧ (¬ (¬ (am_gi h 216 39) = (30 : Int32)) → Q (some (.int (-4 : Int32))) h)) ∧ (¬ (¬ (lg_cmp l2 (0 : Int64)) = (0 : Int32)) → Q (some (.int (-3 : Int32))) h)) ∧ (¬ (am_gi h 216 1) ≤ i4 → Cl d 173 [.ref 216, .int i4, .int (am_gi h 216 0)] h (fun r2 h1 => ∃ x3, r2 = some (.int x3) ∧ Lay h1 ∧ ((¬ x3 = (-1 : Int32)) → am_in x3 60 ∧ Cl d 213 [.ref 216, .int (3 : Int32), .int (am_gi h1 230 (Int32.toNatClampNeg x3)), .int i4] h1 (fun r6 h5 => ∃ y7, r6 = some (.long y7) ∧ Lay h5 ∧ Ev (d + 1) 244 63 [.ref 216, .int i1, .long l2, .null, .int i4, .null, .null, .null] [.long y7] h5 Q)) ∧ (¬ (¬ x3 = (-1 : Int32)) → Ev (d + 1) 244 63 [.ref 216, .int i1, .long l2, .null, .int i4, .null, .null, .null] [.long (0 : Int64)] h1 Q)))) : Ev (d + 1) 244 18 [.ref 216, .int i1, .long l2, .null, .int i4, .null, .null, .null] [] h Q := by
  refine ev_p (pc' := 21) (loc' := [.ref 216, .int i1, .long l2, .null, .int i4, .null, .null, .null]) (st' := [.ref 216, .int i4]) 2 am_q244 rfl ?_
  refine ev_s (pc' := 24) (loc' := [.ref 216, .int i1, .long l2, .null, .int i4, .null, .null, .null]) (st' := [.int (am_gi h 216 1), .int i4]) (h1 := h) am_q244 rfl rfl rfl (if_pos (e := none) (lk216 Ly)) ?_
  refine ev_jc (t := 116) am_q244 rfl rfl (fun hq => ?_) (fun hq => ?_)
  · replace H := H.1 hq
    refine ev_p (pc' := 119) (loc' := [.ref 216, .int i1, .long l2, .null, .int i4, .null, .null, .null]) (st' := [.int (lg_cmp l2 (0 : Int64))]) 3 am_q244 rfl ?_
    refine ev_jz (t := 125) am_q244 rfl rfl (fun hq => ?_) (fun hq => ?_)
    · replace H := H.1 hq
      refine ev_p (pc' := 126) (loc' := [.ref 216, .int i1, .long l2, .null, .int i4, .null, .null, .null]) (st' := [.ref 216]) 1 am_q244 rfl ?_
      refine ev_s (pc' := 129) (loc' := [.ref 216, .int i1, .long l2, .null, .int i4, .null, .null, .null]) (st' := [.int (am_gi h 216 39)]) (h1 := h) am_q244 rfl rfl rfl (if_pos (e := none) (lk216 Ly)) ?_
      refine ev_p (pc' := 131) (loc' := [.ref 216, .int i1, .long l2, .null, .int i4, .null, .null, .null]) (st' := [.int (30 : Int32), .int (am_gi h 216 39)]) 1 am_q244 rfl ?_
      refine ev_jc (t := 137) am_q244 rfl rfl (fun hq => ?_) (fun hq => ?_)
      · replace H := H.1 hq
        refine ev_p (pc' := 143) (loc' := [.ref 216, .int i1, .long l2, .null, .int i1, .int (0 : Int32), .null, .null]) (st' := []) 4 am_q244 rfl ?_
        exact ev_m (loc' := [.ref 216, .int i1, .long l2, .null, .int i1, .int (0 : Int32), .null, .null]) am_q244 rfl rfl H
      · replace H := H.2 hq
        refine ev_p (pc' := 136) (loc' := [.ref 216, .int i1, .long l2, .null, .int i4, .null, .null, .null]) (st' := [.int (-4 : Int32)]) 1 am_q244 rfl ?_
        exact ev_r (v := some (.int (-4 : Int32))) am_q244 rfl rfl rfl rfl H
    · replace H := H.2 hq
      refine ev_p (pc' := 124) (loc' := [.ref 216, .int i1, .long l2, .null, .int i4, .null, .null, .null]) (st' := [.int (-3 : Int32)]) 1 am_q244 rfl ?_
      exact ev_r (v := some (.int (-3 : Int32))) am_q244 rfl rfl rfl rfl H
  · replace H := H.2 hq
    refine ev_p (pc' := 31) (loc' := [.ref 216, .int i1, .long l2, .null, .int i4, .null, .null, .null]) (st' := [.ref 216, .int i4, .ref 216]) 3 am_q244 rfl ?_
    refine ev_s (pc' := 34) (loc' := [.ref 216, .int i1, .long l2, .null, .int i4, .null, .null, .null]) (st' := [.int (am_gi h 216 0), .int i4, .ref 216]) (h1 := h) am_q244 rfl rfl rfl (if_pos (e := none) (lk216 Ly)) ?_
    refine ev_c (vs := [.ref 216, .int i4, .int (am_gi h 216 0)]) (rest := []) 173 am_q244 rfl rfl rfl rfl rfl rfl rfl rfl rfl rfl rfl rfl (Or.inr (congrArg some (lk216 Ly))) (Cl.mono H (Nat.le_refl _) (fun r2 h1 H => ?_))
    obtain ⟨x3, rfl, Ly, H⟩ := H
    refine ev_p (pc' := 42) (loc' := [.ref 216, .int i1, .long l2, .null, .int i4, .int x3, .null, .null]) (st' := [.int (-1 : Int32), .int x3]) 3 am_q244 rfl ?_
    refine ev_jc (t := 49) am_q244 rfl rfl (fun hq => ?_) (fun hq => ?_)
    · replace H := H.1 hq
      refine ev_p (pc' := 52) (loc' := [.ref 216, .int i1, .long l2, .null, .int i4, .int x3, .null, .null]) (st' := [.ref 216, .int (3 : Int32), .ref 216]) 3 am_q244 rfl ?_
      refine ev_s (pc' := 55) (loc' := [.ref 216, .int i1, .long l2, .null, .int i4, .int x3, .null, .null]) (st' := [.ref 230, .int (3 : Int32), .ref 216]) (h1 := h1) am_q244 rfl rfl rfl (am_gf2 (lk216 Ly) (lr216_17 Ly)) ?_
      refine ev_p (pc' := 57) (loc' := [.ref 216, .int i1, .long l2, .null, .int i4, .int x3, .null, .null]) (st' := [.int x3, .ref 230, .int (3 : Int32), .ref 216]) 1 am_q244 rfl ?_
      obtain ⟨g4, H⟩ := H
      refine ev_s (pc' := 58) (loc' := [.ref 216, .int i1, .long l2, .null, .int i4, .int x3, .null, .null]) (st' := [.int (am_gi h1 230 (Int32.toNatClampNeg x3)), .int (3 : Int32), .ref 216]) (h1 := h1) am_q244 rfl rfl rfl (am_xx (lk230 Ly) (am_inl (ln230 Ly) g4)) ?_
      refine ev_p (pc' := 60) (loc' := [.ref 216, .int i1, .long l2, .null, .int i4, .int x3, .null, .null]) (st' := [.int i4, .int (am_gi h1 230 (Int32.toNatClampNeg x3)), .int (3 : Int32), .ref 216]) 1 am_q244 rfl ?_
      refine ev_c (vs := [.ref 216, .int (3 : Int32), .int (am_gi h1 230 (Int32.toNatClampNeg x3)), .int i4]) (rest := []) 213 am_q244 rfl rfl rfl rfl rfl rfl rfl rfl rfl rfl rfl rfl (Or.inr (congrArg some (lk216 Ly))) (Cl.mono H (Nat.le_refl _) (fun r6 h5 H => ?_))
      obtain ⟨y7, rfl, Ly, H⟩ := H
      exact ev_m (loc' := [.ref 216, .int i1, .long l2, .null, .int i4, .null, .null, .null]) am_q244 rfl rfl H
    · replace H := H.2 hq
      refine ev_p (pc' := 63) (loc' := [.ref 216, .int i1, .long l2, .null, .int i4, .int x3, .null, .null]) (st' := [.long (0 : Int64)]) 2 am_q244 rfl ?_
      exact ev_m (loc' := [.ref 216, .int i1, .long l2, .null, .int i4, .null, .null, .null]) am_q244 rfl rfl H
set_option maxRecDepth 20000 in
set_option maxHeartbeats 2000000 in
theorem ws244_63 {d : Nat}  (i1 : Int32) (l2 : Int64) (i4 : Int32) (s0 : Int64) {h : AH} {Q : Option Value → AH → Prop} (Ly : Lay h) (H : ((0 : Int32) ≤ (lg_cmp s0 (0 : Int64)) → ((lg_cmp s0 (1000000 : Int64)) ≤ (0 : Int32) → Ev (d + 1) 244 99 [.ref 216, .int i1, .long l2, .null, .int i4, .null, .null, .null] [.long s0, .int i4, .ref 261] h Q) ∧ (¬ (lg_cmp s0 (1000000 : Int64)) ≤ (0 : Int32) → Ev (d + 1) 244 99 [.ref 216, .int i1, .long l2, .null, .int i4, .null, .null, .null] [.long (1000000 : Int64), .int i4, .ref 261] h Q)) ∧ (¬ (0 : Int32) ≤ (lg_cmp s0 (0 : Int64)) → Ev (d + 1) 244 99 [.ref 216, .int i1, .long l2, .null, .int i4, .null, .null, .null] [.long (0 : Int64), .int i4, .ref 261] h Q)) : Ev (d + 1) 244 63 [.ref 216, .int i1, .long l2, .null, .int i4, .null, .null, .null] [.long s0] h Q := by
  refine ev_p (pc' := 66) (loc' := [.ref 216, .int i1, .long l2, .null, .int i4, .null, .long s0, .null]) (st' := [.ref 216]) 2 am_q244 rfl ?_
  refine ev_s (pc' := 69) (loc' := [.ref 216, .int i1, .long l2, .null, .int i4, .null, .long s0, .null]) (st' := [.ref 261]) (h1 := h) am_q244 rfl rfl rfl (am_gf2 (lk216 Ly) (lr216_68 Ly)) ?_
  refine ev_p (pc' := 75) (loc' := [.ref 216, .int i1, .long l2, .null, .int i4, .null, .long s0, .null]) (st' := [.int (lg_cmp s0 (0 : Int64)), .int i4, .ref 261]) 4 am_q244 rfl ?_
  refine ev_jz (t := 82) am_q244 rfl rfl (fun hq => ?_) (fun hq => ?_)
  · replace H := H.1 hq
    refine ev_p (pc' := 88) (loc' := [.ref 216, .int i1, .long l2, .null, .int i4, .null, .long s0, .null]) (st' := [.int (lg_cmp s0 (1000000 : Int64)), .int i4, .ref 261]) 3 am_q244 rfl ?_
    refine ev_jz (t := 97) am_q244 rfl rfl (fun hq => ?_) (fun hq => ?_)
    · replace H := H.1 hq
      refine ev_p (pc' := 99) (loc' := [.ref 216, .int i1, .long l2, .null, .int i4, .null, .long s0, .null]) (st' := [.long s0, .int i4, .ref 261]) 1 am_q244 rfl ?_
      exact ev_m (loc' := [.ref 216, .int i1, .long l2, .null, .int i4, .null, .null, .null]) am_q244 rfl rfl H
    · replace H := H.2 hq
      refine ev_p (pc' := 99) (loc' := [.ref 216, .int i1, .long l2, .null, .int i4, .null, .long s0, .null]) (st' := [.long (1000000 : Int64), .int i4, .ref 261]) 2 am_q244 rfl ?_
      exact ev_m (loc' := [.ref 216, .int i1, .long l2, .null, .int i4, .null, .null, .null]) am_q244 rfl rfl H
  · replace H := H.2 hq
    refine ev_p (pc' := 99) (loc' := [.ref 216, .int i1, .long l2, .null, .int i4, .null, .long s0, .null]) (st' := [.long (0 : Int64), .int i4, .ref 261]) 2 am_q244 rfl ?_
    exact ev_m (loc' := [.ref 216, .int i1, .long l2, .null, .int i4, .null, .null, .null]) am_q244 rfl rfl H
set_option maxRecDepth 20000 in
set_option maxHeartbeats 2000000 in
theorem ws244_99 {d : Nat}  (i1 : Int32) (l2 : Int64) (i4 : Int32) (s1 : Int32) (s2 : Int64) {h : AH} {Q : Option Value → AH → Prop} (Ly : Lay h) (H : am_in s1 12 ∧ ∀ h2, h2 = am_sl h 261 (Int32.toNatClampNeg s1) s2 → am_in i4 12 ∧ Ev (d + 1) 244 18 [.ref 216, .int i1, .long (l2 + (am_gl h2 261 (Int32.toNatClampNeg i4))), .null, .int (i4 + (1 : Int32)), .null, .null, .null] [] h2 Q) : Ev (d + 1) 244 99 [.ref 216, .int i1, .long l2, .null, .int i4, .null, .null, .null] [.long s2, .int s1, .ref 261] h Q := by
  obtain ⟨g1, H⟩ := H
  refine ev_s (pc' := 100) (loc' := [.ref 216, .int i1, .long l2, .null, .int i4, .null, .null, .null]) (st' := []) (h1 := am_sl h 261 (Int32.toNatClampNeg s1) s2) am_q244 rfl rfl rfl (am_xx (lk261 Ly) (am_inl (ln261 Ly) g1)) ?_
  replace H := H _ rfl
  replace Ly : Lay (am_sl h 261 (Int32.toNatClampNeg s1) s2) := Ly.sl _ _ _
  generalize am_sl h 261 (Int32.toNatClampNeg s1) s2 = h2 at H Ly ⊢
  refine ev_p (pc' := 102) (loc' := [.ref 216, .int i1, .long l2, .null, .int i4, .null, .null, .null]) (st' := [.ref 216, .long l2]) 2 am_q244 rfl ?_
  refine ev_s (pc' := 105) (loc' := [.ref 216, .int i1, .long l2, .null, .int i4, .null, .null, .null]) (st' := [.ref 261, .long l2]) (h1 := h2) am_q244 rfl rfl rfl (am_gf2 (lk216 Ly) (lr216_68 Ly)) ?_
  refine ev_p (pc' := 107) (loc' := [.ref 216, .int i1, .long l2, .null, .int i4, .null, .null, .null]) (st' := [.int i4, .ref 261, .long l2]) 1 am_q244 rfl ?_
  obtain ⟨g3, H⟩ := H
  refine ev_s (pc' := 108) (loc' := [.ref 216, .int i1, .long l2, .null, .int i4, .null, .null, .null]) (st' := [.long (am_gl h2 261 (Int32.toNatClampNeg i4)), .long l2]) (h1 := h2) am_q244 rfl rfl rfl (am_xx (lk261 Ly) (am_inl (ln261 Ly) g3)) ?_
  refine ev_p (pc' := 18) (loc' := [.ref 216, .int i1, .long (l2 + (am_gl h2 261 (Int32.toNatClampNeg i4))), .null, .int (i4 + (1 : Int32)), .null, .null, .null]) (st' := []) 4 am_q244 rfl ?_
  exact ev_m (loc' := [.ref 216, .int i1, .long (l2 + (am_gl h2 261 (Int32.toNatClampNeg i4))), .null, .int (i4 + (1 : Int32)), .null, .null, .null]) am_q244 rfl rfl H
set_option maxRecDepth 20000 in
set_option maxHeartbeats 2000000 in
theorem ws244_143 {d : Nat}  (i1 : Int32) (l2 : Int64) (i4 : Int32) (i5 : Int32) {h : AH} {Q : Option Value → AH → Prop} (Ly : Lay h) (H : ((12 : Int32) ≤ i5 → Ev (d + 1) 244 235 [.ref 216, .null, .null, .null, .int i4, .null, .null, .null] [] h Q) ∧ (¬ (12 : Int32) ≤ i5 → ((am_gi h 216 1) ≤ i5 → Ev (d + 1) 244 170 [.ref 216, .int i1, .long l2, .null, .int i4, .int i5, .null, .null] [.long (0 : Int64)] h Q) ∧ (¬ (am_gi h 216 1) ≤ i5 → am_in i5 12 ∧ Ev (d + 1) 244 170 [.ref 216, .int i1, .long l2, .null, .int i4, .int i5, .null, .null] [.long (am_gl h 261 (Int32.toNatClampNeg i5))] h Q))) : Ev (d + 1) 244 143 [.ref 216, .int i1, .long l2, .null, .int i4, .int i5, .null, .null] [] h Q := by
  refine ev_p (pc' := 147) (loc' := [.ref 216, .int i1, .long l2, .null, .int i4, .int i5, .null, .null]) (st' := [.int (12 : Int32), .int i5]) 2 am_q244 rfl ?_
  refine ev_jc (t := 235) am_q244 rfl rfl (fun hq => ?_) (fun hq => ?_)
  · replace H := H.1 hq
    exact ev_m (loc' := [.ref 216, .null, .null, .null, .int i4, .null, .null, .null]) am_q244 rfl rfl H
  · replace H := H.2 hq
    refine ev_p (pc' := 153) (loc' := [.ref 216, .int i1, .long l2, .null, .int i4, .int i5, .null, .null]) (st' := [.ref 216, .int i5]) 2 am_q244 rfl ?_
    refine ev_s (pc' := 156) (loc' := [.ref 216, .int i1, .long l2, .null, .int i4, .int i5, .null, .null]) (st' := [.int (am_gi h 216 1), .int i5]) (h1 := h) am_q244 rfl rfl rfl (if_pos (e := none) (lk216 Ly)) ?_
    refine ev_jc (t := 169) am_q244 rfl rfl (fun hq => ?_) (fun hq => ?_)
    · replace H := H.1 hq
      refine ev_p (pc' := 170) (loc' := [.ref 216, .int i1, .long l2, .null, .int i4, .int i5, .null, .null]) (st' := [.long (0 : Int64)]) 1 am_q244 rfl ?_
      exact ev_m (loc' := [.ref 216, .int i1, .long l2, .null, .int i4, .int i5, .null, .null]) am_q244 rfl rfl H
    · replace H := H.2 hq
      refine ev_p (pc' := 160) (loc' := [.ref 216, .int i1, .long l2, .null, .int i4, .int i5, .null, .null]) (st' := [.ref 216]) 1 am_q244 rfl ?_
      refine ev_s (pc' := 163) (loc' := [.ref 216, .int i1, .long l2, .null, .int i4, .int i5, .null, .null]) (st' := [.ref 261]) (h1 := h) am_q244 rfl rfl rfl (am_gf2 (lk216 Ly) (lr216_68 Ly)) ?_
      refine ev_p (pc' := 165) (loc' := [.ref 216, .int i1, .long l2, .null, .int i4, .int i5, .null, .null]) (st' := [.int i5, .ref 261]) 1 am_q244 rfl ?_
      obtain ⟨g1, H⟩ := H
      refine ev_s (pc' := 166) (loc' := [.ref 216, .int i1, .long l2, .null, .int i4, .int i5, .null, .null]) (st' := [.long (am_gl h 261 (Int32.toNatClampNeg i5))]) (h1 := h) am_q244 rfl rfl rfl (am_xx (lk261 Ly) (am_inl (ln261 Ly) g1)) ?_
      refine ev_p (pc' := 170) (loc' := [.ref 216, .int i1, .long l2, .null, .int i4, .int i5, .null, .null]) (st' := [.long (am_gl h 261 (Int32.toNatClampNeg i5))]) 1 am_q244 rfl ?_
      exact ev_m (loc' := [.ref 216, .int i1, .long l2, .null, .int i4, .int i5, .null, .null]) am_q244 rfl rfl H
set_option maxRecDepth 20000 in
set_option maxHeartbeats 2000000 in
theorem ws244_170 {d : Nat}  (i1 : Int32) (l2 : Int64) (i4 : Int32) (i5 : Int32) (s0 : Int64) {h : AH} {Q : Option Value → AH → Prop} (Ly : Lay h) (H : ¬ l2 = (0 : Int64) ∧ am_in (((12 : Int32) * (am_gi h 216 39)) + i5) 360 ∧ ∀ h3, h3 = am_si h 247 (Int32.toNatClampNeg (((12 : Int32) * (am_gi h 216 39)) + i5)) (Int64.toInt32 (((Int32.toInt64 i1) * s0) / l2)) → ¬ l2 = (0 : Int64) ∧ am_in i5 12 ∧ ∀ h6, h6 = am_sl h3 262 (Int32.toNatClampNeg i5) (((Int32.toInt64 i1) * s0) - ((Int32.toInt64 i1) * s0) / l2 * l2) → am_in (((12 : Int32) * (am_gi h6 216 39)) + i5) 360 ∧ Ev (d + 1) 244 143 [.ref 216, .int i1, .long l2, .null, .int (i4 - (am_gi h6 247 (Int32.toNatClampNeg (((12 : Int32) * (am_gi h6 216 39)) + i5)))), .int (i5 + (1 : Int32)), .null, .null] [] h6 Q) : Ev (d + 1) 244 170 [.ref 216, .int i1, .long l2, .null, .int i4, .int i5, .null, .null] [.long s0] h Q := by
  refine ev_p (pc' := 173) (loc' := [.ref 216, .int i1, .long l2, .null, .int i4, .int i5, .long s0, .null]) (st' := [.ref 216]) 2 am_q244 rfl ?_
  refine ev_s (pc' := 176) (loc' := [.ref 216, .int i1, .long l2, .null, .int i4, .int i5, .long s0, .null]) (st' := [.ref 247]) (h1 := h) am_q244 rfl rfl rfl (am_gf2 (lk216 Ly) (lr216_40 Ly)) ?_
  refine ev_p (pc' := 179) (loc' := [.ref 216, .int i1, .long l2, .null, .int i4, .int i5, .long s0, .null]) (st' := [.ref 216, .int (12 : Int32), .ref 247]) 2 am_q244 rfl ?_
  refine ev_s (pc' := 182) (loc' := [.ref 216, .int i1, .long l2, .null, .int i4, .int i5, .long s0, .null]) (st' := [.int (am_gi h 216 39), .int (12 : Int32), .ref 247]) (h1 := h) am_q244 rfl rfl rfl (if_pos (e := none) (lk216 Ly)) ?_
  refine ev_p (pc' := 192) (loc' := [.ref 216, .int i1, .long l2, .null, .int i4, .int i5, .long s0, .null]) (st' := [.long l2, .long ((Int32.toInt64 i1) * s0), .int (((12 : Int32) * (am_gi h 216 39)) + i5), .ref 247]) 8 am_q244 rfl ?_
  obtain ⟨g1, H⟩ := H
  refine ev_s (pc' := 193) (loc' := [.ref 216, .int i1, .long l2, .null, .int i4, .int i5, .long s0, .null]) (st' := [.long (((Int32.toInt64 i1) * s0) / l2), .int (((12 : Int32) * (am_gi h 216 39)) + i5), .ref 247]) (h1 := h) am_q244 rfl rfl rfl (if_neg (t := none) g1) ?_
  refine ev_p (pc' := 194) (loc' := [.ref 216, .int i1, .long l2, .null, .int i4, .int i5, .long s0, .null]) (st' := [.int (Int64.toInt32 (((Int32.toInt64 i1) * s0) / l2)), .int (((12 : Int32) * (am_gi h 216 39)) + i5), .ref 247]) 1 am_q244 rfl ?_
  obtain ⟨g2, H⟩ := H
  refine ev_s (pc' := 195) (loc' := [.ref 216, .int i1, .long l2, .null, .int i4, .int i5, .long s0, .null]) (st' := []) (h1 := am_si h 247 (Int32.toNatClampNeg (((12 : Int32) * (am_gi h 216 39)) + i5)) (Int64.toInt32 (((Int32.toInt64 i1) * s0) / l2))) am_q244 rfl rfl rfl (am_xx ⟨lk247 Ly, (Nat.le_of_ble_eq_true rfl)⟩ (am_inl (ln247 Ly) g2)) ?_
  replace H := H _ rfl
  replace Ly : Lay (am_si h 247 (Int32.toNatClampNeg (((12 : Int32) * (am_gi h 216 39)) + i5)) (Int64.toInt32 (((Int32.toInt64 i1) * s0) / l2))) := Ly.si _ _ _
  generalize am_si h 247 (Int32.toNatClampNeg (((12 : Int32) * (am_gi h 216 39)) + i5)) (Int64.toInt32 (((Int32.toInt64 i1) * s0) / l2)) = h3 at H Ly ⊢
  refine ev_p (pc' := 196) (loc' := [.ref 216, .int i1, .long l2, .null, .int i4, .int i5, .long s0, .null]) (st' := [.ref 216]) 1 am_q244 rfl ?_
  refine ev_s (pc' := 199) (loc' := [.ref 216, .int i1, .long l2, .null, .int i4, .int i5, .long s0, .null]) (st' := [.ref 262]) (h1 := h3) am_q244 rfl rfl rfl (am_gf2 (lk216 Ly) (lr216_69 Ly)) ?_
  refine ev_p (pc' := 207) (loc' := [.ref 216, .int i1, .long l2, .null, .int i4, .int i5, .long s0, .null]) (st' := [.long l2, .long ((Int32.toInt64 i1) * s0), .int i5, .ref 262]) 6 am_q244 rfl ?_
  obtain ⟨g4, H⟩ := H
  refine ev_s (pc' := 208) (loc' := [.ref 216, .int i1, .long l2, .null, .int i4, .int i5, .long s0, .null]) (st' := [.long (((Int32.toInt64 i1) * s0) - ((Int32.toInt64 i1) * s0) / l2 * l2), .int i5, .ref 262]) (h1 := h3) am_q244 rfl rfl rfl (if_neg (t := none) g4) ?_
  obtain ⟨g5, H⟩ := H
  refine ev_s (pc' := 209) (loc' := [.ref 216, .int i1, .long l2, .null, .int i4, .int i5, .long s0, .null]) (st' := []) (h1 := am_sl h3 262 (Int32.toNatClampNeg i5) (((Int32.toInt64 i1) * s0) - ((Int32.toInt64 i1) * s0) / l2 * l2)) am_q244 rfl rfl rfl (am_xx (lk262 Ly) (am_inl (ln262 Ly) g5)) ?_
  replace H := H _ rfl
  replace Ly : Lay (am_sl h3 262 (Int32.toNatClampNeg i5) (((Int32.toInt64 i1) * s0) - ((Int32.toInt64 i1) * s0) / l2 * l2)) := Ly.sl _ _ _
  generalize am_sl h3 262 (Int32.toNatClampNeg i5) (((Int32.toInt64 i1) * s0) - ((Int32.toInt64 i1) * s0) / l2 * l2) = h6 at H Ly ⊢
  refine ev_p (pc' := 212) (loc' := [.ref 216, .int i1, .long l2, .null, .int i4, .int i5, .long s0, .null]) (st' := [.ref 216, .int i4]) 2 am_q244 rfl ?_
  refine ev_s (pc' := 215) (loc' := [.ref 216, .int i1, .long l2, .null, .int i4, .int i5, .long s0, .null]) (st' := [.ref 247, .int i4]) (h1 := h6) am_q244 rfl rfl rfl (am_gf2 (lk216 Ly) (lr216_40 Ly)) ?_
  refine ev_p (pc' := 218) (loc' := [.ref 216, .int i1, .long l2, .null, .int i4, .int i5, .long s0, .null]) (st' := [.ref 216, .int (12 : Int32), .ref 247, .int i4]) 2 am_q244 rfl ?_
  refine ev_s (pc' := 221) (loc' := [.ref 216, .int i1, .long l2, .null, .int i4, .int i5, .long s0, .null]) (st' := [.int (am_gi h6 216 39), .int (12 : Int32), .ref 247, .int i4]) (h1 := h6) am_q244 rfl rfl rfl (if_pos (e := none) (lk216 Ly)) ?_
  refine ev_p (pc' := 225) (loc' := [.ref 216, .int i1, .long l2, .null, .int i4, .int i5, .long s0, .null]) (st' := [.int (((12 : Int32) * (am_gi h6 216 39)) + i5), .ref 247, .int i4]) 3 am_q244 rfl ?_
  obtain ⟨g7, H⟩ := H
  refine ev_s (pc' := 226) (loc' := [.ref 216, .int i1, .long l2, .null, .int i4, .int i5, .long s0, .null]) (st' := [.int (am_gi h6 247 (Int32.toNatClampNeg (((12 : Int32) * (am_gi h6 216 39)) + i5))), .int i4]) (h1 := h6) am_q244 rfl rfl rfl (am_xx (lk247 Ly) (am_inl (ln247 Ly) g7)) ?_
  refine ev_p (pc' := 143) (loc' := [.ref 216, .int i1, .long l2, .null, .int (i4 - (am_gi h6 247 (Int32.toNatClampNeg (((12 : Int32) * (am_gi h6 216 39)) + i5)))), .int (i5 + (1 : Int32)), .long s0, .null]) (st' := []) 4 am_q244 rfl ?_
  exact ev_m (loc' := [.ref 216, .int i1, .long l2, .null, .int (i4 - (am_gi h6 247 (Int32.toNatClampNeg (((12 : Int32) * (am_gi h6 216 39)) + i5)))), .int (i5 + (1 : Int32)), .null, .null]) am_q244 rfl rfl H
set_option maxRecDepth 20000 in
set_option maxHeartbeats 2000000 in
theorem ws244_235 {d : Nat}  (i4 : Int32) {h : AH} {Q : Option Value → AH → Prop} (Ly : Lay h) (H : (i4 ≤ (0 : Int32) → Ev (d + 1) 244 324 [.ref 216, .null, .null, .null, .null, .int (0 : Int32), .null, .null] [] h Q) ∧ (¬ i4 ≤ (0 : Int32) → Ev (d + 1) 244 246 [.ref 216, .null, .null, .null, .int i4, .int (0 : Int32), .int (1 : Int32), .null] [] h Q)) : Ev (d + 1) 244 235 [.ref 216, .null, .null, .null, .int i4, .null, .null, .null] [] h Q := by
  refine ev_p (pc' := 237) (loc' := [.ref 216, .null, .null, .null, .int i4, .null, .null, .null]) (st' := [.int i4]) 1 am_q244 rfl ?_
  refine ev_jz (t := 321) am_q244 rfl rfl (fun hq => ?_) (fun hq => ?_)
  · replace H := H.1 hq
    refine ev_p (pc' := 324) (loc' := [.ref 216, .null, .null, .null, .int i4, .int (0 : Int32), .null, .null]) (st' := []) 2 am_q244 rfl ?_
    exact ev_m (loc' := [.ref 216, .null, .null, .null, .null, .int (0 : Int32), .null, .null]) am_q244 rfl rfl H
  · replace H := H.2 hq
    refine ev_p (pc' := 246) (loc' := [.ref 216, .null, .null, .null, .int i4, .int (0 : Int32), .int (1 : Int32), .null]) (st' := []) 4 am_q244 rfl ?_
    exact ev_m (loc' := [.ref 216, .null, .null, .null, .int i4, .int (0 : Int32), .int (1 : Int32), .null]) am_q244 rfl rfl H
set_option maxRecDepth 20000 in
set_option maxHeartbeats 2000000 in
theorem ws244_246 {d : Nat}  (i4 : Int32) (i5 : Int32) (i6 : Int32) {h : AH} {Q : Option Value → AH → Prop} (Ly : Lay h) (H : ((am_gi h 216 1) ≤ i6 → am_in (((12 : Int32) * (am_gi h 216 39)) + i5) 360 ∧ am_in (((12 : Int32) * (am_gi h 216 39)) + i5) 360 ∧ ∀ h3, h3 = am_si h 247 (Int32.toNatClampNeg (((12 : Int32) * (am_gi h 216 39)) + i5)) ((am_gi h 247 (Int32.toNatClampNeg (((12 : Int32) * (am_gi h 216 39)) + i5))) + (1 : Int32)) → am_in i5 12 ∧ ∀ h5, h5 = am_sl h3 262 (Int32.toNatClampNeg i5) (0 : Int64) → Ev (d + 1) 244 235 [.ref 216, .null, .null, .null, .int (i4 + (-1 : Int32)), .null, .null, .null] [] h5 Q) ∧ (¬ (am_gi h 216 1) ≤ i6 → am_in i6 12 ∧ am_in i5 12 ∧ ((lg_cmp (am_gl h 262 (Int32.toNatClampNeg i6)) (am_gl h 262 (Int32.toNatClampNeg i5))) ≤ (0 : Int32) → Ev (d + 1) 244 246 [.ref 216, .null, .null, .null, .int i4, .int i5, .int (i6 + (1 : Int32)), .null] [] h Q) ∧ (¬ (lg_cmp (am_gl h 262 (Int32.toNatClampNeg i6)) (am_gl h 262 (Int32.toNatClampNeg i5))) ≤ (0 : Int32) → Ev (d + 1) 244 246 [.ref 216, .null, .null, .null, .int i4, .int i6, .int (i6 + (1 : Int32)), .null] [] h Q))) : Ev (d + 1) 244 246 [.ref 216, .null, .null, .null, .int i4, .int i5, .int i6, .null] [] h Q := by
  refine ev_p (pc' := 249) (loc' := [.ref 216, .null, .null, .null, .int i4, .int i5, .int i6, .null]) (st' := [.ref 216, .int i6]) 2 am_q244 rfl ?_
  refine ev_s (pc' := 252) (loc' := [.ref 216, .null, .null, .null, .int i4, .int i5, .int i6, .null]) (st' := [.int (am_gi h 216 1), .int i6]) (h1 := h) am_q244 rfl rfl rfl (if_pos (e := none) (lk216 Ly)) ?_
  refine ev_jc (t := 288) am_q244 rfl rfl (fun hq => ?_) (fun hq => ?_)
  · replace H := H.1 hq
    refine ev_p (pc' := 289) (loc' := [.ref 216, .null, .null, .null, .int i4, .int i5, .int i6, .null]) (st' := [.ref 216]) 1 am_q244 rfl ?_
    refine ev_s (pc' := 292) (loc' := [.ref 216, .null, .null, .null, .int i4, .int i5, .int i6, .null]) (st' := [.ref 247]) (h1 := h) am_q244 rfl rfl rfl (am_gf2 (lk216 Ly) (lr216_40 Ly)) ?_
    refine ev_p (pc' := 295) (loc' := [.ref 216, .null, .null, .null, .int i4, .int i5, .int i6, .null]) (st' := [.ref 216, .int (12 : Int32), .ref 247]) 2 am_q244 rfl ?_
    refine ev_s (pc' := 298) (loc' := [.ref 216, .null, .null, .null, .int i4, .int i5, .int i6, .null]) (st' := [.int (am_gi h 216 39), .int (12 : Int32), .ref 247]) (h1 := h) am_q244 rfl rfl rfl (if_pos (e := none) (lk216 Ly)) ?_
    refine ev_p (pc' := 303) (loc' := [.ref 216, .null, .null, .null, .int i4, .int i5, .int i6, .null]) (st' := [.int (((12 : Int32) * (am_gi h 216 39)) + i5), .ref 247, .int (((12 : Int32) * (am_gi h 216 39)) + i5), .ref 247]) 4 am_q244 rfl ?_
    obtain ⟨g1, H⟩ := H
    refine ev_s (pc' := 304) (loc' := [.ref 216, .null, .null, .null, .int i4, .int i5, .int i6, .null]) (st' := [.int (am_gi h 247 (Int32.toNatClampNeg (((12 : Int32) * (am_gi h 216 39)) + i5))), .int (((12 : Int32) * (am_gi h 216 39)) + i5), .ref 247]) (h1 := h) am_q244 rfl rfl rfl (am_xx (lk247 Ly) (am_inl (ln247 Ly) g1)) ?_
    refine ev_p (pc' := 306) (loc' := [.ref 216, .null, .null, .null, .int i4, .int i5, .int i6, .null]) (st' := [.int ((am_gi h 247 (Int32.toNatClampNeg (((12 : Int32) * (am_gi h 216 39)) + i5))) + (1 : Int32)), .int (((12 : Int32) * (am_gi h 216 39)) + i5), .ref 247]) 2 am_q244 rfl ?_
    obtain ⟨g2, H⟩ := H
    refine ev_s (pc' := 307) (loc' := [.ref 216, .null, .null, .null, .int i4, .int i5, .int i6, .null]) (st' := []) (h1 := am_si h 247 (Int32.toNatClampNeg (((12 : Int32) * (am_gi h 216 39)) + i5)) ((am_gi h 247 (Int32.toNatClampNeg (((12 : Int32) * (am_gi h 216 39)) + i5))) + (1 : Int32))) am_q244 rfl rfl rfl (am_xx ⟨lk247 Ly, (Nat.le_of_ble_eq_true rfl)⟩ (am_inl (ln247 Ly) g2)) ?_
    replace H := H _ rfl
    replace Ly : Lay (am_si h 247 (Int32.toNatClampNeg (((12 : Int32) * (am_gi h 216 39)) + i5)) ((am_gi h 247 (Int32.toNatClampNeg (((12 : Int32) * (am_gi h 216 39)) + i5))) + (1 : Int32))) := Ly.si _ _ _
    generalize am_si h 247 (Int32.toNatClampNeg (((12 : Int32) * (am_gi h 216 39)) + i5)) ((am_gi h 247 (Int32.toNatClampNeg (((12 : Int32) * (am_gi h 216 39)) + i5))) + (1 : Int32)) = h3 at H Ly ⊢
    refine ev_p (pc' := 308) (loc' := [.ref 216, .null, .null, .null, .int i4, .int i5, .int i6, .null]) (st' := [.ref 216]) 1 am_q244 rfl ?_
    refine ev_s (pc' := 311) (loc' := [.ref 216, .null, .null, .null, .int i4, .int i5, .int i6, .null]) (st' := [.ref 262]) (h1 := h3) am_q244 rfl rfl rfl (am_gf2 (lk216 Ly) (lr216_69 Ly)) ?_
    refine ev_p (pc' := 314) (loc' := [.ref 216, .null, .null, .null, .int i4, .int i5, .int i6, .null]) (st' := [.long (0 : Int64), .int i5, .ref 262]) 2 am_q244 rfl ?_
    obtain ⟨g4, H⟩ := H
    refine ev_s (pc' := 315) (loc' := [.ref 216, .null, .null, .null, .int i4, .int i5, .int i6, .null]) (st' := []) (h1 := am_sl h3 262 (Int32.toNatClampNeg i5) (0 : Int64)) am_q244 rfl rfl rfl (am_xx (lk262 Ly) (am_inl (ln262 Ly) g4)) ?_
    replace H := H _ rfl
    replace Ly : Lay (am_sl h3 262 (Int32.toNatClampNeg i5) (0 : Int64)) := Ly.sl _ _ _
    generalize am_sl h3 262 (Int32.toNatClampNeg i5) (0 : Int64) = h5 at H Ly ⊢
    refine ev_p (pc' := 235) (loc' := [.ref 216, .null, .null, .null, .int (i4 + (-1 : Int32)), .int i5, .int i6, .null]) (st' := []) 2 am_q244 rfl ?_
    exact ev_m (loc' := [.ref 216, .null, .null, .null, .int (i4 + (-1 : Int32)), .null, .null, .null]) am_q244 rfl rfl H
  · replace H := H.2 hq
    refine ev_p (pc' := 256) (loc' := [.ref 216, .null, .null, .null, .int i4, .int i5, .int i6, .null]) (st' := [.ref 216]) 1 am_q244 rfl ?_
    refine ev_s (pc' := 259) (loc' := [.ref 216, .null, .null, .null, .int i4, .int i5, .int i6, .null]) (st' := [.ref 262]) (h1 := h) am_q244 rfl rfl rfl (am_gf2 (lk216 Ly) (lr216_69 Ly)) ?_
    refine ev_p (pc' := 261) (loc' := [.ref 216, .null, .null, .null, .int i4, .int i5, .int i6, .null]) (st' := [.int i6, .ref 262]) 1 am_q244 rfl ?_
    obtain ⟨g6, H⟩ := H
    refine ev_s (pc' := 262) (loc' := [.ref 216, .null, .null, .null, .int i4, .int i5, .int i6, .null]) (st' := [.long (am_gl h 262 (Int32.toNatClampNeg i6))]) (h1 := h) am_q244 rfl rfl rfl (am_xx (lk262 Ly) (am_inl (ln262 Ly) g6)) ?_
    refine ev_p (pc' := 263) (loc' := [.ref 216, .null, .null, .null, .int i4, .int i5, .int i6, .null]) (st' := [.ref 216, .long (am_gl h 262 (Int32.toNatClampNeg i6))]) 1 am_q244 rfl ?_
    refine ev_s (pc' := 266) (loc' := [.ref 216, .null, .null, .null, .int i4, .int i5, .int i6, .null]) (st' := [.ref 262, .long (am_gl h 262 (Int32.toNatClampNeg i6))]) (h1 := h) am_q244 rfl rfl rfl (am_gf2 (lk216 Ly) (lr216_69 Ly)) ?_
    refine ev_p (pc' := 268) (loc' := [.ref 216, .null, .null, .null, .int i4, .int i5, .int i6, .null]) (st' := [.int i5, .ref 262, .long (am_gl h 262 (Int32.toNatClampNeg i6))]) 1 am_q244 rfl ?_
    obtain ⟨g7, H⟩ := H
    refine ev_s (pc' := 269) (loc' := [.ref 216, .null, .null, .null, .int i4, .int i5, .int i6, .null]) (st' := [.long (am_gl h 262 (Int32.toNatClampNeg i5)), .long (am_gl h 262 (Int32.toNatClampNeg i6))]) (h1 := h) am_q244 rfl rfl rfl (am_xx (lk262 Ly) (am_inl (ln262 Ly) g7)) ?_
    refine ev_p (pc' := 270) (loc' := [.ref 216, .null, .null, .null, .int i4, .int i5, .int i6, .null]) (st' := [.int (lg_cmp (am_gl h 262 (Int32.toNatClampNeg i6)) (am_gl h 262 (Int32.toNatClampNeg i5)))]) 1 am_q244 rfl ?_
    refine ev_jz (t := 278) am_q244 rfl rfl (fun hq => ?_) (fun hq => ?_)
    · replace H := H.1 hq
      refine ev_p (pc' := 246) (loc' := [.ref 216, .null, .null, .null, .int i4, .int i5, .int (i6 + (1 : Int32)), .null]) (st' := []) 4 am_q244 rfl ?_
      exact ev_m (loc' := [.ref 216, .null, .null, .null, .int i4, .int i5, .int (i6 + (1 : Int32)), .null]) am_q244 rfl rfl H
    · replace H := H.2 hq
      refine ev_p (pc' := 246) (loc' := [.ref 216, .null, .null, .null, .int i4, .int i6, .int (i6 + (1 : Int32)), .null]) (st' := []) 5 am_q244 rfl ?_
      exact ev_m (loc' := [.ref 216, .null, .null, .null, .int i4, .int i6, .int (i6 + (1 : Int32)), .null]) am_q244 rfl rfl H
set_option maxRecDepth 20000 in
set_option maxHeartbeats 2000000 in
theorem ws244_324 {d : Nat}  (i5 : Int32) {h : AH} {Q : Option Value → AH → Prop} (Ly : Lay h) (H : ((am_gi h 216 1) ≤ i5 → ∀ h1, h1 = am_si h 216 39 ((am_gi h 216 39) + (1 : Int32)) → Q (some (.int ((am_gi h1 216 39) - (1 : Int32)))) h1) ∧ (¬ (am_gi h 216 1) ≤ i5 → Cl d 173 [.ref 216, .int i5, .int (am_gi h 216 0)] h (fun r3 h2 => ∃ x4, r3 = some (.int x4) ∧ Lay h2 ∧ (x4 = (-1 : Int32) → Ev (d + 1) 244 324 [.ref 216, .null, .null, .null, .null, .int (i5 + (1 : Int32)), .null, .null] [] h2 Q) ∧ (¬ x4 = (-1 : Int32) → am_in x4 60 ∧ am_in (am_gi h2 230 (Int32.toNatClampNeg x4)) 24 ∧ am_in (((12 : Int32) * (am_gi h2 216 39)) + i5) 360 ∧ am_in (am_gi h2 230 (Int32.toNatClampNeg x4)) 24 ∧ ∀ h9, h9 = am_sl h2 227 (Int32.toNatClampNeg (am_gi h2 230 (Int32.toNatClampNeg x4))) ((am_gl h2 227 (Int32.toNatClampNeg (am_gi h2 230 (Int32.toNatClampNeg x4)))) + (Int32.toInt64 (am_gi h2 247 (Int32.toNatClampNeg (((12 : Int32) * (am_gi h2 216 39)) + i5))))) → Ev (d + 1) 244 324 [.ref 216, .null, .null, .null, .null, .int (i5 + (1 : Int32)), .null, .null] [] h9 Q)))) : Ev (d + 1) 244 324 [.ref 216, .null, .null, .null, .null, .int i5, .null, .null] [] h Q := by
  refine ev_p (pc' := 327) (loc' := [.ref 216, .null, .null, .null, .null, .int i5, .null, .null]) (st' := [.ref 216, .int i5]) 2 am_q244 rfl ?_
  refine ev_s (pc' := 330) (loc' := [.ref 216, .null, .null, .null, .null, .int i5, .null, .null]) (st' := [.int (am_gi h 216 1), .int i5]) (h1 := h) am_q244 rfl rfl rfl (if_pos (e := none) (lk216 Ly)) ?_
  refine ev_jc (t := 388) am_q244 rfl rfl (fun hq => ?_) (fun hq => ?_)
  · replace H := H.1 hq
    refine ev_p (pc' := 390) (loc' := [.ref 216, .null, .null, .null, .null, .int i5, .null, .null]) (st' := [.ref 216, .ref 216]) 2 am_q244 rfl ?_
    refine ev_s (pc' := 393) (loc' := [.ref 216, .null, .null, .null, .null, .int i5, .null, .null]) (st' := [.int (am_gi h 216 39), .ref 216]) (h1 := h) am_q244 rfl rfl rfl (if_pos (e := none) (lk216 Ly)) ?_
    refine ev_p (pc' := 395) (loc' := [.ref 216, .null, .null, .null, .null, .int i5, .null, .null]) (st' := [.int ((am_gi h 216 39) + (1 : Int32)), .ref 216]) 2 am_q244 rfl ?_
    refine ev_s (pc' := 398) (loc' := [.ref 216, .null, .null, .null, .null, .int i5, .null, .null]) (st' := []) (h1 := am_si h 216 39 ((am_gi h 216 39) + (1 : Int32))) am_q244 rfl rfl rfl (if_pos (e := none) (lk216 Ly)) ?_
    replace H := H _ rfl
    replace Ly : Lay (am_si h 216 39 ((am_gi h 216 39) + (1 : Int32))) := Ly.si _ _ _
    generalize am_si h 216 39 ((am_gi h 216 39) + (1 : Int32)) = h1 at H Ly ⊢
    refine ev_p (pc' := 399) (loc' := [.ref 216, .null, .null, .null, .null, .int i5, .null, .null]) (st' := [.ref 216]) 1 am_q244 rfl ?_
    refine ev_s (pc' := 402) (loc' := [.ref 216, .null, .null, .null, .null, .int i5, .null, .null]) (st' := [.int (am_gi h1 216 39)]) (h1 := h1) am_q244 rfl rfl rfl (if_pos (e := none) (lk216 Ly)) ?_
    refine ev_p (pc' := 404) (loc' := [.ref 216, .null, .null, .null, .null, .int i5, .null, .null]) (st' := [.int ((am_gi h1 216 39) - (1 : Int32))]) 2 am_q244 rfl ?_
    exact ev_r (v := some (.int ((am_gi h1 216 39) - (1 : Int32)))) am_q244 rfl rfl rfl rfl H
  · replace H := H.2 hq
    refine ev_p (pc' := 337) (loc' := [.ref 216, .null, .null, .null, .null, .int i5, .null, .null]) (st' := [.ref 216, .int i5, .ref 216]) 3 am_q244 rfl ?_
    refine ev_s (pc' := 340) (loc' := [.ref 216, .null, .null, .null, .null, .int i5, .null, .null]) (st' := [.int (am_gi h 216 0), .int i5, .ref 216]) (h1 := h) am_q244 rfl rfl rfl (if_pos (e := none) (lk216 Ly)) ?_
    refine ev_c (vs := [.ref 216, .int i5, .int (am_gi h 216 0)]) (rest := []) 173 am_q244 rfl rfl rfl rfl rfl rfl rfl rfl rfl rfl rfl rfl (Or.inr (congrArg some (lk216 Ly))) (Cl.mono H (Nat.le_refl _) (fun r3 h2 H => ?_))
    obtain ⟨x4, rfl, Ly, H⟩ := H
    refine ev_p (pc' := 348) (loc' := [.ref 216, .null, .null, .null, .null, .int i5, .int x4, .null]) (st' := [.int (-1 : Int32), .int x4]) 3 am_q244 rfl ?_
    refine ev_jc (t := 382) am_q244 rfl rfl (fun hq => ?_) (fun hq => ?_)
    · replace H := H.1 hq
      refine ev_p (pc' := 324) (loc' := [.ref 216, .null, .null, .null, .null, .int (i5 + (1 : Int32)), .null, .null]) (st' := []) 2 am_q244 rfl ?_
      exact ev_m (loc' := [.ref 216, .null, .null, .null, .null, .int (i5 + (1 : Int32)), .null, .null]) am_q244 rfl rfl H
    · replace H := H.2 hq
      refine ev_p (pc' := 352) (loc' := [.ref 216, .null, .null, .null, .null, .int i5, .int x4, .null]) (st' := [.ref 216]) 1 am_q244 rfl ?_
      refine ev_s (pc' := 355) (loc' := [.ref 216, .null, .null, .null, .null, .int i5, .int x4, .null]) (st' := [.ref 227]) (h1 := h2) am_q244 rfl rfl rfl (am_gf2 (lk216 Ly) (lr216_13 Ly)) ?_
      refine ev_p (pc' := 356) (loc' := [.ref 216, .null, .null, .null, .null, .int i5, .int x4, .null]) (st' := [.ref 216, .ref 227]) 1 am_q244 rfl ?_
      refine ev_s (pc' := 359) (loc' := [.ref 216, .null, .null, .null, .null, .int i5, .int x4, .null]) (st' := [.ref 230, .ref 227]) (h1 := h2) am_q244 rfl rfl rfl (am_gf2 (lk216 Ly) (lr216_17 Ly)) ?_
      refine ev_p (pc' := 361) (loc' := [.ref 216, .null, .null, .null, .null, .int i5, .int x4, .null]) (st' := [.int x4, .ref 230, .ref 227]) 1 am_q244 rfl ?_
      obtain ⟨g5, H⟩ := H
      refine ev_s (pc' := 362) (loc' := [.ref 216, .null, .null, .null, .null, .int i5, .int x4, .null]) (st' := [.int (am_gi h2 230 (Int32.toNatClampNeg x4)), .ref 227]) (h1 := h2) am_q244 rfl rfl rfl (am_xx (lk230 Ly) (am_inl (ln230 Ly) g5)) ?_
      refine ev_p (pc' := 363) (loc' := [.ref 216, .null, .null, .null, .null, .int i5, .int x4, .null]) (st' := [.int (am_gi h2 230 (Int32.toNatClampNeg x4)), .ref 227, .int (am_gi h2 230 (Int32.toNatClampNeg x4)), .ref 227]) 1 am_q244 rfl ?_
      obtain ⟨g6, H⟩ := H
      refine ev_s (pc' := 364) (loc' := [.ref 216, .null, .null, .null, .null, .int i5, .int x4, .null]) (st' := [.long (am_gl h2 227 (Int32.toNatClampNeg (am_gi h2 230 (Int32.toNatClampNeg x4)))), .int (am_gi h2 230 (Int32.toNatClampNeg x4)), .ref 227]) (h1 := h2) am_q244 rfl rfl rfl (am_xx (lk227 Ly) (am_inl (ln227 Ly) g6)) ?_
      refine ev_p (pc' := 365) (loc' := [.ref 216, .null, .null, .null, .null, .int i5, .int x4, .null]) (st' := [.ref 216, .long (am_gl h2 227 (Int32.toNatClampNeg (am_gi h2 230 (Int32.toNatClampNeg x4)))), .int (am_gi h2 230 (Int32.toNatClampNeg x4)), .ref 227]) 1 am_q244 rfl ?_
      refine ev_s (pc' := 368) (loc' := [.ref 216, .null, .null, .null, .null, .int i5, .int x4, .null]) (st' := [.ref 247, .long (am_gl h2 227 (Int32.toNatClampNeg (am_gi h2 230 (Int32.toNatClampNeg x4)))), .int (am_gi h2 230 (Int32.toNatClampNeg x4)), .ref 227]) (h1 := h2) am_q244 rfl rfl rfl (am_gf2 (lk216 Ly) (lr216_40 Ly)) ?_
      refine ev_p (pc' := 371) (loc' := [.ref 216, .null, .null, .null, .null, .int i5, .int x4, .null]) (st' := [.ref 216, .int (12 : Int32), .ref 247, .long (am_gl h2 227 (Int32.toNatClampNeg (am_gi h2 230 (Int32.toNatClampNeg x4)))), .int (am_gi h2 230 (Int32.toNatClampNeg x4)), .ref 227]) 2 am_q244 rfl ?_
      refine ev_s (pc' := 374) (loc' := [.ref 216, .null, .null, .null, .null, .int i5, .int x4, .null]) (st' := [.int (am_gi h2 216 39), .int (12 : Int32), .ref 247, .long (am_gl h2 227 (Int32.toNatClampNeg (am_gi h2 230 (Int32.toNatClampNeg x4)))), .int (am_gi h2 230 (Int32.toNatClampNeg x4)), .ref 227]) (h1 := h2) am_q244 rfl rfl rfl (if_pos (e := none) (lk216 Ly)) ?_
      refine ev_p (pc' := 378) (loc' := [.ref 216, .null, .null, .null, .null, .int i5, .int x4, .null]) (st' := [.int (((12 : Int32) * (am_gi h2 216 39)) + i5), .ref 247, .long (am_gl h2 227 (Int32.toNatClampNeg (am_gi h2 230 (Int32.toNatClampNeg x4)))), .int (am_gi h2 230 (Int32.toNatClampNeg x4)), .ref 227]) 3 am_q244 rfl ?_
      obtain ⟨g7, H⟩ := H
      refine ev_s (pc' := 379) (loc' := [.ref 216, .null, .null, .null, .null, .int i5, .int x4, .null]) (st' := [.int (am_gi h2 247 (Int32.toNatClampNeg (((12 : Int32) * (am_gi h2 216 39)) + i5))), .long (am_gl h2 227 (Int32.toNatClampNeg (am_gi h2 230 (Int32.toNatClampNeg x4)))), .int (am_gi h2 230 (Int32.toNatClampNeg x4)), .ref 227]) (h1 := h2) am_q244 rfl rfl rfl (am_xx (lk247 Ly) (am_inl (ln247 Ly) g7)) ?_
      refine ev_p (pc' := 381) (loc' := [.ref 216, .null, .null, .null, .null, .int i5, .int x4, .null]) (st' := [.long ((am_gl h2 227 (Int32.toNatClampNeg (am_gi h2 230 (Int32.toNatClampNeg x4)))) + (Int32.toInt64 (am_gi h2 247 (Int32.toNatClampNeg (((12 : Int32) * (am_gi h2 216 39)) + i5))))), .int (am_gi h2 230 (Int32.toNatClampNeg x4)), .ref 227]) 2 am_q244 rfl ?_
      obtain ⟨g8, H⟩ := H
      refine ev_s (pc' := 382) (loc' := [.ref 216, .null, .null, .null, .null, .int i5, .int x4, .null]) (st' := []) (h1 := am_sl h2 227 (Int32.toNatClampNeg (am_gi h2 230 (Int32.toNatClampNeg x4))) ((am_gl h2 227 (Int32.toNatClampNeg (am_gi h2 230 (Int32.toNatClampNeg x4)))) + (Int32.toInt64 (am_gi h2 247 (Int32.toNatClampNeg (((12 : Int32) * (am_gi h2 216 39)) + i5)))))) am_q244 rfl rfl rfl (am_xx (lk227 Ly) (am_inl (ln227 Ly) g8)) ?_
      replace H := H _ rfl
      replace Ly : Lay (am_sl h2 227 (Int32.toNatClampNeg (am_gi h2 230 (Int32.toNatClampNeg x4))) ((am_gl h2 227 (Int32.toNatClampNeg (am_gi h2 230 (Int32.toNatClampNeg x4)))) + (Int32.toInt64 (am_gi h2 247 (Int32.toNatClampNeg (((12 : Int32) * (am_gi h2 216 39)) + i5)))))) := Ly.sl _ _ _
      generalize am_sl h2 227 (Int32.toNatClampNeg (am_gi h2 230 (Int32.toNatClampNeg x4))) ((am_gl h2 227 (Int32.toNatClampNeg (am_gi h2 230 (Int32.toNatClampNeg x4)))) + (Int32.toInt64 (am_gi h2 247 (Int32.toNatClampNeg (((12 : Int32) * (am_gi h2 216 39)) + i5))))) = h9 at H Ly ⊢
      refine ev_p (pc' := 324) (loc' := [.ref 216, .null, .null, .null, .null, .int (i5 + (1 : Int32)), .null, .null]) (st' := []) 2 am_q244 rfl ?_
      exact ev_m (loc' := [.ref 216, .null, .null, .null, .null, .int (i5 + (1 : Int32)), .null, .null]) am_q244 rfl rfl H
/-! 245: X12_parted -/
set_option maxRecDepth 20000 in
set_option maxHeartbeats 2000000 in
theorem ws245 {d : Nat}  (i1 : Int32) (i2 : Int32) {h : AH} {Q : Option Value → AH → Prop} (Ly : Lay h) (H : Cl d 167 [.int i1, .int (0 : Int32), .int ((am_gi h 216 39) - (1 : Int32))] h (fun r2 h1 => ∃ x3, r2 = some (.int x3) ∧ Lay h1 ∧ (x3 = (0 : Int32) → Q (some (.int (-2 : Int32))) h1) ∧ (¬ x3 = (0 : Int32) → Cl d 168 [.ref 216, .int i2] h1 (fun r5 h4 => ∃ x6, r5 = some (.int x6) ∧ Lay h4 ∧ (x6 = (0 : Int32) → Q (some (.int (-2 : Int32))) h4) ∧ (¬ x6 = (0 : Int32) → am_in (((12 : Int32) * i1) + i2) 360 ∧ Q (some (.int (am_gi h4 247 (Int32.toNatClampNeg (((12 : Int32) * i1) + i2))))) h4))))) : Cl (d + 1) 245 [.ref 216, .int i1, .int i2] h Q := by
  show Ev (d + 1) 245 0 [.ref 216, .int i1, .int i2] [] h Q
  refine ev_p (pc' := 3) (loc' := [.ref 216, .int i1, .int i2]) (st' := [.ref 216, .int (0 : Int32), .int i1]) 3 am_q245 rfl ?_
  refine ev_s (pc' := 6) (loc' := [.ref 216, .int i1, .int i2]) (st' := [.int (am_gi h 216 39), .int (0 : Int32), .int i1]) (h1 := h) am_q245 rfl rfl rfl (if_pos (e := none) (lk216 Ly)) ?_
  refine ev_p (pc' := 8) (loc' := [.ref 216, .int i1, .int i2]) (st' := [.int ((am_gi h 216 39) - (1 : Int32)), .int (0 : Int32), .int i1]) 2 am_q245 rfl ?_
  refine ev_c (vs := [.int i1, .int (0 : Int32), .int ((am_gi h 216 39) - (1 : Int32))]) (rest := []) 167 am_q245 rfl rfl rfl rfl rfl rfl rfl rfl rfl rfl rfl rfl (Or.inl rfl) (Cl.mono H (Nat.le_refl _) (fun r2 h1 H => ?_))
  obtain ⟨x3, rfl, Ly, H⟩ := H
  refine ev_jz (t := 36) am_q245 rfl rfl (fun hq => ?_) (fun hq => ?_)
  · replace H := H.1 hq
    refine ev_p (pc' := 38) (loc' := [.null, .null, .null]) (st' := [.int (-2 : Int32)]) 1 am_q245 rfl ?_
    exact ev_r (v := some (.int (-2 : Int32))) am_q245 rfl rfl rfl rfl H
  · replace H := H.2 hq
    refine ev_p (pc' := 16) (loc' := [.ref 216, .int i1, .int i2]) (st' := [.int i2, .ref 216]) 2 am_q245 rfl ?_
    refine ev_c (vs := [.ref 216, .int i2]) (rest := []) 168 am_q245 rfl rfl rfl rfl rfl rfl rfl rfl rfl rfl rfl rfl (Or.inr (congrArg some (lk216 Ly))) (Cl.mono H (Nat.le_refl _) (fun r5 h4 H => ?_))
    obtain ⟨x6, rfl, Ly, H⟩ := H
    refine ev_jz (t := 36) am_q245 rfl rfl (fun hq => ?_) (fun hq => ?_)
    · replace H := H.1 hq
      refine ev_p (pc' := 38) (loc' := [.null, .null, .null]) (st' := [.int (-2 : Int32)]) 1 am_q245 rfl ?_
      exact ev_r (v := some (.int (-2 : Int32))) am_q245 rfl rfl rfl rfl H
    · replace H := H.2 hq
      refine ev_p (pc' := 23) (loc' := [.ref 216, .int i1, .int i2]) (st' := [.ref 216]) 1 am_q245 rfl ?_
      refine ev_s (pc' := 26) (loc' := [.ref 216, .int i1, .int i2]) (st' := [.ref 247]) (h1 := h4) am_q245 rfl rfl rfl (am_gf2 (lk216 Ly) (lr216_40 Ly)) ?_
      refine ev_p (pc' := 32) (loc' := [.ref 216, .int i1, .int i2]) (st' := [.int (((12 : Int32) * i1) + i2), .ref 247]) 5 am_q245 rfl ?_
      obtain ⟨g7, H⟩ := H
      refine ev_s (pc' := 33) (loc' := [.ref 216, .int i1, .int i2]) (st' := [.int (am_gi h4 247 (Int32.toNatClampNeg (((12 : Int32) * i1) + i2)))]) (h1 := h4) am_q245 rfl rfl rfl (am_xx (lk247 Ly) (am_inl (ln247 Ly) g7)) ?_
      refine ev_p (pc' := 38) (loc' := [.ref 216, .int i1, .int i2]) (st' := [.int (am_gi h4 247 (Int32.toNatClampNeg (((12 : Int32) * i1) + i2)))]) 1 am_q245 rfl ?_
      exact ev_r (v := some (.int (am_gi h4 247 (Int32.toNatClampNeg (((12 : Int32) * i1) + i2))))) am_q245 rfl rfl rfl rfl H
/-! 246: X12_pay -/
set_option maxRecDepth 20000 in
set_option maxHeartbeats 2000000 in
theorem ws246 {d : Nat}  (i1 : Int32) (i2 : Int32) {h : AH} {Q : Option Value → AH → Prop} (Ly : Lay h) (H : Cl d 169 [.ref 216, .int i1] h (fun r2 h1 => ∃ x3, r2 = some (.int x3) ∧ Lay h1 ∧ (x3 = (0 : Int32) → Q (some (.long (-4611686018427387904 : Int64))) h1) ∧ (¬ x3 = (0 : Int32) → Cl d 167 [.int i2, .int (0 : Int32), .int (1000000 : Int32)] h1 (fun r5 h4 => ∃ x6, r5 = some (.int x6) ∧ Lay h4 ∧ ((¬ x6 = (0 : Int32)) → am_in i1 24 ∧ am_in i1 24 ∧ ∀ h9, h9 = am_sl h4 227 (Int32.toNatClampNeg i1) ((am_gl h4 227 (Int32.toNatClampNeg i1)) - (Int32.toInt64 i2)) → am_in i1 24 ∧ Q (some (.long (am_gl h9 227 (Int32.toNatClampNeg i1)))) h9) ∧ (¬ (¬ x6 = (0 : Int32)) → Q (some (.long (-4611686018427387904 : Int64))) h4))))) : Cl (d + 1) 246 [.ref 216, .int i1, .int i2] h Q := by
  show Ev (d + 1) 246 0 [.ref 216, .int i1, .int i2] [] h Q
  refine ev_p (pc' := 2) (loc' := [.ref 216, .int i1, .int i2]) (st' := [.int i1, .ref 216]) 2 am_q246 rfl ?_
  refine ev_c (vs := [.ref 216, .int i1]) (rest := []) 169 am_q246 rfl rfl rfl rfl rfl rfl rfl rfl rfl rfl rfl rfl (Or.inr (congrArg some (lk216 Ly))) (Cl.mono H (Nat.le_refl _) (fun r2 h1 H => ?_))
  obtain ⟨x3, rfl, Ly, H⟩ := H
  refine ev_jz (t := 18) am_q246 rfl rfl (fun hq => ?_) (fun hq => ?_)
  · replace H := H.1 hq
    refine ev_p (pc' := 21) (loc' := [.null, .null, .null]) (st' := [.long (-4611686018427387904 : Int64)]) 1 am_q246 rfl ?_
    exact ev_r (v := some (.long (-4611686018427387904 : Int64))) am_q246 rfl rfl rfl rfl H
  · replace H := H.2 hq
    refine ev_p (pc' := 12) (loc' := [.ref 216, .int i1, .int i2]) (st' := [.int (1000000 : Int32), .int (0 : Int32), .int i2]) 3 am_q246 rfl ?_
    refine ev_c (vs := [.int i2, .int (0 : Int32), .int (1000000 : Int32)]) (rest := []) 167 am_q246 rfl rfl rfl rfl rfl rfl rfl rfl rfl rfl rfl rfl (Or.inl rfl) (Cl.mono H (Nat.le_refl _) (fun r5 h4 H => ?_))
    obtain ⟨x6, rfl, Ly, H⟩ := H
    refine ev_jz (t := 22) am_q246 rfl rfl (fun hq => ?_) (fun hq => ?_)
    · replace H := H.1 hq
      refine ev_p (pc' := 23) (loc' := [.ref 216, .int i1, .int i2]) (st' := [.ref 216]) 1 am_q246 rfl ?_
      refine ev_s (pc' := 26) (loc' := [.ref 216, .int i1, .int i2]) (st' := [.ref 227]) (h1 := h4) am_q246 rfl rfl rfl (am_gf2 (lk216 Ly) (lr216_13 Ly)) ?_
      refine ev_p (pc' := 28) (loc' := [.ref 216, .int i1, .int i2]) (st' := [.int i1, .ref 227, .int i1, .ref 227]) 2 am_q246 rfl ?_
      obtain ⟨g7, H⟩ := H
      refine ev_s (pc' := 29) (loc' := [.ref 216, .int i1, .int i2]) (st' := [.long (am_gl h4 227 (Int32.toNatClampNeg i1)), .int i1, .ref 227]) (h1 := h4) am_q246 rfl rfl rfl (am_xx (lk227 Ly) (am_inl (ln227 Ly) g7)) ?_
      refine ev_p (pc' := 32) (loc' := [.ref 216, .int i1, .int i2]) (st' := [.long ((am_gl h4 227 (Int32.toNatClampNeg i1)) - (Int32.toInt64 i2)), .int i1, .ref 227]) 3 am_q246 rfl ?_
      obtain ⟨g8, H⟩ := H
      refine ev_s (pc' := 33) (loc' := [.ref 216, .int i1, .int i2]) (st' := []) (h1 := am_sl h4 227 (Int32.toNatClampNeg i1) ((am_gl h4 227 (Int32.toNatClampNeg i1)) - (Int32.toInt64 i2))) am_q246 rfl rfl rfl (am_xx (lk227 Ly) (am_inl (ln227 Ly) g8)) ?_
      replace H := H _ rfl
      replace Ly : Lay (am_sl h4 227 (Int32.toNatClampNeg i1) ((am_gl h4 227 (Int32.toNatClampNeg i1)) - (Int32.toInt64 i2))) := Ly.sl _ _ _
      generalize am_sl h4 227 (Int32.toNatClampNeg i1) ((am_gl h4 227 (Int32.toNatClampNeg i1)) - (Int32.toInt64 i2)) = h9 at H Ly ⊢
      refine ev_p (pc' := 34) (loc' := [.ref 216, .int i1, .int i2]) (st' := [.ref 216]) 1 am_q246 rfl ?_
      refine ev_s (pc' := 37) (loc' := [.ref 216, .int i1, .int i2]) (st' := [.ref 227]) (h1 := h9) am_q246 rfl rfl rfl (am_gf2 (lk216 Ly) (lr216_13 Ly)) ?_
      refine ev_p (pc' := 38) (loc' := [.ref 216, .int i1, .int i2]) (st' := [.int i1, .ref 227]) 1 am_q246 rfl ?_
      obtain ⟨g10, H⟩ := H
      refine ev_s (pc' := 39) (loc' := [.ref 216, .int i1, .int i2]) (st' := [.long (am_gl h9 227 (Int32.toNatClampNeg i1))]) (h1 := h9) am_q246 rfl rfl rfl (am_xx (lk227 Ly) (am_inl (ln227 Ly) g10)) ?_
      exact ev_r (v := some (.long (am_gl h9 227 (Int32.toNatClampNeg i1)))) am_q246 rfl rfl rfl rfl H
    · replace H := H.2 hq
      refine ev_p (pc' := 21) (loc' := [.null, .null, .null]) (st' := [.long (-4611686018427387904 : Int64)]) 1 am_q246 rfl ?_
      exact ev_r (v := some (.long (-4611686018427387904 : Int64))) am_q246 rfl rfl rfl rfl H
/-! 247: X12_year -/
set_option maxRecDepth 20000 in
set_option maxHeartbeats 2000000 in
theorem ws247 {d : Nat}  (i1 : Int32) (i2 : Int32) {h : AH} {Q : Option Value → AH → Prop} (Ly : Lay h) (H : Cl d 167 [.int i1, .int (0 : Int32), .int (39 : Int32)] h (fun r2 h1 => ∃ x3, r2 = some (.int x3) ∧ Lay h1 ∧ (x3 = (0 : Int32) → Q (some (.int (-2 : Int32))) h1) ∧ (¬ x3 = (0 : Int32) → Cl d 167 [.int i2, .int (0 : Int32), .int (1000000 : Int32)] h1 (fun r5 h4 => ∃ x6, r5 = some (.int x6) ∧ Lay h4 ∧ ((¬ x6 = (0 : Int32)) → am_in i1 40 ∧ am_in i1 40 ∧ ∀ h9, h9 = am_si h4 248 (Int32.toNatClampNeg i1) i2 → Q (some (.int (am_gi h4 248 (Int32.toNatClampNeg i1)))) h9) ∧ (¬ (¬ x6 = (0 : Int32)) → Q (some (.int (-2 : Int32))) h4))))) : Cl (d + 1) 247 [.ref 216, .int i1, .int i2] h Q := by
  show Ev (d + 1) 247 0 [.ref 216, .int i1, .int i2, .null] [] h Q
  refine ev_p (pc' := 4) (loc' := [.ref 216, .int i1, .int i2, .null]) (st' := [.int (39 : Int32), .int (0 : Int32), .int i1]) 3 am_q247 rfl ?_
  refine ev_c (vs := [.int i1, .int (0 : Int32), .int (39 : Int32)]) (rest := []) 167 am_q247 rfl rfl rfl rfl rfl rfl rfl rfl rfl rfl rfl rfl (Or.inl rfl) (Cl.mono H (Nat.le_refl _) (fun r2 h1 H => ?_))
  obtain ⟨x3, rfl, Ly, H⟩ := H
  refine ev_jz (t := 20) am_q247 rfl rfl (fun hq => ?_) (fun hq => ?_)
  · replace H := H.1 hq
    refine ev_p (pc' := 22) (loc' := [.null, .null, .null, .null]) (st' := [.int (-2 : Int32)]) 1 am_q247 rfl ?_
    exact ev_r (v := some (.int (-2 : Int32))) am_q247 rfl rfl rfl rfl H
  · replace H := H.2 hq
    refine ev_p (pc' := 14) (loc' := [.ref 216, .int i1, .int i2, .null]) (st' := [.int (1000000 : Int32), .int (0 : Int32), .int i2]) 3 am_q247 rfl ?_
    refine ev_c (vs := [.int i2, .int (0 : Int32), .int (1000000 : Int32)]) (rest := []) 167 am_q247 rfl rfl rfl rfl rfl rfl rfl rfl rfl rfl rfl rfl (Or.inl rfl) (Cl.mono H (Nat.le_refl _) (fun r5 h4 H => ?_))
    obtain ⟨x6, rfl, Ly, H⟩ := H
    refine ev_jz (t := 23) am_q247 rfl rfl (fun hq => ?_) (fun hq => ?_)
    · replace H := H.1 hq
      refine ev_p (pc' := 24) (loc' := [.ref 216, .int i1, .int i2, .null]) (st' := [.ref 216]) 1 am_q247 rfl ?_
      refine ev_s (pc' := 27) (loc' := [.ref 216, .int i1, .int i2, .null]) (st' := [.ref 248]) (h1 := h4) am_q247 rfl rfl rfl (am_gf2 (lk216 Ly) (lr216_41 Ly)) ?_
      refine ev_p (pc' := 28) (loc' := [.ref 216, .int i1, .int i2, .null]) (st' := [.int i1, .ref 248]) 1 am_q247 rfl ?_
      obtain ⟨g7, H⟩ := H
      refine ev_s (pc' := 29) (loc' := [.ref 216, .int i1, .int i2, .null]) (st' := [.int (am_gi h4 248 (Int32.toNatClampNeg i1))]) (h1 := h4) am_q247 rfl rfl rfl (am_xx (lk248 Ly) (am_inl (ln248 Ly) g7)) ?_
      refine ev_p (pc' := 31) (loc' := [.ref 216, .int i1, .int i2, .int (am_gi h4 248 (Int32.toNatClampNeg i1))]) (st' := [.ref 216]) 2 am_q247 rfl ?_
      refine ev_s (pc' := 34) (loc' := [.ref 216, .int i1, .int i2, .int (am_gi h4 248 (Int32.toNatClampNeg i1))]) (st' := [.ref 248]) (h1 := h4) am_q247 rfl rfl rfl (am_gf2 (lk216 Ly) (lr216_41 Ly)) ?_
      refine ev_p (pc' := 36) (loc' := [.ref 216, .int i1, .int i2, .int (am_gi h4 248 (Int32.toNatClampNeg i1))]) (st' := [.int i2, .int i1, .ref 248]) 2 am_q247 rfl ?_
      obtain ⟨g8, H⟩ := H
      refine ev_s (pc' := 37) (loc' := [.ref 216, .int i1, .int i2, .int (am_gi h4 248 (Int32.toNatClampNeg i1))]) (st' := []) (h1 := am_si h4 248 (Int32.toNatClampNeg i1) i2) am_q247 rfl rfl rfl (am_xx ⟨lk248 Ly, (Nat.le_of_ble_eq_true rfl)⟩ (am_inl (ln248 Ly) g8)) ?_
      replace H := H _ rfl
      replace Ly : Lay (am_si h4 248 (Int32.toNatClampNeg i1) i2) := Ly.si _ _ _
      generalize am_si h4 248 (Int32.toNatClampNeg i1) i2 = h9 at H Ly ⊢
      refine ev_p (pc' := 38) (loc' := [.ref 216, .int i1, .int i2, .int (am_gi h4 248 (Int32.toNatClampNeg i1))]) (st' := [.int (am_gi h4 248 (Int32.toNatClampNeg i1))]) 1 am_q247 rfl ?_
      exact ev_r (v := some (.int (am_gi h4 248 (Int32.toNatClampNeg i1)))) am_q247 rfl rfl rfl rfl H
    · replace H := H.2 hq
      refine ev_p (pc' := 22) (loc' := [.null, .null, .null, .null]) (st' := [.int (-2 : Int32)]) 1 am_q247 rfl ?_
      exact ev_r (v := some (.int (-2 : Int32))) am_q247 rfl rfl rfl rfl H
/-! 248: X12_gain -/
set_option maxRecDepth 20000 in
set_option maxHeartbeats 2000000 in
theorem ws248 {d : Nat}  (i1 : Int32) {h : AH} {Q : Option Value → AH → Prop} (Ly : Lay h) (H : Cl d 167 [.int i1, .int (0 : Int32), .int (100 : Int32)] h (fun r2 h1 => ∃ x3, r2 = some (.int x3) ∧ Lay h1 ∧ ((¬ x3 = (0 : Int32)) → ∀ h4, h4 = am_si h1 216 42 i1 → Q (some (.int (am_gi h1 216 42))) h4) ∧ (¬ (¬ x3 = (0 : Int32)) → Q (some (.int (-2 : Int32))) h1))) : Cl (d + 1) 248 [.ref 216, .int i1] h Q := by
  show Ev (d + 1) 248 0 [.ref 216, .int i1, .null] [] h Q
  refine ev_p (pc' := 4) (loc' := [.ref 216, .int i1, .null]) (st' := [.int (100 : Int32), .int (0 : Int32), .int i1]) 3 am_q248 rfl ?_
  refine ev_c (vs := [.int i1, .int (0 : Int32), .int (100 : Int32)]) (rest := []) 167 am_q248 rfl rfl rfl rfl rfl rfl rfl rfl rfl rfl rfl rfl (Or.inl rfl) (Cl.mono H (Nat.le_refl _) (fun r2 h1 H => ?_))
  obtain ⟨x3, rfl, Ly, H⟩ := H
  refine ev_jz (t := 13) am_q248 rfl rfl (fun hq => ?_) (fun hq => ?_)
  · replace H := H.1 hq
    refine ev_p (pc' := 14) (loc' := [.ref 216, .int i1, .null]) (st' := [.ref 216]) 1 am_q248 rfl ?_
    refine ev_s (pc' := 17) (loc' := [.ref 216, .int i1, .null]) (st' := [.int (am_gi h1 216 42)]) (h1 := h1) am_q248 rfl rfl rfl (if_pos (e := none) (lk216 Ly)) ?_
    refine ev_p (pc' := 20) (loc' := [.ref 216, .int i1, .int (am_gi h1 216 42)]) (st' := [.int i1, .ref 216]) 3 am_q248 rfl ?_
    refine ev_s (pc' := 23) (loc' := [.ref 216, .int i1, .int (am_gi h1 216 42)]) (st' := []) (h1 := am_si h1 216 42 i1) am_q248 rfl rfl rfl (if_pos (e := none) (lk216 Ly)) ?_
    replace H := H _ rfl
    replace Ly : Lay (am_si h1 216 42 i1) := Ly.si _ _ _
    generalize am_si h1 216 42 i1 = h4 at H Ly ⊢
    refine ev_p (pc' := 24) (loc' := [.ref 216, .int i1, .int (am_gi h1 216 42)]) (st' := [.int (am_gi h1 216 42)]) 1 am_q248 rfl ?_
    exact ev_r (v := some (.int (am_gi h1 216 42))) am_q248 rfl rfl rfl rfl H
  · replace H := H.2 hq
    refine ev_p (pc' := 12) (loc' := [.ref 216, .int i1, .null]) (st' := [.int (-2 : Int32)]) 1 am_q248 rfl ?_
    exact ev_r (v := some (.int (-2 : Int32))) am_q248 rfl rfl rfl rfl H
/-! 249: X12_funded -/
set_option maxRecDepth 20000 in
set_option maxHeartbeats 2000000 in
theorem ws249 {d : Nat}  (i1 : Int32) (i2 : Int32) {h : AH} {Q : Option Value → AH → Prop} (Ly : Lay h) (H : ∀ h1, h1 = am_sl h 216 70 (0 : Int64) → Ev d 249 10 [.ref 216, .int i1, .int i2, .long (0 : Int64), .null, .int (0 : Int32)] [] h1 Q) : Cl d 249 [.ref 216, .int i1, .int i2] h Q := by
  show Ev d 249 0 [.ref 216, .int i1, .int i2, .null, .null, .null] [] h Q
  refine ev_p (pc' := 4) (loc' := [.ref 216, .int i1, .int i2, .long (0 : Int64), .null, .null]) (st' := [.long (0 : Int64), .ref 216]) 4 am_q249 rfl ?_
  refine ev_s (pc' := 7) (loc' := [.ref 216, .int i1, .int i2, .long (0 : Int64), .null, .null]) (st' := []) (h1 := am_sl h 216 70 (0 : Int64)) am_q249 rfl rfl rfl (if_pos (e := none) (lk216 Ly)) ?_
  replace H := H _ rfl
  replace Ly : Lay (am_sl h 216 70 (0 : Int64)) := Ly.sl _ _ _
  generalize am_sl h 216 70 (0 : Int64) = h1 at H Ly ⊢
  refine ev_p (pc' := 10) (loc' := [.ref 216, .int i1, .int i2, .long (0 : Int64), .null, .int (0 : Int32)]) (st' := []) 2 am_q249 rfl ?_
  exact ev_m (loc' := [.ref 216, .int i1, .int i2, .long (0 : Int64), .null, .int (0 : Int32)]) am_q249 rfl rfl H
set_option maxRecDepth 20000 in
set_option maxHeartbeats 2000000 in
theorem ws249_10 {d : Nat}  (i1 : Int32) (i2 : Int32) (l3 : Int64) (i5 : Int32) {h : AH} {Q : Option Value → AH → Prop} (Ly : Lay h) (H : (i1 < i5 → Q (some (.long l3)) h) ∧ (¬ i1 < i5 → ¬ (1000 : Int64) = (0 : Int64) ∧ am_in i5 40 ∧ ((0 : Int32) ≤ (lg_cmp (((l3 + (Int32.toInt64 i2)) + (((l3 + (Int32.toInt64 i2)) * (Int32.toInt64 (am_gi h 216 42))) / (1000 : Int64))) - (Int32.toInt64 (am_gi h 248 (Int32.toNatClampNeg i5)))) (am_gl h 216 70)) → ∀ h3, h3 = am_sl h 216 70 (am_gl h 216 70) → Ev d 249 10 [.ref 216, .int i1, .int i2, .long (((l3 + (Int32.toInt64 i2)) + (((l3 + (Int32.toInt64 i2)) * (Int32.toInt64 (am_gi h 216 42))) / (1000 : Int64))) - (Int32.toInt64 (am_gi h 248 (Int32.toNatClampNeg i5)))), .null, .int (i5 + (1 : Int32))] [] h3 Q) ∧ (¬ (0 : Int32) ≤ (lg_cmp (((l3 + (Int32.toInt64 i2)) + (((l3 + (Int32.toInt64 i2)) * (Int32.toInt64 (am_gi h 216 42))) / (1000 : Int64))) - (Int32.toInt64 (am_gi h 248 (Int32.toNatClampNeg i5)))) (am_gl h 216 70)) → ∀ h4, h4 = am_sl h 216 70 (((l3 + (Int32.toInt64 i2)) + (((l3 + (Int32.toInt64 i2)) * (Int32.toInt64 (am_gi h 216 42))) / (1000 : Int64))) - (Int32.toInt64 (am_gi h 248 (Int32.toNatClampNeg i5)))) → Ev d 249 10 [.ref 216, .int i1, .int i2, .long (((l3 + (Int32.toInt64 i2)) + (((l3 + (Int32.toInt64 i2)) * (Int32.toInt64 (am_gi h 216 42))) / (1000 : Int64))) - (Int32.toInt64 (am_gi h 248 (Int32.toNatClampNeg i5)))), .null, .int (i5 + (1 : Int32))] [] h4 Q))) : Ev d 249 10 [.ref 216, .int i1, .int i2, .long l3, .null, .int i5] [] h Q := by
  refine ev_p (pc' := 13) (loc' := [.ref 216, .int i1, .int i2, .long l3, .null, .int i5]) (st' := [.int i1, .int i5]) 2 am_q249 rfl ?_
  refine ev_jc (t := 73) am_q249 rfl rfl (fun hq => ?_) (fun hq => ?_)
  · replace H := H.1 hq
    refine ev_p (pc' := 74) (loc' := [.ref 216, .int i1, .int i2, .long l3, .null, .int i5]) (st' := [.long l3]) 1 am_q249 rfl ?_
    exact ev_r (v := some (.long l3)) am_q249 rfl rfl rfl rfl H
  · replace H := H.2 hq
    refine ev_p (pc' := 24) (loc' := [.ref 216, .int i1, .int i2, .long (l3 + (Int32.toInt64 i2)), .null, .int i5]) (st' := [.ref 216, .long (l3 + (Int32.toInt64 i2)), .long (l3 + (Int32.toInt64 i2))]) 8 am_q249 rfl ?_
    refine ev_s (pc' := 27) (loc' := [.ref 216, .int i1, .int i2, .long (l3 + (Int32.toInt64 i2)), .null, .int i5]) (st' := [.int (am_gi h 216 42), .long (l3 + (Int32.toInt64 i2)), .long (l3 + (Int32.toInt64 i2))]) (h1 := h) am_q249 rfl rfl rfl (if_pos (e := none) (lk216 Ly)) ?_
    refine ev_p (pc' := 32) (loc' := [.ref 216, .int i1, .int i2, .long (l3 + (Int32.toInt64 i2)), .null, .int i5]) (st' := [.long (1000 : Int64), .long ((l3 + (Int32.toInt64 i2)) * (Int32.toInt64 (am_gi h 216 42))), .long (l3 + (Int32.toInt64 i2))]) 3 am_q249 rfl ?_
    obtain ⟨g1, H⟩ := H
    refine ev_s (pc' := 33) (loc' := [.ref 216, .int i1, .int i2, .long (l3 + (Int32.toInt64 i2)), .null, .int i5]) (st' := [.long (((l3 + (Int32.toInt64 i2)) * (Int32.toInt64 (am_gi h 216 42))) / (1000 : Int64)), .long (l3 + (Int32.toInt64 i2))]) (h1 := h) am_q249 rfl rfl rfl (if_neg (t := none) g1) ?_
    refine ev_p (pc' := 37) (loc' := [.ref 216, .int i1, .int i2, .long ((l3 + (Int32.toInt64 i2)) + (((l3 + (Int32.toInt64 i2)) * (Int32.toInt64 (am_gi h 216 42))) / (1000 : Int64))), .null, .int i5]) (st' := [.ref 216, .long ((l3 + (Int32.toInt64 i2)) + (((l3 + (Int32.toInt64 i2)) * (Int32.toInt64 (am_gi h 216 42))) / (1000 : Int64)))]) 4 am_q249 rfl ?_
    refine ev_s (pc' := 40) (loc' := [.ref 216, .int i1, .int i2, .long ((l3 + (Int32.toInt64 i2)) + (((l3 + (Int32.toInt64 i2)) * (Int32.toInt64 (am_gi h 216 42))) / (1000 : Int64))), .null, .int i5]) (st' := [.ref 248, .long ((l3 + (Int32.toInt64 i2)) + (((l3 + (Int32.toInt64 i2)) * (Int32.toInt64 (am_gi h 216 42))) / (1000 : Int64)))]) (h1 := h) am_q249 rfl rfl rfl (am_gf2 (lk216 Ly) (lr216_41 Ly)) ?_
    refine ev_p (pc' := 42) (loc' := [.ref 216, .int i1, .int i2, .long ((l3 + (Int32.toInt64 i2)) + (((l3 + (Int32.toInt64 i2)) * (Int32.toInt64 (am_gi h 216 42))) / (1000 : Int64))), .null, .int i5]) (st' := [.int i5, .ref 248, .long ((l3 + (Int32.toInt64 i2)) + (((l3 + (Int32.toInt64 i2)) * (Int32.toInt64 (am_gi h 216 42))) / (1000 : Int64)))]) 1 am_q249 rfl ?_
    obtain ⟨g2, H⟩ := H
    refine ev_s (pc' := 43) (loc' := [.ref 216, .int i1, .int i2, .long ((l3 + (Int32.toInt64 i2)) + (((l3 + (Int32.toInt64 i2)) * (Int32.toInt64 (am_gi h 216 42))) / (1000 : Int64))), .null, .int i5]) (st' := [.int (am_gi h 248 (Int32.toNatClampNeg i5)), .long ((l3 + (Int32.toInt64 i2)) + (((l3 + (Int32.toInt64 i2)) * (Int32.toInt64 (am_gi h 216 42))) / (1000 : Int64)))]) (h1 := h) am_q249 rfl rfl rfl (am_xx (lk248 Ly) (am_inl (ln248 Ly) g2)) ?_
    refine ev_p (pc' := 49) (loc' := [.ref 216, .int i1, .int i2, .long (((l3 + (Int32.toInt64 i2)) + (((l3 + (Int32.toInt64 i2)) * (Int32.toInt64 (am_gi h 216 42))) / (1000 : Int64))) - (Int32.toInt64 (am_gi h 248 (Int32.toNatClampNeg i5)))), .null, .int i5]) (st' := [.ref 216, .long (((l3 + (Int32.toInt64 i2)) + (((l3 + (Int32.toInt64 i2)) * (Int32.toInt64 (am_gi h 216 42))) / (1000 : Int64))) - (Int32.toInt64 (am_gi h 248 (Int32.toNatClampNeg i5)))), .ref 216]) 6 am_q249 rfl ?_
    refine ev_s (pc' := 52) (loc' := [.ref 216, .int i1, .int i2, .long (((l3 + (Int32.toInt64 i2)) + (((l3 + (Int32.toInt64 i2)) * (Int32.toInt64 (am_gi h 216 42))) / (1000 : Int64))) - (Int32.toInt64 (am_gi h 248 (Int32.toNatClampNeg i5)))), .null, .int i5]) (st' := [.long (am_gl h 216 70), .long (((l3 + (Int32.toInt64 i2)) + (((l3 + (Int32.toInt64 i2)) * (Int32.toInt64 (am_gi h 216 42))) / (1000 : Int64))) - (Int32.toInt64 (am_gi h 248 (Int32.toNatClampNeg i5)))), .ref 216]) (h1 := h) am_q249 rfl rfl rfl (if_pos (e := none) (lk216 Ly)) ?_
    refine ev_p (pc' := 53) (loc' := [.ref 216, .int i1, .int i2, .long (((l3 + (Int32.toInt64 i2)) + (((l3 + (Int32.toInt64 i2)) * (Int32.toInt64 (am_gi h 216 42))) / (1000 : Int64))) - (Int32.toInt64 (am_gi h 248 (Int32.toNatClampNeg i5)))), .null, .int i5]) (st' := [.int (lg_cmp (((l3 + (Int32.toInt64 i2)) + (((l3 + (Int32.toInt64 i2)) * (Int32.toInt64 (am_gi h 216 42))) / (1000 : Int64))) - (Int32.toInt64 (am_gi h 248 (Int32.toNatClampNeg i5)))) (am_gl h 216 70)), .ref 216]) 1 am_q249 rfl ?_
    refine ev_jz (t := 60) am_q249 rfl rfl (fun hq => ?_) (fun hq => ?_)
    · replace H := H.1 hq
      refine ev_p (pc' := 61) (loc' := [.ref 216, .int i1, .int i2, .long (((l3 + (Int32.toInt64 i2)) + (((l3 + (Int32.toInt64 i2)) * (Int32.toInt64 (am_gi h 216 42))) / (1000 : Int64))) - (Int32.toInt64 (am_gi h 248 (Int32.toNatClampNeg i5)))), .null, .int i5]) (st' := [.ref 216, .ref 216]) 1 am_q249 rfl ?_
      refine ev_s (pc' := 64) (loc' := [.ref 216, .int i1, .int i2, .long (((l3 + (Int32.toInt64 i2)) + (((l3 + (Int32.toInt64 i2)) * (Int32.toInt64 (am_gi h 216 42))) / (1000 : Int64))) - (Int32.toInt64 (am_gi h 248 (Int32.toNatClampNeg i5)))), .null, .int i5]) (st' := [.long (am_gl h 216 70), .ref 216]) (h1 := h) am_q249 rfl rfl rfl (if_pos (e := none) (lk216 Ly)) ?_
      refine ev_s (pc' := 67) (loc' := [.ref 216, .int i1, .int i2, .long (((l3 + (Int32.toInt64 i2)) + (((l3 + (Int32.toInt64 i2)) * (Int32.toInt64 (am_gi h 216 42))) / (1000 : Int64))) - (Int32.toInt64 (am_gi h 248 (Int32.toNatClampNeg i5)))), .null, .int i5]) (st' := []) (h1 := am_sl h 216 70 (am_gl h 216 70)) am_q249 rfl rfl rfl (if_pos (e := none) (lk216 Ly)) ?_
      replace H := H _ rfl
      replace Ly : Lay (am_sl h 216 70 (am_gl h 216 70)) := Ly.sl _ _ _
      generalize am_sl h 216 70 (am_gl h 216 70) = h3 at H Ly ⊢
      refine ev_p (pc' := 10) (loc' := [.ref 216, .int i1, .int i2, .long (((l3 + (Int32.toInt64 i2)) + (((l3 + (Int32.toInt64 i2)) * (Int32.toInt64 (am_gi h 216 42))) / (1000 : Int64))) - (Int32.toInt64 (am_gi h 248 (Int32.toNatClampNeg i5)))), .null, .int (i5 + (1 : Int32))]) (st' := []) 2 am_q249 rfl ?_
      exact ev_m (loc' := [.ref 216, .int i1, .int i2, .long (((l3 + (Int32.toInt64 i2)) + (((l3 + (Int32.toInt64 i2)) * (Int32.toInt64 (am_gi h 216 42))) / (1000 : Int64))) - (Int32.toInt64 (am_gi h 248 (Int32.toNatClampNeg i5)))), .null, .int (i5 + (1 : Int32))]) am_q249 rfl rfl H
    · replace H := H.2 hq
      refine ev_p (pc' := 64) (loc' := [.ref 216, .int i1, .int i2, .long (((l3 + (Int32.toInt64 i2)) + (((l3 + (Int32.toInt64 i2)) * (Int32.toInt64 (am_gi h 216 42))) / (1000 : Int64))) - (Int32.toInt64 (am_gi h 248 (Int32.toNatClampNeg i5)))), .null, .int i5]) (st' := [.long (((l3 + (Int32.toInt64 i2)) + (((l3 + (Int32.toInt64 i2)) * (Int32.toInt64 (am_gi h 216 42))) / (1000 : Int64))) - (Int32.toInt64 (am_gi h 248 (Int32.toNatClampNeg i5)))), .ref 216]) 2 am_q249 rfl ?_
      refine ev_s (pc' := 67) (loc' := [.ref 216, .int i1, .int i2, .long (((l3 + (Int32.toInt64 i2)) + (((l3 + (Int32.toInt64 i2)) * (Int32.toInt64 (am_gi h 216 42))) / (1000 : Int64))) - (Int32.toInt64 (am_gi h 248 (Int32.toNatClampNeg i5)))), .null, .int i5]) (st' := []) (h1 := am_sl h 216 70 (((l3 + (Int32.toInt64 i2)) + (((l3 + (Int32.toInt64 i2)) * (Int32.toInt64 (am_gi h 216 42))) / (1000 : Int64))) - (Int32.toInt64 (am_gi h 248 (Int32.toNatClampNeg i5))))) am_q249 rfl rfl rfl (if_pos (e := none) (lk216 Ly)) ?_
      replace H := H _ rfl
      replace Ly : Lay (am_sl h 216 70 (((l3 + (Int32.toInt64 i2)) + (((l3 + (Int32.toInt64 i2)) * (Int32.toInt64 (am_gi h 216 42))) / (1000 : Int64))) - (Int32.toInt64 (am_gi h 248 (Int32.toNatClampNeg i5))))) := Ly.sl _ _ _
      generalize am_sl h 216 70 (((l3 + (Int32.toInt64 i2)) + (((l3 + (Int32.toInt64 i2)) * (Int32.toInt64 (am_gi h 216 42))) / (1000 : Int64))) - (Int32.toInt64 (am_gi h 248 (Int32.toNatClampNeg i5)))) = h4 at H Ly ⊢
      refine ev_p (pc' := 10) (loc' := [.ref 216, .int i1, .int i2, .long (((l3 + (Int32.toInt64 i2)) + (((l3 + (Int32.toInt64 i2)) * (Int32.toInt64 (am_gi h 216 42))) / (1000 : Int64))) - (Int32.toInt64 (am_gi h 248 (Int32.toNatClampNeg i5)))), .null, .int (i5 + (1 : Int32))]) (st' := []) 2 am_q249 rfl ?_
      exact ev_m (loc' := [.ref 216, .int i1, .int i2, .long (((l3 + (Int32.toInt64 i2)) + (((l3 + (Int32.toInt64 i2)) * (Int32.toInt64 (am_gi h 216 42))) / (1000 : Int64))) - (Int32.toInt64 (am_gi h 248 (Int32.toNatClampNeg i5)))), .null, .int (i5 + (1 : Int32))]) am_q249 rfl rfl H
/-! 250: X12_due -/
set_option maxRecDepth 20000 in
set_option maxHeartbeats 2000000 in
theorem ws250 {d : Nat}   {h : AH} {Q : Option Value → AH → Prop} (Ly : Lay h) (H : Ev (d + 1) 250 5 [.ref 216, .int (0 : Int32), .int (1000000 : Int32), .null] [] h Q) : Cl (d + 1) 250 [.ref 216] h Q := by
  show Ev (d + 1) 250 0 [.ref 216, .null, .null, .null] [] h Q
  refine ev_p (pc' := 5) (loc' := [.ref 216, .int (0 : Int32), .int (1000000 : Int32), .null]) (st' := []) 4 am_q250 rfl ?_
  exact ev_m (loc' := [.ref 216, .int (0 : Int32), .int (1000000 : Int32), .null]) am_q250 rfl rfl H
set_option maxRecDepth 20000 in
set_option maxHeartbeats 2000000 in
theorem ws250_5 {d : Nat}  (i1 : Int32) (i2 : Int32) {h : AH} {Q : Option Value → AH → Prop} (Ly : Lay h) (H : (i2 ≤ i1 → Q (some (.int i1)) h) ∧ (¬ i2 ≤ i1 → ¬ (2 : Int32) = (0 : Int32) ∧ Cl d 249 [.ref 216, .int (39 : Int32), .int ((i1 + i2) / (2 : Int32))] h (fun r3 h2 => ∃ y4, r3 = some (.long y4) ∧ Lay h2 ∧ ((0 : Int32) ≤ (lg_cmp (am_gl h2 216 70) (0 : Int64)) → Ev (d + 1) 250 5 [.ref 216, .int i1, .int ((i1 + i2) / (2 : Int32)), .null] [] h2 Q) ∧ (¬ (0 : Int32) ≤ (lg_cmp (am_gl h2 216 70) (0 : Int64)) → Ev (d + 1) 250 5 [.ref 216, .int (((i1 + i2) / (2 : Int32)) + (1 : Int32)), .int i2, .null] [] h2 Q)))) : Ev (d + 1) 250 5 [.ref 216, .int i1, .int i2, .null] [] h Q := by
  refine ev_p (pc' := 7) (loc' := [.ref 216, .int i1, .int i2, .null]) (st' := [.int i2, .int i1]) 2 am_q250 rfl ?_
  refine ev_jc (t := 45) am_q250 rfl rfl (fun hq => ?_) (fun hq => ?_)
  · replace H := H.1 hq
    refine ev_p (pc' := 46) (loc' := [.ref 216, .int i1, .int i2, .null]) (st' := [.int i1]) 1 am_q250 rfl ?_
    exact ev_r (v := some (.int i1)) am_q250 rfl rfl rfl rfl H
  · replace H := H.2 hq
    refine ev_p (pc' := 14) (loc' := [.ref 216, .int i1, .int i2, .null]) (st' := [.int (2 : Int32), .int (i1 + i2)]) 4 am_q250 rfl ?_
    obtain ⟨g1, H⟩ := H
    refine ev_s (pc' := 15) (loc' := [.ref 216, .int i1, .int i2, .null]) (st' := [.int ((i1 + i2) / (2 : Int32))]) (h1 := h) am_q250 rfl rfl rfl (if_neg (t := none) g1) ?_
    refine ev_p (pc' := 20) (loc' := [.ref 216, .int i1, .int i2, .int ((i1 + i2) / (2 : Int32))]) (st' := [.int ((i1 + i2) / (2 : Int32)), .int (39 : Int32), .ref 216]) 4 am_q250 rfl ?_
    refine ev_c (vs := [.ref 216, .int (39 : Int32), .int ((i1 + i2) / (2 : Int32))]) (rest := []) 249 am_q250 rfl rfl rfl rfl rfl rfl rfl rfl rfl rfl rfl rfl (Or.inr (congrArg some (lk216 Ly))) (Cl.mono H (Nat.le_refl _) (fun r3 h2 H => ?_))
    obtain ⟨y4, rfl, Ly, H⟩ := H
    refine ev_p (pc' := 25) (loc' := [.ref 216, .int i1, .int i2, .int ((i1 + i2) / (2 : Int32))]) (st' := [.ref 216]) 2 am_q250 rfl ?_
    refine ev_s (pc' := 28) (loc' := [.ref 216, .int i1, .int i2, .int ((i1 + i2) / (2 : Int32))]) (st' := [.long (am_gl h2 216 70)]) (h1 := h2) am_q250 rfl rfl rfl (if_pos (e := none) (lk216 Ly)) ?_
    refine ev_p (pc' := 30) (loc' := [.ref 216, .int i1, .int i2, .int ((i1 + i2) / (2 : Int32))]) (st' := [.int (lg_cmp (am_gl h2 216 70) (0 : Int64))]) 2 am_q250 rfl ?_
    refine ev_jz (t := 40) am_q250 rfl rfl (fun hq => ?_) (fun hq => ?_)
    · replace H := H.1 hq
      refine ev_p (pc' := 5) (loc' := [.ref 216, .int i1, .int ((i1 + i2) / (2 : Int32)), .null]) (st' := []) 3 am_q250 rfl ?_
      exact ev_m (loc' := [.ref 216, .int i1, .int ((i1 + i2) / (2 : Int32)), .null]) am_q250 rfl rfl H
    · replace H := H.2 hq
      refine ev_p (pc' := 5) (loc' := [.ref 216, .int (((i1 + i2) / (2 : Int32)) + (1 : Int32)), .int i2, .null]) (st' := []) 6 am_q250 rfl ?_
      exact ev_m (loc' := [.ref 216, .int (((i1 + i2) / (2 : Int32)) + (1 : Int32)), .int i2, .null]) am_q250 rfl rfl H
/-! 251: X12_fund -/
set_option maxRecDepth 20000 in
set_option maxHeartbeats 2000000 in
theorem ws251 {d : Nat}  (i1 : Int32) (i2 : Int32) {h : AH} {Q : Option Value → AH → Prop} (Ly : Lay h) (H : Cl d 167 [.int i1, .int (0 : Int32), .int (39 : Int32)] h (fun r2 h1 => ∃ x3, r2 = some (.int x3) ∧ Lay h1 ∧ (x3 = (0 : Int32) → Q (some (.long (-4611686018427387904 : Int64))) h1) ∧ (¬ x3 = (0 : Int32) → Cl d 167 [.int i2, .int (0 : Int32), .int (1000000 : Int32)] h1 (fun r5 h4 => ∃ x6, r5 = some (.int x6) ∧ Lay h4 ∧ (x6 = (0 : Int32) → Q (some (.long (-4611686018427387904 : Int64))) h4) ∧ (¬ x6 = (0 : Int32) → Cl d 249 [.ref 216, .int i1, .int i2] h4 (fun r8 h7 => ∃ y9, r8 = some (.long y9) ∧ Lay h7 ∧ Q (some (.long y9)) h7)))))) : Cl (d + 1) 251 [.ref 216, .int i1, .int i2] h Q := by
  show Ev (d + 1) 251 0 [.ref 216, .int i1, .int i2] [] h Q
  refine ev_p (pc' := 4) (loc' := [.ref 216, .int i1, .int i2]) (st' := [.int (39 : Int32), .int (0 : Int32), .int i1]) 3 am_q251 rfl ?_
  refine ev_c (vs := [.int i1, .int (0 : Int32), .int (39 : Int32)]) (rest := []) 167 am_q251 rfl rfl rfl rfl rfl rfl rfl rfl rfl rfl rfl rfl (Or.inl rfl) (Cl.mono H (Nat.le_refl _) (fun r2 h1 H => ?_))
  obtain ⟨x3, rfl, Ly, H⟩ := H
  refine ev_jz (t := 29) am_q251 rfl rfl (fun hq => ?_) (fun hq => ?_)
  · replace H := H.1 hq
    refine ev_p (pc' := 32) (loc' := [.null, .null, .null]) (st' := [.long (-4611686018427387904 : Int64)]) 1 am_q251 rfl ?_
    exact ev_r (v := some (.long (-4611686018427387904 : Int64))) am_q251 rfl rfl rfl rfl H
  · replace H := H.2 hq
    refine ev_p (pc' := 14) (loc' := [.ref 216, .int i1, .int i2]) (st' := [.int (1000000 : Int32), .int (0 : Int32), .int i2]) 3 am_q251 rfl ?_
    refine ev_c (vs := [.int i2, .int (0 : Int32), .int (1000000 : Int32)]) (rest := []) 167 am_q251 rfl rfl rfl rfl rfl rfl rfl rfl rfl rfl rfl rfl (Or.inl rfl) (Cl.mono H (Nat.le_refl _) (fun r5 h4 H => ?_))
    obtain ⟨x6, rfl, Ly, H⟩ := H
    refine ev_jz (t := 29) am_q251 rfl rfl (fun hq => ?_) (fun hq => ?_)
    · replace H := H.1 hq
      refine ev_p (pc' := 32) (loc' := [.null, .null, .null]) (st' := [.long (-4611686018427387904 : Int64)]) 1 am_q251 rfl ?_
      exact ev_r (v := some (.long (-4611686018427387904 : Int64))) am_q251 rfl rfl rfl rfl H
    · replace H := H.2 hq
      refine ev_p (pc' := 23) (loc' := [.ref 216, .int i1, .int i2]) (st' := [.int i2, .int i1, .ref 216]) 3 am_q251 rfl ?_
      refine ev_c (vs := [.ref 216, .int i1, .int i2]) (rest := []) 249 am_q251 rfl rfl rfl rfl rfl rfl rfl rfl rfl rfl rfl rfl (Or.inr (congrArg some (lk216 Ly))) (Cl.mono H (Nat.le_refl _) (fun r8 h7 H => ?_))
      obtain ⟨y9, rfl, Ly, H⟩ := H
      refine ev_p (pc' := 32) (loc' := [.ref 216, .int i1, .int i2]) (st' := [.long y9]) 1 am_q251 rfl ?_
      exact ev_r (v := some (.long y9)) am_q251 rfl rfl rfl rfl H
/-! 252: X12_count -/
set_option maxRecDepth 20000 in
set_option maxHeartbeats 2000000 in
theorem ws252 {d : Nat}  (i1 : Int32) {h : AH} {Q : Option Value → AH → Prop} (Ly : Lay h) (H : (i1 = (0 : Int32) → Q (some (.int (am_gi h 216 1))) h) ∧ (i1 = (1 : Int32) → Q (some (.int (am_gi h 216 7))) h) ∧ (i1 = (2 : Int32) → Cl d 214 [.ref 216] h (fun r4 h3 => ∃ x5, r4 = some (.int x5) ∧ Lay h3 ∧ Q (some (.int x5)) h3)) ∧ (i1 = (3 : Int32) → Q (some (.int (am_gi h 216 14))) h) ∧ (i1 = (4 : Int32) → Ev (d + 1) 252 86 [.ref 216, .null, .int (0 : Int32), .int (0 : Int32)] [] h Q) ∧ (i1 = (5 : Int32) → Q (some (.int (am_gi h 216 23))) h) ∧ (i1 = (6 : Int32) → Q (some (.int (am_gi h 216 39))) h) ∧ (i1 = (7 : Int32) → Q (some (.int (am_gi h 216 22))) h) ∧ (i1 = (8 : Int32) → Q (some (.int (am_gi h 216 0))) h) ∧ (i1 = (9 : Int32) → Ev (d + 1) 252 144 [.ref 216, .null, .int (0 : Int32), .int (0 : Int32)] [] h Q) ∧ (i1 = (10 : Int32) → Ev (d + 1) 252 180 [.ref 216, .null, .int (0 : Int32), .int (0 : Int32)] [] h Q) ∧ (i1 = (11 : Int32) → Q (some (.int (am_gi h 216 42))) h) ∧ (¬ i1 = (0 : Int32) ∧ ¬ i1 = (1 : Int32) ∧ ¬ i1 = (2 : Int32) ∧ ¬ i1 = (3 : Int32) ∧ ¬ i1 = (4 : Int32) ∧ ¬ i1 = (5 : Int32) ∧ ¬ i1 = (6 : Int32) ∧ ¬ i1 = (7 : Int32) ∧ ¬ i1 = (8 : Int32) ∧ ¬ i1 = (9 : Int32) ∧ ¬ i1 = (10 : Int32) ∧ ¬ i1 = (11 : Int32) → Q (some (.int (-2 : Int32))) h)) : Cl (d + 1) 252 [.ref 216, .int i1] h Q := by
  show Ev (d + 1) 252 0 [.ref 216, .int i1, .null, .null] [] h Q
  refine ev_p (pc' := 3) (loc' := [.ref 216, .int i1, .int (0 : Int32), .null]) (st' := [.int i1]) 3 am_q252 rfl ?_
  by_cases k1 : i1 = (0 : Int32)
  · replace H := H.1 k1
    refine ev_s (pc' := 64) (loc' := [.ref 216, .int i1, .int (0 : Int32), .null]) (st' := []) (h1 := h) am_q252 rfl rfl rfl (by rw [k1]; rfl) ?_
    refine ev_p (pc' := 65) (loc' := [.ref 216, .int i1, .int (0 : Int32), .null]) (st' := [.ref 216]) 1 am_q252 rfl ?_
    refine ev_s (pc' := 68) (loc' := [.ref 216, .int i1, .int (0 : Int32), .null]) (st' := [.int (am_gi h 216 1)]) (h1 := h) am_q252 rfl rfl rfl (if_pos (e := none) (lk216 Ly)) ?_
    exact ev_r (v := some (.int (am_gi h 216 1))) am_q252 rfl rfl rfl rfl H
  replace H := H.2
  by_cases k2 : i1 = (1 : Int32)
  · replace H := H.1 k2
    refine ev_s (pc' := 69) (loc' := [.ref 216, .int i1, .int (0 : Int32), .null]) (st' := []) (h1 := h) am_q252 rfl rfl rfl (by rw [k2]; rfl) ?_
    refine ev_p (pc' := 70) (loc' := [.ref 216, .int i1, .int (0 : Int32), .null]) (st' := [.ref 216]) 1 am_q252 rfl ?_
    refine ev_s (pc' := 73) (loc' := [.ref 216, .int i1, .int (0 : Int32), .null]) (st' := [.int (am_gi h 216 7)]) (h1 := h) am_q252 rfl rfl rfl (if_pos (e := none) (lk216 Ly)) ?_
    exact ev_r (v := some (.int (am_gi h 216 7))) am_q252 rfl rfl rfl rfl H
  replace H := H.2
  by_cases k6 : i1 = (2 : Int32)
  · replace H := H.1 k6
    refine ev_s (pc' := 74) (loc' := [.ref 216, .int i1, .int (0 : Int32), .null]) (st' := []) (h1 := h) am_q252 rfl rfl rfl (by rw [k6]; rfl) ?_
    refine ev_p (pc' := 75) (loc' := [.ref 216, .int i1, .int (0 : Int32), .null]) (st' := [.ref 216]) 1 am_q252 rfl ?_
    refine ev_c (vs := [.ref 216]) (rest := []) 214 am_q252 rfl rfl rfl rfl rfl rfl rfl rfl rfl rfl rfl rfl (Or.inr (congrArg some (lk216 Ly))) (Cl.mono H (Nat.le_refl _) (fun r4 h3 H => ?_))
    obtain ⟨x5, rfl, Ly, H⟩ := H
    exact ev_r (v := some (.int x5)) am_q252 rfl rfl rfl rfl H
  replace H := H.2
  by_cases k7 : i1 = (3 : Int32)
  · replace H := H.1 k7
    refine ev_s (pc' := 79) (loc' := [.ref 216, .int i1, .int (0 : Int32), .null]) (st' := []) (h1 := h) am_q252 rfl rfl rfl (by rw [k7]; rfl) ?_
    refine ev_p (pc' := 80) (loc' := [.ref 216, .int i1, .int (0 : Int32), .null]) (st' := [.ref 216]) 1 am_q252 rfl ?_
    refine ev_s (pc' := 83) (loc' := [.ref 216, .int i1, .int (0 : Int32), .null]) (st' := [.int (am_gi h 216 14)]) (h1 := h) am_q252 rfl rfl rfl (if_pos (e := none) (lk216 Ly)) ?_
    exact ev_r (v := some (.int (am_gi h 216 14))) am_q252 rfl rfl rfl rfl H
  replace H := H.2
  by_cases k8 : i1 = (4 : Int32)
  · replace H := H.1 k8
    refine ev_s (pc' := 84) (loc' := [.ref 216, .int i1, .int (0 : Int32), .null]) (st' := []) (h1 := h) am_q252 rfl rfl rfl (by rw [k8]; rfl) ?_
    refine ev_p (pc' := 86) (loc' := [.ref 216, .int i1, .int (0 : Int32), .int (0 : Int32)]) (st' := []) 2 am_q252 rfl ?_
    exact ev_m (loc' := [.ref 216, .null, .int (0 : Int32), .int (0 : Int32)]) am_q252 rfl rfl H
  replace H := H.2
  by_cases k9 : i1 = (5 : Int32)
  · replace H := H.1 k9
    refine ev_s (pc' := 122) (loc' := [.ref 216, .int i1, .int (0 : Int32), .null]) (st' := []) (h1 := h) am_q252 rfl rfl rfl (by rw [k9]; rfl) ?_
    refine ev_p (pc' := 123) (loc' := [.ref 216, .int i1, .int (0 : Int32), .null]) (st' := [.ref 216]) 1 am_q252 rfl ?_
    refine ev_s (pc' := 126) (loc' := [.ref 216, .int i1, .int (0 : Int32), .null]) (st' := [.int (am_gi h 216 23)]) (h1 := h) am_q252 rfl rfl rfl (if_pos (e := none) (lk216 Ly)) ?_
    exact ev_r (v := some (.int (am_gi h 216 23))) am_q252 rfl rfl rfl rfl H
  replace H := H.2
  by_cases k10 : i1 = (6 : Int32)
  · replace H := H.1 k10
    refine ev_s (pc' := 127) (loc' := [.ref 216, .int i1, .int (0 : Int32), .null]) (st' := []) (h1 := h) am_q252 rfl rfl rfl (by rw [k10]; rfl) ?_
    refine ev_p (pc' := 128) (loc' := [.ref 216, .int i1, .int (0 : Int32), .null]) (st' := [.ref 216]) 1 am_q252 rfl ?_
    refine ev_s (pc' := 131) (loc' := [.ref 216, .int i1, .int (0 : Int32), .null]) (st' := [.int (am_gi h 216 39)]) (h1 := h) am_q252 rfl rfl rfl (if_pos (e := none) (lk216 Ly)) ?_
    exact ev_r (v := some (.int (am_gi h 216 39))) am_q252 rfl rfl rfl rfl H
  replace H := H.2
  by_cases k11 : i1 = (7 : Int32)
  · replace H := H.1 k11
    refine ev_s (pc' := 132) (loc' := [.ref 216, .int i1, .int (0 : Int32), .null]) (st' := []) (h1 := h) am_q252 rfl rfl rfl (by rw [k11]; rfl) ?_
    refine ev_p (pc' := 133) (loc' := [.ref 216, .int i1, .int (0 : Int32), .null]) (st' := [.ref 216]) 1 am_q252 rfl ?_
    refine ev_s (pc' := 136) (loc' := [.ref 216, .int i1, .int (0 : Int32), .null]) (st' := [.int (am_gi h 216 22)]) (h1 := h) am_q252 rfl rfl rfl (if_pos (e := none) (lk216 Ly)) ?_
    exact ev_r (v := some (.int (am_gi h 216 22))) am_q252 rfl rfl rfl rfl H
  replace H := H.2
  by_cases k12 : i1 = (8 : Int32)
  · replace H := H.1 k12
    refine ev_s (pc' := 137) (loc' := [.ref 216, .int i1, .int (0 : Int32), .null]) (st' := []) (h1 := h) am_q252 rfl rfl rfl (by rw [k12]; rfl) ?_
    refine ev_p (pc' := 138) (loc' := [.ref 216, .int i1, .int (0 : Int32), .null]) (st' := [.ref 216]) 1 am_q252 rfl ?_
    refine ev_s (pc' := 141) (loc' := [.ref 216, .int i1, .int (0 : Int32), .null]) (st' := [.int (am_gi h 216 0)]) (h1 := h) am_q252 rfl rfl rfl (if_pos (e := none) (lk216 Ly)) ?_
    exact ev_r (v := some (.int (am_gi h 216 0))) am_q252 rfl rfl rfl rfl H
  replace H := H.2
  by_cases k13 : i1 = (9 : Int32)
  · replace H := H.1 k13
    refine ev_s (pc' := 142) (loc' := [.ref 216, .int i1, .int (0 : Int32), .null]) (st' := []) (h1 := h) am_q252 rfl rfl rfl (by rw [k13]; rfl) ?_
    refine ev_p (pc' := 144) (loc' := [.ref 216, .int i1, .int (0 : Int32), .int (0 : Int32)]) (st' := []) 2 am_q252 rfl ?_
    exact ev_m (loc' := [.ref 216, .null, .int (0 : Int32), .int (0 : Int32)]) am_q252 rfl rfl H
  replace H := H.2
  by_cases k14 : i1 = (10 : Int32)
  · replace H := H.1 k14
    refine ev_s (pc' := 178) (loc' := [.ref 216, .int i1, .int (0 : Int32), .null]) (st' := []) (h1 := h) am_q252 rfl rfl rfl (by rw [k14]; rfl) ?_
    refine ev_p (pc' := 180) (loc' := [.ref 216, .int i1, .int (0 : Int32), .int (0 : Int32)]) (st' := []) 2 am_q252 rfl ?_
    exact ev_m (loc' := [.ref 216, .null, .int (0 : Int32), .int (0 : Int32)]) am_q252 rfl rfl H
  replace H := H.2
  by_cases k15 : i1 = (11 : Int32)
  · replace H := H.1 k15
    refine ev_s (pc' := 213) (loc' := [.ref 216, .int i1, .int (0 : Int32), .null]) (st' := []) (h1 := h) am_q252 rfl rfl rfl (by rw [k15]; rfl) ?_
    refine ev_p (pc' := 214) (loc' := [.ref 216, .int i1, .int (0 : Int32), .null]) (st' := [.ref 216]) 1 am_q252 rfl ?_
    refine ev_s (pc' := 217) (loc' := [.ref 216, .int i1, .int (0 : Int32), .null]) (st' := [.int (am_gi h 216 42)]) (h1 := h) am_q252 rfl rfl rfl (if_pos (e := none) (lk216 Ly)) ?_
    exact ev_r (v := some (.int (am_gi h 216 42))) am_q252 rfl rfl rfl rfl H
  replace H := H.2
  replace H := H ⟨k1, k2, k6, k7, k8, k9, k10, k11, k12, k13, k14, k15⟩
  refine ev_s (pc' := 218) (loc' := [.ref 216, .int i1, .int (0 : Int32), .null]) (st' := []) (h1 := h) am_q252 rfl rfl rfl (am_tso (x := (i1).toInt) (by have z0 : (i1).toInt ≠ 0 := am_tn k1 (by decide); have z1 : (i1).toInt ≠ 1 := am_tn k2 (by decide); have z2 : (i1).toInt ≠ 2 := am_tn k6 (by decide); have z3 : (i1).toInt ≠ 3 := am_tn k7 (by decide); have z4 : (i1).toInt ≠ 4 := am_tn k8 (by decide); have z5 : (i1).toInt ≠ 5 := am_tn k9 (by decide); have z6 : (i1).toInt ≠ 6 := am_tn k10 (by decide); have z7 : (i1).toInt ≠ 7 := am_tn k11 (by decide); have z8 : (i1).toInt ≠ 8 := am_tn k12 (by decide); have z9 : (i1).toInt ≠ 9 := am_tn k13 (by decide); have z10 : (i1).toInt ≠ 10 := am_tn k14 (by decide); have z11 : (i1).toInt ≠ 11 := am_tn k15 (by decide); omega)) ?_
  refine ev_p (pc' := 220) (loc' := [.ref 216, .int i1, .int (0 : Int32), .null]) (st' := [.int (-2 : Int32)]) 1 am_q252 rfl ?_
  exact ev_r (v := some (.int (-2 : Int32))) am_q252 rfl rfl rfl rfl H
set_option maxRecDepth 20000 in
set_option maxHeartbeats 2000000 in
theorem ws252_86 {d : Nat}  (i2 : Int32) (i3 : Int32) {h : AH} {Q : Option Value → AH → Prop} (Ly : Lay h) (H : ((am_gi h 216 14) ≤ i3 → Q (some (.int i2)) h) ∧ (¬ (am_gi h 216 14) ≤ i3 → Cl d 171 [.ref 216, .int i3, .int (am_gi h 216 0)] h (fun r2 h1 => ∃ x3, r2 = some (.int x3) ∧ Lay h1 ∧ (x3 = (0 : Int32) → Ev (d + 1) 252 86 [.ref 216, .null, .int (i2 + (0 : Int32)), .int (i3 + (1 : Int32))] [] h1 Q) ∧ (¬ x3 = (0 : Int32) → Ev (d + 1) 252 86 [.ref 216, .null, .int (i2 + (1 : Int32)), .int (i3 + (1 : Int32))] [] h1 Q)))) : Ev (d + 1) 252 86 [.ref 216, .null, .int i2, .int i3] [] h Q := by
  refine ev_p (pc' := 88) (loc' := [.ref 216, .null, .int i2, .int i3]) (st' := [.ref 216, .int i3]) 2 am_q252 rfl ?_
  refine ev_s (pc' := 91) (loc' := [.ref 216, .null, .int i2, .int i3]) (st' := [.int (am_gi h 216 14), .int i3]) (h1 := h) am_q252 rfl rfl rfl (if_pos (e := none) (lk216 Ly)) ?_
  refine ev_jc (t := 120) am_q252 rfl rfl (fun hq => ?_) (fun hq => ?_)
  · replace H := H.1 hq
    refine ev_p (pc' := 121) (loc' := [.ref 216, .null, .int i2, .int i3]) (st' := [.int i2]) 1 am_q252 rfl ?_
    exact ev_r (v := some (.int i2)) am_q252 rfl rfl rfl rfl H
  · replace H := H.2 hq
    refine ev_p (pc' := 98) (loc' := [.ref 216, .null, .int i2, .int i3]) (st' := [.ref 216, .int i3, .ref 216, .int i2]) 4 am_q252 rfl ?_
    refine ev_s (pc' := 101) (loc' := [.ref 216, .null, .int i2, .int i3]) (st' := [.int (am_gi h 216 0), .int i3, .ref 216, .int i2]) (h1 := h) am_q252 rfl rfl rfl (if_pos (e := none) (lk216 Ly)) ?_
    refine ev_c (vs := [.ref 216, .int i3, .int (am_gi h 216 0)]) (rest := [.int i2]) 171 am_q252 rfl rfl rfl rfl rfl rfl rfl rfl rfl rfl rfl rfl (Or.inr (congrArg some (lk216 Ly))) (Cl.mono H (Nat.le_refl _) (fun r2 h1 H => ?_))
    obtain ⟨x3, rfl, Ly, H⟩ := H
    refine ev_jz (t := 111) am_q252 rfl rfl (fun hq => ?_) (fun hq => ?_)
    · replace H := H.1 hq
      refine ev_p (pc' := 86) (loc' := [.ref 216, .null, .int (i2 + (0 : Int32)), .int (i3 + (1 : Int32))]) (st' := []) 5 am_q252 rfl ?_
      exact ev_m (loc' := [.ref 216, .null, .int (i2 + (0 : Int32)), .int (i3 + (1 : Int32))]) am_q252 rfl rfl H
    · replace H := H.2 hq
      refine ev_p (pc' := 86) (loc' := [.ref 216, .null, .int (i2 + (1 : Int32)), .int (i3 + (1 : Int32))]) (st' := []) 6 am_q252 rfl ?_
      exact ev_m (loc' := [.ref 216, .null, .int (i2 + (1 : Int32)), .int (i3 + (1 : Int32))]) am_q252 rfl rfl H
set_option maxRecDepth 20000 in
set_option maxHeartbeats 2000000 in
theorem ws252_144 {d : Nat}  (i2 : Int32) (i3 : Int32) {h : AH} {Q : Option Value → AH → Prop} (Ly : Lay h) (H : ((am_gi h 216 7) ≤ i3 → Q (some (.int i2)) h) ∧ (¬ (am_gi h 216 7) ≤ i3 → am_in i3 24 ∧ ((am_gi h 225 (Int32.toNatClampNeg i3)) = (-1 : Int32) → Ev (d + 1) 252 144 [.ref 216, .null, .int (i2 + (0 : Int32)), .int (i3 + (1 : Int32))] [] h Q) ∧ (¬ (am_gi h 225 (Int32.toNatClampNeg i3)) = (-1 : Int32) → Ev (d + 1) 252 144 [.ref 216, .null, .int (i2 + (1 : Int32)), .int (i3 + (1 : Int32))] [] h Q))) : Ev (d + 1) 252 144 [.ref 216, .null, .int i2, .int i3] [] h Q := by
  refine ev_p (pc' := 146) (loc' := [.ref 216, .null, .int i2, .int i3]) (st' := [.ref 216, .int i3]) 2 am_q252 rfl ?_
  refine ev_s (pc' := 149) (loc' := [.ref 216, .null, .int i2, .int i3]) (st' := [.int (am_gi h 216 7), .int i3]) (h1 := h) am_q252 rfl rfl rfl (if_pos (e := none) (lk216 Ly)) ?_
  refine ev_jc (t := 176) am_q252 rfl rfl (fun hq => ?_) (fun hq => ?_)
  · replace H := H.1 hq
    refine ev_p (pc' := 177) (loc' := [.ref 216, .null, .int i2, .int i3]) (st' := [.int i2]) 1 am_q252 rfl ?_
    exact ev_r (v := some (.int i2)) am_q252 rfl rfl rfl rfl H
  · replace H := H.2 hq
    refine ev_p (pc' := 154) (loc' := [.ref 216, .null, .int i2, .int i3]) (st' := [.ref 216, .int i2]) 2 am_q252 rfl ?_
    refine ev_s (pc' := 157) (loc' := [.ref 216, .null, .int i2, .int i3]) (st' := [.ref 225, .int i2]) (h1 := h) am_q252 rfl rfl rfl (am_gf2 (lk216 Ly) (lr216_11 Ly)) ?_
    refine ev_p (pc' := 158) (loc' := [.ref 216, .null, .int i2, .int i3]) (st' := [.int i3, .ref 225, .int i2]) 1 am_q252 rfl ?_
    obtain ⟨g1, H⟩ := H
    refine ev_s (pc' := 159) (loc' := [.ref 216, .null, .int i2, .int i3]) (st' := [.int (am_gi h 225 (Int32.toNatClampNeg i3)), .int i2]) (h1 := h) am_q252 rfl rfl rfl (am_xx (lk225 Ly) (am_inl (ln225 Ly) g1)) ?_
    refine ev_p (pc' := 160) (loc' := [.ref 216, .null, .int i2, .int i3]) (st' := [.int (-1 : Int32), .int (am_gi h 225 (Int32.toNatClampNeg i3)), .int i2]) 1 am_q252 rfl ?_
    refine ev_jc (t := 167) am_q252 rfl rfl (fun hq => ?_) (fun hq => ?_)
    · replace H := H.1 hq
      refine ev_p (pc' := 144) (loc' := [.ref 216, .null, .int (i2 + (0 : Int32)), .int (i3 + (1 : Int32))]) (st' := []) 5 am_q252 rfl ?_
      exact ev_m (loc' := [.ref 216, .null, .int (i2 + (0 : Int32)), .int (i3 + (1 : Int32))]) am_q252 rfl rfl H
    · replace H := H.2 hq
      refine ev_p (pc' := 144) (loc' := [.ref 216, .null, .int (i2 + (1 : Int32)), .int (i3 + (1 : Int32))]) (st' := []) 6 am_q252 rfl ?_
      exact ev_m (loc' := [.ref 216, .null, .int (i2 + (1 : Int32)), .int (i3 + (1 : Int32))]) am_q252 rfl rfl H
set_option maxRecDepth 20000 in
set_option maxHeartbeats 2000000 in
theorem ws252_180 {d : Nat}  (i2 : Int32) (i3 : Int32) {h : AH} {Q : Option Value → AH → Prop} (Ly : Lay h) (H : ((am_gi h 216 1) ≤ i3 → Q (some (.int i2)) h) ∧ (¬ (am_gi h 216 1) ≤ i3 → am_in i3 12 ∧ ((am_gi h 220 (Int32.toNatClampNeg i3)) = (0 : Int32) → Ev (d + 1) 252 180 [.ref 216, .null, .int (i2 + (0 : Int32)), .int (i3 + (1 : Int32))] [] h Q) ∧ (¬ (am_gi h 220 (Int32.toNatClampNeg i3)) = (0 : Int32) → Ev (d + 1) 252 180 [.ref 216, .null, .int (i2 + (1 : Int32)), .int (i3 + (1 : Int32))] [] h Q))) : Ev (d + 1) 252 180 [.ref 216, .null, .int i2, .int i3] [] h Q := by
  refine ev_p (pc' := 182) (loc' := [.ref 216, .null, .int i2, .int i3]) (st' := [.ref 216, .int i3]) 2 am_q252 rfl ?_
  refine ev_s (pc' := 185) (loc' := [.ref 216, .null, .int i2, .int i3]) (st' := [.int (am_gi h 216 1), .int i3]) (h1 := h) am_q252 rfl rfl rfl (if_pos (e := none) (lk216 Ly)) ?_
  refine ev_jc (t := 211) am_q252 rfl rfl (fun hq => ?_) (fun hq => ?_)
  · replace H := H.1 hq
    refine ev_p (pc' := 212) (loc' := [.ref 216, .null, .int i2, .int i3]) (st' := [.int i2]) 1 am_q252 rfl ?_
    exact ev_r (v := some (.int i2)) am_q252 rfl rfl rfl rfl H
  · replace H := H.2 hq
    refine ev_p (pc' := 190) (loc' := [.ref 216, .null, .int i2, .int i3]) (st' := [.ref 216, .int i2]) 2 am_q252 rfl ?_
    refine ev_s (pc' := 193) (loc' := [.ref 216, .null, .int i2, .int i3]) (st' := [.ref 220, .int i2]) (h1 := h) am_q252 rfl rfl rfl (am_gf2 (lk216 Ly) (lr216_5 Ly)) ?_
    refine ev_p (pc' := 194) (loc' := [.ref 216, .null, .int i2, .int i3]) (st' := [.int i3, .ref 220, .int i2]) 1 am_q252 rfl ?_
    obtain ⟨g1, H⟩ := H
    refine ev_s (pc' := 195) (loc' := [.ref 216, .null, .int i2, .int i3]) (st' := [.int (am_gi h 220 (Int32.toNatClampNeg i3)), .int i2]) (h1 := h) am_q252 rfl rfl rfl (am_xx (Or.inr (lk220 Ly)) (am_inl (ln220 Ly) g1)) ?_
    refine ev_jz (t := 202) am_q252 rfl rfl (fun hq => ?_) (fun hq => ?_)
    · replace H := H.1 hq
      refine ev_p (pc' := 180) (loc' := [.ref 216, .null, .int (i2 + (0 : Int32)), .int (i3 + (1 : Int32))]) (st' := []) 5 am_q252 rfl ?_
      exact ev_m (loc' := [.ref 216, .null, .int (i2 + (0 : Int32)), .int (i3 + (1 : Int32))]) am_q252 rfl rfl H
    · replace H := H.2 hq
      refine ev_p (pc' := 180) (loc' := [.ref 216, .null, .int (i2 + (1 : Int32)), .int (i3 + (1 : Int32))]) (st' := []) 6 am_q252 rfl ?_
      exact ev_m (loc' := [.ref 216, .null, .int (i2 + (1 : Int32)), .int (i3 + (1 : Int32))]) am_q252 rfl rfl H
/-! 253: X12_done -/
set_option maxRecDepth 20000 in
set_option maxHeartbeats 2000000 in
theorem ws253 {d : Nat}  (i1 : Int32) {h : AH} {Q : Option Value → AH → Prop} (Ly : Lay h) (H : ∀ h1, h1 = am_si h 216 47 (0 : Int32) → Q (some (.int i1)) h1) : Cl d 253 [.ref 216, .int i1] h Q := by
  show Ev d 253 0 [.ref 216, .int i1] [] h Q
  refine ev_p (pc' := 2) (loc' := [.ref 216, .int i1]) (st' := [.int (0 : Int32), .ref 216]) 2 am_q253 rfl ?_
  refine ev_s (pc' := 5) (loc' := [.ref 216, .int i1]) (st' := []) (h1 := am_si h 216 47 (0 : Int32)) am_q253 rfl rfl rfl (if_pos (e := none) (lk216 Ly)) ?_
  replace H := H _ rfl
  replace Ly : Lay (am_si h 216 47 (0 : Int32)) := Ly.si _ _ _
  generalize am_si h 216 47 (0 : Int32) = h1 at H Ly ⊢
  refine ev_p (pc' := 6) (loc' := [.ref 216, .int i1]) (st' := [.int i1]) 1 am_q253 rfl ?_
  exact ev_r (v := some (.int i1)) am_q253 rfl rfl rfl rfl H
/-! 254: X12_refuse -/
set_option maxRecDepth 20000 in
set_option maxHeartbeats 2000000 in
theorem ws254 {d : Nat}  (i1 : Int32) {h : AH} {Q : Option Value → AH → Prop} (Ly : Lay h) (H : ∀ h1, h1 = am_si h 216 47 i1 → Q (some (.int (-1 : Int32))) h1) : Cl d 254 [.ref 216, .int i1] h Q := by
  show Ev d 254 0 [.ref 216, .int i1] [] h Q
  refine ev_p (pc' := 2) (loc' := [.ref 216, .int i1]) (st' := [.int i1, .ref 216]) 2 am_q254 rfl ?_
  refine ev_s (pc' := 5) (loc' := [.ref 216, .int i1]) (st' := []) (h1 := am_si h 216 47 i1) am_q254 rfl rfl rfl (if_pos (e := none) (lk216 Ly)) ?_
  replace H := H _ rfl
  replace Ly : Lay (am_si h 216 47 i1) := Ly.si _ _ _
  generalize am_si h 216 47 i1 = h1 at H Ly ⊢
  refine ev_p (pc' := 6) (loc' := [.ref 216, .int i1]) (st' := [.int (-1 : Int32)]) 1 am_q254 rfl ?_
  exact ev_r (v := some (.int (-1 : Int32))) am_q254 rfl rfl rfl rfl H
/-! 255: X12_put -/
set_option maxRecDepth 20000 in
set_option maxHeartbeats 2000000 in
theorem ws255 {d : Nat}  (i1 : Int32) (i2 : Int32) (i3 : Int32) {h : AH} {Q : Option Value → AH → Prop} (Ly : Lay h) (H : Cl d 167 [.int i1, .int (0 : Int32), .int (5 : Int32)] h (fun r2 h1 => ∃ x3, r2 = some (.int x3) ∧ Lay h1 ∧ (x3 = (0 : Int32) → Cl d 254 [.ref 216, .int (1 : Int32)] h1 (fun r5 h4 => ∃ x6, r5 = some (.int x6) ∧ Lay h4 ∧ Q (some (.int x6)) h4)) ∧ (¬ x3 = (0 : Int32) → Cl d 167 [.int i2, .int (0 : Int32), .int (4 : Int32)] h1 (fun r8 h7 => ∃ x9, r8 = some (.int x9) ∧ Lay h7 ∧ (x9 = (0 : Int32) → Cl d 254 [.ref 216, .int (1 : Int32)] h7 (fun r11 h10 => ∃ x12, r11 = some (.int x12) ∧ Lay h10 ∧ Q (some (.int x12)) h10)) ∧ (¬ x9 = (0 : Int32) → ((¬ i2 = (1 : Int32)) → Ev (d + 1) 255 37 [.ref 216, .int i1, .int i2, .int i3, .null, .null, .null] [] h7 Q) ∧ (¬ (¬ i2 = (1 : Int32)) → Cl d 181 [.ref 216, .int i3] h7 (fun r14 h13 => ∃ x15, r14 = some (.int x15) ∧ Lay h13 ∧ ((¬ x15 = (0 : Int32)) → Ev (d + 1) 255 37 [.ref 216, .int i1, .int i2, .int i3, .null, .null, .null] [] h13 Q) ∧ (¬ (¬ x15 = (0 : Int32)) → Cl d 254 [.ref 216, .int (1 : Int32)] h13 (fun r17 h16 => ∃ x18, r17 = some (.int x18) ∧ Lay h16 ∧ Q (some (.int x18)) h16))))))))) : Cl (d + 1) 255 [.ref 216, .int i1, .int i2, .int i3] h Q := by
  show Ev (d + 1) 255 0 [.ref 216, .int i1, .int i2, .int i3, .null, .null, .null] [] h Q
  refine ev_p (pc' := 3) (loc' := [.ref 216, .int i1, .int i2, .int i3, .null, .null, .null]) (st' := [.int (5 : Int32), .int (0 : Int32), .int i1]) 3 am_q255 rfl ?_
  refine ev_c (vs := [.int i1, .int (0 : Int32), .int (5 : Int32)]) (rest := []) 167 am_q255 rfl rfl rfl rfl rfl rfl rfl rfl rfl rfl rfl rfl (Or.inl rfl) (Cl.mono H (Nat.le_refl _) (fun r2 h1 H => ?_))
  obtain ⟨x3, rfl, Ly, H⟩ := H
  refine ev_jz (t := 31) am_q255 rfl rfl (fun hq => ?_) (fun hq => ?_)
  · replace H := H.1 hq
    refine ev_p (pc' := 33) (loc' := [.ref 216, .null, .null, .null, .null, .null, .null]) (st' := [.int (1 : Int32), .ref 216]) 2 am_q255 rfl ?_
    refine ev_c (vs := [.ref 216, .int (1 : Int32)]) (rest := []) 254 am_q255 rfl rfl rfl rfl rfl rfl rfl rfl rfl rfl rfl rfl (Or.inr (congrArg some (lk216 Ly))) (Cl.mono H (Nat.le_refl _) (fun r5 h4 H => ?_))
    obtain ⟨x6, rfl, Ly, H⟩ := H
    exact ev_r (v := some (.int x6)) am_q255 rfl rfl rfl rfl H
  · replace H := H.2 hq
    refine ev_p (pc' := 12) (loc' := [.ref 216, .int i1, .int i2, .int i3, .null, .null, .null]) (st' := [.int (4 : Int32), .int (0 : Int32), .int i2]) 3 am_q255 rfl ?_
    refine ev_c (vs := [.int i2, .int (0 : Int32), .int (4 : Int32)]) (rest := []) 167 am_q255 rfl rfl rfl rfl rfl rfl rfl rfl rfl rfl rfl rfl (Or.inl rfl) (Cl.mono H (Nat.le_refl _) (fun r8 h7 H => ?_))
    obtain ⟨x9, rfl, Ly, H⟩ := H
    refine ev_jz (t := 31) am_q255 rfl rfl (fun hq => ?_) (fun hq => ?_)
    · replace H := H.1 hq
      refine ev_p (pc' := 33) (loc' := [.ref 216, .null, .null, .null, .null, .null, .null]) (st' := [.int (1 : Int32), .ref 216]) 2 am_q255 rfl ?_
      refine ev_c (vs := [.ref 216, .int (1 : Int32)]) (rest := []) 254 am_q255 rfl rfl rfl rfl rfl rfl rfl rfl rfl rfl rfl rfl (Or.inr (congrArg some (lk216 Ly))) (Cl.mono H (Nat.le_refl _) (fun r11 h10 H => ?_))
      obtain ⟨x12, rfl, Ly, H⟩ := H
      exact ev_r (v := some (.int x12)) am_q255 rfl rfl rfl rfl H
    · replace H := H.2 hq
      refine ev_p (pc' := 20) (loc' := [.ref 216, .int i1, .int i2, .int i3, .null, .null, .null]) (st' := [.int (1 : Int32), .int i2]) 2 am_q255 rfl ?_
      refine ev_jc (t := 37) am_q255 rfl rfl (fun hq => ?_) (fun hq => ?_)
      · replace H := H.1 hq
        exact ev_m (loc' := [.ref 216, .int i1, .int i2, .int i3, .null, .null, .null]) am_q255 rfl rfl H
      · replace H := H.2 hq
        refine ev_p (pc' := 25) (loc' := [.ref 216, .int i1, .int i2, .int i3, .null, .null, .null]) (st' := [.int i3, .ref 216]) 2 am_q255 rfl ?_
        refine ev_c (vs := [.ref 216, .int i3]) (rest := []) 181 am_q255 rfl rfl rfl rfl rfl rfl rfl rfl rfl rfl rfl rfl (Or.inr (congrArg some (lk216 Ly))) (Cl.mono H (Nat.le_refl _) (fun r14 h13 H => ?_))
        obtain ⟨x15, rfl, Ly, H⟩ := H
        refine ev_jz (t := 37) am_q255 rfl rfl (fun hq => ?_) (fun hq => ?_)
        · replace H := H.1 hq
          exact ev_m (loc' := [.ref 216, .int i1, .int i2, .int i3, .null, .null, .null]) am_q255 rfl rfl H
        · replace H := H.2 hq
          refine ev_p (pc' := 33) (loc' := [.ref 216, .null, .null, .null, .null, .null, .null]) (st' := [.int (1 : Int32), .ref 216]) 2 am_q255 rfl ?_
          refine ev_c (vs := [.ref 216, .int (1 : Int32)]) (rest := []) 254 am_q255 rfl rfl rfl rfl rfl rfl rfl rfl rfl rfl rfl rfl (Or.inr (congrArg some (lk216 Ly))) (Cl.mono H (Nat.le_refl _) (fun r17 h16 H => ?_))
          obtain ⟨x18, rfl, Ly, H⟩ := H
          exact ev_r (v := some (.int x18)) am_q255 rfl rfl rfl rfl H
set_option maxRecDepth 20000 in
set_option maxHeartbeats 2000000 in
theorem ws255_37 {d : Nat}  (i1 : Int32) (i2 : Int32) (i3 : Int32) {h : AH} {Q : Option Value → AH → Prop} (Ly : Lay h) (H : am_in i1 6 ∧ ∀ h2, h2 = am_si h 249 (Int32.toNatClampNeg i1) i2 → am_in i1 6 ∧ ∀ h4, h4 = am_si h2 250 (Int32.toNatClampNeg i1) i3 → Cl d 215 [.ref 216, .int (am_gi h4 216 0)] h4 (fun r6 h5 => ∃ x7, r6 = some (.int x7) ∧ Lay h5 ∧ ((¬ i2 = (2 : Int32)) → ((¬ i2 = (3 : Int32)) → ((¬ i2 = (4 : Int32)) → Ev (d + 1) 255 101 [.ref 216, .int i1, .int i2, .null, .int x7, .null, .null] [.int (0 : Int32)] h5 Q) ∧ (¬ (¬ i2 = (4 : Int32)) → Ev (d + 1) 255 101 [.ref 216, .int i1, .int i2, .null, .int x7, .null, .null] [.int (am_gi h5 216 1)] h5 Q)) ∧ (¬ (¬ i2 = (3 : Int32)) → Ev (d + 1) 255 101 [.ref 216, .int i1, .int i2, .null, .int x7, .null, .null] [.int (am_gi h5 216 7)] h5 Q)) ∧ (¬ (¬ i2 = (2 : Int32)) → am_in x7 13 ∧ Ev (d + 1) 255 101 [.ref 216, .int i1, .int i2, .null, .int x7, .null, .null] [.int (am_gi h5 235 (Int32.toNatClampNeg x7))] h5 Q))) : Ev (d + 1) 255 37 [.ref 216, .int i1, .int i2, .int i3, .null, .null, .null] [] h Q := by
  refine ev_p (pc' := 38) (loc' := [.ref 216, .int i1, .int i2, .int i3, .null, .null, .null]) (st' := [.ref 216]) 1 am_q255 rfl ?_
  refine ev_s (pc' := 41) (loc' := [.ref 216, .int i1, .int i2, .int i3, .null, .null, .null]) (st' := [.ref 249]) (h1 := h) am_q255 rfl rfl rfl (am_gf2 (lk216 Ly) (lr216_43 Ly)) ?_
  refine ev_p (pc' := 43) (loc' := [.ref 216, .int i1, .int i2, .int i3, .null, .null, .null]) (st' := [.int i2, .int i1, .ref 249]) 2 am_q255 rfl ?_
  obtain ⟨g1, H⟩ := H
  refine ev_s (pc' := 44) (loc' := [.ref 216, .int i1, .int i2, .int i3, .null, .null, .null]) (st' := []) (h1 := am_si h 249 (Int32.toNatClampNeg i1) i2) am_q255 rfl rfl rfl (am_xx ⟨lk249 Ly, (Nat.le_of_ble_eq_true rfl)⟩ (am_inl (ln249 Ly) g1)) ?_
  replace H := H _ rfl
  replace Ly : Lay (am_si h 249 (Int32.toNatClampNeg i1) i2) := Ly.si _ _ _
  generalize am_si h 249 (Int32.toNatClampNeg i1) i2 = h2 at H Ly ⊢
  refine ev_p (pc' := 45) (loc' := [.ref 216, .int i1, .int i2, .int i3, .null, .null, .null]) (st' := [.ref 216]) 1 am_q255 rfl ?_
  refine ev_s (pc' := 48) (loc' := [.ref 216, .int i1, .int i2, .int i3, .null, .null, .null]) (st' := [.ref 250]) (h1 := h2) am_q255 rfl rfl rfl (am_gf2 (lk216 Ly) (lr216_44 Ly)) ?_
  refine ev_p (pc' := 50) (loc' := [.ref 216, .int i1, .int i2, .int i3, .null, .null, .null]) (st' := [.int i3, .int i1, .ref 250]) 2 am_q255 rfl ?_
  obtain ⟨g3, H⟩ := H
  refine ev_s (pc' := 51) (loc' := [.ref 216, .int i1, .int i2, .int i3, .null, .null, .null]) (st' := []) (h1 := am_si h2 250 (Int32.toNatClampNeg i1) i3) am_q255 rfl rfl rfl (am_xx ⟨lk250 Ly, (Nat.le_of_ble_eq_true rfl)⟩ (am_inl (ln250 Ly) g3)) ?_
  replace H := H _ rfl
  replace Ly : Lay (am_si h2 250 (Int32.toNatClampNeg i1) i3) := Ly.si _ _ _
  generalize am_si h2 250 (Int32.toNatClampNeg i1) i3 = h4 at H Ly ⊢
  refine ev_p (pc' := 53) (loc' := [.ref 216, .int i1, .int i2, .int i3, .null, .null, .null]) (st' := [.ref 216, .ref 216]) 2 am_q255 rfl ?_
  refine ev_s (pc' := 56) (loc' := [.ref 216, .int i1, .int i2, .int i3, .null, .null, .null]) (st' := [.int (am_gi h4 216 0), .ref 216]) (h1 := h4) am_q255 rfl rfl rfl (if_pos (e := none) (lk216 Ly)) ?_
  refine ev_c (vs := [.ref 216, .int (am_gi h4 216 0)]) (rest := []) 215 am_q255 rfl rfl rfl rfl rfl rfl rfl rfl rfl rfl rfl rfl (Or.inr (congrArg some (lk216 Ly))) (Cl.mono H (Nat.le_refl _) (fun r6 h5 H => ?_))
  obtain ⟨x7, rfl, Ly, H⟩ := H
  refine ev_p (pc' := 63) (loc' := [.ref 216, .int i1, .int i2, .int i3, .int x7, .null, .null]) (st' := [.int (2 : Int32), .int i2]) 3 am_q255 rfl ?_
  refine ev_jc (t := 76) am_q255 rfl rfl (fun hq => ?_) (fun hq => ?_)
  · replace H := H.1 hq
    refine ev_p (pc' := 78) (loc' := [.ref 216, .int i1, .int i2, .int i3, .int x7, .null, .null]) (st' := [.int (3 : Int32), .int i2]) 2 am_q255 rfl ?_
    refine ev_jc (t := 88) am_q255 rfl rfl (fun hq => ?_) (fun hq => ?_)
    · replace H := H.1 hq
      refine ev_p (pc' := 90) (loc' := [.ref 216, .int i1, .int i2, .int i3, .int x7, .null, .null]) (st' := [.int (4 : Int32), .int i2]) 2 am_q255 rfl ?_
      refine ev_jc (t := 100) am_q255 rfl rfl (fun hq => ?_) (fun hq => ?_)
      · replace H := H.1 hq
        refine ev_p (pc' := 101) (loc' := [.ref 216, .int i1, .int i2, .int i3, .int x7, .null, .null]) (st' := [.int (0 : Int32)]) 1 am_q255 rfl ?_
        exact ev_m (loc' := [.ref 216, .int i1, .int i2, .null, .int x7, .null, .null]) am_q255 rfl rfl H
      · replace H := H.2 hq
        refine ev_p (pc' := 94) (loc' := [.ref 216, .int i1, .int i2, .int i3, .int x7, .null, .null]) (st' := [.ref 216]) 1 am_q255 rfl ?_
        refine ev_s (pc' := 97) (loc' := [.ref 216, .int i1, .int i2, .int i3, .int x7, .null, .null]) (st' := [.int (am_gi h5 216 1)]) (h1 := h5) am_q255 rfl rfl rfl (if_pos (e := none) (lk216 Ly)) ?_
        refine ev_p (pc' := 101) (loc' := [.ref 216, .int i1, .int i2, .int i3, .int x7, .null, .null]) (st' := [.int (am_gi h5 216 1)]) 1 am_q255 rfl ?_
        exact ev_m (loc' := [.ref 216, .int i1, .int i2, .null, .int x7, .null, .null]) am_q255 rfl rfl H
    · replace H := H.2 hq
      refine ev_p (pc' := 82) (loc' := [.ref 216, .int i1, .int i2, .int i3, .int x7, .null, .null]) (st' := [.ref 216]) 1 am_q255 rfl ?_
      refine ev_s (pc' := 85) (loc' := [.ref 216, .int i1, .int i2, .int i3, .int x7, .null, .null]) (st' := [.int (am_gi h5 216 7)]) (h1 := h5) am_q255 rfl rfl rfl (if_pos (e := none) (lk216 Ly)) ?_
      refine ev_p (pc' := 101) (loc' := [.ref 216, .int i1, .int i2, .int i3, .int x7, .null, .null]) (st' := [.int (am_gi h5 216 7)]) 1 am_q255 rfl ?_
      exact ev_m (loc' := [.ref 216, .int i1, .int i2, .null, .int x7, .null, .null]) am_q255 rfl rfl H
  · replace H := H.2 hq
    refine ev_p (pc' := 67) (loc' := [.ref 216, .int i1, .int i2, .int i3, .int x7, .null, .null]) (st' := [.ref 216]) 1 am_q255 rfl ?_
    refine ev_s (pc' := 70) (loc' := [.ref 216, .int i1, .int i2, .int i3, .int x7, .null, .null]) (st' := [.ref 235]) (h1 := h5) am_q255 rfl rfl rfl (am_gf2 (lk216 Ly) (lr216_24 Ly)) ?_
    refine ev_p (pc' := 72) (loc' := [.ref 216, .int i1, .int i2, .int i3, .int x7, .null, .null]) (st' := [.int x7, .ref 235]) 1 am_q255 rfl ?_
    obtain ⟨g8, H⟩ := H
    refine ev_s (pc' := 73) (loc' := [.ref 216, .int i1, .int i2, .int i3, .int x7, .null, .null]) (st' := [.int (am_gi h5 235 (Int32.toNatClampNeg x7))]) (h1 := h5) am_q255 rfl rfl rfl (am_xx (lk235 Ly) (am_inl (ln235 Ly) g8)) ?_
    refine ev_p (pc' := 101) (loc' := [.ref 216, .int i1, .int i2, .int i3, .int x7, .null, .null]) (st' := [.int (am_gi h5 235 (Int32.toNatClampNeg x7))]) 1 am_q255 rfl ?_
    exact ev_m (loc' := [.ref 216, .int i1, .int i2, .null, .int x7, .null, .null]) am_q255 rfl rfl H
set_option maxRecDepth 20000 in
set_option maxHeartbeats 2000000 in
theorem ws255_101 {d : Nat}  (i1 : Int32) (i2 : Int32) (i4 : Int32) (s0 : Int32) {h : AH} {Q : Option Value → AH → Prop} (Ly : Lay h) (H : am_in i1 6 ∧ ∀ h2, h2 = am_si h 251 (Int32.toNatClampNeg i1) s0 → Ev (d + 1) 255 114 [.ref 216, .int i1, .int i2, .null, .int i4, .int s0, .int (0 : Int32)] [] h2 Q) : Ev (d + 1) 255 101 [.ref 216, .int i1, .int i2, .null, .int i4, .null, .null] [.int s0] h Q := by
  refine ev_p (pc' := 104) (loc' := [.ref 216, .int i1, .int i2, .null, .int i4, .int s0, .null]) (st' := [.ref 216]) 2 am_q255 rfl ?_
  refine ev_s (pc' := 107) (loc' := [.ref 216, .int i1, .int i2, .null, .int i4, .int s0, .null]) (st' := [.ref 251]) (h1 := h) am_q255 rfl rfl rfl (am_gf2 (lk216 Ly) (lr216_45 Ly)) ?_
  refine ev_p (pc' := 110) (loc' := [.ref 216, .int i1, .int i2, .null, .int i4, .int s0, .null]) (st' := [.int s0, .int i1, .ref 251]) 2 am_q255 rfl ?_
  obtain ⟨g1, H⟩ := H
  refine ev_s (pc' := 111) (loc' := [.ref 216, .int i1, .int i2, .null, .int i4, .int s0, .null]) (st' := []) (h1 := am_si h 251 (Int32.toNatClampNeg i1) s0) am_q255 rfl rfl rfl (am_xx ⟨lk251 Ly, (Nat.le_of_ble_eq_true rfl)⟩ (am_inl (ln251 Ly) g1)) ?_
  replace H := H _ rfl
  replace Ly : Lay (am_si h 251 (Int32.toNatClampNeg i1) s0) := Ly.si _ _ _
  generalize am_si h 251 (Int32.toNatClampNeg i1) s0 = h2 at H Ly ⊢
  refine ev_p (pc' := 114) (loc' := [.ref 216, .int i1, .int i2, .null, .int i4, .int s0, .int (0 : Int32)]) (st' := []) 2 am_q255 rfl ?_
  exact ev_m (loc' := [.ref 216, .int i1, .int i2, .null, .int i4, .int s0, .int (0 : Int32)]) am_q255 rfl rfl H
set_option maxRecDepth 20000 in
set_option maxHeartbeats 2000000 in
theorem ws255_114 {d : Nat}  (i1 : Int32) (i2 : Int32) (i4 : Int32) (i5 : Int32) (i6 : Int32) {h : AH} {Q : Option Value → AH → Prop} (Ly : Lay h) (H : (i5 ≤ i6 → Cl d 253 [.ref 216, .int (1 : Int32)] h (fun r2 h1 => ∃ x3, r2 = some (.int x3) ∧ Lay h1 ∧ Q (some (.int x3)) h1)) ∧ (¬ i5 ≤ i6 → ((¬ i2 = (2 : Int32)) → ((¬ i2 = (3 : Int32)) → Cl d 173 [.ref 216, .int i6, .int (am_gi h 216 0)] h (fun r5 h4 => ∃ x6, r5 = some (.int x6) ∧ Lay h4 ∧ ((¬ x6 = (-1 : Int32)) → am_in (((400 : Int32) * i1) + i6) 2400 ∧ ∀ h8, h8 = am_sl h4 252 (Int32.toNatClampNeg (((400 : Int32) * i1) + i6)) (0 : Int64) → Ev (d + 1) 255 114 [.ref 216, .int i1, .int i2, .null, .int i4, .int i5, .int (i6 + (1 : Int32))] [] h8 Q) ∧ (¬ (¬ x6 = (-1 : Int32)) → am_in (((400 : Int32) * i1) + i6) 2400 ∧ ∀ h10, h10 = am_sl h4 252 (Int32.toNatClampNeg (((400 : Int32) * i1) + i6)) (1 : Int64) → Ev (d + 1) 255 114 [.ref 216, .int i1, .int i2, .null, .int i4, .int i5, .int (i6 + (1 : Int32))] [] h10 Q))) ∧ (¬ (¬ i2 = (3 : Int32)) → am_in i6 24 ∧ am_in (((400 : Int32) * i1) + i6) 2400 ∧ ∀ h13, h13 = am_sl h 252 (Int32.toNatClampNeg (((400 : Int32) * i1) + i6)) (am_gl h 227 (Int32.toNatClampNeg i6)) → Ev (d + 1) 255 114 [.ref 216, .int i1, .int i2, .null, .int i4, .int i5, .int (i6 + (1 : Int32))] [] h13 Q)) ∧ (¬ (¬ i2 = (2 : Int32)) → am_in (((400 : Int32) * i4) + i6) 5200 ∧ am_in (((400 : Int32) * i1) + i6) 2400 ∧ ∀ h16, h16 = am_sl h 252 (Int32.toNatClampNeg (((400 : Int32) * i1) + i6)) (Int32.toInt64 (am_gi h 236 (Int32.toNatClampNeg (((400 : Int32) * i4) + i6)))) → Ev (d + 1) 255 114 [.ref 216, .int i1, .int i2, .null, .int i4, .int i5, .int (i6 + (1 : Int32))] [] h16 Q))) : Ev (d + 1) 255 114 [.ref 216, .int i1, .int i2, .null, .int i4, .int i5, .int i6] [] h Q := by
  refine ev_p (pc' := 118) (loc' := [.ref 216, .int i1, .int i2, .null, .int i4, .int i5, .int i6]) (st' := [.int i5, .int i6]) 2 am_q255 rfl ?_
  refine ev_jc (t := 197) am_q255 rfl rfl (fun hq => ?_) (fun hq => ?_)
  · replace H := H.1 hq
    refine ev_p (pc' := 199) (loc' := [.ref 216, .int i1, .int i2, .null, .int i4, .int i5, .int i6]) (st' := [.int (1 : Int32), .ref 216]) 2 am_q255 rfl ?_
    refine ev_c (vs := [.ref 216, .int (1 : Int32)]) (rest := []) 253 am_q255 rfl rfl rfl rfl rfl rfl rfl rfl rfl rfl rfl rfl (Or.inr (congrArg some (lk216 Ly))) (Cl.mono H (Nat.le_refl _) (fun r2 h1 H => ?_))
    obtain ⟨x3, rfl, Ly, H⟩ := H
    exact ev_r (v := some (.int x3)) am_q255 rfl rfl rfl rfl H
  · replace H := H.2 hq
    refine ev_p (pc' := 122) (loc' := [.ref 216, .int i1, .int i2, .null, .int i4, .int i5, .int i6]) (st' := [.ref 216]) 1 am_q255 rfl ?_
    refine ev_s (pc' := 125) (loc' := [.ref 216, .int i1, .int i2, .null, .int i4, .int i5, .int i6]) (st' := [.ref 252]) (h1 := h) am_q255 rfl rfl rfl (am_gf2 (lk216 Ly) (lr216_46 Ly)) ?_
    refine ev_p (pc' := 135) (loc' := [.ref 216, .int i1, .int i2, .null, .int i4, .int i5, .int i6]) (st' := [.int (2 : Int32), .int i2, .int (((400 : Int32) * i1) + i6), .ref 252]) 7 am_q255 rfl ?_
    refine ev_jc (t := 156) am_q255 rfl rfl (fun hq => ?_) (fun hq => ?_)
    · replace H := H.1 hq
      refine ev_p (pc' := 158) (loc' := [.ref 216, .int i1, .int i2, .null, .int i4, .int i5, .int i6]) (st' := [.int (3 : Int32), .int i2, .int (((400 : Int32) * i1) + i6), .ref 252]) 2 am_q255 rfl ?_
      refine ev_jc (t := 171) am_q255 rfl rfl (fun hq => ?_) (fun hq => ?_)
      · replace H := H.1 hq
        refine ev_p (pc' := 175) (loc' := [.ref 216, .int i1, .int i2, .null, .int i4, .int i5, .int i6]) (st' := [.ref 216, .int i6, .ref 216, .int (((400 : Int32) * i1) + i6), .ref 252]) 3 am_q255 rfl ?_
        refine ev_s (pc' := 178) (loc' := [.ref 216, .int i1, .int i2, .null, .int i4, .int i5, .int i6]) (st' := [.int (am_gi h 216 0), .int i6, .ref 216, .int (((400 : Int32) * i1) + i6), .ref 252]) (h1 := h) am_q255 rfl rfl rfl (if_pos (e := none) (lk216 Ly)) ?_
        refine ev_c (vs := [.ref 216, .int i6, .int (am_gi h 216 0)]) (rest := [.int (((400 : Int32) * i1) + i6), .ref 252]) 173 am_q255 rfl rfl rfl rfl rfl rfl rfl rfl rfl rfl rfl rfl (Or.inr (congrArg some (lk216 Ly))) (Cl.mono H (Nat.le_refl _) (fun r5 h4 H => ?_))
        obtain ⟨x6, rfl, Ly, H⟩ := H
        refine ev_p (pc' := 182) (loc' := [.ref 216, .int i1, .int i2, .null, .int i4, .int i5, .int i6]) (st' := [.int (-1 : Int32), .int x6, .int (((400 : Int32) * i1) + i6), .ref 252]) 1 am_q255 rfl ?_
        refine ev_jc (t := 189) am_q255 rfl rfl (fun hq => ?_) (fun hq => ?_)
        · replace H := H.1 hq
          refine ev_p (pc' := 190) (loc' := [.ref 216, .int i1, .int i2, .null, .int i4, .int i5, .int i6]) (st' := [.long (0 : Int64), .int (((400 : Int32) * i1) + i6), .ref 252]) 1 am_q255 rfl ?_
          obtain ⟨g7, H⟩ := H
          refine ev_s (pc' := 191) (loc' := [.ref 216, .int i1, .int i2, .null, .int i4, .int i5, .int i6]) (st' := []) (h1 := am_sl h4 252 (Int32.toNatClampNeg (((400 : Int32) * i1) + i6)) (0 : Int64)) am_q255 rfl rfl rfl (am_xx (lk252 Ly) (am_inl (ln252 Ly) g7)) ?_
          replace H := H _ rfl
          replace Ly : Lay (am_sl h4 252 (Int32.toNatClampNeg (((400 : Int32) * i1) + i6)) (0 : Int64)) := Ly.sl _ _ _
          generalize am_sl h4 252 (Int32.toNatClampNeg (((400 : Int32) * i1) + i6)) (0 : Int64) = h8 at H Ly ⊢
          refine ev_p (pc' := 114) (loc' := [.ref 216, .int i1, .int i2, .null, .int i4, .int i5, .int (i6 + (1 : Int32))]) (st' := []) 2 am_q255 rfl ?_
          exact ev_m (loc' := [.ref 216, .int i1, .int i2, .null, .int i4, .int i5, .int (i6 + (1 : Int32))]) am_q255 rfl rfl H
        · replace H := H.2 hq
          refine ev_p (pc' := 190) (loc' := [.ref 216, .int i1, .int i2, .null, .int i4, .int i5, .int i6]) (st' := [.long (1 : Int64), .int (((400 : Int32) * i1) + i6), .ref 252]) 2 am_q255 rfl ?_
          obtain ⟨g9, H⟩ := H
          refine ev_s (pc' := 191) (loc' := [.ref 216, .int i1, .int i2, .null, .int i4, .int i5, .int i6]) (st' := []) (h1 := am_sl h4 252 (Int32.toNatClampNeg (((400 : Int32) * i1) + i6)) (1 : Int64)) am_q255 rfl rfl rfl (am_xx (lk252 Ly) (am_inl (ln252 Ly) g9)) ?_
          replace H := H _ rfl
          replace Ly : Lay (am_sl h4 252 (Int32.toNatClampNeg (((400 : Int32) * i1) + i6)) (1 : Int64)) := Ly.sl _ _ _
          generalize am_sl h4 252 (Int32.toNatClampNeg (((400 : Int32) * i1) + i6)) (1 : Int64) = h10 at H Ly ⊢
          refine ev_p (pc' := 114) (loc' := [.ref 216, .int i1, .int i2, .null, .int i4, .int i5, .int (i6 + (1 : Int32))]) (st' := []) 2 am_q255 rfl ?_
          exact ev_m (loc' := [.ref 216, .int i1, .int i2, .null, .int i4, .int i5, .int (i6 + (1 : Int32))]) am_q255 rfl rfl H
      · replace H := H.2 hq
        refine ev_p (pc' := 162) (loc' := [.ref 216, .int i1, .int i2, .null, .int i4, .int i5, .int i6]) (st' := [.ref 216, .int (((400 : Int32) * i1) + i6), .ref 252]) 1 am_q255 rfl ?_
        refine ev_s (pc' := 165) (loc' := [.ref 216, .int i1, .int i2, .null, .int i4, .int i5, .int i6]) (st' := [.ref 227, .int (((400 : Int32) * i1) + i6), .ref 252]) (h1 := h) am_q255 rfl rfl rfl (am_gf2 (lk216 Ly) (lr216_13 Ly)) ?_
        refine ev_p (pc' := 167) (loc' := [.ref 216, .int i1, .int i2, .null, .int i4, .int i5, .int i6]) (st' := [.int i6, .ref 227, .int (((400 : Int32) * i1) + i6), .ref 252]) 1 am_q255 rfl ?_
        obtain ⟨g11, H⟩ := H
        refine ev_s (pc' := 168) (loc' := [.ref 216, .int i1, .int i2, .null, .int i4, .int i5, .int i6]) (st' := [.long (am_gl h 227 (Int32.toNatClampNeg i6)), .int (((400 : Int32) * i1) + i6), .ref 252]) (h1 := h) am_q255 rfl rfl rfl (am_xx (lk227 Ly) (am_inl (ln227 Ly) g11)) ?_
        refine ev_p (pc' := 190) (loc' := [.ref 216, .int i1, .int i2, .null, .int i4, .int i5, .int i6]) (st' := [.long (am_gl h 227 (Int32.toNatClampNeg i6)), .int (((400 : Int32) * i1) + i6), .ref 252]) 1 am_q255 rfl ?_
        obtain ⟨g12, H⟩ := H
        refine ev_s (pc' := 191) (loc' := [.ref 216, .int i1, .int i2, .null, .int i4, .int i5, .int i6]) (st' := []) (h1 := am_sl h 252 (Int32.toNatClampNeg (((400 : Int32) * i1) + i6)) (am_gl h 227 (Int32.toNatClampNeg i6))) am_q255 rfl rfl rfl (am_xx (lk252 Ly) (am_inl (ln252 Ly) g12)) ?_
        replace H := H _ rfl
        replace Ly : Lay (am_sl h 252 (Int32.toNatClampNeg (((400 : Int32) * i1) + i6)) (am_gl h 227 (Int32.toNatClampNeg i6))) := Ly.sl _ _ _
        generalize am_sl h 252 (Int32.toNatClampNeg (((400 : Int32) * i1) + i6)) (am_gl h 227 (Int32.toNatClampNeg i6)) = h13 at H Ly ⊢
        refine ev_p (pc' := 114) (loc' := [.ref 216, .int i1, .int i2, .null, .int i4, .int i5, .int (i6 + (1 : Int32))]) (st' := []) 2 am_q255 rfl ?_
        exact ev_m (loc' := [.ref 216, .int i1, .int i2, .null, .int i4, .int i5, .int (i6 + (1 : Int32))]) am_q255 rfl rfl H
    · replace H := H.2 hq
      refine ev_p (pc' := 139) (loc' := [.ref 216, .int i1, .int i2, .null, .int i4, .int i5, .int i6]) (st' := [.ref 216, .int (((400 : Int32) * i1) + i6), .ref 252]) 1 am_q255 rfl ?_
      refine ev_s (pc' := 142) (loc' := [.ref 216, .int i1, .int i2, .null, .int i4, .int i5, .int i6]) (st' := [.ref 236, .int (((400 : Int32) * i1) + i6), .ref 252]) (h1 := h) am_q255 rfl rfl rfl (am_gf2 (lk216 Ly) (lr216_25 Ly)) ?_
      refine ev_p (pc' := 151) (loc' := [.ref 216, .int i1, .int i2, .null, .int i4, .int i5, .int i6]) (st' := [.int (((400 : Int32) * i4) + i6), .ref 236, .int (((400 : Int32) * i1) + i6), .ref 252]) 5 am_q255 rfl ?_
      obtain ⟨g14, H⟩ := H
      refine ev_s (pc' := 152) (loc' := [.ref 216, .int i1, .int i2, .null, .int i4, .int i5, .int i6]) (st' := [.int (am_gi h 236 (Int32.toNatClampNeg (((400 : Int32) * i4) + i6))), .int (((400 : Int32) * i1) + i6), .ref 252]) (h1 := h) am_q255 rfl rfl rfl (am_xx (lk236 Ly) (am_inl (ln236 Ly) g14)) ?_
      refine ev_p (pc' := 190) (loc' := [.ref 216, .int i1, .int i2, .null, .int i4, .int i5, .int i6]) (st' := [.long (Int32.toInt64 (am_gi h 236 (Int32.toNatClampNeg (((400 : Int32) * i4) + i6)))), .int (((400 : Int32) * i1) + i6), .ref 252]) 2 am_q255 rfl ?_
      obtain ⟨g15, H⟩ := H
      refine ev_s (pc' := 191) (loc' := [.ref 216, .int i1, .int i2, .null, .int i4, .int i5, .int i6]) (st' := []) (h1 := am_sl h 252 (Int32.toNatClampNeg (((400 : Int32) * i1) + i6)) (Int32.toInt64 (am_gi h 236 (Int32.toNatClampNeg (((400 : Int32) * i4) + i6))))) am_q255 rfl rfl rfl (am_xx (lk252 Ly) (am_inl (ln252 Ly) g15)) ?_
      replace H := H _ rfl
      replace Ly : Lay (am_sl h 252 (Int32.toNatClampNeg (((400 : Int32) * i1) + i6)) (Int32.toInt64 (am_gi h 236 (Int32.toNatClampNeg (((400 : Int32) * i4) + i6))))) := Ly.sl _ _ _
      generalize am_sl h 252 (Int32.toNatClampNeg (((400 : Int32) * i1) + i6)) (Int32.toInt64 (am_gi h 236 (Int32.toNatClampNeg (((400 : Int32) * i4) + i6)))) = h16 at H Ly ⊢
      refine ev_p (pc' := 114) (loc' := [.ref 216, .int i1, .int i2, .null, .int i4, .int i5, .int (i6 + (1 : Int32))]) (st' := []) 2 am_q255 rfl ?_
      exact ev_m (loc' := [.ref 216, .int i1, .int i2, .null, .int i4, .int i5, .int (i6 + (1 : Int32))]) am_q255 rfl rfl H
/-! 256: X12_isUnder -/
set_option maxRecDepth 20000 in
set_option maxHeartbeats 2000000 in
theorem ws256 {d : Nat}  (i0 : Int32) (i1 : Int32) {h : AH} {Q : Option Value → AH → Prop} (Ly : Lay h) (H : (i1 = (0 : Int32) → Q (some (.int (1 : Int32))) h) ∧ (¬ i1 = (0 : Int32) → (i0 = i1 → Q (some (.int (1 : Int32))) h) ∧ (¬ i0 = i1 → ((¬ i0 = (2 : Int32)) → Q (some (.int (0 : Int32))) h) ∧ (¬ (¬ i0 = (2 : Int32)) → ((¬ i1 = (1 : Int32)) → Q (some (.int (0 : Int32))) h) ∧ (¬ (¬ i1 = (1 : Int32)) → Q (some (.int (1 : Int32))) h))))) : Cl d 256 [.int i0, .int i1] h Q := by
  show Ev d 256 0 [.int i0, .int i1] [] h Q
  refine ev_p (pc' := 1) (loc' := [.int i0, .int i1]) (st' := [.int i1]) 1 am_q256 rfl ?_
  refine ev_jz (t := 19) am_q256 rfl rfl (fun hq => ?_) (fun hq => ?_)
  · replace H := H.1 hq
    refine ev_p (pc' := 24) (loc' := [.null, .null]) (st' := [.int (1 : Int32)]) 2 am_q256 rfl ?_
    exact ev_r (v := some (.int (1 : Int32))) am_q256 rfl rfl rfl rfl H
  · replace H := H.2 hq
    refine ev_p (pc' := 6) (loc' := [.int i0, .int i1]) (st' := [.int i1, .int i0]) 2 am_q256 rfl ?_
    refine ev_jc (t := 19) am_q256 rfl rfl (fun hq => ?_) (fun hq => ?_)
    · replace H := H.1 hq
      refine ev_p (pc' := 24) (loc' := [.null, .null]) (st' := [.int (1 : Int32)]) 2 am_q256 rfl ?_
      exact ev_r (v := some (.int (1 : Int32))) am_q256 rfl rfl rfl rfl H
    · replace H := H.2 hq
      refine ev_p (pc' := 11) (loc' := [.int i0, .int i1]) (st' := [.int (2 : Int32), .int i0]) 2 am_q256 rfl ?_
      refine ev_jc (t := 23) am_q256 rfl rfl (fun hq => ?_) (fun hq => ?_)
      · replace H := H.1 hq
        refine ev_p (pc' := 24) (loc' := [.null, .null]) (st' := [.int (0 : Int32)]) 1 am_q256 rfl ?_
        exact ev_r (v := some (.int (0 : Int32))) am_q256 rfl rfl rfl rfl H
      · replace H := H.2 hq
        refine ev_p (pc' := 16) (loc' := [.int i0, .int i1]) (st' := [.int (1 : Int32), .int i1]) 2 am_q256 rfl ?_
        refine ev_jc (t := 23) am_q256 rfl rfl (fun hq => ?_) (fun hq => ?_)
        · replace H := H.1 hq
          refine ev_p (pc' := 24) (loc' := [.null, .null]) (st' := [.int (0 : Int32)]) 1 am_q256 rfl ?_
          exact ev_r (v := some (.int (0 : Int32))) am_q256 rfl rfl rfl rfl H
        · replace H := H.2 hq
          refine ev_p (pc' := 24) (loc' := [.null, .null]) (st' := [.int (1 : Int32)]) 2 am_q256 rfl ?_
          exact ev_r (v := some (.int (1 : Int32))) am_q256 rfl rfl rfl rfl H
/-! 257: X12_asRight -/
set_option maxRecDepth 20000 in
set_option maxHeartbeats 2000000 in
theorem ws257 {d : Nat}  (i1 : Int32) (i2 : Int32) (i3 : Int32) {h : AH} {Q : Option Value → AH → Prop} (Ly : Lay h) (H : am_in i1 6 ∧ ((am_gi h 249 (Int32.toNatClampNeg i1)) = (0 : Int32) → Ev (d + 1) 257 43 [.ref 216, .int i1, .null, .int i3, .int (am_gi h 249 (Int32.toNatClampNeg i1))] [] h Q) ∧ (¬ (am_gi h 249 (Int32.toNatClampNeg i1)) = (0 : Int32) → ((¬ (am_gi h 249 (Int32.toNatClampNeg i1)) = (1 : Int32)) → Cl d 254 [.ref 216, .int i3] h (fun r3 h2 => ∃ x4, r3 = some (.int x4) ∧ Lay h2 ∧ Q (some (.int x4)) h2)) ∧ (¬ (¬ (am_gi h 249 (Int32.toNatClampNeg i1)) = (1 : Int32)) → am_in i1 6 ∧ am_in (am_gi h 250 (Int32.toNatClampNeg i1)) 60 ∧ Cl d 256 [.int (am_gi h 228 (Int32.toNatClampNeg (am_gi h 250 (Int32.toNatClampNeg i1)))), .int i2] h (fun r8 h7 => ∃ x9, r8 = some (.int x9) ∧ Lay h7 ∧ ((¬ x9 = (0 : Int32)) → Ev (d + 1) 257 43 [.ref 216, .int i1, .null, .int i3, .int (am_gi h 249 (Int32.toNatClampNeg i1))] [] h7 Q) ∧ (¬ (¬ x9 = (0 : Int32)) → Cl d 254 [.ref 216, .int i3] h7 (fun r11 h10 => ∃ x12, r11 = some (.int x12) ∧ Lay h10 ∧ Q (some (.int x12)) h10)))))) : Cl (d + 1) 257 [.ref 216, .int i1, .int i2, .int i3] h Q := by
  show Ev (d + 1) 257 0 [.ref 216, .int i1, .int i2, .int i3, .null] [] h Q
  refine ev_p (pc' := 1) (loc' := [.ref 216, .int i1, .int i2, .int i3, .null]) (st' := [.ref 216]) 1 am_q257 rfl ?_
  refine ev_s (pc' := 4) (loc' := [.ref 216, .int i1, .int i2, .int i3, .null]) (st' := [.ref 249]) (h1 := h) am_q257 rfl rfl rfl (am_gf2 (lk216 Ly) (lr216_43 Ly)) ?_
  refine ev_p (pc' := 5) (loc' := [.ref 216, .int i1, .int i2, .int i3, .null]) (st' := [.int i1, .ref 249]) 1 am_q257 rfl ?_
  obtain ⟨g1, H⟩ := H
  refine ev_s (pc' := 6) (loc' := [.ref 216, .int i1, .int i2, .int i3, .null]) (st' := [.int (am_gi h 249 (Int32.toNatClampNeg i1))]) (h1 := h) am_q257 rfl rfl rfl (am_xx (lk249 Ly) (am_inl (ln249 Ly) g1)) ?_
  refine ev_p (pc' := 10) (loc' := [.ref 216, .int i1, .int i2, .int i3, .int (am_gi h 249 (Int32.toNatClampNeg i1))]) (st' := [.int (am_gi h 249 (Int32.toNatClampNeg i1))]) 2 am_q257 rfl ?_
  refine ev_jz (t := 43) am_q257 rfl rfl (fun hq => ?_) (fun hq => ?_)
  · replace H := H.1 hq
    exact ev_m (loc' := [.ref 216, .int i1, .null, .int i3, .int (am_gi h 249 (Int32.toNatClampNeg i1))]) am_q257 rfl rfl H
  · replace H := H.2 hq
    refine ev_p (pc' := 16) (loc' := [.ref 216, .int i1, .int i2, .int i3, .int (am_gi h 249 (Int32.toNatClampNeg i1))]) (st' := [.int (1 : Int32), .int (am_gi h 249 (Int32.toNatClampNeg i1))]) 2 am_q257 rfl ?_
    refine ev_jc (t := 37) am_q257 rfl rfl (fun hq => ?_) (fun hq => ?_)
    · replace H := H.1 hq
      refine ev_p (pc' := 39) (loc' := [.ref 216, .null, .null, .int i3, .null]) (st' := [.int i3, .ref 216]) 2 am_q257 rfl ?_
      refine ev_c (vs := [.ref 216, .int i3]) (rest := []) 254 am_q257 rfl rfl rfl rfl rfl rfl rfl rfl rfl rfl rfl rfl (Or.inr (congrArg some (lk216 Ly))) (Cl.mono H (Nat.le_refl _) (fun r3 h2 H => ?_))
      obtain ⟨x4, rfl, Ly, H⟩ := H
      exact ev_r (v := some (.int x4)) am_q257 rfl rfl rfl rfl H
    · replace H := H.2 hq
      refine ev_p (pc' := 20) (loc' := [.ref 216, .int i1, .int i2, .int i3, .int (am_gi h 249 (Int32.toNatClampNeg i1))]) (st' := [.ref 216]) 1 am_q257 rfl ?_
      refine ev_s (pc' := 23) (loc' := [.ref 216, .int i1, .int i2, .int i3, .int (am_gi h 249 (Int32.toNatClampNeg i1))]) (st' := [.ref 228]) (h1 := h) am_q257 rfl rfl rfl (am_gf2 (lk216 Ly) (lr216_15 Ly)) ?_
      refine ev_p (pc' := 24) (loc' := [.ref 216, .int i1, .int i2, .int i3, .int (am_gi h 249 (Int32.toNatClampNeg i1))]) (st' := [.ref 216, .ref 228]) 1 am_q257 rfl ?_
      refine ev_s (pc' := 27) (loc' := [.ref 216, .int i1, .int i2, .int i3, .int (am_gi h 249 (Int32.toNatClampNeg i1))]) (st' := [.ref 250, .ref 228]) (h1 := h) am_q257 rfl rfl rfl (am_gf2 (lk216 Ly) (lr216_44 Ly)) ?_
      refine ev_p (pc' := 28) (loc' := [.ref 216, .int i1, .int i2, .int i3, .int (am_gi h 249 (Int32.toNatClampNeg i1))]) (st' := [.int i1, .ref 250, .ref 228]) 1 am_q257 rfl ?_
      obtain ⟨g5, H⟩ := H
      refine ev_s (pc' := 29) (loc' := [.ref 216, .int i1, .int i2, .int i3, .int (am_gi h 249 (Int32.toNatClampNeg i1))]) (st' := [.int (am_gi h 250 (Int32.toNatClampNeg i1)), .ref 228]) (h1 := h) am_q257 rfl rfl rfl (am_xx (lk250 Ly) (am_inl (ln250 Ly) g5)) ?_
      obtain ⟨g6, H⟩ := H
      refine ev_s (pc' := 30) (loc' := [.ref 216, .int i1, .int i2, .int i3, .int (am_gi h 249 (Int32.toNatClampNeg i1))]) (st' := [.int (am_gi h 228 (Int32.toNatClampNeg (am_gi h 250 (Int32.toNatClampNeg i1))))]) (h1 := h) am_q257 rfl rfl rfl (am_xx (lk228 Ly) (am_inl (ln228 Ly) g6)) ?_
      refine ev_p (pc' := 31) (loc' := [.ref 216, .int i1, .int i2, .int i3, .int (am_gi h 249 (Int32.toNatClampNeg i1))]) (st' := [.int i2, .int (am_gi h 228 (Int32.toNatClampNeg (am_gi h 250 (Int32.toNatClampNeg i1))))]) 1 am_q257 rfl ?_
      refine ev_c (vs := [.int (am_gi h 228 (Int32.toNatClampNeg (am_gi h 250 (Int32.toNatClampNeg i1)))), .int i2]) (rest := []) 256 am_q257 rfl rfl rfl rfl rfl rfl rfl rfl rfl rfl rfl rfl (Or.inl rfl) (Cl.mono H (Nat.le_refl _) (fun r8 h7 H => ?_))
      obtain ⟨x9, rfl, Ly, H⟩ := H
      refine ev_jz (t := 43) am_q257 rfl rfl (fun hq => ?_) (fun hq => ?_)
      · replace H := H.1 hq
        exact ev_m (loc' := [.ref 216, .int i1, .null, .int i3, .int (am_gi h 249 (Int32.toNatClampNeg i1))]) am_q257 rfl rfl H
      · replace H := H.2 hq
        refine ev_p (pc' := 39) (loc' := [.ref 216, .null, .null, .int i3, .null]) (st' := [.int i3, .ref 216]) 2 am_q257 rfl ?_
        refine ev_c (vs := [.ref 216, .int i3]) (rest := []) 254 am_q257 rfl rfl rfl rfl rfl rfl rfl rfl rfl rfl rfl rfl (Or.inr (congrArg some (lk216 Ly))) (Cl.mono H (Nat.le_refl _) (fun r11 h10 H => ?_))
        obtain ⟨x12, rfl, Ly, H⟩ := H
        exact ev_r (v := some (.int x12)) am_q257 rfl rfl rfl rfl H
set_option maxRecDepth 20000 in
set_option maxHeartbeats 2000000 in
theorem ws257_43 {d : Nat}  (i1 : Int32) (i3 : Int32) (i4 : Int32) {h : AH} {Q : Option Value → AH → Prop} (Ly : Lay h) (H : ((¬ i4 = (0 : Int32)) → am_in i1 6 ∧ am_in (am_gi h 250 (Int32.toNatClampNeg i1)) 60 ∧ Cl d 253 [.ref 216, .int (am_gi h 229 (Int32.toNatClampNeg (am_gi h 250 (Int32.toNatClampNeg i1))))] h (fun r4 h3 => ∃ x5, r4 = some (.int x5) ∧ Lay h3 ∧ Q (some (.int x5)) h3)) ∧ (¬ (¬ i4 = (0 : Int32)) → ((¬ i3 = (11 : Int32)) → Cl d 253 [.ref 216, .int (0 : Int32)] h (fun r7 h6 => ∃ x8, r7 = some (.int x8) ∧ Lay h6 ∧ Q (some (.int x8)) h6)) ∧ (¬ (¬ i3 = (11 : Int32)) → Cl d 254 [.ref 216, .int (10 : Int32)] h (fun r10 h9 => ∃ x11, r10 = some (.int x11) ∧ Lay h9 ∧ Q (some (.int x11)) h9)))) : Ev (d + 1) 257 43 [.ref 216, .int i1, .null, .int i3, .int i4] [] h Q := by
  refine ev_p (pc' := 45) (loc' := [.ref 216, .int i1, .null, .int i3, .int i4]) (st' := [.int i4]) 1 am_q257 rfl ?_
  refine ev_jz (t := 69) am_q257 rfl rfl (fun hq => ?_) (fun hq => ?_)
  · replace H := H.1 hq
    refine ev_p (pc' := 71) (loc' := [.ref 216, .int i1, .null, .int i3, .int i4]) (st' := [.ref 216, .ref 216]) 2 am_q257 rfl ?_
    refine ev_s (pc' := 74) (loc' := [.ref 216, .int i1, .null, .int i3, .int i4]) (st' := [.ref 229, .ref 216]) (h1 := h) am_q257 rfl rfl rfl (am_gf2 (lk216 Ly) (lr216_16 Ly)) ?_
    refine ev_p (pc' := 75) (loc' := [.ref 216, .int i1, .null, .int i3, .int i4]) (st' := [.ref 216, .ref 229, .ref 216]) 1 am_q257 rfl ?_
    refine ev_s (pc' := 78) (loc' := [.ref 216, .int i1, .null, .int i3, .int i4]) (st' := [.ref 250, .ref 229, .ref 216]) (h1 := h) am_q257 rfl rfl rfl (am_gf2 (lk216 Ly) (lr216_44 Ly)) ?_
    refine ev_p (pc' := 79) (loc' := [.ref 216, .int i1, .null, .int i3, .int i4]) (st' := [.int i1, .ref 250, .ref 229, .ref 216]) 1 am_q257 rfl ?_
    obtain ⟨g1, H⟩ := H
    refine ev_s (pc' := 80) (loc' := [.ref 216, .int i1, .null, .int i3, .int i4]) (st' := [.int (am_gi h 250 (Int32.toNatClampNeg i1)), .ref 229, .ref 216]) (h1 := h) am_q257 rfl rfl rfl (am_xx (lk250 Ly) (am_inl (ln250 Ly) g1)) ?_
    obtain ⟨g2, H⟩ := H
    refine ev_s (pc' := 81) (loc' := [.ref 216, .int i1, .null, .int i3, .int i4]) (st' := [.int (am_gi h 229 (Int32.toNatClampNeg (am_gi h 250 (Int32.toNatClampNeg i1)))), .ref 216]) (h1 := h) am_q257 rfl rfl rfl (am_xx (lk229 Ly) (am_inl (ln229 Ly) g2)) ?_
    refine ev_c (vs := [.ref 216, .int (am_gi h 229 (Int32.toNatClampNeg (am_gi h 250 (Int32.toNatClampNeg i1))))]) (rest := []) 253 am_q257 rfl rfl rfl rfl rfl rfl rfl rfl rfl rfl rfl rfl (Or.inr (congrArg some (lk216 Ly))) (Cl.mono H (Nat.le_refl _) (fun r4 h3 H => ?_))
    obtain ⟨x5, rfl, Ly, H⟩ := H
    exact ev_r (v := some (.int x5)) am_q257 rfl rfl rfl rfl H
  · replace H := H.2 hq
    refine ev_p (pc' := 51) (loc' := [.ref 216, .int i1, .null, .int i3, .int i4]) (st' := [.int (11 : Int32), .int i3]) 2 am_q257 rfl ?_
    refine ev_jc (t := 63) am_q257 rfl rfl (fun hq => ?_) (fun hq => ?_)
    · replace H := H.1 hq
      refine ev_p (pc' := 65) (loc' := [.ref 216, .int i1, .null, .int i3, .int i4]) (st' := [.int (0 : Int32), .ref 216]) 2 am_q257 rfl ?_
      refine ev_c (vs := [.ref 216, .int (0 : Int32)]) (rest := []) 253 am_q257 rfl rfl rfl rfl rfl rfl rfl rfl rfl rfl rfl rfl (Or.inr (congrArg some (lk216 Ly))) (Cl.mono H (Nat.le_refl _) (fun r7 h6 H => ?_))
      obtain ⟨x8, rfl, Ly, H⟩ := H
      exact ev_r (v := some (.int x8)) am_q257 rfl rfl rfl rfl H
    · replace H := H.2 hq
      refine ev_p (pc' := 57) (loc' := [.ref 216, .int i1, .null, .int i3, .int i4]) (st' := [.int (10 : Int32), .ref 216]) 2 am_q257 rfl ?_
      refine ev_c (vs := [.ref 216, .int (10 : Int32)]) (rest := []) 254 am_q257 rfl rfl rfl rfl rfl rfl rfl rfl rfl rfl rfl rfl (Or.inr (congrArg some (lk216 Ly))) (Cl.mono H (Nat.le_refl _) (fun r10 h9 H => ?_))
      obtain ⟨x11, rfl, Ly, H⟩ := H
      refine ev_p (pc' := 68) (loc' := [.ref 216, .int i1, .null, .int i3, .int i4]) (st' := [.int x11]) 1 am_q257 rfl ?_
      exact ev_r (v := some (.int x11)) am_q257 rfl rfl rfl rfl H
/-! 258: X12_asRow -/
set_option maxRecDepth 20000 in
set_option maxHeartbeats 2000000 in
theorem ws258 {d : Nat}  (i1 : Int32) (i2 : Int32) (i3 : Int32) {h : AH} {Q : Option Value → AH → Prop} (Ly : Lay h) (H : am_in i1 6 ∧ ((¬ (am_gi h 249 (Int32.toNatClampNeg i1)) = (0 : Int32)) → am_in i1 6 ∧ ((am_gi h 249 (Int32.toNatClampNeg i1)) = i2 → am_in i1 6 ∧ Cl d 167 [.int i3, .int (0 : Int32), .int ((am_gi h 251 (Int32.toNatClampNeg i1)) - (1 : Int32))] h (fun r5 h4 => ∃ x6, r5 = some (.int x6) ∧ Lay h4 ∧ (x6 = (0 : Int32) → Cl d 254 [.ref 216, .int (12 : Int32)] h4 (fun r8 h7 => ∃ x9, r8 = some (.int x9) ∧ Lay h7 ∧ Q (some (.int x9)) h7)) ∧ (¬ x6 = (0 : Int32) → am_in (((400 : Int32) * i1) + i3) 2400 ∧ Cl d 253 [.ref 216, .int (Int64.toInt32 (am_gl h4 252 (Int32.toNatClampNeg (((400 : Int32) * i1) + i3))))] h4 (fun r12 h11 => ∃ x13, r12 = some (.int x13) ∧ Lay h11 ∧ Q (some (.int x13)) h11)))) ∧ (¬ (am_gi h 249 (Int32.toNatClampNeg i1)) = i2 → Cl d 254 [.ref 216, .int (11 : Int32)] h (fun r15 h14 => ∃ x16, r15 = some (.int x16) ∧ Lay h14 ∧ Q (some (.int x16)) h14))) ∧ (¬ (¬ (am_gi h 249 (Int32.toNatClampNeg i1)) = (0 : Int32)) → Cl d 254 [.ref 216, .int (10 : Int32)] h (fun r18 h17 => ∃ x19, r18 = some (.int x19) ∧ Lay h17 ∧ Q (some (.int x19)) h17))) : Cl (d + 1) 258 [.ref 216, .int i1, .int i2, .int i3] h Q := by
  show Ev (d + 1) 258 0 [.ref 216, .int i1, .int i2, .int i3] [] h Q
  refine ev_p (pc' := 1) (loc' := [.ref 216, .int i1, .int i2, .int i3]) (st' := [.ref 216]) 1 am_q258 rfl ?_
  refine ev_s (pc' := 4) (loc' := [.ref 216, .int i1, .int i2, .int i3]) (st' := [.ref 249]) (h1 := h) am_q258 rfl rfl rfl (am_gf2 (lk216 Ly) (lr216_43 Ly)) ?_
  refine ev_p (pc' := 5) (loc' := [.ref 216, .int i1, .int i2, .int i3]) (st' := [.int i1, .ref 249]) 1 am_q258 rfl ?_
  obtain ⟨g1, H⟩ := H
  refine ev_s (pc' := 6) (loc' := [.ref 216, .int i1, .int i2, .int i3]) (st' := [.int (am_gi h 249 (Int32.toNatClampNeg i1))]) (h1 := h) am_q258 rfl rfl rfl (am_xx (lk249 Ly) (am_inl (ln249 Ly) g1)) ?_
  refine ev_jz (t := 16) am_q258 rfl rfl (fun hq => ?_) (fun hq => ?_)
  · replace H := H.1 hq
    refine ev_p (pc' := 17) (loc' := [.ref 216, .int i1, .int i2, .int i3]) (st' := [.ref 216]) 1 am_q258 rfl ?_
    refine ev_s (pc' := 20) (loc' := [.ref 216, .int i1, .int i2, .int i3]) (st' := [.ref 249]) (h1 := h) am_q258 rfl rfl rfl (am_gf2 (lk216 Ly) (lr216_43 Ly)) ?_
    refine ev_p (pc' := 21) (loc' := [.ref 216, .int i1, .int i2, .int i3]) (st' := [.int i1, .ref 249]) 1 am_q258 rfl ?_
    obtain ⟨g2, H⟩ := H
    refine ev_s (pc' := 22) (loc' := [.ref 216, .int i1, .int i2, .int i3]) (st' := [.int (am_gi h 249 (Int32.toNatClampNeg i1))]) (h1 := h) am_q258 rfl rfl rfl (am_xx (lk249 Ly) (am_inl (ln249 Ly) g2)) ?_
    refine ev_p (pc' := 23) (loc' := [.ref 216, .int i1, .int i2, .int i3]) (st' := [.int i2, .int (am_gi h 249 (Int32.toNatClampNeg i1))]) 1 am_q258 rfl ?_
    refine ev_jc (t := 33) am_q258 rfl rfl (fun hq => ?_) (fun hq => ?_)
    · replace H := H.1 hq
      refine ev_p (pc' := 36) (loc' := [.ref 216, .int i1, .int i2, .int i3]) (st' := [.ref 216, .int (0 : Int32), .int i3]) 3 am_q258 rfl ?_
      refine ev_s (pc' := 39) (loc' := [.ref 216, .int i1, .int i2, .int i3]) (st' := [.ref 251, .int (0 : Int32), .int i3]) (h1 := h) am_q258 rfl rfl rfl (am_gf2 (lk216 Ly) (lr216_45 Ly)) ?_
      refine ev_p (pc' := 40) (loc' := [.ref 216, .int i1, .int i2, .int i3]) (st' := [.int i1, .ref 251, .int (0 : Int32), .int i3]) 1 am_q258 rfl ?_
      obtain ⟨g3, H⟩ := H
      refine ev_s (pc' := 41) (loc' := [.ref 216, .int i1, .int i2, .int i3]) (st' := [.int (am_gi h 251 (Int32.toNatClampNeg i1)), .int (0 : Int32), .int i3]) (h1 := h) am_q258 rfl rfl rfl (am_xx (lk251 Ly) (am_inl (ln251 Ly) g3)) ?_
      refine ev_p (pc' := 43) (loc' := [.ref 216, .int i1, .int i2, .int i3]) (st' := [.int ((am_gi h 251 (Int32.toNatClampNeg i1)) - (1 : Int32)), .int (0 : Int32), .int i3]) 2 am_q258 rfl ?_
      refine ev_c (vs := [.int i3, .int (0 : Int32), .int ((am_gi h 251 (Int32.toNatClampNeg i1)) - (1 : Int32))]) (rest := []) 167 am_q258 rfl rfl rfl rfl rfl rfl rfl rfl rfl rfl rfl rfl (Or.inl rfl) (Cl.mono H (Nat.le_refl _) (fun r5 h4 H => ?_))
      obtain ⟨x6, rfl, Ly, H⟩ := H
      refine ev_jz (t := 69) am_q258 rfl rfl (fun hq => ?_) (fun hq => ?_)
      · replace H := H.1 hq
        refine ev_p (pc' := 72) (loc' := [.ref 216, .int i1, .int i2, .int i3]) (st' := [.int (12 : Int32), .ref 216]) 2 am_q258 rfl ?_
        refine ev_c (vs := [.ref 216, .int (12 : Int32)]) (rest := []) 254 am_q258 rfl rfl rfl rfl rfl rfl rfl rfl rfl rfl rfl rfl (Or.inr (congrArg some (lk216 Ly))) (Cl.mono H (Nat.le_refl _) (fun r8 h7 H => ?_))
        obtain ⟨x9, rfl, Ly, H⟩ := H
        exact ev_r (v := some (.int x9)) am_q258 rfl rfl rfl rfl H
      · replace H := H.2 hq
        refine ev_p (pc' := 51) (loc' := [.ref 216, .int i1, .int i2, .int i3]) (st' := [.ref 216, .ref 216]) 2 am_q258 rfl ?_
        refine ev_s (pc' := 54) (loc' := [.ref 216, .int i1, .int i2, .int i3]) (st' := [.ref 252, .ref 216]) (h1 := h4) am_q258 rfl rfl rfl (am_gf2 (lk216 Ly) (lr216_46 Ly)) ?_
        refine ev_p (pc' := 61) (loc' := [.ref 216, .int i1, .int i2, .int i3]) (st' := [.int (((400 : Int32) * i1) + i3), .ref 252, .ref 216]) 5 am_q258 rfl ?_
        obtain ⟨g10, H⟩ := H
        refine ev_s (pc' := 62) (loc' := [.ref 216, .int i1, .int i2, .int i3]) (st' := [.long (am_gl h4 252 (Int32.toNatClampNeg (((400 : Int32) * i1) + i3))), .ref 216]) (h1 := h4) am_q258 rfl rfl rfl (am_xx (lk252 Ly) (am_inl (ln252 Ly) g10)) ?_
        refine ev_p (pc' := 63) (loc' := [.ref 216, .int i1, .int i2, .int i3]) (st' := [.int (Int64.toInt32 (am_gl h4 252 (Int32.toNatClampNeg (((400 : Int32) * i1) + i3)))), .ref 216]) 1 am_q258 rfl ?_
        refine ev_c (vs := [.ref 216, .int (Int64.toInt32 (am_gl h4 252 (Int32.toNatClampNeg (((400 : Int32) * i1) + i3))))]) (rest := []) 253 am_q258 rfl rfl rfl rfl rfl rfl rfl rfl rfl rfl rfl rfl (Or.inr (congrArg some (lk216 Ly))) (Cl.mono H (Nat.le_refl _) (fun r12 h11 H => ?_))
        obtain ⟨x13, rfl, Ly, H⟩ := H
        refine ev_p (pc' := 75) (loc' := [.ref 216, .int i1, .int i2, .int i3]) (st' := [.int x13]) 1 am_q258 rfl ?_
        exact ev_r (v := some (.int x13)) am_q258 rfl rfl rfl rfl H
    · replace H := H.2 hq
      refine ev_p (pc' := 29) (loc' := [.ref 216, .int i1, .int i2, .int i3]) (st' := [.int (11 : Int32), .ref 216]) 2 am_q258 rfl ?_
      refine ev_c (vs := [.ref 216, .int (11 : Int32)]) (rest := []) 254 am_q258 rfl rfl rfl rfl rfl rfl rfl rfl rfl rfl rfl rfl (Or.inr (congrArg some (lk216 Ly))) (Cl.mono H (Nat.le_refl _) (fun r15 h14 H => ?_))
      obtain ⟨x16, rfl, Ly, H⟩ := H
      exact ev_r (v := some (.int x16)) am_q258 rfl rfl rfl rfl H
  · replace H := H.2 hq
    refine ev_p (pc' := 12) (loc' := [.ref 216, .int i1, .int i2, .int i3]) (st' := [.int (10 : Int32), .ref 216]) 2 am_q258 rfl ?_
    refine ev_c (vs := [.ref 216, .int (10 : Int32)]) (rest := []) 254 am_q258 rfl rfl rfl rfl rfl rfl rfl rfl rfl rfl rfl rfl (Or.inr (congrArg some (lk216 Ly))) (Cl.mono H (Nat.le_refl _) (fun r18 h17 H => ?_))
    obtain ⟨x19, rfl, Ly, H⟩ := H
    exact ev_r (v := some (.int x19)) am_q258 rfl rfl rfl rfl H
/-! 259: X12_copied -/
set_option maxRecDepth 20000 in
set_option maxHeartbeats 2000000 in
theorem ws259 {d : Nat}  (i1 : Int32) (i2 : Int32) {h : AH} {Q : Option Value → AH → Prop} (Ly : Lay h) (H : am_in i1 6 ∧ ((¬ (am_gi h 249 (Int32.toNatClampNeg i1)) = (0 : Int32)) → am_in i1 6 ∧ ((am_gi h 249 (Int32.toNatClampNeg i1)) = (2 : Int32) → (i2 < (0 : Int32) → Cl d 254 [.ref 216, .int (12 : Int32)] h (fun r4 h3 => ∃ x5, r4 = some (.int x5) ∧ Lay h3 ∧ Q (some (.int x5)) h3)) ∧ (¬ i2 < (0 : Int32) → am_in i1 6 ∧ ((am_gi h 251 (Int32.toNatClampNeg i1)) < ((1 : Int32) + i2) → Cl d 254 [.ref 216, .int (12 : Int32)] h (fun r8 h7 => ∃ x9, r8 = some (.int x9) ∧ Lay h7 ∧ Q (some (.int x9)) h7)) ∧ (¬ (am_gi h 251 (Int32.toNatClampNeg i1)) < ((1 : Int32) + i2) → (((2 : Int32) * i2) ≤ (9 : Int32) → Ev (d + 1) 259 69 [.ref 216, .int i1, .int i2, .int (0 : Int32), .int (0 : Int32)] [] h Q) ∧ (¬ ((2 : Int32) * i2) ≤ (9 : Int32) → Cl d 254 [.ref 216, .int (12 : Int32)] h (fun r11 h10 => ∃ x12, r11 = some (.int x12) ∧ Lay h10 ∧ Q (some (.int x12)) h10))))) ∧ (¬ (am_gi h 249 (Int32.toNatClampNeg i1)) = (2 : Int32) → Cl d 254 [.ref 216, .int (11 : Int32)] h (fun r14 h13 => ∃ x15, r14 = some (.int x15) ∧ Lay h13 ∧ Q (some (.int x15)) h13))) ∧ (¬ (¬ (am_gi h 249 (Int32.toNatClampNeg i1)) = (0 : Int32)) → Cl d 254 [.ref 216, .int (10 : Int32)] h (fun r17 h16 => ∃ x18, r17 = some (.int x18) ∧ Lay h16 ∧ Q (some (.int x18)) h16))) : Cl (d + 1) 259 [.ref 216, .int i1, .int i2] h Q := by
  show Ev (d + 1) 259 0 [.ref 216, .int i1, .int i2, .null, .null] [] h Q
  refine ev_p (pc' := 1) (loc' := [.ref 216, .int i1, .int i2, .null, .null]) (st' := [.ref 216]) 1 am_q259 rfl ?_
  refine ev_s (pc' := 4) (loc' := [.ref 216, .int i1, .int i2, .null, .null]) (st' := [.ref 249]) (h1 := h) am_q259 rfl rfl rfl (am_gf2 (lk216 Ly) (lr216_43 Ly)) ?_
  refine ev_p (pc' := 5) (loc' := [.ref 216, .int i1, .int i2, .null, .null]) (st' := [.int i1, .ref 249]) 1 am_q259 rfl ?_
  obtain ⟨g1, H⟩ := H
  refine ev_s (pc' := 6) (loc' := [.ref 216, .int i1, .int i2, .null, .null]) (st' := [.int (am_gi h 249 (Int32.toNatClampNeg i1))]) (h1 := h) am_q259 rfl rfl rfl (am_xx (lk249 Ly) (am_inl (ln249 Ly) g1)) ?_
  refine ev_jz (t := 16) am_q259 rfl rfl (fun hq => ?_) (fun hq => ?_)
  · replace H := H.1 hq
    refine ev_p (pc' := 17) (loc' := [.ref 216, .int i1, .int i2, .null, .null]) (st' := [.ref 216]) 1 am_q259 rfl ?_
    refine ev_s (pc' := 20) (loc' := [.ref 216, .int i1, .int i2, .null, .null]) (st' := [.ref 249]) (h1 := h) am_q259 rfl rfl rfl (am_gf2 (lk216 Ly) (lr216_43 Ly)) ?_
    refine ev_p (pc' := 21) (loc' := [.ref 216, .int i1, .int i2, .null, .null]) (st' := [.int i1, .ref 249]) 1 am_q259 rfl ?_
    obtain ⟨g2, H⟩ := H
    refine ev_s (pc' := 22) (loc' := [.ref 216, .int i1, .int i2, .null, .null]) (st' := [.int (am_gi h 249 (Int32.toNatClampNeg i1))]) (h1 := h) am_q259 rfl rfl rfl (am_xx (lk249 Ly) (am_inl (ln249 Ly) g2)) ?_
    refine ev_p (pc' := 23) (loc' := [.ref 216, .int i1, .int i2, .null, .null]) (st' := [.int (2 : Int32), .int (am_gi h 249 (Int32.toNatClampNeg i1))]) 1 am_q259 rfl ?_
    refine ev_jc (t := 33) am_q259 rfl rfl (fun hq => ?_) (fun hq => ?_)
    · replace H := H.1 hq
      refine ev_p (pc' := 34) (loc' := [.ref 216, .int i1, .int i2, .null, .null]) (st' := [.int i2]) 1 am_q259 rfl ?_
      refine ev_jz (t := 57) am_q259 rfl rfl (fun hq => ?_) (fun hq => ?_)
      · replace H := H.1 hq
        refine ev_p (pc' := 60) (loc' := [.ref 216, .null, .null, .null, .null]) (st' := [.int (12 : Int32), .ref 216]) 2 am_q259 rfl ?_
        refine ev_c (vs := [.ref 216, .int (12 : Int32)]) (rest := []) 254 am_q259 rfl rfl rfl rfl rfl rfl rfl rfl rfl rfl rfl rfl (Or.inr (congrArg some (lk216 Ly))) (Cl.mono H (Nat.le_refl _) (fun r4 h3 H => ?_))
        obtain ⟨x5, rfl, Ly, H⟩ := H
        exact ev_r (v := some (.int x5)) am_q259 rfl rfl rfl rfl H
      · replace H := H.2 hq
        refine ev_p (pc' := 41) (loc' := [.ref 216, .int i1, .int i2, .null, .null]) (st' := [.ref 216, .int ((1 : Int32) + i2)]) 4 am_q259 rfl ?_
        refine ev_s (pc' := 44) (loc' := [.ref 216, .int i1, .int i2, .null, .null]) (st' := [.ref 251, .int ((1 : Int32) + i2)]) (h1 := h) am_q259 rfl rfl rfl (am_gf2 (lk216 Ly) (lr216_45 Ly)) ?_
        refine ev_p (pc' := 45) (loc' := [.ref 216, .int i1, .int i2, .null, .null]) (st' := [.int i1, .ref 251, .int ((1 : Int32) + i2)]) 1 am_q259 rfl ?_
        obtain ⟨g6, H⟩ := H
        refine ev_s (pc' := 46) (loc' := [.ref 216, .int i1, .int i2, .null, .null]) (st' := [.int (am_gi h 251 (Int32.toNatClampNeg i1)), .int ((1 : Int32) + i2)]) (h1 := h) am_q259 rfl rfl rfl (am_xx (lk251 Ly) (am_inl (ln251 Ly) g6)) ?_
        refine ev_jc (t := 57) am_q259 rfl rfl (fun hq => ?_) (fun hq => ?_)
        · replace H := H.1 hq
          refine ev_p (pc' := 60) (loc' := [.ref 216, .null, .null, .null, .null]) (st' := [.int (12 : Int32), .ref 216]) 2 am_q259 rfl ?_
          refine ev_c (vs := [.ref 216, .int (12 : Int32)]) (rest := []) 254 am_q259 rfl rfl rfl rfl rfl rfl rfl rfl rfl rfl rfl rfl (Or.inr (congrArg some (lk216 Ly))) (Cl.mono H (Nat.le_refl _) (fun r8 h7 H => ?_))
          obtain ⟨x9, rfl, Ly, H⟩ := H
          exact ev_r (v := some (.int x9)) am_q259 rfl rfl rfl rfl H
        · replace H := H.2 hq
          refine ev_p (pc' := 54) (loc' := [.ref 216, .int i1, .int i2, .null, .null]) (st' := [.int (9 : Int32), .int ((2 : Int32) * i2)]) 4 am_q259 rfl ?_
          refine ev_jc (t := 64) am_q259 rfl rfl (fun hq => ?_) (fun hq => ?_)
          · replace H := H.1 hq
            refine ev_p (pc' := 69) (loc' := [.ref 216, .int i1, .int i2, .int (0 : Int32), .int (0 : Int32)]) (st' := []) 4 am_q259 rfl ?_
            exact ev_m (loc' := [.ref 216, .int i1, .int i2, .int (0 : Int32), .int (0 : Int32)]) am_q259 rfl rfl H
          · replace H := H.2 hq
            refine ev_p (pc' := 60) (loc' := [.ref 216, .null, .null, .null, .null]) (st' := [.int (12 : Int32), .ref 216]) 2 am_q259 rfl ?_
            refine ev_c (vs := [.ref 216, .int (12 : Int32)]) (rest := []) 254 am_q259 rfl rfl rfl rfl rfl rfl rfl rfl rfl rfl rfl rfl (Or.inr (congrArg some (lk216 Ly))) (Cl.mono H (Nat.le_refl _) (fun r11 h10 H => ?_))
            obtain ⟨x12, rfl, Ly, H⟩ := H
            exact ev_r (v := some (.int x12)) am_q259 rfl rfl rfl rfl H
    · replace H := H.2 hq
      refine ev_p (pc' := 29) (loc' := [.ref 216, .int i1, .int i2, .null, .null]) (st' := [.int (11 : Int32), .ref 216]) 2 am_q259 rfl ?_
      refine ev_c (vs := [.ref 216, .int (11 : Int32)]) (rest := []) 254 am_q259 rfl rfl rfl rfl rfl rfl rfl rfl rfl rfl rfl rfl (Or.inr (congrArg some (lk216 Ly))) (Cl.mono H (Nat.le_refl _) (fun r14 h13 H => ?_))
      obtain ⟨x15, rfl, Ly, H⟩ := H
      exact ev_r (v := some (.int x15)) am_q259 rfl rfl rfl rfl H
  · replace H := H.2 hq
    refine ev_p (pc' := 12) (loc' := [.ref 216, .int i1, .int i2, .null, .null]) (st' := [.int (10 : Int32), .ref 216]) 2 am_q259 rfl ?_
    refine ev_c (vs := [.ref 216, .int (10 : Int32)]) (rest := []) 254 am_q259 rfl rfl rfl rfl rfl rfl rfl rfl rfl rfl rfl rfl (Or.inr (congrArg some (lk216 Ly))) (Cl.mono H (Nat.le_refl _) (fun r17 h16 H => ?_))
    obtain ⟨x18, rfl, Ly, H⟩ := H
    exact ev_r (v := some (.int x18)) am_q259 rfl rfl rfl rfl H
set_option maxRecDepth 20000 in
set_option maxHeartbeats 2000000 in
theorem ws259_69 {d : Nat}  (i1 : Int32) (i2 : Int32) (i3 : Int32) (i4 : Int32) {h : AH} {Q : Option Value → AH → Prop} (Ly : Lay h) (H : (i2 ≤ i4 → Cl d 253 [.ref 216, .int i3] h (fun r2 h1 => ∃ x3, r2 = some (.int x3) ∧ Lay h1 ∧ Q (some (.int x3)) h1)) ∧ (¬ i2 ≤ i4 → am_in ((((400 : Int32) * i1) + (1 : Int32)) + i4) 2400 ∧ Ev (d + 1) 259 69 [.ref 216, .int i1, .int i2, .int (i3 + (Int64.toInt32 (am_gl h 252 (Int32.toNatClampNeg ((((400 : Int32) * i1) + (1 : Int32)) + i4))))), .int (i4 + (1 : Int32))] [] h Q)) : Ev (d + 1) 259 69 [.ref 216, .int i1, .int i2, .int i3, .int i4] [] h Q := by
  refine ev_p (pc' := 72) (loc' := [.ref 216, .int i1, .int i2, .int i3, .int i4]) (st' := [.int i2, .int i4]) 2 am_q259 rfl ?_
  refine ev_jc (t := 100) am_q259 rfl rfl (fun hq => ?_) (fun hq => ?_)
  · replace H := H.1 hq
    refine ev_p (pc' := 102) (loc' := [.ref 216, .int i1, .int i2, .int i3, .int i4]) (st' := [.int i3, .ref 216]) 2 am_q259 rfl ?_
    refine ev_c (vs := [.ref 216, .int i3]) (rest := []) 253 am_q259 rfl rfl rfl rfl rfl rfl rfl rfl rfl rfl rfl rfl (Or.inr (congrArg some (lk216 Ly))) (Cl.mono H (Nat.le_refl _) (fun r2 h1 H => ?_))
    obtain ⟨x3, rfl, Ly, H⟩ := H
    exact ev_r (v := some (.int x3)) am_q259 rfl rfl rfl rfl H
  · replace H := H.2 hq
    refine ev_p (pc' := 77) (loc' := [.ref 216, .int i1, .int i2, .int i3, .int i4]) (st' := [.ref 216, .int i3]) 2 am_q259 rfl ?_
    refine ev_s (pc' := 80) (loc' := [.ref 216, .int i1, .int i2, .int i3, .int i4]) (st' := [.ref 252, .int i3]) (h1 := h) am_q259 rfl rfl rfl (am_gf2 (lk216 Ly) (lr216_46 Ly)) ?_
    refine ev_p (pc' := 90) (loc' := [.ref 216, .int i1, .int i2, .int i3, .int i4]) (st' := [.int ((((400 : Int32) * i1) + (1 : Int32)) + i4), .ref 252, .int i3]) 7 am_q259 rfl ?_
    obtain ⟨g4, H⟩ := H
    refine ev_s (pc' := 91) (loc' := [.ref 216, .int i1, .int i2, .int i3, .int i4]) (st' := [.long (am_gl h 252 (Int32.toNatClampNeg ((((400 : Int32) * i1) + (1 : Int32)) + i4))), .int i3]) (h1 := h) am_q259 rfl rfl rfl (am_xx (lk252 Ly) (am_inl (ln252 Ly) g4)) ?_
    refine ev_p (pc' := 69) (loc' := [.ref 216, .int i1, .int i2, .int (i3 + (Int64.toInt32 (am_gl h 252 (Int32.toNatClampNeg ((((400 : Int32) * i1) + (1 : Int32)) + i4))))), .int (i4 + (1 : Int32))]) (st' := []) 5 am_q259 rfl ?_
    exact ev_m (loc' := [.ref 216, .int i1, .int i2, .int (i3 + (Int64.toInt32 (am_gl h 252 (Int32.toNatClampNeg ((((400 : Int32) * i1) + (1 : Int32)) + i4))))), .int (i4 + (1 : Int32))]) am_q259 rfl rfl H
/-! 260: X12_forge -/
set_option maxRecDepth 20000 in
set_option maxHeartbeats 2000000 in
theorem ws260 {d : Nat}  (i1 : Int32) (i2 : Int32) (i3 : Int32) {h : AH} {Q : Option Value → AH → Prop} (Ly : Lay h) (H : Cl d 167 [.int i1, .int (0 : Int32), .int (5 : Int32)] h (fun r2 h1 => ∃ x3, r2 = some (.int x3) ∧ Lay h1 ∧ (x3 = (0 : Int32) → Cl d 254 [.ref 216, .int (1 : Int32)] h1 (fun r5 h4 => ∃ x6, r5 = some (.int x6) ∧ Lay h4 ∧ Q (some (.int x6)) h4)) ∧ (¬ x3 = (0 : Int32) → Cl d 167 [.int i2, .int (0 : Int32), .int (8 : Int32)] h1 (fun r8 h7 => ∃ x9, r8 = some (.int x9) ∧ Lay h7 ∧ (x9 = (0 : Int32) → Cl d 254 [.ref 216, .int (1 : Int32)] h7 (fun r11 h10 => ∃ x12, r11 = some (.int x12) ∧ Lay h10 ∧ Q (some (.int x12)) h10)) ∧ (¬ x9 = (0 : Int32) → Cl d 167 [.int i3, .int (-100 : Int32), .int (100 : Int32)] h7 (fun r14 h13 => ∃ x15, r14 = some (.int x15) ∧ Lay h13 ∧ ((¬ x15 = (0 : Int32)) → (i2 = (0 : Int32) → ¬ (5 : Int32) = (0 : Int32) ∧ ¬ (5 : Int32) = (0 : Int32) ∧ Cl d 257 [.ref 216, .int i1, .int (((i3 - i3 / (5 : Int32) * (5 : Int32)) + (5 : Int32)) - ((i3 - i3 / (5 : Int32) * (5 : Int32)) + (5 : Int32)) / (5 : Int32) * (5 : Int32)), .int (11 : Int32)] h13 (fun r19 h18 => ∃ x20, r19 = some (.int x20) ∧ Lay h18 ∧ Q (some (.int x20)) h18)) ∧ (i2 = (1 : Int32) → Cl d 258 [.ref 216, .int i1, .int (2 : Int32), .int i3] h13 (fun r23 h22 => ∃ x24, r23 = some (.int x24) ∧ Lay h22 ∧ Q (some (.int x24)) h22)) ∧ (i2 = (2 : Int32) → Cl d 258 [.ref 216, .int i1, .int (3 : Int32), .int i3] h13 (fun r27 h26 => ∃ x28, r27 = some (.int x28) ∧ Lay h26 ∧ Q (some (.int x28)) h26)) ∧ (i2 = (3 : Int32) → Cl d 258 [.ref 216, .int i1, .int (4 : Int32), .int i3] h13 (fun r31 h30 => ∃ x32, r31 = some (.int x32) ∧ Lay h30 ∧ Q (some (.int x32)) h30)) ∧ (i2 = (4 : Int32) → ((0 : Int32) ≤ i3 → Cl d 253 [.ref 216, .int i3] h13 (fun r35 h34 => ∃ x36, r35 = some (.int x36) ∧ Lay h34 ∧ Q (some (.int x36)) h34)) ∧ (¬ (0 : Int32) ≤ i3 → Cl d 254 [.ref 216, .int (13 : Int32)] h13 (fun r38 h37 => ∃ x39, r38 = some (.int x39) ∧ Lay h37 ∧ Q (some (.int x39)) h37))) ∧ (i2 = (5 : Int32) → Cl d 259 [.ref 216, .int i1, .int i3] h13 (fun r42 h41 => ∃ x43, r42 = some (.int x43) ∧ Lay h41 ∧ Q (some (.int x43)) h41)) ∧ (i2 = (6 : Int32) → Cl d 257 [.ref 216, .int i1, .int (1 : Int32), .int (14 : Int32)] h13 (fun r46 h45 => ∃ x47, r46 = some (.int x47) ∧ Lay h45 ∧ Q (some (.int x47)) h45)) ∧ (i2 = (7 : Int32) → ((¬ i3 = (0 : Int32)) → ¬ i3 = (0 : Int32) ∧ Cl d 253 [.ref 216, .int ((1000 : Int32) / i3)] h13 (fun r51 h50 => ∃ x52, r51 = some (.int x52) ∧ Lay h50 ∧ Q (some (.int x52)) h50)) ∧ (¬ (¬ i3 = (0 : Int32)) → Cl d 254 [.ref 216, .int (15 : Int32)] h13 (fun r54 h53 => ∃ x55, r54 = some (.int x55) ∧ Lay h53 ∧ Q (some (.int x55)) h53))) ∧ (¬ i2 = (0 : Int32) ∧ ¬ i2 = (1 : Int32) ∧ ¬ i2 = (2 : Int32) ∧ ¬ i2 = (3 : Int32) ∧ ¬ i2 = (4 : Int32) ∧ ¬ i2 = (5 : Int32) ∧ ¬ i2 = (6 : Int32) ∧ ¬ i2 = (7 : Int32) → Cl d 254 [.ref 216, .int (10 : Int32)] h13 (fun r58 h57 => ∃ x59, r58 = some (.int x59) ∧ Lay h57 ∧ Q (some (.int x59)) h57))) ∧ (¬ (¬ x15 = (0 : Int32)) → Cl d 254 [.ref 216, .int (1 : Int32)] h13 (fun r61 h60 => ∃ x62, r61 = some (.int x62) ∧ Lay h60 ∧ Q (some (.int x62)) h60)))))))) : Cl (d + 1) 260 [.ref 216, .int i1, .int i2, .int i3] h Q := by
  show Ev (d + 1) 260 0 [.ref 216, .int i1, .int i2, .int i3] [] h Q
  refine ev_p (pc' := 3) (loc' := [.ref 216, .int i1, .int i2, .int i3]) (st' := [.int (5 : Int32), .int (0 : Int32), .int i1]) 3 am_q260 rfl ?_
  refine ev_c (vs := [.int i1, .int (0 : Int32), .int (5 : Int32)]) (rest := []) 167 am_q260 rfl rfl rfl rfl rfl rfl rfl rfl rfl rfl rfl rfl (Or.inl rfl) (Cl.mono H (Nat.le_refl _) (fun r2 h1 H => ?_))
  obtain ⟨x3, rfl, Ly, H⟩ := H
  refine ev_jz (t := 30) am_q260 rfl rfl (fun hq => ?_) (fun hq => ?_)
  · replace H := H.1 hq
    refine ev_p (pc' := 32) (loc' := [.ref 216, .null, .null, .null]) (st' := [.int (1 : Int32), .ref 216]) 2 am_q260 rfl ?_
    refine ev_c (vs := [.ref 216, .int (1 : Int32)]) (rest := []) 254 am_q260 rfl rfl rfl rfl rfl rfl rfl rfl rfl rfl rfl rfl (Or.inr (congrArg some (lk216 Ly))) (Cl.mono H (Nat.le_refl _) (fun r5 h4 H => ?_))
    obtain ⟨x6, rfl, Ly, H⟩ := H
    exact ev_r (v := some (.int x6)) am_q260 rfl rfl rfl rfl H
  · replace H := H.2 hq
    refine ev_p (pc' := 13) (loc' := [.ref 216, .int i1, .int i2, .int i3]) (st' := [.int (8 : Int32), .int (0 : Int32), .int i2]) 3 am_q260 rfl ?_
    refine ev_c (vs := [.int i2, .int (0 : Int32), .int (8 : Int32)]) (rest := []) 167 am_q260 rfl rfl rfl rfl rfl rfl rfl rfl rfl rfl rfl rfl (Or.inl rfl) (Cl.mono H (Nat.le_refl _) (fun r8 h7 H => ?_))
    obtain ⟨x9, rfl, Ly, H⟩ := H
    refine ev_jz (t := 30) am_q260 rfl rfl (fun hq => ?_) (fun hq => ?_)
    · replace H := H.1 hq
      refine ev_p (pc' := 32) (loc' := [.ref 216, .null, .null, .null]) (st' := [.int (1 : Int32), .ref 216]) 2 am_q260 rfl ?_
      refine ev_c (vs := [.ref 216, .int (1 : Int32)]) (rest := []) 254 am_q260 rfl rfl rfl rfl rfl rfl rfl rfl rfl rfl rfl rfl (Or.inr (congrArg some (lk216 Ly))) (Cl.mono H (Nat.le_refl _) (fun r11 h10 H => ?_))
      obtain ⟨x12, rfl, Ly, H⟩ := H
      exact ev_r (v := some (.int x12)) am_q260 rfl rfl rfl rfl H
    · replace H := H.2 hq
      refine ev_p (pc' := 24) (loc' := [.ref 216, .int i1, .int i2, .int i3]) (st' := [.int (100 : Int32), .int (-100 : Int32), .int i3]) 3 am_q260 rfl ?_
      refine ev_c (vs := [.int i3, .int (-100 : Int32), .int (100 : Int32)]) (rest := []) 167 am_q260 rfl rfl rfl rfl rfl rfl rfl rfl rfl rfl rfl rfl (Or.inl rfl) (Cl.mono H (Nat.le_refl _) (fun r14 h13 H => ?_))
      obtain ⟨x15, rfl, Ly, H⟩ := H
      refine ev_jz (t := 36) am_q260 rfl rfl (fun hq => ?_) (fun hq => ?_)
      · replace H := H.1 hq
        refine ev_p (pc' := 37) (loc' := [.ref 216, .int i1, .int i2, .int i3]) (st' := [.int i2]) 1 am_q260 rfl ?_
        by_cases k21 : i2 = (0 : Int32)
        · replace H := H.1 k21
          refine ev_s (pc' := 84) (loc' := [.ref 216, .int i1, .int i2, .int i3]) (st' := []) (h1 := h13) am_q260 rfl rfl rfl (by rw [k21]; rfl) ?_
          refine ev_p (pc' := 88) (loc' := [.ref 216, .int i1, .int i2, .int i3]) (st' := [.int (5 : Int32), .int i3, .int i1, .ref 216]) 4 am_q260 rfl ?_
          obtain ⟨g16, H⟩ := H
          refine ev_s (pc' := 89) (loc' := [.ref 216, .int i1, .int i2, .int i3]) (st' := [.int (i3 - i3 / (5 : Int32) * (5 : Int32)), .int i1, .ref 216]) (h1 := h13) am_q260 rfl rfl rfl (if_neg (t := none) g16) ?_
          refine ev_p (pc' := 92) (loc' := [.ref 216, .int i1, .int i2, .int i3]) (st' := [.int (5 : Int32), .int ((i3 - i3 / (5 : Int32) * (5 : Int32)) + (5 : Int32)), .int i1, .ref 216]) 3 am_q260 rfl ?_
          obtain ⟨g17, H⟩ := H
          refine ev_s (pc' := 93) (loc' := [.ref 216, .int i1, .int i2, .int i3]) (st' := [.int (((i3 - i3 / (5 : Int32) * (5 : Int32)) + (5 : Int32)) - ((i3 - i3 / (5 : Int32) * (5 : Int32)) + (5 : Int32)) / (5 : Int32) * (5 : Int32)), .int i1, .ref 216]) (h1 := h13) am_q260 rfl rfl rfl (if_neg (t := none) g17) ?_
          refine ev_p (pc' := 95) (loc' := [.ref 216, .int i1, .int i2, .int i3]) (st' := [.int (11 : Int32), .int (((i3 - i3 / (5 : Int32) * (5 : Int32)) + (5 : Int32)) - ((i3 - i3 / (5 : Int32) * (5 : Int32)) + (5 : Int32)) / (5 : Int32) * (5 : Int32)), .int i1, .ref 216]) 1 am_q260 rfl ?_
          refine ev_c (vs := [.ref 216, .int i1, .int (((i3 - i3 / (5 : Int32) * (5 : Int32)) + (5 : Int32)) - ((i3 - i3 / (5 : Int32) * (5 : Int32)) + (5 : Int32)) / (5 : Int32) * (5 : Int32)), .int (11 : Int32)]) (rest := []) 257 am_q260 rfl rfl rfl rfl rfl rfl rfl rfl rfl rfl rfl rfl (Or.inr (congrArg some (lk216 Ly))) (Cl.mono H (Nat.le_refl _) (fun r19 h18 H => ?_))
          obtain ⟨x20, rfl, Ly, H⟩ := H
          exact ev_r (v := some (.int x20)) am_q260 rfl rfl rfl rfl H
        replace H := H.2
        by_cases k25 : i2 = (1 : Int32)
        · replace H := H.1 k25
          refine ev_s (pc' := 99) (loc' := [.ref 216, .int i1, .int i2, .int i3]) (st' := []) (h1 := h13) am_q260 rfl rfl rfl (by rw [k25]; rfl) ?_
          refine ev_p (pc' := 103) (loc' := [.ref 216, .int i1, .int i2, .int i3]) (st' := [.int i3, .int (2 : Int32), .int i1, .ref 216]) 4 am_q260 rfl ?_
          refine ev_c (vs := [.ref 216, .int i1, .int (2 : Int32), .int i3]) (rest := []) 258 am_q260 rfl rfl rfl rfl rfl rfl rfl rfl rfl rfl rfl rfl (Or.inr (congrArg some (lk216 Ly))) (Cl.mono H (Nat.le_refl _) (fun r23 h22 H => ?_))
          obtain ⟨x24, rfl, Ly, H⟩ := H
          exact ev_r (v := some (.int x24)) am_q260 rfl rfl rfl rfl H
        replace H := H.2
        by_cases k29 : i2 = (2 : Int32)
        · replace H := H.1 k29
          refine ev_s (pc' := 107) (loc' := [.ref 216, .int i1, .int i2, .int i3]) (st' := []) (h1 := h13) am_q260 rfl rfl rfl (by rw [k29]; rfl) ?_
          refine ev_p (pc' := 111) (loc' := [.ref 216, .int i1, .int i2, .int i3]) (st' := [.int i3, .int (3 : Int32), .int i1, .ref 216]) 4 am_q260 rfl ?_
          refine ev_c (vs := [.ref 216, .int i1, .int (3 : Int32), .int i3]) (rest := []) 258 am_q260 rfl rfl rfl rfl rfl rfl rfl rfl rfl rfl rfl rfl (Or.inr (congrArg some (lk216 Ly))) (Cl.mono H (Nat.le_refl _) (fun r27 h26 H => ?_))
          obtain ⟨x28, rfl, Ly, H⟩ := H
          exact ev_r (v := some (.int x28)) am_q260 rfl rfl rfl rfl H
        replace H := H.2
        by_cases k33 : i2 = (3 : Int32)
        · replace H := H.1 k33
          refine ev_s (pc' := 115) (loc' := [.ref 216, .int i1, .int i2, .int i3]) (st' := []) (h1 := h13) am_q260 rfl rfl rfl (by rw [k33]; rfl) ?_
          refine ev_p (pc' := 119) (loc' := [.ref 216, .int i1, .int i2, .int i3]) (st' := [.int i3, .int (4 : Int32), .int i1, .ref 216]) 4 am_q260 rfl ?_
          refine ev_c (vs := [.ref 216, .int i1, .int (4 : Int32), .int i3]) (rest := []) 258 am_q260 rfl rfl rfl rfl rfl rfl rfl rfl rfl rfl rfl rfl (Or.inr (congrArg some (lk216 Ly))) (Cl.mono H (Nat.le_refl _) (fun r31 h30 H => ?_))
          obtain ⟨x32, rfl, Ly, H⟩ := H
          exact ev_r (v := some (.int x32)) am_q260 rfl rfl rfl rfl H
        replace H := H.2
        by_cases k40 : i2 = (4 : Int32)
        · replace H := H.1 k40
          refine ev_s (pc' := 123) (loc' := [.ref 216, .int i1, .int i2, .int i3]) (st' := []) (h1 := h13) am_q260 rfl rfl rfl (by rw [k40]; rfl) ?_
          refine ev_p (pc' := 124) (loc' := [.ref 216, .int i1, .int i2, .int i3]) (st' := [.int i3]) 1 am_q260 rfl ?_
          refine ev_jz (t := 136) am_q260 rfl rfl (fun hq => ?_) (fun hq => ?_)
          · replace H := H.1 hq
            refine ev_p (pc' := 138) (loc' := [.ref 216, .int i1, .int i2, .int i3]) (st' := [.int i3, .ref 216]) 2 am_q260 rfl ?_
            refine ev_c (vs := [.ref 216, .int i3]) (rest := []) 253 am_q260 rfl rfl rfl rfl rfl rfl rfl rfl rfl rfl rfl rfl (Or.inr (congrArg some (lk216 Ly))) (Cl.mono H (Nat.le_refl _) (fun r35 h34 H => ?_))
            obtain ⟨x36, rfl, Ly, H⟩ := H
            exact ev_r (v := some (.int x36)) am_q260 rfl rfl rfl rfl H
          · replace H := H.2 hq
            refine ev_p (pc' := 130) (loc' := [.ref 216, .int i1, .int i2, .int i3]) (st' := [.int (13 : Int32), .ref 216]) 2 am_q260 rfl ?_
            refine ev_c (vs := [.ref 216, .int (13 : Int32)]) (rest := []) 254 am_q260 rfl rfl rfl rfl rfl rfl rfl rfl rfl rfl rfl rfl (Or.inr (congrArg some (lk216 Ly))) (Cl.mono H (Nat.le_refl _) (fun r38 h37 H => ?_))
            obtain ⟨x39, rfl, Ly, H⟩ := H
            refine ev_p (pc' := 141) (loc' := [.ref 216, .int i1, .int i2, .int i3]) (st' := [.int x39]) 1 am_q260 rfl ?_
            exact ev_r (v := some (.int x39)) am_q260 rfl rfl rfl rfl H
        replace H := H.2
        by_cases k44 : i2 = (5 : Int32)
        · replace H := H.1 k44
          refine ev_s (pc' := 142) (loc' := [.ref 216, .int i1, .int i2, .int i3]) (st' := []) (h1 := h13) am_q260 rfl rfl rfl (by rw [k44]; rfl) ?_
          refine ev_p (pc' := 145) (loc' := [.ref 216, .int i1, .int i2, .int i3]) (st' := [.int i3, .int i1, .ref 216]) 3 am_q260 rfl ?_
          refine ev_c (vs := [.ref 216, .int i1, .int i3]) (rest := []) 259 am_q260 rfl rfl rfl rfl rfl rfl rfl rfl rfl rfl rfl rfl (Or.inr (congrArg some (lk216 Ly))) (Cl.mono H (Nat.le_refl _) (fun r42 h41 H => ?_))
          obtain ⟨x43, rfl, Ly, H⟩ := H
          exact ev_r (v := some (.int x43)) am_q260 rfl rfl rfl rfl H
        replace H := H.2
        by_cases k48 : i2 = (6 : Int32)
        · replace H := H.1 k48
          refine ev_s (pc' := 149) (loc' := [.ref 216, .int i1, .int i2, .int i3]) (st' := []) (h1 := h13) am_q260 rfl rfl rfl (by rw [k48]; rfl) ?_
          refine ev_p (pc' := 154) (loc' := [.ref 216, .int i1, .int i2, .int i3]) (st' := [.int (14 : Int32), .int (1 : Int32), .int i1, .ref 216]) 4 am_q260 rfl ?_
          refine ev_c (vs := [.ref 216, .int i1, .int (1 : Int32), .int (14 : Int32)]) (rest := []) 257 am_q260 rfl rfl rfl rfl rfl rfl rfl rfl rfl rfl rfl rfl (Or.inr (congrArg some (lk216 Ly))) (Cl.mono H (Nat.le_refl _) (fun r46 h45 H => ?_))
          obtain ⟨x47, rfl, Ly, H⟩ := H
          exact ev_r (v := some (.int x47)) am_q260 rfl rfl rfl rfl H
        replace H := H.2
        by_cases k56 : i2 = (7 : Int32)
        · replace H := H.1 k56
          refine ev_s (pc' := 158) (loc' := [.ref 216, .int i1, .int i2, .int i3]) (st' := []) (h1 := h13) am_q260 rfl rfl rfl (by rw [k56]; rfl) ?_
          refine ev_p (pc' := 159) (loc' := [.ref 216, .int i1, .int i2, .int i3]) (st' := [.int i3]) 1 am_q260 rfl ?_
          refine ev_jz (t := 171) am_q260 rfl rfl (fun hq => ?_) (fun hq => ?_)
          · replace H := H.1 hq
            refine ev_p (pc' := 176) (loc' := [.ref 216, .int i1, .int i2, .int i3]) (st' := [.int i3, .int (1000 : Int32), .ref 216]) 3 am_q260 rfl ?_
            obtain ⟨g49, H⟩ := H
            refine ev_s (pc' := 177) (loc' := [.ref 216, .int i1, .int i2, .int i3]) (st' := [.int ((1000 : Int32) / i3), .ref 216]) (h1 := h13) am_q260 rfl rfl rfl (if_neg (t := none) g49) ?_
            refine ev_c (vs := [.ref 216, .int ((1000 : Int32) / i3)]) (rest := []) 253 am_q260 rfl rfl rfl rfl rfl rfl rfl rfl rfl rfl rfl rfl (Or.inr (congrArg some (lk216 Ly))) (Cl.mono H (Nat.le_refl _) (fun r51 h50 H => ?_))
            obtain ⟨x52, rfl, Ly, H⟩ := H
            exact ev_r (v := some (.int x52)) am_q260 rfl rfl rfl rfl H
          · replace H := H.2 hq
            refine ev_p (pc' := 165) (loc' := [.ref 216, .int i1, .int i2, .int i3]) (st' := [.int (15 : Int32), .ref 216]) 2 am_q260 rfl ?_
            refine ev_c (vs := [.ref 216, .int (15 : Int32)]) (rest := []) 254 am_q260 rfl rfl rfl rfl rfl rfl rfl rfl rfl rfl rfl rfl (Or.inr (congrArg some (lk216 Ly))) (Cl.mono H (Nat.le_refl _) (fun r54 h53 H => ?_))
            obtain ⟨x55, rfl, Ly, H⟩ := H
            refine ev_p (pc' := 180) (loc' := [.ref 216, .int i1, .int i2, .int i3]) (st' := [.int x55]) 1 am_q260 rfl ?_
            exact ev_r (v := some (.int x55)) am_q260 rfl rfl rfl rfl H
        replace H := H.2
        replace H := H ⟨k21, k25, k29, k33, k40, k44, k48, k56⟩
        refine ev_s (pc' := 181) (loc' := [.ref 216, .int i1, .int i2, .int i3]) (st' := []) (h1 := h13) am_q260 rfl rfl rfl (am_tso (x := (i2).toInt) (by have z0 : (i2).toInt ≠ 0 := am_tn k21 (by decide); have z1 : (i2).toInt ≠ 1 := am_tn k25 (by decide); have z2 : (i2).toInt ≠ 2 := am_tn k29 (by decide); have z3 : (i2).toInt ≠ 3 := am_tn k33 (by decide); have z4 : (i2).toInt ≠ 4 := am_tn k40 (by decide); have z5 : (i2).toInt ≠ 5 := am_tn k44 (by decide); have z6 : (i2).toInt ≠ 6 := am_tn k48 (by decide); have z7 : (i2).toInt ≠ 7 := am_tn k56 (by decide); omega)) ?_
        refine ev_p (pc' := 184) (loc' := [.ref 216, .int i1, .int i2, .int i3]) (st' := [.int (10 : Int32), .ref 216]) 2 am_q260 rfl ?_
        refine ev_c (vs := [.ref 216, .int (10 : Int32)]) (rest := []) 254 am_q260 rfl rfl rfl rfl rfl rfl rfl rfl rfl rfl rfl rfl (Or.inr (congrArg some (lk216 Ly))) (Cl.mono H (Nat.le_refl _) (fun r58 h57 H => ?_))
        obtain ⟨x59, rfl, Ly, H⟩ := H
        exact ev_r (v := some (.int x59)) am_q260 rfl rfl rfl rfl H
      · replace H := H.2 hq
        refine ev_p (pc' := 32) (loc' := [.ref 216, .null, .null, .null]) (st' := [.int (1 : Int32), .ref 216]) 2 am_q260 rfl ?_
        refine ev_c (vs := [.ref 216, .int (1 : Int32)]) (rest := []) 254 am_q260 rfl rfl rfl rfl rfl rfl rfl rfl rfl rfl rfl rfl (Or.inr (congrArg some (lk216 Ly))) (Cl.mono H (Nat.le_refl _) (fun r61 h60 H => ?_))
        obtain ⟨x62, rfl, Ly, H⟩ := H
        exact ev_r (v := some (.int x62)) am_q260 rfl rfl rfl rfl H
/-! 261: X12_status -/
set_option maxRecDepth 20000 in
set_option maxHeartbeats 2000000 in
theorem ws261 {d : Nat}   {h : AH} {Q : Option Value → AH → Prop} (Ly : Lay h) (H : Q (some (.int (am_gi h 216 47))) h) : Cl d 261 [.ref 216] h Q := by
  show Ev d 261 0 [.ref 216] [] h Q
  refine ev_p (pc' := 1) (loc' := [.ref 216]) (st' := [.ref 216]) 1 am_q261 rfl ?_
  refine ev_s (pc' := 4) (loc' := [.ref 216]) (st' := [.int (am_gi h 216 47)]) (h1 := h) am_q261 rfl rfl rfl (if_pos (e := none) (lk216 Ly)) ?_
  exact ev_r (v := some (.int (am_gi h 216 47))) am_q261 rfl rfl rfl rfl H
