/-! 53: X6_has -/
set_option maxRecDepth 20000 in
set_option maxHeartbeats 2000000 in
theorem ws53 {d : Nat}  (i1 : Int32) {h : AH} {Q : Option Value → AH → Prop} (Ly : Lay h) (H : (i1 < (0 : Int32) → Q (some (.int (0 : Int32))) h) ∧ (¬ i1 < (0 : Int32) → ((am_gi h 9 1) ≤ i1 → Q (some (.int (0 : Int32))) h) ∧ (¬ (am_gi h 9 1) ≤ i1 → Q (some (.int (1 : Int32))) h))) : Cl d 53 [.ref 9, .int i1] h Q := by
  show Ev d 53 0 [.ref 9, .int i1] [] h Q
  refine ev_p (pc' := 1) (loc' := [.ref 9, .int i1]) (st' := [.int i1]) 1 am_q53 rfl ?_
  refine ev_jz (t := 16) am_q53 rfl rfl (fun hq => ?_) (fun hq => ?_)
  · replace H := H.1 hq
    refine ev_p (pc' := 17) (loc' := [.null, .null]) (st' := [.int (0 : Int32)]) 1 am_q53 rfl ?_
    exact ev_r (v := some (.int (0 : Int32))) am_q53 rfl rfl rfl rfl H
  · replace H := H.2 hq
    refine ev_p (pc' := 6) (loc' := [.ref 9, .int i1]) (st' := [.ref 9, .int i1]) 2 am_q53 rfl ?_
    refine ev_s (pc' := 9) (loc' := [.ref 9, .int i1]) (st' := [.int (am_gi h 9 1), .int i1]) (h1 := h) am_q53 rfl rfl rfl (if_pos (e := none) (lk9 Ly)) ?_
    refine ev_jc (t := 16) am_q53 rfl rfl (fun hq => ?_) (fun hq => ?_)
    · replace H := H.1 hq
      refine ev_p (pc' := 17) (loc' := [.null, .null]) (st' := [.int (0 : Int32)]) 1 am_q53 rfl ?_
      exact ev_r (v := some (.int (0 : Int32))) am_q53 rfl rfl rfl rfl H
    · replace H := H.2 hq
      refine ev_p (pc' := 17) (loc' := [.ref 9, .int i1]) (st' := [.int (1 : Int32)]) 2 am_q53 rfl ?_
      exact ev_r (v := some (.int (1 : Int32))) am_q53 rfl rfl rfl rfl H
/-! 54: X6_hasRoom -/
set_option maxRecDepth 20000 in
set_option maxHeartbeats 2000000 in
theorem ws54 {d : Nat}  (i1 : Int32) {h : AH} {Q : Option Value → AH → Prop} (Ly : Lay h) (H : ((60 : Int32) < ((am_gi h 9 1) + i1) → Q (some (.int (0 : Int32))) h) ∧ (¬ (60 : Int32) < ((am_gi h 9 1) + i1) → Q (some (.int (1 : Int32))) h)) : Cl d 54 [.ref 9, .int i1] h Q := by
  show Ev d 54 0 [.ref 9, .int i1] [] h Q
  refine ev_p (pc' := 1) (loc' := [.ref 9, .int i1]) (st' := [.ref 9]) 1 am_q54 rfl ?_
  refine ev_s (pc' := 4) (loc' := [.ref 9, .int i1]) (st' := [.int (am_gi h 9 1)]) (h1 := h) am_q54 rfl rfl rfl (if_pos (e := none) (lk9 Ly)) ?_
  refine ev_p (pc' := 8) (loc' := [.ref 9, .int i1]) (st' := [.int (60 : Int32), .int ((am_gi h 9 1) + i1)]) 3 am_q54 rfl ?_
  refine ev_jc (t := 15) am_q54 rfl rfl (fun hq => ?_) (fun hq => ?_)
  · replace H := H.1 hq
    refine ev_p (pc' := 16) (loc' := [.ref 9, .int i1]) (st' := [.int (0 : Int32)]) 1 am_q54 rfl ?_
    exact ev_r (v := some (.int (0 : Int32))) am_q54 rfl rfl rfl rfl H
  · replace H := H.2 hq
    refine ev_p (pc' := 16) (loc' := [.ref 9, .int i1]) (st' := [.int (1 : Int32)]) 2 am_q54 rfl ?_
    exact ev_r (v := some (.int (1 : Int32))) am_q54 rfl rfl rfl rfl H
/-! 55: X6_add -/
set_option maxRecDepth 20000 in
set_option maxHeartbeats 2000000 in
theorem ws55 {d : Nat}  (i1 : Int32) (i2 : Int32) (i3 : Int32) (i4 : Int32) (i5 : Int32) (i6 : Int32) {h : AH} {Q : Option Value → AH → Prop} (Ly : Lay h) (H : Cl d 54 [.ref 9, .int (1 : Int32)] h (fun r2 h1 => ∃ x3, r2 = some (.int x3) ∧ Lay h1 ∧ ((¬ x3 = (0 : Int32)) → am_in (am_gi h1 9 1) 60 ∧ ∀ h5, h5 = am_si h1 (11 + (Int32.toNatClampNeg (am_gi h1 9 1))) 0 i1 → ∀ h6, h6 = am_si h5 (11 + (Int32.toNatClampNeg (am_gi h1 9 1))) 1 i2 → ∀ h7, h7 = am_si h6 (11 + (Int32.toNatClampNeg (am_gi h1 9 1))) 2 i3 → ∀ h8, h8 = am_si h7 (11 + (Int32.toNatClampNeg (am_gi h1 9 1))) 3 i4 → ∀ h9, h9 = am_si h8 (11 + (Int32.toNatClampNeg (am_gi h1 9 1))) 4 i5 → ∀ h10, h10 = am_si h9 (11 + (Int32.toNatClampNeg (am_gi h1 9 1))) 5 i6 → ∀ h11, h11 = am_si h10 9 1 ((am_gi h10 9 1) + (1 : Int32)) → Q (some (.int ((am_gi h11 9 1) - (1 : Int32)))) h11) ∧ (¬ (¬ x3 = (0 : Int32)) → Q (some (.int (-4 : Int32))) h1))) : Cl (d + 1) 55 [.ref 9, .int i1, .int i2, .int i3, .int i4, .int i5, .int i6] h Q := by
  show Ev (d + 1) 55 0 [.ref 9, .int i1, .int i2, .int i3, .int i4, .int i5, .int i6, .null] [] h Q
  refine ev_p (pc' := 2) (loc' := [.ref 9, .int i1, .int i2, .int i3, .int i4, .int i5, .int i6, .null]) (st' := [.int (1 : Int32), .ref 9]) 2 am_q55 rfl ?_
  refine ev_c (vs := [.ref 9, .int (1 : Int32)]) (rest := []) 54 am_q55 rfl rfl rfl rfl rfl rfl rfl rfl rfl rfl rfl rfl (Or.inr (congrArg some (lk9 Ly))) (Cl.mono H (Nat.le_refl _) (fun r2 h1 H => ?_))
  obtain ⟨x3, rfl, Ly, H⟩ := H
  refine ev_jz (t := 11) am_q55 rfl rfl (fun hq => ?_) (fun hq => ?_)
  · replace H := H.1 hq
    refine ev_p (pc' := 12) (loc' := [.ref 9, .int i1, .int i2, .int i3, .int i4, .int i5, .int i6, .null]) (st' := [.ref 9]) 1 am_q55 rfl ?_
    refine ev_s (pc' := 15) (loc' := [.ref 9, .int i1, .int i2, .int i3, .int i4, .int i5, .int i6, .null]) (st' := [.ref 10]) (h1 := h1) am_q55 rfl rfl rfl (am_gf2 (lk9 Ly) (lr9_0 Ly)) ?_
    refine ev_p (pc' := 16) (loc' := [.ref 9, .int i1, .int i2, .int i3, .int i4, .int i5, .int i6, .null]) (st' := [.ref 9, .ref 10]) 1 am_q55 rfl ?_
    refine ev_s (pc' := 19) (loc' := [.ref 9, .int i1, .int i2, .int i3, .int i4, .int i5, .int i6, .null]) (st' := [.int (am_gi h1 9 1), .ref 10]) (h1 := h1) am_q55 rfl rfl rfl (if_pos (e := none) (lk9 Ly)) ?_
    obtain ⟨g4, H⟩ := H
    refine ev_s (pc' := 20) (loc' := [.ref 9, .int i1, .int i2, .int i3, .int i4, .int i5, .int i6, .null]) (st' := [.ref (11 + (Int32.toNatClampNeg (am_gi h1 9 1)))]) (h1 := h1) am_q55 rfl rfl rfl (am_xa (am_rng (lk10 Ly) (by decide)) (am_inl (ln10 Ly) g4) (lr_right Ly (am_in_lt2 g4))) ?_
    refine ev_p (pc' := 25) (loc' := [.ref 9, .int i1, .int i2, .int i3, .int i4, .int i5, .int i6, .ref (11 + (Int32.toNatClampNeg (am_gi h1 9 1)))]) (st' := [.int i1, .ref (11 + (Int32.toNatClampNeg (am_gi h1 9 1)))]) 3 am_q55 rfl ?_
    refine ev_s (pc' := 28) (loc' := [.ref 9, .int i1, .int i2, .int i3, .int i4, .int i5, .int i6, .ref (11 + (Int32.toNatClampNeg (am_gi h1 9 1)))]) (st' := []) (h1 := am_si h1 (11 + (Int32.toNatClampNeg (am_gi h1 9 1))) 0 i1) am_q55 rfl rfl rfl (if_pos (e := none) (lk_right Ly (am_in_lt2 g4))) ?_
    replace H := H _ rfl
    replace Ly : Lay (am_si h1 (11 + (Int32.toNatClampNeg (am_gi h1 9 1))) 0 i1) := Ly.si _ _ _
    generalize am_si h1 (11 + (Int32.toNatClampNeg (am_gi h1 9 1))) 0 i1 = h5 at H Ly ⊢
    refine ev_p (pc' := 31) (loc' := [.ref 9, .int i1, .int i2, .int i3, .int i4, .int i5, .int i6, .ref (11 + (Int32.toNatClampNeg (am_gi h1 9 1)))]) (st' := [.int i2, .ref (11 + (Int32.toNatClampNeg (am_gi h1 9 1)))]) 2 am_q55 rfl ?_
    refine ev_s (pc' := 34) (loc' := [.ref 9, .int i1, .int i2, .int i3, .int i4, .int i5, .int i6, .ref (11 + (Int32.toNatClampNeg (am_gi h1 9 1)))]) (st' := []) (h1 := am_si h5 (11 + (Int32.toNatClampNeg (am_gi h1 9 1))) 1 i2) am_q55 rfl rfl rfl (if_pos (e := none) (lk_right Ly (am_in_lt2 g4))) ?_
    replace H := H _ rfl
    replace Ly : Lay (am_si h5 (11 + (Int32.toNatClampNeg (am_gi h1 9 1))) 1 i2) := Ly.si _ _ _
    generalize am_si h5 (11 + (Int32.toNatClampNeg (am_gi h1 9 1))) 1 i2 = h6 at H Ly ⊢
    refine ev_p (pc' := 37) (loc' := [.ref 9, .int i1, .int i2, .int i3, .int i4, .int i5, .int i6, .ref (11 + (Int32.toNatClampNeg (am_gi h1 9 1)))]) (st' := [.int i3, .ref (11 + (Int32.toNatClampNeg (am_gi h1 9 1)))]) 2 am_q55 rfl ?_
    refine ev_s (pc' := 40) (loc' := [.ref 9, .int i1, .int i2, .int i3, .int i4, .int i5, .int i6, .ref (11 + (Int32.toNatClampNeg (am_gi h1 9 1)))]) (st' := []) (h1 := am_si h6 (11 + (Int32.toNatClampNeg (am_gi h1 9 1))) 2 i3) am_q55 rfl rfl rfl (if_pos (e := none) (lk_right Ly (am_in_lt2 g4))) ?_
    replace H := H _ rfl
    replace Ly : Lay (am_si h6 (11 + (Int32.toNatClampNeg (am_gi h1 9 1))) 2 i3) := Ly.si _ _ _
    generalize am_si h6 (11 + (Int32.toNatClampNeg (am_gi h1 9 1))) 2 i3 = h7 at H Ly ⊢
    refine ev_p (pc' := 44) (loc' := [.ref 9, .int i1, .int i2, .int i3, .int i4, .int i5, .int i6, .ref (11 + (Int32.toNatClampNeg (am_gi h1 9 1)))]) (st' := [.int i4, .ref (11 + (Int32.toNatClampNeg (am_gi h1 9 1)))]) 2 am_q55 rfl ?_
    refine ev_s (pc' := 47) (loc' := [.ref 9, .int i1, .int i2, .int i3, .int i4, .int i5, .int i6, .ref (11 + (Int32.toNatClampNeg (am_gi h1 9 1)))]) (st' := []) (h1 := am_si h7 (11 + (Int32.toNatClampNeg (am_gi h1 9 1))) 3 i4) am_q55 rfl rfl rfl (if_pos (e := none) (lk_right Ly (am_in_lt2 g4))) ?_
    replace H := H _ rfl
    replace Ly : Lay (am_si h7 (11 + (Int32.toNatClampNeg (am_gi h1 9 1))) 3 i4) := Ly.si _ _ _
    generalize am_si h7 (11 + (Int32.toNatClampNeg (am_gi h1 9 1))) 3 i4 = h8 at H Ly ⊢
    refine ev_p (pc' := 51) (loc' := [.ref 9, .int i1, .int i2, .int i3, .int i4, .int i5, .int i6, .ref (11 + (Int32.toNatClampNeg (am_gi h1 9 1)))]) (st' := [.int i5, .ref (11 + (Int32.toNatClampNeg (am_gi h1 9 1)))]) 2 am_q55 rfl ?_
    refine ev_s (pc' := 54) (loc' := [.ref 9, .int i1, .int i2, .int i3, .int i4, .int i5, .int i6, .ref (11 + (Int32.toNatClampNeg (am_gi h1 9 1)))]) (st' := []) (h1 := am_si h8 (11 + (Int32.toNatClampNeg (am_gi h1 9 1))) 4 i5) am_q55 rfl rfl rfl (if_pos (e := none) (lk_right Ly (am_in_lt2 g4))) ?_
    replace H := H _ rfl
    replace Ly : Lay (am_si h8 (11 + (Int32.toNatClampNeg (am_gi h1 9 1))) 4 i5) := Ly.si _ _ _
    generalize am_si h8 (11 + (Int32.toNatClampNeg (am_gi h1 9 1))) 4 i5 = h9 at H Ly ⊢
    refine ev_p (pc' := 58) (loc' := [.ref 9, .int i1, .int i2, .int i3, .int i4, .int i5, .int i6, .ref (11 + (Int32.toNatClampNeg (am_gi h1 9 1)))]) (st' := [.int i6, .ref (11 + (Int32.toNatClampNeg (am_gi h1 9 1)))]) 2 am_q55 rfl ?_
    refine ev_s (pc' := 61) (loc' := [.ref 9, .int i1, .int i2, .int i3, .int i4, .int i5, .int i6, .ref (11 + (Int32.toNatClampNeg (am_gi h1 9 1)))]) (st' := []) (h1 := am_si h9 (11 + (Int32.toNatClampNeg (am_gi h1 9 1))) 5 i6) am_q55 rfl rfl rfl (if_pos (e := none) (lk_right Ly (am_in_lt2 g4))) ?_
    replace H := H _ rfl
    replace Ly : Lay (am_si h9 (11 + (Int32.toNatClampNeg (am_gi h1 9 1))) 5 i6) := Ly.si _ _ _
    generalize am_si h9 (11 + (Int32.toNatClampNeg (am_gi h1 9 1))) 5 i6 = h10 at H Ly ⊢
    refine ev_p (pc' := 63) (loc' := [.ref 9, .int i1, .int i2, .int i3, .int i4, .int i5, .int i6, .ref (11 + (Int32.toNatClampNeg (am_gi h1 9 1)))]) (st' := [.ref 9, .ref 9]) 2 am_q55 rfl ?_
    refine ev_s (pc' := 66) (loc' := [.ref 9, .int i1, .int i2, .int i3, .int i4, .int i5, .int i6, .ref (11 + (Int32.toNatClampNeg (am_gi h1 9 1)))]) (st' := [.int (am_gi h10 9 1), .ref 9]) (h1 := h10) am_q55 rfl rfl rfl (if_pos (e := none) (lk9 Ly)) ?_
    refine ev_p (pc' := 68) (loc' := [.ref 9, .int i1, .int i2, .int i3, .int i4, .int i5, .int i6, .ref (11 + (Int32.toNatClampNeg (am_gi h1 9 1)))]) (st' := [.int ((am_gi h10 9 1) + (1 : Int32)), .ref 9]) 2 am_q55 rfl ?_
    refine ev_s (pc' := 71) (loc' := [.ref 9, .int i1, .int i2, .int i3, .int i4, .int i5, .int i6, .ref (11 + (Int32.toNatClampNeg (am_gi h1 9 1)))]) (st' := []) (h1 := am_si h10 9 1 ((am_gi h10 9 1) + (1 : Int32))) am_q55 rfl rfl rfl (if_pos (e := none) (lk9 Ly)) ?_
    replace H := H _ rfl
    replace Ly : Lay (am_si h10 9 1 ((am_gi h10 9 1) + (1 : Int32))) := Ly.si _ _ _
    generalize am_si h10 9 1 ((am_gi h10 9 1) + (1 : Int32)) = h11 at H Ly ⊢
    refine ev_p (pc' := 72) (loc' := [.ref 9, .int i1, .int i2, .int i3, .int i4, .int i5, .int i6, .ref (11 + (Int32.toNatClampNeg (am_gi h1 9 1)))]) (st' := [.ref 9]) 1 am_q55 rfl ?_
    refine ev_s (pc' := 75) (loc' := [.ref 9, .int i1, .int i2, .int i3, .int i4, .int i5, .int i6, .ref (11 + (Int32.toNatClampNeg (am_gi h1 9 1)))]) (st' := [.int (am_gi h11 9 1)]) (h1 := h11) am_q55 rfl rfl rfl (if_pos (e := none) (lk9 Ly)) ?_
    refine ev_p (pc' := 77) (loc' := [.ref 9, .int i1, .int i2, .int i3, .int i4, .int i5, .int i6, .ref (11 + (Int32.toNatClampNeg (am_gi h1 9 1)))]) (st' := [.int ((am_gi h11 9 1) - (1 : Int32))]) 2 am_q55 rfl ?_
    exact ev_r (v := some (.int ((am_gi h11 9 1) - (1 : Int32)))) am_q55 rfl rfl rfl rfl H
  · replace H := H.2 hq
    refine ev_p (pc' := 10) (loc' := [.ref 9, .int i1, .int i2, .int i3, .int i4, .int i5, .int i6, .null]) (st' := [.int (-4 : Int32)]) 1 am_q55 rfl ?_
    exact ev_r (v := some (.int (-4 : Int32))) am_q55 rfl rfl rfl rfl H
/-! 56: X6_ofHome -/
set_option maxRecDepth 20000 in
set_option maxHeartbeats 2000000 in
theorem ws56 {d : Nat}  (i1 : Int32) (i2 : Int32) {h : AH} {Q : Option Value → AH → Prop} (Ly : Lay h) (H : Ev (d + 1) 56 2 [.ref 9, .int i1, .int i2, .int (0 : Int32)] [] h Q) : Cl (d + 1) 56 [.ref 9, .int i1, .int i2] h Q := by
  show Ev (d + 1) 56 0 [.ref 9, .int i1, .int i2, .null] [] h Q
  refine ev_p (pc' := 2) (loc' := [.ref 9, .int i1, .int i2, .int (0 : Int32)]) (st' := []) 2 am_q56 rfl ?_
  exact ev_m (loc' := [.ref 9, .int i1, .int i2, .int (0 : Int32)]) am_q56 rfl rfl H
set_option maxRecDepth 20000 in
set_option maxHeartbeats 2000000 in
theorem ws56_2 {d : Nat}  (i1 : Int32) (i2 : Int32) (i3 : Int32) {h : AH} {Q : Option Value → AH → Prop} (Ly : Lay h) (H : ((am_gi h 9 1) ≤ i3 → Q (some (.int (-1 : Int32))) h) ∧ (¬ (am_gi h 9 1) ≤ i3 → am_in i3 60 ∧ ((¬ (am_gi h (11 + (Int32.toNatClampNeg i3)) 1) = i1) → Ev (d + 1) 56 2 [.ref 9, .int i1, .int i2, .int (i3 + (1 : Int32))] [] h Q) ∧ (¬ (¬ (am_gi h (11 + (Int32.toNatClampNeg i3)) 1) = i1) → am_in i3 60 ∧ Cl d 66 [.ref (11 + (Int32.toNatClampNeg i3)), .int i2] h (fun r4 h3 => ∃ x5, r4 = some (.int x5) ∧ Lay h3 ∧ (x5 = (0 : Int32) → Ev (d + 1) 56 2 [.ref 9, .int i1, .int i2, .int (i3 + (1 : Int32))] [] h3 Q) ∧ (¬ x5 = (0 : Int32) → Q (some (.int i3)) h3))))) : Ev (d + 1) 56 2 [.ref 9, .int i1, .int i2, .int i3] [] h Q := by
  refine ev_p (pc' := 4) (loc' := [.ref 9, .int i1, .int i2, .int i3]) (st' := [.ref 9, .int i3]) 2 am_q56 rfl ?_
  refine ev_s (pc' := 7) (loc' := [.ref 9, .int i1, .int i2, .int i3]) (st' := [.int (am_gi h 9 1), .int i3]) (h1 := h) am_q56 rfl rfl rfl (if_pos (e := none) (lk9 Ly)) ?_
  refine ev_jc (t := 44) am_q56 rfl rfl (fun hq => ?_) (fun hq => ?_)
  · replace H := H.1 hq
    refine ev_p (pc' := 45) (loc' := [.ref 9, .int i1, .int i2, .int i3]) (st' := [.int (-1 : Int32)]) 1 am_q56 rfl ?_
    exact ev_r (v := some (.int (-1 : Int32))) am_q56 rfl rfl rfl rfl H
  · replace H := H.2 hq
    refine ev_p (pc' := 11) (loc' := [.ref 9, .int i1, .int i2, .int i3]) (st' := [.ref 9]) 1 am_q56 rfl ?_
    refine ev_s (pc' := 14) (loc' := [.ref 9, .int i1, .int i2, .int i3]) (st' := [.ref 10]) (h1 := h) am_q56 rfl rfl rfl (am_gf2 (lk9 Ly) (lr9_0 Ly)) ?_
    refine ev_p (pc' := 15) (loc' := [.ref 9, .int i1, .int i2, .int i3]) (st' := [.int i3, .ref 10]) 1 am_q56 rfl ?_
    obtain ⟨g1, H⟩ := H
    refine ev_s (pc' := 16) (loc' := [.ref 9, .int i1, .int i2, .int i3]) (st' := [.ref (11 + (Int32.toNatClampNeg i3))]) (h1 := h) am_q56 rfl rfl rfl (am_xa (am_rng (lk10 Ly) (by decide)) (am_inl (ln10 Ly) g1) (lr_right Ly (am_in_lt2 g1))) ?_
    refine ev_s (pc' := 19) (loc' := [.ref 9, .int i1, .int i2, .int i3]) (st' := [.int (am_gi h (11 + (Int32.toNatClampNeg i3)) 1)]) (h1 := h) am_q56 rfl rfl rfl (if_pos (e := none) (lk_right Ly (am_in_lt2 g1))) ?_
    refine ev_p (pc' := 20) (loc' := [.ref 9, .int i1, .int i2, .int i3]) (st' := [.int i1, .int (am_gi h (11 + (Int32.toNatClampNeg i3)) 1)]) 1 am_q56 rfl ?_
    refine ev_jc (t := 38) am_q56 rfl rfl (fun hq => ?_) (fun hq => ?_)
    · replace H := H.1 hq
      refine ev_p (pc' := 2) (loc' := [.ref 9, .int i1, .int i2, .int (i3 + (1 : Int32))]) (st' := []) 2 am_q56 rfl ?_
      exact ev_m (loc' := [.ref 9, .int i1, .int i2, .int (i3 + (1 : Int32))]) am_q56 rfl rfl H
    · replace H := H.2 hq
      refine ev_p (pc' := 24) (loc' := [.ref 9, .int i1, .int i2, .int i3]) (st' := [.ref 9]) 1 am_q56 rfl ?_
      refine ev_s (pc' := 27) (loc' := [.ref 9, .int i1, .int i2, .int i3]) (st' := [.ref 10]) (h1 := h) am_q56 rfl rfl rfl (am_gf2 (lk9 Ly) (lr9_0 Ly)) ?_
      refine ev_p (pc' := 28) (loc' := [.ref 9, .int i1, .int i2, .int i3]) (st' := [.int i3, .ref 10]) 1 am_q56 rfl ?_
      obtain ⟨g2, H⟩ := H
      refine ev_s (pc' := 29) (loc' := [.ref 9, .int i1, .int i2, .int i3]) (st' := [.ref (11 + (Int32.toNatClampNeg i3))]) (h1 := h) am_q56 rfl rfl rfl (am_xa (am_rng (lk10 Ly) (by decide)) (am_inl (ln10 Ly) g2) (lr_right Ly (am_in_lt2 g2))) ?_
      refine ev_p (pc' := 30) (loc' := [.ref 9, .int i1, .int i2, .int i3]) (st' := [.int i2, .ref (11 + (Int32.toNatClampNeg i3))]) 1 am_q56 rfl ?_
      refine ev_c (vs := [.ref (11 + (Int32.toNatClampNeg i3)), .int i2]) (rest := []) 66 am_q56 rfl rfl rfl rfl rfl rfl rfl rfl rfl rfl rfl rfl (Or.inr (congrArg some (lk_right Ly (am_in_lt2 g2)))) (Cl.mono H (Nat.le_refl _) (fun r4 h3 H => ?_))
      obtain ⟨x5, rfl, Ly, H⟩ := H
      refine ev_jz (t := 38) am_q56 rfl rfl (fun hq => ?_) (fun hq => ?_)
      · replace H := H.1 hq
        refine ev_p (pc' := 2) (loc' := [.ref 9, .int i1, .int i2, .int (i3 + (1 : Int32))]) (st' := []) 2 am_q56 rfl ?_
        exact ev_m (loc' := [.ref 9, .int i1, .int i2, .int (i3 + (1 : Int32))]) am_q56 rfl rfl H
      · replace H := H.2 hq
        refine ev_p (pc' := 37) (loc' := [.ref 9, .int i1, .int i2, .int i3]) (st' := [.int i3]) 1 am_q56 rfl ?_
        exact ev_r (v := some (.int i3)) am_q56 rfl rfl rfl rfl H
/-! 57: X6_ofMember -/
set_option maxRecDepth 20000 in
set_option maxHeartbeats 2000000 in
theorem ws57 {d : Nat}  (i1 : Int32) (i2 : Int32) {h : AH} {Q : Option Value → AH → Prop} (Ly : Lay h) (H : Ev (d + 1) 57 2 [.ref 9, .int i1, .int i2, .int (0 : Int32)] [] h Q) : Cl (d + 1) 57 [.ref 9, .int i1, .int i2] h Q := by
  show Ev (d + 1) 57 0 [.ref 9, .int i1, .int i2, .null] [] h Q
  refine ev_p (pc' := 2) (loc' := [.ref 9, .int i1, .int i2, .int (0 : Int32)]) (st' := []) 2 am_q57 rfl ?_
  exact ev_m (loc' := [.ref 9, .int i1, .int i2, .int (0 : Int32)]) am_q57 rfl rfl H
set_option maxRecDepth 20000 in
set_option maxHeartbeats 2000000 in
theorem ws57_2 {d : Nat}  (i1 : Int32) (i2 : Int32) (i3 : Int32) {h : AH} {Q : Option Value → AH → Prop} (Ly : Lay h) (H : ((am_gi h 9 1) ≤ i3 → Q (some (.int (-1 : Int32))) h) ∧ (¬ (am_gi h 9 1) ≤ i3 → am_in i3 60 ∧ Cl d 67 [.ref (11 + (Int32.toNatClampNeg i3)), .int i1] h (fun r3 h2 => ∃ x4, r3 = some (.int x4) ∧ Lay h2 ∧ (x4 = (0 : Int32) → Ev (d + 1) 57 2 [.ref 9, .int i1, .int i2, .int (i3 + (1 : Int32))] [] h2 Q) ∧ (¬ x4 = (0 : Int32) → am_in i3 60 ∧ Cl d 66 [.ref (11 + (Int32.toNatClampNeg i3)), .int i2] h2 (fun r7 h6 => ∃ x8, r7 = some (.int x8) ∧ Lay h6 ∧ (x8 = (0 : Int32) → Ev (d + 1) 57 2 [.ref 9, .int i1, .int i2, .int (i3 + (1 : Int32))] [] h6 Q) ∧ (¬ x8 = (0 : Int32) → Q (some (.int i3)) h6)))))) : Ev (d + 1) 57 2 [.ref 9, .int i1, .int i2, .int i3] [] h Q := by
  refine ev_p (pc' := 4) (loc' := [.ref 9, .int i1, .int i2, .int i3]) (st' := [.ref 9, .int i3]) 2 am_q57 rfl ?_
  refine ev_s (pc' := 7) (loc' := [.ref 9, .int i1, .int i2, .int i3]) (st' := [.int (am_gi h 9 1), .int i3]) (h1 := h) am_q57 rfl rfl rfl (if_pos (e := none) (lk9 Ly)) ?_
  refine ev_jc (t := 44) am_q57 rfl rfl (fun hq => ?_) (fun hq => ?_)
  · replace H := H.1 hq
    refine ev_p (pc' := 45) (loc' := [.ref 9, .int i1, .int i2, .int i3]) (st' := [.int (-1 : Int32)]) 1 am_q57 rfl ?_
    exact ev_r (v := some (.int (-1 : Int32))) am_q57 rfl rfl rfl rfl H
  · replace H := H.2 hq
    refine ev_p (pc' := 11) (loc' := [.ref 9, .int i1, .int i2, .int i3]) (st' := [.ref 9]) 1 am_q57 rfl ?_
    refine ev_s (pc' := 14) (loc' := [.ref 9, .int i1, .int i2, .int i3]) (st' := [.ref 10]) (h1 := h) am_q57 rfl rfl rfl (am_gf2 (lk9 Ly) (lr9_0 Ly)) ?_
    refine ev_p (pc' := 15) (loc' := [.ref 9, .int i1, .int i2, .int i3]) (st' := [.int i3, .ref 10]) 1 am_q57 rfl ?_
    obtain ⟨g1, H⟩ := H
    refine ev_s (pc' := 16) (loc' := [.ref 9, .int i1, .int i2, .int i3]) (st' := [.ref (11 + (Int32.toNatClampNeg i3))]) (h1 := h) am_q57 rfl rfl rfl (am_xa (am_rng (lk10 Ly) (by decide)) (am_inl (ln10 Ly) g1) (lr_right Ly (am_in_lt2 g1))) ?_
    refine ev_p (pc' := 17) (loc' := [.ref 9, .int i1, .int i2, .int i3]) (st' := [.int i1, .ref (11 + (Int32.toNatClampNeg i3))]) 1 am_q57 rfl ?_
    refine ev_c (vs := [.ref (11 + (Int32.toNatClampNeg i3)), .int i1]) (rest := []) 67 am_q57 rfl rfl rfl rfl rfl rfl rfl rfl rfl rfl rfl rfl (Or.inr (congrArg some (lk_right Ly (am_in_lt2 g1)))) (Cl.mono H (Nat.le_refl _) (fun r3 h2 H => ?_))
    obtain ⟨x4, rfl, Ly, H⟩ := H
    refine ev_jz (t := 38) am_q57 rfl rfl (fun hq => ?_) (fun hq => ?_)
    · replace H := H.1 hq
      refine ev_p (pc' := 2) (loc' := [.ref 9, .int i1, .int i2, .int (i3 + (1 : Int32))]) (st' := []) 2 am_q57 rfl ?_
      exact ev_m (loc' := [.ref 9, .int i1, .int i2, .int (i3 + (1 : Int32))]) am_q57 rfl rfl H
    · replace H := H.2 hq
      refine ev_p (pc' := 24) (loc' := [.ref 9, .int i1, .int i2, .int i3]) (st' := [.ref 9]) 1 am_q57 rfl ?_
      refine ev_s (pc' := 27) (loc' := [.ref 9, .int i1, .int i2, .int i3]) (st' := [.ref 10]) (h1 := h2) am_q57 rfl rfl rfl (am_gf2 (lk9 Ly) (lr9_0 Ly)) ?_
      refine ev_p (pc' := 28) (loc' := [.ref 9, .int i1, .int i2, .int i3]) (st' := [.int i3, .ref 10]) 1 am_q57 rfl ?_
      obtain ⟨g5, H⟩ := H
      refine ev_s (pc' := 29) (loc' := [.ref 9, .int i1, .int i2, .int i3]) (st' := [.ref (11 + (Int32.toNatClampNeg i3))]) (h1 := h2) am_q57 rfl rfl rfl (am_xa (am_rng (lk10 Ly) (by decide)) (am_inl (ln10 Ly) g5) (lr_right Ly (am_in_lt2 g5))) ?_
      refine ev_p (pc' := 30) (loc' := [.ref 9, .int i1, .int i2, .int i3]) (st' := [.int i2, .ref (11 + (Int32.toNatClampNeg i3))]) 1 am_q57 rfl ?_
      refine ev_c (vs := [.ref (11 + (Int32.toNatClampNeg i3)), .int i2]) (rest := []) 66 am_q57 rfl rfl rfl rfl rfl rfl rfl rfl rfl rfl rfl rfl (Or.inr (congrArg some (lk_right Ly (am_in_lt2 g5)))) (Cl.mono H (Nat.le_refl _) (fun r7 h6 H => ?_))
      obtain ⟨x8, rfl, Ly, H⟩ := H
      refine ev_jz (t := 38) am_q57 rfl rfl (fun hq => ?_) (fun hq => ?_)
      · replace H := H.1 hq
        refine ev_p (pc' := 2) (loc' := [.ref 9, .int i1, .int i2, .int (i3 + (1 : Int32))]) (st' := []) 2 am_q57 rfl ?_
        exact ev_m (loc' := [.ref 9, .int i1, .int i2, .int (i3 + (1 : Int32))]) am_q57 rfl rfl H
      · replace H := H.2 hq
        refine ev_p (pc' := 37) (loc' := [.ref 9, .int i1, .int i2, .int i3]) (st' := [.int i3]) 1 am_q57 rfl ?_
        exact ev_r (v := some (.int i3)) am_q57 rfl rfl rfl rfl H
/-! 58: X6_guestsIn -/
set_option maxRecDepth 20000 in
set_option maxHeartbeats 2000000 in
theorem ws58 {d : Nat}  (i1 : Int32) (i2 : Int32) {h : AH} {Q : Option Value → AH → Prop} (Ly : Lay h) (H : Ev (d + 1) 58 5 [.ref 9, .int i1, .int i2, .int (0 : Int32), .int (0 : Int32)] [] h Q) : Cl (d + 1) 58 [.ref 9, .int i1, .int i2] h Q := by
  show Ev (d + 1) 58 0 [.ref 9, .int i1, .int i2, .null, .null] [] h Q
  refine ev_p (pc' := 5) (loc' := [.ref 9, .int i1, .int i2, .int (0 : Int32), .int (0 : Int32)]) (st' := []) 4 am_q58 rfl ?_
  exact ev_m (loc' := [.ref 9, .int i1, .int i2, .int (0 : Int32), .int (0 : Int32)]) am_q58 rfl rfl H
set_option maxRecDepth 20000 in
set_option maxHeartbeats 2000000 in
theorem ws58_5 {d : Nat}  (i1 : Int32) (i2 : Int32) (i3 : Int32) (i4 : Int32) {h : AH} {Q : Option Value → AH → Prop} (Ly : Lay h) (H : ((am_gi h 9 1) ≤ i4 → Q (some (.int i3)) h) ∧ (¬ (am_gi h 9 1) ≤ i4 → am_in i4 60 ∧ ((¬ (am_gi h (11 + (Int32.toNatClampNeg i4)) 1) = i1) → Ev (d + 1) 58 5 [.ref 9, .int i1, .int i2, .int i3, .int (i4 + (1 : Int32))] [] h Q) ∧ (¬ (¬ (am_gi h (11 + (Int32.toNatClampNeg i4)) 1) = i1) → am_in i4 60 ∧ ((¬ (am_gi h (11 + (Int32.toNatClampNeg i4)) 0) = (2 : Int32)) → Ev (d + 1) 58 5 [.ref 9, .int i1, .int i2, .int i3, .int (i4 + (1 : Int32))] [] h Q) ∧ (¬ (¬ (am_gi h (11 + (Int32.toNatClampNeg i4)) 0) = (2 : Int32)) → am_in i4 60 ∧ Cl d 65 [.ref (11 + (Int32.toNatClampNeg i4)), .int i2] h (fun r5 h4 => ∃ x6, r5 = some (.int x6) ∧ Lay h4 ∧ (x6 = (0 : Int32) → Ev (d + 1) 58 5 [.ref 9, .int i1, .int i2, .int i3, .int (i4 + (1 : Int32))] [] h4 Q) ∧ (¬ x6 = (0 : Int32) → Ev (d + 1) 58 5 [.ref 9, .int i1, .int i2, .int (i3 + (1 : Int32)), .int (i4 + (1 : Int32))] [] h4 Q)))))) : Ev (d + 1) 58 5 [.ref 9, .int i1, .int i2, .int i3, .int i4] [] h Q := by
  refine ev_p (pc' := 8) (loc' := [.ref 9, .int i1, .int i2, .int i3, .int i4]) (st' := [.ref 9, .int i4]) 2 am_q58 rfl ?_
  refine ev_s (pc' := 11) (loc' := [.ref 9, .int i1, .int i2, .int i3, .int i4]) (st' := [.int (am_gi h 9 1), .int i4]) (h1 := h) am_q58 rfl rfl rfl (if_pos (e := none) (lk9 Ly)) ?_
  refine ev_jc (t := 65) am_q58 rfl rfl (fun hq => ?_) (fun hq => ?_)
  · replace H := H.1 hq
    refine ev_p (pc' := 66) (loc' := [.ref 9, .int i1, .int i2, .int i3, .int i4]) (st' := [.int i3]) 1 am_q58 rfl ?_
    exact ev_r (v := some (.int i3)) am_q58 rfl rfl rfl rfl H
  · replace H := H.2 hq
    refine ev_p (pc' := 15) (loc' := [.ref 9, .int i1, .int i2, .int i3, .int i4]) (st' := [.ref 9]) 1 am_q58 rfl ?_
    refine ev_s (pc' := 18) (loc' := [.ref 9, .int i1, .int i2, .int i3, .int i4]) (st' := [.ref 10]) (h1 := h) am_q58 rfl rfl rfl (am_gf2 (lk9 Ly) (lr9_0 Ly)) ?_
    refine ev_p (pc' := 20) (loc' := [.ref 9, .int i1, .int i2, .int i3, .int i4]) (st' := [.int i4, .ref 10]) 1 am_q58 rfl ?_
    obtain ⟨g1, H⟩ := H
    refine ev_s (pc' := 21) (loc' := [.ref 9, .int i1, .int i2, .int i3, .int i4]) (st' := [.ref (11 + (Int32.toNatClampNeg i4))]) (h1 := h) am_q58 rfl rfl rfl (am_xa (am_rng (lk10 Ly) (by decide)) (am_inl (ln10 Ly) g1) (lr_right Ly (am_in_lt2 g1))) ?_
    refine ev_s (pc' := 24) (loc' := [.ref 9, .int i1, .int i2, .int i3, .int i4]) (st' := [.int (am_gi h (11 + (Int32.toNatClampNeg i4)) 1)]) (h1 := h) am_q58 rfl rfl rfl (if_pos (e := none) (lk_right Ly (am_in_lt2 g1))) ?_
    refine ev_p (pc' := 25) (loc' := [.ref 9, .int i1, .int i2, .int i3, .int i4]) (st' := [.int i1, .int (am_gi h (11 + (Int32.toNatClampNeg i4)) 1)]) 1 am_q58 rfl ?_
    refine ev_jc (t := 59) am_q58 rfl rfl (fun hq => ?_) (fun hq => ?_)
    · replace H := H.1 hq
      refine ev_p (pc' := 5) (loc' := [.ref 9, .int i1, .int i2, .int i3, .int (i4 + (1 : Int32))]) (st' := []) 2 am_q58 rfl ?_
      exact ev_m (loc' := [.ref 9, .int i1, .int i2, .int i3, .int (i4 + (1 : Int32))]) am_q58 rfl rfl H
    · replace H := H.2 hq
      refine ev_p (pc' := 29) (loc' := [.ref 9, .int i1, .int i2, .int i3, .int i4]) (st' := [.ref 9]) 1 am_q58 rfl ?_
      refine ev_s (pc' := 32) (loc' := [.ref 9, .int i1, .int i2, .int i3, .int i4]) (st' := [.ref 10]) (h1 := h) am_q58 rfl rfl rfl (am_gf2 (lk9 Ly) (lr9_0 Ly)) ?_
      refine ev_p (pc' := 34) (loc' := [.ref 9, .int i1, .int i2, .int i3, .int i4]) (st' := [.int i4, .ref 10]) 1 am_q58 rfl ?_
      obtain ⟨g2, H⟩ := H
      refine ev_s (pc' := 35) (loc' := [.ref 9, .int i1, .int i2, .int i3, .int i4]) (st' := [.ref (11 + (Int32.toNatClampNeg i4))]) (h1 := h) am_q58 rfl rfl rfl (am_xa (am_rng (lk10 Ly) (by decide)) (am_inl (ln10 Ly) g2) (lr_right Ly (am_in_lt2 g2))) ?_
      refine ev_s (pc' := 38) (loc' := [.ref 9, .int i1, .int i2, .int i3, .int i4]) (st' := [.int (am_gi h (11 + (Int32.toNatClampNeg i4)) 0)]) (h1 := h) am_q58 rfl rfl rfl (if_pos (e := none) (lk_right Ly (am_in_lt2 g2))) ?_
      refine ev_p (pc' := 39) (loc' := [.ref 9, .int i1, .int i2, .int i3, .int i4]) (st' := [.int (2 : Int32), .int (am_gi h (11 + (Int32.toNatClampNeg i4)) 0)]) 1 am_q58 rfl ?_
      refine ev_jc (t := 59) am_q58 rfl rfl (fun hq => ?_) (fun hq => ?_)
      · replace H := H.1 hq
        refine ev_p (pc' := 5) (loc' := [.ref 9, .int i1, .int i2, .int i3, .int (i4 + (1 : Int32))]) (st' := []) 2 am_q58 rfl ?_
        exact ev_m (loc' := [.ref 9, .int i1, .int i2, .int i3, .int (i4 + (1 : Int32))]) am_q58 rfl rfl H
      · replace H := H.2 hq
        refine ev_p (pc' := 43) (loc' := [.ref 9, .int i1, .int i2, .int i3, .int i4]) (st' := [.ref 9]) 1 am_q58 rfl ?_
        refine ev_s (pc' := 46) (loc' := [.ref 9, .int i1, .int i2, .int i3, .int i4]) (st' := [.ref 10]) (h1 := h) am_q58 rfl rfl rfl (am_gf2 (lk9 Ly) (lr9_0 Ly)) ?_
        refine ev_p (pc' := 48) (loc' := [.ref 9, .int i1, .int i2, .int i3, .int i4]) (st' := [.int i4, .ref 10]) 1 am_q58 rfl ?_
        obtain ⟨g3, H⟩ := H
        refine ev_s (pc' := 49) (loc' := [.ref 9, .int i1, .int i2, .int i3, .int i4]) (st' := [.ref (11 + (Int32.toNatClampNeg i4))]) (h1 := h) am_q58 rfl rfl rfl (am_xa (am_rng (lk10 Ly) (by decide)) (am_inl (ln10 Ly) g3) (lr_right Ly (am_in_lt2 g3))) ?_
        refine ev_p (pc' := 50) (loc' := [.ref 9, .int i1, .int i2, .int i3, .int i4]) (st' := [.int i2, .ref (11 + (Int32.toNatClampNeg i4))]) 1 am_q58 rfl ?_
        refine ev_c (vs := [.ref (11 + (Int32.toNatClampNeg i4)), .int i2]) (rest := []) 65 am_q58 rfl rfl rfl rfl rfl rfl rfl rfl rfl rfl rfl rfl (Or.inr (congrArg some (lk_right Ly (am_in_lt2 g3)))) (Cl.mono H (Nat.le_refl _) (fun r5 h4 H => ?_))
        obtain ⟨x6, rfl, Ly, H⟩ := H
        refine ev_jz (t := 59) am_q58 rfl rfl (fun hq => ?_) (fun hq => ?_)
        · replace H := H.1 hq
          refine ev_p (pc' := 5) (loc' := [.ref 9, .int i1, .int i2, .int i3, .int (i4 + (1 : Int32))]) (st' := []) 2 am_q58 rfl ?_
          exact ev_m (loc' := [.ref 9, .int i1, .int i2, .int i3, .int (i4 + (1 : Int32))]) am_q58 rfl rfl H
        · replace H := H.2 hq
          refine ev_p (pc' := 5) (loc' := [.ref 9, .int i1, .int i2, .int (i3 + (1 : Int32)), .int (i4 + (1 : Int32))]) (st' := []) 3 am_q58 rfl ?_
          exact ev_m (loc' := [.ref 9, .int i1, .int i2, .int (i3 + (1 : Int32)), .int (i4 + (1 : Int32))]) am_q58 rfl rfl H
/-! 59: X6_inForceOn -/
set_option maxRecDepth 20000 in
set_option maxHeartbeats 2000000 in
theorem ws59 {d : Nat}  (i1 : Int32) {h : AH} {Q : Option Value → AH → Prop} (Ly : Lay h) (H : Ev (d + 1) 59 4 [.ref 9, .int i1, .int (0 : Int32), .int (0 : Int32)] [] h Q) : Cl (d + 1) 59 [.ref 9, .int i1] h Q := by
  show Ev (d + 1) 59 0 [.ref 9, .int i1, .null, .null] [] h Q
  refine ev_p (pc' := 4) (loc' := [.ref 9, .int i1, .int (0 : Int32), .int (0 : Int32)]) (st' := []) 4 am_q59 rfl ?_
  exact ev_m (loc' := [.ref 9, .int i1, .int (0 : Int32), .int (0 : Int32)]) am_q59 rfl rfl H
set_option maxRecDepth 20000 in
set_option maxHeartbeats 2000000 in
theorem ws59_4 {d : Nat}  (i1 : Int32) (i2 : Int32) (i3 : Int32) {h : AH} {Q : Option Value → AH → Prop} (Ly : Lay h) (H : ((am_gi h 9 1) ≤ i3 → Q (some (.int i2)) h) ∧ (¬ (am_gi h 9 1) ≤ i3 → am_in i3 60 ∧ Cl d 65 [.ref (11 + (Int32.toNatClampNeg i3)), .int i1] h (fun r3 h2 => ∃ x4, r3 = some (.int x4) ∧ Lay h2 ∧ (x4 = (0 : Int32) → Ev (d + 1) 59 4 [.ref 9, .int i1, .int i2, .int (i3 + (1 : Int32))] [] h2 Q) ∧ (¬ x4 = (0 : Int32) → Ev (d + 1) 59 4 [.ref 9, .int i1, .int (i2 + (1 : Int32)), .int (i3 + (1 : Int32))] [] h2 Q)))) : Ev (d + 1) 59 4 [.ref 9, .int i1, .int i2, .int i3] [] h Q := by
  refine ev_p (pc' := 6) (loc' := [.ref 9, .int i1, .int i2, .int i3]) (st' := [.ref 9, .int i3]) 2 am_q59 rfl ?_
  refine ev_s (pc' := 9) (loc' := [.ref 9, .int i1, .int i2, .int i3]) (st' := [.int (am_gi h 9 1), .int i3]) (h1 := h) am_q59 rfl rfl rfl (if_pos (e := none) (lk9 Ly)) ?_
  refine ev_jc (t := 34) am_q59 rfl rfl (fun hq => ?_) (fun hq => ?_)
  · replace H := H.1 hq
    refine ev_p (pc' := 35) (loc' := [.ref 9, .int i1, .int i2, .int i3]) (st' := [.int i2]) 1 am_q59 rfl ?_
    exact ev_r (v := some (.int i2)) am_q59 rfl rfl rfl rfl H
  · replace H := H.2 hq
    refine ev_p (pc' := 13) (loc' := [.ref 9, .int i1, .int i2, .int i3]) (st' := [.ref 9]) 1 am_q59 rfl ?_
    refine ev_s (pc' := 16) (loc' := [.ref 9, .int i1, .int i2, .int i3]) (st' := [.ref 10]) (h1 := h) am_q59 rfl rfl rfl (am_gf2 (lk9 Ly) (lr9_0 Ly)) ?_
    refine ev_p (pc' := 17) (loc' := [.ref 9, .int i1, .int i2, .int i3]) (st' := [.int i3, .ref 10]) 1 am_q59 rfl ?_
    obtain ⟨g1, H⟩ := H
    refine ev_s (pc' := 18) (loc' := [.ref 9, .int i1, .int i2, .int i3]) (st' := [.ref (11 + (Int32.toNatClampNeg i3))]) (h1 := h) am_q59 rfl rfl rfl (am_xa (am_rng (lk10 Ly) (by decide)) (am_inl (ln10 Ly) g1) (lr_right Ly (am_in_lt2 g1))) ?_
    refine ev_p (pc' := 19) (loc' := [.ref 9, .int i1, .int i2, .int i3]) (st' := [.int i1, .ref (11 + (Int32.toNatClampNeg i3))]) 1 am_q59 rfl ?_
    refine ev_c (vs := [.ref (11 + (Int32.toNatClampNeg i3)), .int i1]) (rest := []) 65 am_q59 rfl rfl rfl rfl rfl rfl rfl rfl rfl rfl rfl rfl (Or.inr (congrArg some (lk_right Ly (am_in_lt2 g1)))) (Cl.mono H (Nat.le_refl _) (fun r3 h2 H => ?_))
    obtain ⟨x4, rfl, Ly, H⟩ := H
    refine ev_jz (t := 28) am_q59 rfl rfl (fun hq => ?_) (fun hq => ?_)
    · replace H := H.1 hq
      refine ev_p (pc' := 4) (loc' := [.ref 9, .int i1, .int i2, .int (i3 + (1 : Int32))]) (st' := []) 2 am_q59 rfl ?_
      exact ev_m (loc' := [.ref 9, .int i1, .int i2, .int (i3 + (1 : Int32))]) am_q59 rfl rfl H
    · replace H := H.2 hq
      refine ev_p (pc' := 4) (loc' := [.ref 9, .int i1, .int (i2 + (1 : Int32)), .int (i3 + (1 : Int32))]) (st' := []) 3 am_q59 rfl ?_
      exact ev_m (loc' := [.ref 9, .int i1, .int (i2 + (1 : Int32)), .int (i3 + (1 : Int32))]) am_q59 rfl rfl H
/-! 60: X6_heirsBehind -/
set_option maxRecDepth 20000 in
set_option maxHeartbeats 2000000 in
theorem ws60 {d : Nat}  (i1 : Int32) (i2 : Int32) {h : AH} {Q : Option Value → AH → Prop} (Ly : Lay h) (H : Cl d 57 [.ref 9, .int i1, .int i2] h (fun r2 h1 => ∃ x3, r2 = some (.int x3) ∧ Lay h1 ∧ (x3 = (-1 : Int32) → Q (some (.int (0 : Int32))) h1) ∧ (¬ x3 = (-1 : Int32) → am_in x3 60 ∧ ((¬ (am_gi h1 (11 + (Int32.toNatClampNeg x3)) 0) = (3 : Int32)) → Q (some (.int (0 : Int32))) h1) ∧ (¬ (¬ (am_gi h1 (11 + (Int32.toNatClampNeg x3)) 0) = (3 : Int32)) → Q (some (.int (1 : Int32))) h1)))) : Cl (d + 1) 60 [.ref 9, .int i1, .int i2] h Q := by
  show Ev (d + 1) 60 0 [.ref 9, .int i1, .int i2, .null] [] h Q
  refine ev_p (pc' := 3) (loc' := [.ref 9, .int i1, .int i2, .null]) (st' := [.int i2, .int i1, .ref 9]) 3 am_q60 rfl ?_
  refine ev_c (vs := [.ref 9, .int i1, .int i2]) (rest := []) 57 am_q60 rfl rfl rfl rfl rfl rfl rfl rfl rfl rfl rfl rfl (Or.inr (congrArg some (lk9 Ly))) (Cl.mono H (Nat.le_refl _) (fun r2 h1 H => ?_))
  obtain ⟨x3, rfl, Ly, H⟩ := H
  refine ev_p (pc' := 9) (loc' := [.ref 9, .int i1, .int i2, .int x3]) (st' := [.int (-1 : Int32), .int x3]) 3 am_q60 rfl ?_
  refine ev_jc (t := 29) am_q60 rfl rfl (fun hq => ?_) (fun hq => ?_)
  · replace H := H.1 hq
    refine ev_p (pc' := 30) (loc' := [.null, .null, .null, .null]) (st' := [.int (0 : Int32)]) 1 am_q60 rfl ?_
    exact ev_r (v := some (.int (0 : Int32))) am_q60 rfl rfl rfl rfl H
  · replace H := H.2 hq
    refine ev_p (pc' := 13) (loc' := [.ref 9, .int i1, .int i2, .int x3]) (st' := [.ref 9]) 1 am_q60 rfl ?_
    refine ev_s (pc' := 16) (loc' := [.ref 9, .int i1, .int i2, .int x3]) (st' := [.ref 10]) (h1 := h1) am_q60 rfl rfl rfl (am_gf2 (lk9 Ly) (lr9_0 Ly)) ?_
    refine ev_p (pc' := 17) (loc' := [.ref 9, .int i1, .int i2, .int x3]) (st' := [.int x3, .ref 10]) 1 am_q60 rfl ?_
    obtain ⟨g4, H⟩ := H
    refine ev_s (pc' := 18) (loc' := [.ref 9, .int i1, .int i2, .int x3]) (st' := [.ref (11 + (Int32.toNatClampNeg x3))]) (h1 := h1) am_q60 rfl rfl rfl (am_xa (am_rng (lk10 Ly) (by decide)) (am_inl (ln10 Ly) g4) (lr_right Ly (am_in_lt2 g4))) ?_
    refine ev_s (pc' := 21) (loc' := [.ref 9, .int i1, .int i2, .int x3]) (st' := [.int (am_gi h1 (11 + (Int32.toNatClampNeg x3)) 0)]) (h1 := h1) am_q60 rfl rfl rfl (if_pos (e := none) (lk_right Ly (am_in_lt2 g4))) ?_
    refine ev_p (pc' := 22) (loc' := [.ref 9, .int i1, .int i2, .int x3]) (st' := [.int (3 : Int32), .int (am_gi h1 (11 + (Int32.toNatClampNeg x3)) 0)]) 1 am_q60 rfl ?_
    refine ev_jc (t := 29) am_q60 rfl rfl (fun hq => ?_) (fun hq => ?_)
    · replace H := H.1 hq
      refine ev_p (pc' := 30) (loc' := [.null, .null, .null, .null]) (st' := [.int (0 : Int32)]) 1 am_q60 rfl ?_
      exact ev_r (v := some (.int (0 : Int32))) am_q60 rfl rfl rfl rfl H
    · replace H := H.2 hq
      refine ev_p (pc' := 30) (loc' := [.ref 9, .int i1, .int i2, .int x3]) (st' := [.int (1 : Int32)]) 2 am_q60 rfl ?_
      exact ev_r (v := some (.int (1 : Int32))) am_q60 rfl rfl rfl rfl H
/-! 61: X6_giveUp -/
set_option maxRecDepth 20000 in
set_option maxHeartbeats 2000000 in
theorem ws61 {d : Nat}  (i1 : Int32) (i2 : Int32) {h : AH} {Q : Option Value → AH → Prop} (Ly : Lay h) (H : Cl d 57 [.ref 9, .int i1, .int i2] h (fun r2 h1 => ∃ x3, r2 = some (.int x3) ∧ Lay h1 ∧ ((¬ x3 = (-1 : Int32)) → am_in x3 60 ∧ ∀ h5, h5 = am_si h1 (11 + (Int32.toNatClampNeg x3)) 5 i2 → ((am_gi h5 (11 + (Int32.toNatClampNeg x3)) 0) = (3 : Int32) → ((¬ (am_gi h5 (11 + (Int32.toNatClampNeg x3)) 2) = i1) → Cl d 55 [.ref 9, .int (4 : Int32), .int (am_gi h5 (11 + (Int32.toNatClampNeg x3)) 1), .int (am_gi h5 (11 + (Int32.toNatClampNeg x3)) 2), .int (-1 : Int32), .int i2, .int (-1 : Int32)] h5 (fun r7 h6 => ∃ x8, r7 = some (.int x8) ∧ Lay h6 ∧ Q (some (.int x8)) h6)) ∧ (¬ (¬ (am_gi h5 (11 + (Int32.toNatClampNeg x3)) 2) = i1) → Cl d 55 [.ref 9, .int (4 : Int32), .int (am_gi h5 (11 + (Int32.toNatClampNeg x3)) 1), .int (am_gi h5 (11 + (Int32.toNatClampNeg x3)) 3), .int (-1 : Int32), .int i2, .int (-1 : Int32)] h5 (fun r10 h9 => ∃ x11, r10 = some (.int x11) ∧ Lay h9 ∧ Q (some (.int x11)) h9))) ∧ (¬ (am_gi h5 (11 + (Int32.toNatClampNeg x3)) 0) = (3 : Int32) → Q (some (.int (-1 : Int32))) h5)) ∧ (¬ (¬ x3 = (-1 : Int32)) → Q (some (.int (-1 : Int32))) h1))) : Cl (d + 1) 61 [.ref 9, .int i1, .int i2] h Q := by
  show Ev (d + 1) 61 0 [.ref 9, .int i1, .int i2, .null, .null, .null] [] h Q
  refine ev_p (pc' := 3) (loc' := [.ref 9, .int i1, .int i2, .null, .null, .null]) (st' := [.int i2, .int i1, .ref 9]) 3 am_q61 rfl ?_
  refine ev_c (vs := [.ref 9, .int i1, .int i2]) (rest := []) 57 am_q61 rfl rfl rfl rfl rfl rfl rfl rfl rfl rfl rfl rfl (Or.inr (congrArg some (lk9 Ly))) (Cl.mono H (Nat.le_refl _) (fun r2 h1 H => ?_))
  obtain ⟨x3, rfl, Ly, H⟩ := H
  refine ev_p (pc' := 9) (loc' := [.ref 9, .int i1, .int i2, .int x3, .null, .null]) (st' := [.int (-1 : Int32), .int x3]) 3 am_q61 rfl ?_
  refine ev_jc (t := 14) am_q61 rfl rfl (fun hq => ?_) (fun hq => ?_)
  · replace H := H.1 hq
    refine ev_p (pc' := 15) (loc' := [.ref 9, .int i1, .int i2, .int x3, .null, .null]) (st' := [.ref 9]) 1 am_q61 rfl ?_
    refine ev_s (pc' := 18) (loc' := [.ref 9, .int i1, .int i2, .int x3, .null, .null]) (st' := [.ref 10]) (h1 := h1) am_q61 rfl rfl rfl (am_gf2 (lk9 Ly) (lr9_0 Ly)) ?_
    refine ev_p (pc' := 19) (loc' := [.ref 9, .int i1, .int i2, .int x3, .null, .null]) (st' := [.int x3, .ref 10]) 1 am_q61 rfl ?_
    obtain ⟨g4, H⟩ := H
    refine ev_s (pc' := 20) (loc' := [.ref 9, .int i1, .int i2, .int x3, .null, .null]) (st' := [.ref (11 + (Int32.toNatClampNeg x3))]) (h1 := h1) am_q61 rfl rfl rfl (am_xa (am_rng (lk10 Ly) (by decide)) (am_inl (ln10 Ly) g4) (lr_right Ly (am_in_lt2 g4))) ?_
    refine ev_p (pc' := 25) (loc' := [.ref 9, .int i1, .int i2, .int x3, .ref (11 + (Int32.toNatClampNeg x3)), .null]) (st' := [.int i2, .ref (11 + (Int32.toNatClampNeg x3))]) 3 am_q61 rfl ?_
    refine ev_s (pc' := 28) (loc' := [.ref 9, .int i1, .int i2, .int x3, .ref (11 + (Int32.toNatClampNeg x3)), .null]) (st' := []) (h1 := am_si h1 (11 + (Int32.toNatClampNeg x3)) 5 i2) am_q61 rfl rfl rfl (if_pos (e := none) (lk_right Ly (am_in_lt2 g4))) ?_
    replace H := H _ rfl
    replace Ly : Lay (am_si h1 (11 + (Int32.toNatClampNeg x3)) 5 i2) := Ly.si _ _ _
    generalize am_si h1 (11 + (Int32.toNatClampNeg x3)) 5 i2 = h5 at H Ly ⊢
    refine ev_p (pc' := 30) (loc' := [.ref 9, .int i1, .int i2, .int x3, .ref (11 + (Int32.toNatClampNeg x3)), .null]) (st' := [.ref (11 + (Int32.toNatClampNeg x3))]) 1 am_q61 rfl ?_
    refine ev_s (pc' := 33) (loc' := [.ref 9, .int i1, .int i2, .int x3, .ref (11 + (Int32.toNatClampNeg x3)), .null]) (st' := [.int (am_gi h5 (11 + (Int32.toNatClampNeg x3)) 0)]) (h1 := h5) am_q61 rfl rfl rfl (if_pos (e := none) (lk_right Ly (am_in_lt2 g4))) ?_
    refine ev_p (pc' := 34) (loc' := [.ref 9, .int i1, .int i2, .int x3, .ref (11 + (Int32.toNatClampNeg x3)), .null]) (st' := [.int (3 : Int32), .int (am_gi h5 (11 + (Int32.toNatClampNeg x3)) 0)]) 1 am_q61 rfl ?_
    refine ev_jc (t := 39) am_q61 rfl rfl (fun hq => ?_) (fun hq => ?_)
    · replace H := H.1 hq
      refine ev_p (pc' := 41) (loc' := [.ref 9, .int i1, .int i2, .int x3, .ref (11 + (Int32.toNatClampNeg x3)), .null]) (st' := [.ref (11 + (Int32.toNatClampNeg x3))]) 1 am_q61 rfl ?_
      refine ev_s (pc' := 44) (loc' := [.ref 9, .int i1, .int i2, .int x3, .ref (11 + (Int32.toNatClampNeg x3)), .null]) (st' := [.int (am_gi h5 (11 + (Int32.toNatClampNeg x3)) 2)]) (h1 := h5) am_q61 rfl rfl rfl (if_pos (e := none) (lk_right Ly (am_in_lt2 g4))) ?_
      refine ev_p (pc' := 45) (loc' := [.ref 9, .int i1, .int i2, .int x3, .ref (11 + (Int32.toNatClampNeg x3)), .null]) (st' := [.int i1, .int (am_gi h5 (11 + (Int32.toNatClampNeg x3)) 2)]) 1 am_q61 rfl ?_
      refine ev_jc (t := 56) am_q61 rfl rfl (fun hq => ?_) (fun hq => ?_)
      · replace H := H.1 hq
        refine ev_p (pc' := 58) (loc' := [.ref 9, .int i1, .int i2, .int x3, .ref (11 + (Int32.toNatClampNeg x3)), .null]) (st' := [.ref (11 + (Int32.toNatClampNeg x3))]) 1 am_q61 rfl ?_
        refine ev_s (pc' := 61) (loc' := [.ref 9, .int i1, .int i2, .int x3, .ref (11 + (Int32.toNatClampNeg x3)), .null]) (st' := [.int (am_gi h5 (11 + (Int32.toNatClampNeg x3)) 2)]) (h1 := h5) am_q61 rfl rfl rfl (if_pos (e := none) (lk_right Ly (am_in_lt2 g4))) ?_
        refine ev_p (pc' := 67) (loc' := [.ref 9, .null, .int i2, .null, .ref (11 + (Int32.toNatClampNeg x3)), .int (am_gi h5 (11 + (Int32.toNatClampNeg x3)) 2)]) (st' := [.ref (11 + (Int32.toNatClampNeg x3)), .int (4 : Int32), .ref 9]) 4 am_q61 rfl ?_
        refine ev_s (pc' := 70) (loc' := [.ref 9, .null, .int i2, .null, .ref (11 + (Int32.toNatClampNeg x3)), .int (am_gi h5 (11 + (Int32.toNatClampNeg x3)) 2)]) (st' := [.int (am_gi h5 (11 + (Int32.toNatClampNeg x3)) 1), .int (4 : Int32), .ref 9]) (h1 := h5) am_q61 rfl rfl rfl (if_pos (e := none) (lk_right Ly (am_in_lt2 g4))) ?_
        refine ev_p (pc' := 75) (loc' := [.ref 9, .null, .int i2, .null, .ref (11 + (Int32.toNatClampNeg x3)), .int (am_gi h5 (11 + (Int32.toNatClampNeg x3)) 2)]) (st' := [.int (-1 : Int32), .int i2, .int (-1 : Int32), .int (am_gi h5 (11 + (Int32.toNatClampNeg x3)) 2), .int (am_gi h5 (11 + (Int32.toNatClampNeg x3)) 1), .int (4 : Int32), .ref 9]) 4 am_q61 rfl ?_
        refine ev_c (vs := [.ref 9, .int (4 : Int32), .int (am_gi h5 (11 + (Int32.toNatClampNeg x3)) 1), .int (am_gi h5 (11 + (Int32.toNatClampNeg x3)) 2), .int (-1 : Int32), .int i2, .int (-1 : Int32)]) (rest := []) 55 am_q61 rfl rfl rfl rfl rfl rfl rfl rfl rfl rfl rfl rfl (Or.inr (congrArg some (lk9 Ly))) (Cl.mono H (Nat.le_refl _) (fun r7 h6 H => ?_))
        obtain ⟨x8, rfl, Ly, H⟩ := H
        exact ev_r (v := some (.int x8)) am_q61 rfl rfl rfl rfl H
      · replace H := H.2 hq
        refine ev_p (pc' := 50) (loc' := [.ref 9, .int i1, .int i2, .int x3, .ref (11 + (Int32.toNatClampNeg x3)), .null]) (st' := [.ref (11 + (Int32.toNatClampNeg x3))]) 1 am_q61 rfl ?_
        refine ev_s (pc' := 53) (loc' := [.ref 9, .int i1, .int i2, .int x3, .ref (11 + (Int32.toNatClampNeg x3)), .null]) (st' := [.int (am_gi h5 (11 + (Int32.toNatClampNeg x3)) 3)]) (h1 := h5) am_q61 rfl rfl rfl (if_pos (e := none) (lk_right Ly (am_in_lt2 g4))) ?_
        refine ev_p (pc' := 67) (loc' := [.ref 9, .null, .int i2, .null, .ref (11 + (Int32.toNatClampNeg x3)), .int (am_gi h5 (11 + (Int32.toNatClampNeg x3)) 3)]) (st' := [.ref (11 + (Int32.toNatClampNeg x3)), .int (4 : Int32), .ref 9]) 5 am_q61 rfl ?_
        refine ev_s (pc' := 70) (loc' := [.ref 9, .null, .int i2, .null, .ref (11 + (Int32.toNatClampNeg x3)), .int (am_gi h5 (11 + (Int32.toNatClampNeg x3)) 3)]) (st' := [.int (am_gi h5 (11 + (Int32.toNatClampNeg x3)) 1), .int (4 : Int32), .ref 9]) (h1 := h5) am_q61 rfl rfl rfl (if_pos (e := none) (lk_right Ly (am_in_lt2 g4))) ?_
        refine ev_p (pc' := 75) (loc' := [.ref 9, .null, .int i2, .null, .ref (11 + (Int32.toNatClampNeg x3)), .int (am_gi h5 (11 + (Int32.toNatClampNeg x3)) 3)]) (st' := [.int (-1 : Int32), .int i2, .int (-1 : Int32), .int (am_gi h5 (11 + (Int32.toNatClampNeg x3)) 3), .int (am_gi h5 (11 + (Int32.toNatClampNeg x3)) 1), .int (4 : Int32), .ref 9]) 4 am_q61 rfl ?_
        refine ev_c (vs := [.ref 9, .int (4 : Int32), .int (am_gi h5 (11 + (Int32.toNatClampNeg x3)) 1), .int (am_gi h5 (11 + (Int32.toNatClampNeg x3)) 3), .int (-1 : Int32), .int i2, .int (-1 : Int32)]) (rest := []) 55 am_q61 rfl rfl rfl rfl rfl rfl rfl rfl rfl rfl rfl rfl (Or.inr (congrArg some (lk9 Ly))) (Cl.mono H (Nat.le_refl _) (fun r10 h9 H => ?_))
        obtain ⟨x11, rfl, Ly, H⟩ := H
        exact ev_r (v := some (.int x11)) am_q61 rfl rfl rfl rfl H
    · replace H := H.2 hq
      refine ev_p (pc' := 38) (loc' := [.ref 9, .int i1, .int i2, .int x3, .ref (11 + (Int32.toNatClampNeg x3)), .null]) (st' := [.int (-1 : Int32)]) 1 am_q61 rfl ?_
      exact ev_r (v := some (.int (-1 : Int32))) am_q61 rfl rfl rfl rfl H
  · replace H := H.2 hq
    refine ev_p (pc' := 13) (loc' := [.ref 9, .int i1, .int i2, .int x3, .null, .null]) (st' := [.int (-1 : Int32)]) 1 am_q61 rfl ?_
    exact ev_r (v := some (.int (-1 : Int32))) am_q61 rfl rfl rfl rfl H
/-! 62: X6_endAllOf -/
set_option maxRecDepth 20000 in
set_option maxHeartbeats 2000000 in
theorem ws62 {d : Nat}  (i1 : Int32) (i2 : Int32) {h : AH} {Q : Option Value → AH → Prop} (Ly : Lay h) (H : Ev (d + 1) 62 2 [.ref 9, .int i1, .int i2, .int (0 : Int32)] [] h Q) : Cl (d + 1) 62 [.ref 9, .int i1, .int i2] h Q := by
  show Ev (d + 1) 62 0 [.ref 9, .int i1, .int i2, .null] [] h Q
  refine ev_p (pc' := 2) (loc' := [.ref 9, .int i1, .int i2, .int (0 : Int32)]) (st' := []) 2 am_q62 rfl ?_
  exact ev_m (loc' := [.ref 9, .int i1, .int i2, .int (0 : Int32)]) am_q62 rfl rfl H
set_option maxRecDepth 20000 in
set_option maxHeartbeats 2000000 in
theorem ws62_2 {d : Nat}  (i1 : Int32) (i2 : Int32) (i3 : Int32) {h : AH} {Q : Option Value → AH → Prop} (Ly : Lay h) (H : ((am_gi h 9 1) ≤ i3 → Q none h) ∧ (¬ (am_gi h 9 1) ≤ i3 → am_in i3 60 ∧ Cl d 67 [.ref (11 + (Int32.toNatClampNeg i3)), .int i1] h (fun r3 h2 => ∃ x4, r3 = some (.int x4) ∧ Lay h2 ∧ (x4 = (0 : Int32) → Ev (d + 1) 62 2 [.ref 9, .int i1, .int i2, .int (i3 + (1 : Int32))] [] h2 Q) ∧ (¬ x4 = (0 : Int32) → am_in i3 60 ∧ Cl d 65 [.ref (11 + (Int32.toNatClampNeg i3)), .int i2] h2 (fun r7 h6 => ∃ x8, r7 = some (.int x8) ∧ Lay h6 ∧ (x8 = (0 : Int32) → Ev (d + 1) 62 2 [.ref 9, .int i1, .int i2, .int (i3 + (1 : Int32))] [] h6 Q) ∧ (¬ x8 = (0 : Int32) → am_in i3 60 ∧ ∀ h10, h10 = am_si h6 (11 + (Int32.toNatClampNeg i3)) 5 i2 → Ev (d + 1) 62 2 [.ref 9, .int i1, .int i2, .int (i3 + (1 : Int32))] [] h10 Q)))))) : Ev (d + 1) 62 2 [.ref 9, .int i1, .int i2, .int i3] [] h Q := by
  refine ev_p (pc' := 4) (loc' := [.ref 9, .int i1, .int i2, .int i3]) (st' := [.ref 9, .int i3]) 2 am_q62 rfl ?_
  refine ev_s (pc' := 7) (loc' := [.ref 9, .int i1, .int i2, .int i3]) (st' := [.int (am_gi h 9 1), .int i3]) (h1 := h) am_q62 rfl rfl rfl (if_pos (e := none) (lk9 Ly)) ?_
  refine ev_jc (t := 52) am_q62 rfl rfl (fun hq => ?_) (fun hq => ?_)
  · replace H := H.1 hq
    exact ev_r (v := none) am_q62 rfl rfl rfl rfl H
  · replace H := H.2 hq
    refine ev_p (pc' := 11) (loc' := [.ref 9, .int i1, .int i2, .int i3]) (st' := [.ref 9]) 1 am_q62 rfl ?_
    refine ev_s (pc' := 14) (loc' := [.ref 9, .int i1, .int i2, .int i3]) (st' := [.ref 10]) (h1 := h) am_q62 rfl rfl rfl (am_gf2 (lk9 Ly) (lr9_0 Ly)) ?_
    refine ev_p (pc' := 15) (loc' := [.ref 9, .int i1, .int i2, .int i3]) (st' := [.int i3, .ref 10]) 1 am_q62 rfl ?_
    obtain ⟨g1, H⟩ := H
    refine ev_s (pc' := 16) (loc' := [.ref 9, .int i1, .int i2, .int i3]) (st' := [.ref (11 + (Int32.toNatClampNeg i3))]) (h1 := h) am_q62 rfl rfl rfl (am_xa (am_rng (lk10 Ly) (by decide)) (am_inl (ln10 Ly) g1) (lr_right Ly (am_in_lt2 g1))) ?_
    refine ev_p (pc' := 17) (loc' := [.ref 9, .int i1, .int i2, .int i3]) (st' := [.int i1, .ref (11 + (Int32.toNatClampNeg i3))]) 1 am_q62 rfl ?_
    refine ev_c (vs := [.ref (11 + (Int32.toNatClampNeg i3)), .int i1]) (rest := []) 67 am_q62 rfl rfl rfl rfl rfl rfl rfl rfl rfl rfl rfl rfl (Or.inr (congrArg some (lk_right Ly (am_in_lt2 g1)))) (Cl.mono H (Nat.le_refl _) (fun r3 h2 H => ?_))
    obtain ⟨x4, rfl, Ly, H⟩ := H
    refine ev_jz (t := 46) am_q62 rfl rfl (fun hq => ?_) (fun hq => ?_)
    · replace H := H.1 hq
      refine ev_p (pc' := 2) (loc' := [.ref 9, .int i1, .int i2, .int (i3 + (1 : Int32))]) (st' := []) 2 am_q62 rfl ?_
      exact ev_m (loc' := [.ref 9, .int i1, .int i2, .int (i3 + (1 : Int32))]) am_q62 rfl rfl H
    · replace H := H.2 hq
      refine ev_p (pc' := 24) (loc' := [.ref 9, .int i1, .int i2, .int i3]) (st' := [.ref 9]) 1 am_q62 rfl ?_
      refine ev_s (pc' := 27) (loc' := [.ref 9, .int i1, .int i2, .int i3]) (st' := [.ref 10]) (h1 := h2) am_q62 rfl rfl rfl (am_gf2 (lk9 Ly) (lr9_0 Ly)) ?_
      refine ev_p (pc' := 28) (loc' := [.ref 9, .int i1, .int i2, .int i3]) (st' := [.int i3, .ref 10]) 1 am_q62 rfl ?_
      obtain ⟨g5, H⟩ := H
      refine ev_s (pc' := 29) (loc' := [.ref 9, .int i1, .int i2, .int i3]) (st' := [.ref (11 + (Int32.toNatClampNeg i3))]) (h1 := h2) am_q62 rfl rfl rfl (am_xa (am_rng (lk10 Ly) (by decide)) (am_inl (ln10 Ly) g5) (lr_right Ly (am_in_lt2 g5))) ?_
      refine ev_p (pc' := 30) (loc' := [.ref 9, .int i1, .int i2, .int i3]) (st' := [.int i2, .ref (11 + (Int32.toNatClampNeg i3))]) 1 am_q62 rfl ?_
      refine ev_c (vs := [.ref (11 + (Int32.toNatClampNeg i3)), .int i2]) (rest := []) 65 am_q62 rfl rfl rfl rfl rfl rfl rfl rfl rfl rfl rfl rfl (Or.inr (congrArg some (lk_right Ly (am_in_lt2 g5)))) (Cl.mono H (Nat.le_refl _) (fun r7 h6 H => ?_))
      obtain ⟨x8, rfl, Ly, H⟩ := H
      refine ev_jz (t := 46) am_q62 rfl rfl (fun hq => ?_) (fun hq => ?_)
      · replace H := H.1 hq
        refine ev_p (pc' := 2) (loc' := [.ref 9, .int i1, .int i2, .int (i3 + (1 : Int32))]) (st' := []) 2 am_q62 rfl ?_
        exact ev_m (loc' := [.ref 9, .int i1, .int i2, .int (i3 + (1 : Int32))]) am_q62 rfl rfl H
      · replace H := H.2 hq
        refine ev_p (pc' := 37) (loc' := [.ref 9, .int i1, .int i2, .int i3]) (st' := [.ref 9]) 1 am_q62 rfl ?_
        refine ev_s (pc' := 40) (loc' := [.ref 9, .int i1, .int i2, .int i3]) (st' := [.ref 10]) (h1 := h6) am_q62 rfl rfl rfl (am_gf2 (lk9 Ly) (lr9_0 Ly)) ?_
        refine ev_p (pc' := 41) (loc' := [.ref 9, .int i1, .int i2, .int i3]) (st' := [.int i3, .ref 10]) 1 am_q62 rfl ?_
        obtain ⟨g9, H⟩ := H
        refine ev_s (pc' := 42) (loc' := [.ref 9, .int i1, .int i2, .int i3]) (st' := [.ref (11 + (Int32.toNatClampNeg i3))]) (h1 := h6) am_q62 rfl rfl rfl (am_xa (am_rng (lk10 Ly) (by decide)) (am_inl (ln10 Ly) g9) (lr_right Ly (am_in_lt2 g9))) ?_
        refine ev_p (pc' := 43) (loc' := [.ref 9, .int i1, .int i2, .int i3]) (st' := [.int i2, .ref (11 + (Int32.toNatClampNeg i3))]) 1 am_q62 rfl ?_
        refine ev_s (pc' := 46) (loc' := [.ref 9, .int i1, .int i2, .int i3]) (st' := []) (h1 := am_si h6 (11 + (Int32.toNatClampNeg i3)) 5 i2) am_q62 rfl rfl rfl (if_pos (e := none) (lk_right Ly (am_in_lt2 g9))) ?_
        replace H := H _ rfl
        replace Ly : Lay (am_si h6 (11 + (Int32.toNatClampNeg i3)) 5 i2) := Ly.si _ _ _
        generalize am_si h6 (11 + (Int32.toNatClampNeg i3)) 5 i2 = h10 at H Ly ⊢
        refine ev_p (pc' := 2) (loc' := [.ref 9, .int i1, .int i2, .int (i3 + (1 : Int32))]) (st' := []) 2 am_q62 rfl ?_
        exact ev_m (loc' := [.ref 9, .int i1, .int i2, .int (i3 + (1 : Int32))]) am_q62 rfl rfl H
/-! 63: X6_moveHolder -/
set_option maxRecDepth 20000 in
set_option maxHeartbeats 2000000 in
theorem ws63 {d : Nat}  (i1 : Int32) (i2 : Int32) (i3 : Int32) {h : AH} {Q : Option Value → AH → Prop} (Ly : Lay h) (H : Cl d 57 [.ref 9, .int i1, .int i3] h (fun r2 h1 => ∃ x3, r2 = some (.int x3) ∧ Lay h1 ∧ ((¬ x3 = (-1 : Int32)) → am_in x3 60 ∧ ∀ h5, h5 = am_si h1 (11 + (Int32.toNatClampNeg x3)) 5 i3 → Cl d 55 [.ref 9, .int (am_gi h5 (11 + (Int32.toNatClampNeg x3)) 0), .int i2, .int (am_gi h5 (11 + (Int32.toNatClampNeg x3)) 2), .int (am_gi h5 (11 + (Int32.toNatClampNeg x3)) 3), .int i3, .int (-1 : Int32)] h5 (fun r7 h6 => ∃ x8, r7 = some (.int x8) ∧ Lay h6 ∧ Q none h6)) ∧ (¬ (¬ x3 = (-1 : Int32)) → Q none h1))) : Cl (d + 1) 63 [.ref 9, .int i1, .int i2, .int i3] h Q := by
  show Ev (d + 1) 63 0 [.ref 9, .int i1, .int i2, .int i3, .null, .null] [] h Q
  refine ev_p (pc' := 3) (loc' := [.ref 9, .int i1, .int i2, .int i3, .null, .null]) (st' := [.int i3, .int i1, .ref 9]) 3 am_q63 rfl ?_
  refine ev_c (vs := [.ref 9, .int i1, .int i3]) (rest := []) 57 am_q63 rfl rfl rfl rfl rfl rfl rfl rfl rfl rfl rfl rfl (Or.inr (congrArg some (lk9 Ly))) (Cl.mono H (Nat.le_refl _) (fun r2 h1 H => ?_))
  obtain ⟨x3, rfl, Ly, H⟩ := H
  refine ev_p (pc' := 11) (loc' := [.ref 9, .int i1, .int i2, .int i3, .int x3, .null]) (st' := [.int (-1 : Int32), .int x3]) 3 am_q63 rfl ?_
  refine ev_jc (t := 15) am_q63 rfl rfl (fun hq => ?_) (fun hq => ?_)
  · replace H := H.1 hq
    refine ev_p (pc' := 16) (loc' := [.ref 9, .int i1, .int i2, .int i3, .int x3, .null]) (st' := [.ref 9]) 1 am_q63 rfl ?_
    refine ev_s (pc' := 19) (loc' := [.ref 9, .int i1, .int i2, .int i3, .int x3, .null]) (st' := [.ref 10]) (h1 := h1) am_q63 rfl rfl rfl (am_gf2 (lk9 Ly) (lr9_0 Ly)) ?_
    refine ev_p (pc' := 21) (loc' := [.ref 9, .int i1, .int i2, .int i3, .int x3, .null]) (st' := [.int x3, .ref 10]) 1 am_q63 rfl ?_
    obtain ⟨g4, H⟩ := H
    refine ev_s (pc' := 22) (loc' := [.ref 9, .int i1, .int i2, .int i3, .int x3, .null]) (st' := [.ref (11 + (Int32.toNatClampNeg x3))]) (h1 := h1) am_q63 rfl rfl rfl (am_xa (am_rng (lk10 Ly) (by decide)) (am_inl (ln10 Ly) g4) (lr_right Ly (am_in_lt2 g4))) ?_
    refine ev_p (pc' := 27) (loc' := [.ref 9, .int i1, .int i2, .int i3, .int x3, .ref (11 + (Int32.toNatClampNeg x3))]) (st' := [.int i3, .ref (11 + (Int32.toNatClampNeg x3))]) 3 am_q63 rfl ?_
    refine ev_s (pc' := 30) (loc' := [.ref 9, .int i1, .int i2, .int i3, .int x3, .ref (11 + (Int32.toNatClampNeg x3))]) (st' := []) (h1 := am_si h1 (11 + (Int32.toNatClampNeg x3)) 5 i3) am_q63 rfl rfl rfl (if_pos (e := none) (lk_right Ly (am_in_lt2 g4))) ?_
    replace H := H _ rfl
    replace Ly : Lay (am_si h1 (11 + (Int32.toNatClampNeg x3)) 5 i3) := Ly.si _ _ _
    generalize am_si h1 (11 + (Int32.toNatClampNeg x3)) 5 i3 = h5 at H Ly ⊢
    refine ev_p (pc' := 33) (loc' := [.ref 9, .int i1, .int i2, .int i3, .int x3, .ref (11 + (Int32.toNatClampNeg x3))]) (st' := [.ref (11 + (Int32.toNatClampNeg x3)), .ref 9]) 2 am_q63 rfl ?_
    refine ev_s (pc' := 36) (loc' := [.ref 9, .int i1, .int i2, .int i3, .int x3, .ref (11 + (Int32.toNatClampNeg x3))]) (st' := [.int (am_gi h5 (11 + (Int32.toNatClampNeg x3)) 0), .ref 9]) (h1 := h5) am_q63 rfl rfl rfl (if_pos (e := none) (lk_right Ly (am_in_lt2 g4))) ?_
    refine ev_p (pc' := 39) (loc' := [.ref 9, .int i1, .int i2, .int i3, .int x3, .ref (11 + (Int32.toNatClampNeg x3))]) (st' := [.ref (11 + (Int32.toNatClampNeg x3)), .int i2, .int (am_gi h5 (11 + (Int32.toNatClampNeg x3)) 0), .ref 9]) 2 am_q63 rfl ?_
    refine ev_s (pc' := 42) (loc' := [.ref 9, .int i1, .int i2, .int i3, .int x3, .ref (11 + (Int32.toNatClampNeg x3))]) (st' := [.int (am_gi h5 (11 + (Int32.toNatClampNeg x3)) 2), .int i2, .int (am_gi h5 (11 + (Int32.toNatClampNeg x3)) 0), .ref 9]) (h1 := h5) am_q63 rfl rfl rfl (if_pos (e := none) (lk_right Ly (am_in_lt2 g4))) ?_
    refine ev_p (pc' := 44) (loc' := [.ref 9, .int i1, .int i2, .int i3, .int x3, .ref (11 + (Int32.toNatClampNeg x3))]) (st' := [.ref (11 + (Int32.toNatClampNeg x3)), .int (am_gi h5 (11 + (Int32.toNatClampNeg x3)) 2), .int i2, .int (am_gi h5 (11 + (Int32.toNatClampNeg x3)) 0), .ref 9]) 1 am_q63 rfl ?_
    refine ev_s (pc' := 47) (loc' := [.ref 9, .int i1, .int i2, .int i3, .int x3, .ref (11 + (Int32.toNatClampNeg x3))]) (st' := [.int (am_gi h5 (11 + (Int32.toNatClampNeg x3)) 3), .int (am_gi h5 (11 + (Int32.toNatClampNeg x3)) 2), .int i2, .int (am_gi h5 (11 + (Int32.toNatClampNeg x3)) 0), .ref 9]) (h1 := h5) am_q63 rfl rfl rfl (if_pos (e := none) (lk_right Ly (am_in_lt2 g4))) ?_
    refine ev_p (pc' := 49) (loc' := [.ref 9, .int i1, .int i2, .int i3, .int x3, .ref (11 + (Int32.toNatClampNeg x3))]) (st' := [.int (-1 : Int32), .int i3, .int (am_gi h5 (11 + (Int32.toNatClampNeg x3)) 3), .int (am_gi h5 (11 + (Int32.toNatClampNeg x3)) 2), .int i2, .int (am_gi h5 (11 + (Int32.toNatClampNeg x3)) 0), .ref 9]) 2 am_q63 rfl ?_
    refine ev_c (vs := [.ref 9, .int (am_gi h5 (11 + (Int32.toNatClampNeg x3)) 0), .int i2, .int (am_gi h5 (11 + (Int32.toNatClampNeg x3)) 2), .int (am_gi h5 (11 + (Int32.toNatClampNeg x3)) 3), .int i3, .int (-1 : Int32)]) (rest := []) 55 am_q63 rfl rfl rfl rfl rfl rfl rfl rfl rfl rfl rfl rfl (Or.inr (congrArg some (lk9 Ly))) (Cl.mono H (Nat.le_refl _) (fun r7 h6 H => ?_))
    obtain ⟨x8, rfl, Ly, H⟩ := H
    refine ev_p (pc' := 53) (loc' := [.ref 9, .int i1, .int i2, .int i3, .int x3, .ref (11 + (Int32.toNatClampNeg x3))]) (st' := []) 1 am_q63 rfl ?_
    exact ev_r (v := none) am_q63 rfl rfl rfl rfl H
  · replace H := H.2 hq
    exact ev_r (v := none) am_q63 rfl rfl rfl rfl H
/-! 65: X7_isInForce -/
set_option maxRecDepth 20000 in
set_option maxHeartbeats 2000000 in
theorem ws65 {d : Nat} {j0 : Nat} (hj0 : j0 < 60) (i1 : Int32) {h : AH} {Q : Option Value → AH → Prop} (Ly : Lay h) (H : (i1 < (am_gi h (11 + j0) 4) → Q (some (.int (0 : Int32))) h) ∧ (¬ i1 < (am_gi h (11 + j0) 4) → ((am_gi h (11 + j0) 5) = (-1 : Int32) → Q (some (.int (1 : Int32))) h) ∧ (¬ (am_gi h (11 + j0) 5) = (-1 : Int32) → ((am_gi h (11 + j0) 5) ≤ i1 → Q (some (.int (0 : Int32))) h) ∧ (¬ (am_gi h (11 + j0) 5) ≤ i1 → Q (some (.int (1 : Int32))) h)))) : Cl d 65 [.ref (11 + j0), .int i1] h Q := by
  show Ev d 65 0 [.ref (11 + j0), .int i1] [] h Q
  refine ev_p (pc' := 1) (loc' := [.ref (11 + j0), .int i1]) (st' := [.ref (11 + j0)]) 1 am_q65 rfl ?_
  refine ev_s (pc' := 4) (loc' := [.ref (11 + j0), .int i1]) (st' := [.int (am_gi h (11 + j0) 4)]) (h1 := h) am_q65 rfl rfl rfl (if_pos (e := none) (lk_right Ly hj0)) ?_
  refine ev_p (pc' := 5) (loc' := [.ref (11 + j0), .int i1]) (st' := [.int i1, .int (am_gi h (11 + j0) 4)]) 1 am_q65 rfl ?_
  refine ev_jc (t := 28) am_q65 rfl rfl (fun hq => ?_) (fun hq => ?_)
  · replace H := H.1 hq
    refine ev_p (pc' := 29) (loc' := [.null, .null]) (st' := [.int (0 : Int32)]) 1 am_q65 rfl ?_
    exact ev_r (v := some (.int (0 : Int32))) am_q65 rfl rfl rfl rfl H
  · replace H := H.2 hq
    refine ev_p (pc' := 9) (loc' := [.ref (11 + j0), .int i1]) (st' := [.ref (11 + j0)]) 1 am_q65 rfl ?_
    refine ev_s (pc' := 12) (loc' := [.ref (11 + j0), .int i1]) (st' := [.int (am_gi h (11 + j0) 5)]) (h1 := h) am_q65 rfl rfl rfl (if_pos (e := none) (lk_right Ly hj0)) ?_
    refine ev_p (pc' := 13) (loc' := [.ref (11 + j0), .int i1]) (st' := [.int (-1 : Int32), .int (am_gi h (11 + j0) 5)]) 1 am_q65 rfl ?_
    refine ev_jc (t := 24) am_q65 rfl rfl (fun hq => ?_) (fun hq => ?_)
    · replace H := H.1 hq
      refine ev_p (pc' := 29) (loc' := [.null, .null]) (st' := [.int (1 : Int32)]) 2 am_q65 rfl ?_
      exact ev_r (v := some (.int (1 : Int32))) am_q65 rfl rfl rfl rfl H
    · replace H := H.2 hq
      refine ev_p (pc' := 18) (loc' := [.ref (11 + j0), .int i1]) (st' := [.ref (11 + j0), .int i1]) 2 am_q65 rfl ?_
      refine ev_s (pc' := 21) (loc' := [.ref (11 + j0), .int i1]) (st' := [.int (am_gi h (11 + j0) 5), .int i1]) (h1 := h) am_q65 rfl rfl rfl (if_pos (e := none) (lk_right Ly hj0)) ?_
      refine ev_jc (t := 28) am_q65 rfl rfl (fun hq => ?_) (fun hq => ?_)
      · replace H := H.1 hq
        refine ev_p (pc' := 29) (loc' := [.null, .null]) (st' := [.int (0 : Int32)]) 1 am_q65 rfl ?_
        exact ev_r (v := some (.int (0 : Int32))) am_q65 rfl rfl rfl rfl H
      · replace H := H.2 hq
        refine ev_p (pc' := 29) (loc' := [.null, .null]) (st' := [.int (1 : Int32)]) 2 am_q65 rfl ?_
        exact ev_r (v := some (.int (1 : Int32))) am_q65 rfl rfl rfl rfl H
/-! 66: X7_isHeld -/
set_option maxRecDepth 20000 in
set_option maxHeartbeats 2000000 in
theorem ws66 {d : Nat} {j0 : Nat} (hj0 : j0 < 60) (i1 : Int32) {h : AH} {Q : Option Value → AH → Prop} (Ly : Lay h) (H : ((am_gi h (11 + j0) 0) = (2 : Int32) → Q (some (.int (0 : Int32))) h) ∧ (¬ (am_gi h (11 + j0) 0) = (2 : Int32) → Cl d 65 [.ref (11 + j0), .int i1] h (fun r2 h1 => ∃ x3, r2 = some (.int x3) ∧ Lay h1 ∧ (x3 = (0 : Int32) → Q (some (.int (0 : Int32))) h1) ∧ (¬ x3 = (0 : Int32) → Q (some (.int (1 : Int32))) h1)))) : Cl (d + 1) 66 [.ref (11 + j0), .int i1] h Q := by
  show Ev (d + 1) 66 0 [.ref (11 + j0), .int i1] [] h Q
  refine ev_p (pc' := 1) (loc' := [.ref (11 + j0), .int i1]) (st' := [.ref (11 + j0)]) 1 am_q66 rfl ?_
  refine ev_s (pc' := 4) (loc' := [.ref (11 + j0), .int i1]) (st' := [.int (am_gi h (11 + j0) 0)]) (h1 := h) am_q66 rfl rfl rfl (if_pos (e := none) (lk_right Ly hj0)) ?_
  refine ev_p (pc' := 5) (loc' := [.ref (11 + j0), .int i1]) (st' := [.int (2 : Int32), .int (am_gi h (11 + j0) 0)]) 1 am_q66 rfl ?_
  refine ev_jc (t := 20) am_q66 rfl rfl (fun hq => ?_) (fun hq => ?_)
  · replace H := H.1 hq
    refine ev_p (pc' := 21) (loc' := [.null, .null]) (st' := [.int (0 : Int32)]) 1 am_q66 rfl ?_
    exact ev_r (v := some (.int (0 : Int32))) am_q66 rfl rfl rfl rfl H
  · replace H := H.2 hq
    refine ev_p (pc' := 10) (loc' := [.ref (11 + j0), .int i1]) (st' := [.int i1, .ref (11 + j0)]) 2 am_q66 rfl ?_
    refine ev_c (vs := [.ref (11 + j0), .int i1]) (rest := []) 65 am_q66 rfl rfl rfl rfl rfl rfl rfl rfl rfl rfl rfl rfl (Or.inr (congrArg some (lk_right Ly hj0))) (Cl.mono H (Nat.le_refl _) (fun r2 h1 H => ?_))
    obtain ⟨x3, rfl, Ly, H⟩ := H
    refine ev_jz (t := 20) am_q66 rfl rfl (fun hq => ?_) (fun hq => ?_)
    · replace H := H.1 hq
      refine ev_p (pc' := 21) (loc' := [.null, .null]) (st' := [.int (0 : Int32)]) 1 am_q66 rfl ?_
      exact ev_r (v := some (.int (0 : Int32))) am_q66 rfl rfl rfl rfl H
    · replace H := H.2 hq
      refine ev_p (pc' := 21) (loc' := [.ref (11 + j0), .int i1]) (st' := [.int (1 : Int32)]) 2 am_q66 rfl ?_
      exact ev_r (v := some (.int (1 : Int32))) am_q66 rfl rfl rfl rfl H
/-! 67: X7_isOf -/
set_option maxRecDepth 20000 in
set_option maxHeartbeats 2000000 in
theorem ws67 {d : Nat} {j0 : Nat} (hj0 : j0 < 60) (i1 : Int32) {h : AH} {Q : Option Value → AH → Prop} (Ly : Lay h) (H : ((am_gi h (11 + j0) 2) = i1 → Q (some (.int (1 : Int32))) h) ∧ (¬ (am_gi h (11 + j0) 2) = i1 → ((¬ (am_gi h (11 + j0) 3) = i1) → Q (some (.int (0 : Int32))) h) ∧ (¬ (¬ (am_gi h (11 + j0) 3) = i1) → Q (some (.int (1 : Int32))) h))) : Cl d 67 [.ref (11 + j0), .int i1] h Q := by
  show Ev d 67 0 [.ref (11 + j0), .int i1] [] h Q
  refine ev_p (pc' := 1) (loc' := [.ref (11 + j0), .int i1]) (st' := [.ref (11 + j0)]) 1 am_q67 rfl ?_
  refine ev_s (pc' := 4) (loc' := [.ref (11 + j0), .int i1]) (st' := [.int (am_gi h (11 + j0) 2)]) (h1 := h) am_q67 rfl rfl rfl (if_pos (e := none) (lk_right Ly hj0)) ?_
  refine ev_p (pc' := 5) (loc' := [.ref (11 + j0), .int i1]) (st' := [.int i1, .int (am_gi h (11 + j0) 2)]) 1 am_q67 rfl ?_
  refine ev_jc (t := 16) am_q67 rfl rfl (fun hq => ?_) (fun hq => ?_)
  · replace H := H.1 hq
    refine ev_p (pc' := 21) (loc' := [.null, .null]) (st' := [.int (1 : Int32)]) 2 am_q67 rfl ?_
    exact ev_r (v := some (.int (1 : Int32))) am_q67 rfl rfl rfl rfl H
  · replace H := H.2 hq
    refine ev_p (pc' := 9) (loc' := [.ref (11 + j0), .int i1]) (st' := [.ref (11 + j0)]) 1 am_q67 rfl ?_
    refine ev_s (pc' := 12) (loc' := [.ref (11 + j0), .int i1]) (st' := [.int (am_gi h (11 + j0) 3)]) (h1 := h) am_q67 rfl rfl rfl (if_pos (e := none) (lk_right Ly hj0)) ?_
    refine ev_p (pc' := 13) (loc' := [.ref (11 + j0), .int i1]) (st' := [.int i1, .int (am_gi h (11 + j0) 3)]) 1 am_q67 rfl ?_
    refine ev_jc (t := 20) am_q67 rfl rfl (fun hq => ?_) (fun hq => ?_)
    · replace H := H.1 hq
      refine ev_p (pc' := 21) (loc' := [.ref (11 + j0), .int i1]) (st' := [.int (0 : Int32)]) 1 am_q67 rfl ?_
      exact ev_r (v := some (.int (0 : Int32))) am_q67 rfl rfl rfl rfl H
    · replace H := H.2 hq
      refine ev_p (pc' := 21) (loc' := [.null, .null]) (st' := [.int (1 : Int32)]) 2 am_q67 rfl ?_
      exact ev_r (v := some (.int (1 : Int32))) am_q67 rfl rfl rfl rfl H
/-! 68: X7_mayMove -/
set_option maxRecDepth 20000 in
set_option maxHeartbeats 2000000 in
theorem ws68 {d : Nat} {j0 : Nat} (hj0 : j0 < 60) (i1 : Int32) {h : AH} {Q : Option Value → AH → Prop} (Ly : Lay h) (H : ((¬ (am_gi h (11 + j0) 2) = i1) → Q (some (.int (0 : Int32))) h) ∧ (¬ (¬ (am_gi h (11 + j0) 2) = i1) → ((¬ (am_gi h (11 + j0) 5) = (-1 : Int32)) → Q (some (.int (0 : Int32))) h) ∧ (¬ (¬ (am_gi h (11 + j0) 5) = (-1 : Int32)) → ((am_gi h (11 + j0) 0) = (0 : Int32) → Q (some (.int (1 : Int32))) h) ∧ (¬ (am_gi h (11 + j0) 0) = (0 : Int32) → ((am_gi h (11 + j0) 0) = (3 : Int32) → Q (some (.int (1 : Int32))) h) ∧ (¬ (am_gi h (11 + j0) 0) = (3 : Int32) → ((¬ (am_gi h (11 + j0) 0) = (4 : Int32)) → Q (some (.int (0 : Int32))) h) ∧ (¬ (¬ (am_gi h (11 + j0) 0) = (4 : Int32)) → Q (some (.int (1 : Int32))) h)))))) : Cl d 68 [.ref (11 + j0), .int i1] h Q := by
  show Ev d 68 0 [.ref (11 + j0), .int i1] [] h Q
  refine ev_p (pc' := 1) (loc' := [.ref (11 + j0), .int i1]) (st' := [.ref (11 + j0)]) 1 am_q68 rfl ?_
  refine ev_s (pc' := 4) (loc' := [.ref (11 + j0), .int i1]) (st' := [.int (am_gi h (11 + j0) 2)]) (h1 := h) am_q68 rfl rfl rfl (if_pos (e := none) (lk_right Ly hj0)) ?_
  refine ev_p (pc' := 5) (loc' := [.ref (11 + j0), .int i1]) (st' := [.int i1, .int (am_gi h (11 + j0) 2)]) 1 am_q68 rfl ?_
  refine ev_jc (t := 43) am_q68 rfl rfl (fun hq => ?_) (fun hq => ?_)
  · replace H := H.1 hq
    refine ev_p (pc' := 44) (loc' := [.null, .null]) (st' := [.int (0 : Int32)]) 1 am_q68 rfl ?_
    exact ev_r (v := some (.int (0 : Int32))) am_q68 rfl rfl rfl rfl H
  · replace H := H.2 hq
    refine ev_p (pc' := 9) (loc' := [.ref (11 + j0), .int i1]) (st' := [.ref (11 + j0)]) 1 am_q68 rfl ?_
    refine ev_s (pc' := 12) (loc' := [.ref (11 + j0), .int i1]) (st' := [.int (am_gi h (11 + j0) 5)]) (h1 := h) am_q68 rfl rfl rfl (if_pos (e := none) (lk_right Ly hj0)) ?_
    refine ev_p (pc' := 13) (loc' := [.ref (11 + j0), .int i1]) (st' := [.int (-1 : Int32), .int (am_gi h (11 + j0) 5)]) 1 am_q68 rfl ?_
    refine ev_jc (t := 43) am_q68 rfl rfl (fun hq => ?_) (fun hq => ?_)
    · replace H := H.1 hq
      refine ev_p (pc' := 44) (loc' := [.null, .null]) (st' := [.int (0 : Int32)]) 1 am_q68 rfl ?_
      exact ev_r (v := some (.int (0 : Int32))) am_q68 rfl rfl rfl rfl H
    · replace H := H.2 hq
      refine ev_p (pc' := 17) (loc' := [.ref (11 + j0), .int i1]) (st' := [.ref (11 + j0)]) 1 am_q68 rfl ?_
      refine ev_s (pc' := 20) (loc' := [.ref (11 + j0), .int i1]) (st' := [.int (am_gi h (11 + j0) 0)]) (h1 := h) am_q68 rfl rfl rfl (if_pos (e := none) (lk_right Ly hj0)) ?_
      refine ev_jz (t := 39) am_q68 rfl rfl (fun hq => ?_) (fun hq => ?_)
      · replace H := H.1 hq
        refine ev_p (pc' := 44) (loc' := [.null, .null]) (st' := [.int (1 : Int32)]) 2 am_q68 rfl ?_
        exact ev_r (v := some (.int (1 : Int32))) am_q68 rfl rfl rfl rfl H
      · replace H := H.2 hq
        refine ev_p (pc' := 24) (loc' := [.ref (11 + j0), .int i1]) (st' := [.ref (11 + j0)]) 1 am_q68 rfl ?_
        refine ev_s (pc' := 27) (loc' := [.ref (11 + j0), .int i1]) (st' := [.int (am_gi h (11 + j0) 0)]) (h1 := h) am_q68 rfl rfl rfl (if_pos (e := none) (lk_right Ly hj0)) ?_
        refine ev_p (pc' := 28) (loc' := [.ref (11 + j0), .int i1]) (st' := [.int (3 : Int32), .int (am_gi h (11 + j0) 0)]) 1 am_q68 rfl ?_
        refine ev_jc (t := 39) am_q68 rfl rfl (fun hq => ?_) (fun hq => ?_)
        · replace H := H.1 hq
          refine ev_p (pc' := 44) (loc' := [.null, .null]) (st' := [.int (1 : Int32)]) 2 am_q68 rfl ?_
          exact ev_r (v := some (.int (1 : Int32))) am_q68 rfl rfl rfl rfl H
        · replace H := H.2 hq
          refine ev_p (pc' := 32) (loc' := [.ref (11 + j0), .int i1]) (st' := [.ref (11 + j0)]) 1 am_q68 rfl ?_
          refine ev_s (pc' := 35) (loc' := [.ref (11 + j0), .int i1]) (st' := [.int (am_gi h (11 + j0) 0)]) (h1 := h) am_q68 rfl rfl rfl (if_pos (e := none) (lk_right Ly hj0)) ?_
          refine ev_p (pc' := 36) (loc' := [.ref (11 + j0), .int i1]) (st' := [.int (4 : Int32), .int (am_gi h (11 + j0) 0)]) 1 am_q68 rfl ?_
          refine ev_jc (t := 43) am_q68 rfl rfl (fun hq => ?_) (fun hq => ?_)
          · replace H := H.1 hq
            refine ev_p (pc' := 44) (loc' := [.null, .null]) (st' := [.int (0 : Int32)]) 1 am_q68 rfl ?_
            exact ev_r (v := some (.int (0 : Int32))) am_q68 rfl rfl rfl rfl H
          · replace H := H.2 hq
            refine ev_p (pc' := 44) (loc' := [.null, .null]) (st' := [.int (1 : Int32)]) 2 am_q68 rfl ?_
            exact ev_r (v := some (.int (1 : Int32))) am_q68 rfl rfl rfl rfl H
/-! 70: X8_worth -/
set_option maxRecDepth 20000 in
set_option maxHeartbeats 2000000 in
theorem ws70 {d : Nat} {j1 : Nat} (hj1 : j1 < 12) (i2 : Int32) {h : AH} {Q : Option Value → AH → Prop} (Ly : Lay h) (H : ∀ h1, h1 = am_si h 75 2 (0 : Int32) → am_in (i2 + (1 : Int32)) 5 ∧ ∃ b3, am_gr h1 (148 + 4 * j1) 1 = some b3 ∧ (100 ≤ am_kd h1 b3 ∧ am_kd h1 b3 ≤ 109) ∧ Cl d 265 [.int (am_gi h1 (151 + 4 * j1) (Int32.toNatClampNeg (i2 + (1 : Int32)))), .int (Int32.ofNat (am_ln h1 b3))] h1 (fun r7 h6 => ∃ x8, r7 = some (.int x8) ∧ Lay h6 ∧ am_in i2 5 ∧ Ev (d + 1) 70 30 [.ref 75, .ref (148 + 4 * j1), .null, .int x8, .int (am_gi h6 (151 + 4 * j1) (Int32.toNatClampNeg i2))] [] h6 Q)) : Cl (d + 1) 70 [.ref 75, .ref (148 + 4 * j1), .int i2] h Q := by
  show Ev (d + 1) 70 0 [.ref 75, .ref (148 + 4 * j1), .int i2, .null, .null] [] h Q
  refine ev_p (pc' := 2) (loc' := [.ref 75, .ref (148 + 4 * j1), .int i2, .null, .null]) (st' := [.int (0 : Int32), .ref 75]) 2 am_q70 rfl ?_
  refine ev_s (pc' := 5) (loc' := [.ref 75, .ref (148 + 4 * j1), .int i2, .null, .null]) (st' := []) (h1 := am_si h 75 2 (0 : Int32)) am_q70 rfl rfl rfl (if_pos (e := none) (lk75 Ly)) ?_
  replace H := H _ rfl
  replace Ly : Lay (am_si h 75 2 (0 : Int32)) := Ly.si _ _ _
  generalize am_si h 75 2 (0 : Int32) = h1 at H Ly ⊢
  refine ev_p (pc' := 6) (loc' := [.ref 75, .ref (148 + 4 * j1), .int i2, .null, .null]) (st' := [.ref (148 + 4 * j1)]) 1 am_q70 rfl ?_
  refine ev_s (pc' := 9) (loc' := [.ref 75, .ref (148 + 4 * j1), .int i2, .null, .null]) (st' := [.ref (151 + 4 * j1)]) (h1 := h1) am_q70 rfl rfl rfl (am_gf2 (lk_text Ly hj1) (lr_starts Ly hj1)) ?_
  refine ev_p (pc' := 12) (loc' := [.ref 75, .ref (148 + 4 * j1), .int i2, .null, .null]) (st' := [.int (i2 + (1 : Int32)), .ref (151 + 4 * j1)]) 3 am_q70 rfl ?_
  obtain ⟨g2, H⟩ := H
  refine ev_s (pc' := 13) (loc' := [.ref 75, .ref (148 + 4 * j1), .int i2, .null, .null]) (st' := [.int (am_gi h1 (151 + 4 * j1) (Int32.toNatClampNeg (i2 + (1 : Int32))))]) (h1 := h1) am_q70 rfl rfl rfl (am_xx (lk_starts Ly hj1) (am_inl (ln_starts Ly hj1) g2)) ?_
  refine ev_p (pc' := 14) (loc' := [.ref 75, .ref (148 + 4 * j1), .int i2, .null, .null]) (st' := [.ref (148 + 4 * j1), .int (am_gi h1 (151 + 4 * j1) (Int32.toNatClampNeg (i2 + (1 : Int32))))]) 1 am_q70 rfl ?_
  obtain ⟨b3, e4, H⟩ := H
  refine ev_s (pc' := 17) (loc' := [.ref 75, .ref (148 + 4 * j1), .int i2, .null, .null]) (st' := [.ref b3, .int (am_gi h1 (151 + 4 * j1) (Int32.toNatClampNeg (i2 + (1 : Int32))))]) (h1 := h1) am_q70 rfl rfl rfl (am_gf2 (lk_text Ly hj1) e4) ?_
  obtain ⟨g5, H⟩ := H
  refine ev_s (pc' := 18) (loc' := [.ref 75, .ref (148 + 4 * j1), .int i2, .null, .null]) (st' := [.int (Int32.ofNat (am_ln h1 b3)), .int (am_gi h1 (151 + 4 * j1) (Int32.toNatClampNeg (i2 + (1 : Int32))))]) (h1 := h1) am_q70 rfl rfl rfl (if_pos (e := none) g5) ?_
  refine ev_c (vs := [.int (am_gi h1 (151 + 4 * j1) (Int32.toNatClampNeg (i2 + (1 : Int32)))), .int (Int32.ofNat (am_ln h1 b3))]) (rest := []) 265 am_q70 rfl rfl rfl rfl rfl rfl rfl rfl rfl rfl rfl rfl (Or.inl rfl) (Cl.mono H (Nat.le_refl _) (fun r7 h6 H => ?_))
  obtain ⟨x8, rfl, Ly, H⟩ := H
  refine ev_p (pc' := 23) (loc' := [.ref 75, .ref (148 + 4 * j1), .int i2, .int x8, .null]) (st' := [.ref (148 + 4 * j1)]) 2 am_q70 rfl ?_
  refine ev_s (pc' := 26) (loc' := [.ref 75, .ref (148 + 4 * j1), .int i2, .int x8, .null]) (st' := [.ref (151 + 4 * j1)]) (h1 := h6) am_q70 rfl rfl rfl (am_gf2 (lk_text Ly hj1) (lr_starts Ly hj1)) ?_
  refine ev_p (pc' := 27) (loc' := [.ref 75, .ref (148 + 4 * j1), .int i2, .int x8, .null]) (st' := [.int i2, .ref (151 + 4 * j1)]) 1 am_q70 rfl ?_
  obtain ⟨g9, H⟩ := H
  refine ev_s (pc' := 28) (loc' := [.ref 75, .ref (148 + 4 * j1), .int i2, .int x8, .null]) (st' := [.int (am_gi h6 (151 + 4 * j1) (Int32.toNatClampNeg i2))]) (h1 := h6) am_q70 rfl rfl rfl (am_xx (lk_starts Ly hj1) (am_inl (ln_starts Ly hj1) g9)) ?_
  refine ev_p (pc' := 30) (loc' := [.ref 75, .ref (148 + 4 * j1), .int i2, .int x8, .int (am_gi h6 (151 + 4 * j1) (Int32.toNatClampNeg i2))]) (st' := []) 1 am_q70 rfl ?_
  exact ev_m (loc' := [.ref 75, .ref (148 + 4 * j1), .null, .int x8, .int (am_gi h6 (151 + 4 * j1) (Int32.toNatClampNeg i2))]) am_q70 rfl rfl H
set_option maxRecDepth 20000 in
set_option maxHeartbeats 2000000 in
theorem ws70_30 {d : Nat} {j1 : Nat} (hj1 : j1 < 12) (i3 : Int32) (i4 : Int32) {h : AH} {Q : Option Value → AH → Prop} (Ly : Lay h) (H : (i3 ≤ i4 → Cl d 74 [.ref 75] h (fun r2 h1 => ∃ y3, r2 = some (.long y3) ∧ Lay h1 ∧ Q (some (.long y3)) h1)) ∧ (¬ i3 ≤ i4 → ∃ b4, am_gr h (148 + 4 * j1) 1 = some b4 ∧ am_kd h b4 = 100 ∧ am_in i4 (am_ln h b4) ∧ Cl d 71 [.ref 75, .int (am_gi h b4 (Int32.toNatClampNeg i4))] h (fun r9 h8 => r9 = none ∧ Lay h8 ∧ Ev (d + 1) 70 30 [.ref 75, .ref (148 + 4 * j1), .null, .int i3, .int (i4 + (1 : Int32))] [] h8 Q))) : Ev (d + 1) 70 30 [.ref 75, .ref (148 + 4 * j1), .null, .int i3, .int i4] [] h Q := by
  refine ev_p (pc' := 33) (loc' := [.ref 75, .ref (148 + 4 * j1), .null, .int i3, .int i4]) (st' := [.int i3, .int i4]) 2 am_q70 rfl ?_
  refine ev_jc (t := 53) am_q70 rfl rfl (fun hq => ?_) (fun hq => ?_)
  · replace H := H.1 hq
    refine ev_p (pc' := 54) (loc' := [.ref 75, .ref (148 + 4 * j1), .null, .int i3, .int i4]) (st' := [.ref 75]) 1 am_q70 rfl ?_
    refine ev_c (vs := [.ref 75]) (rest := []) 74 am_q70 rfl rfl rfl rfl rfl rfl rfl rfl rfl rfl rfl rfl (Or.inr (congrArg some (lk75 Ly))) (Cl.mono H (Nat.le_refl _) (fun r2 h1 H => ?_))
    obtain ⟨y3, rfl, Ly, H⟩ := H
    exact ev_r (v := some (.long y3)) am_q70 rfl rfl rfl rfl H
  · replace H := H.2 hq
    refine ev_p (pc' := 38) (loc' := [.ref 75, .ref (148 + 4 * j1), .null, .int i3, .int i4]) (st' := [.ref (148 + 4 * j1), .ref 75]) 2 am_q70 rfl ?_
    obtain ⟨b4, e5, H⟩ := H
    refine ev_s (pc' := 41) (loc' := [.ref 75, .ref (148 + 4 * j1), .null, .int i3, .int i4]) (st' := [.ref b4, .ref 75]) (h1 := h) am_q70 rfl rfl rfl (am_gf2 (lk_text Ly hj1) e5) ?_
    refine ev_p (pc' := 43) (loc' := [.ref 75, .ref (148 + 4 * j1), .null, .int i3, .int i4]) (st' := [.int i4, .ref b4, .ref 75]) 1 am_q70 rfl ?_
    obtain ⟨g6, g7, H⟩ := H
    refine ev_s (pc' := 44) (loc' := [.ref 75, .ref (148 + 4 * j1), .null, .int i3, .int i4]) (st' := [.int (am_gi h b4 (Int32.toNatClampNeg i4)), .ref 75]) (h1 := h) am_q70 rfl rfl rfl (am_xx g6 g7) ?_
    refine ev_c (vs := [.ref 75, .int (am_gi h b4 (Int32.toNatClampNeg i4))]) (rest := []) 71 am_q70 rfl rfl rfl rfl rfl rfl rfl rfl rfl rfl rfl rfl (Or.inr (congrArg some (lk75 Ly))) (Cl.mono H (Nat.le_refl _) (fun r9 h8 H => ?_))
    obtain ⟨rfl, Ly, H⟩ := H
    refine ev_p (pc' := 30) (loc' := [.ref 75, .ref (148 + 4 * j1), .null, .int i3, .int (i4 + (1 : Int32))]) (st' := []) 2 am_q70 rfl ?_
    exact ev_m (loc' := [.ref 75, .ref (148 + 4 * j1), .null, .int i3, .int (i4 + (1 : Int32))]) am_q70 rfl rfl H
/-! 71: X8_step -/
set_option maxRecDepth 20000 in
set_option maxHeartbeats 2000000 in
theorem ws71 {d : Nat}  (i1 : Int32) {h : AH} {Q : Option Value → AH → Prop} (Ly : Lay h) (H : (i1 < (0 : Int32) → ((8 : Int32) ≤ ((-1 : Int32) - i1) → ((¬ i1 = (-29 : Int32)) → ((¬ i1 = (-23 : Int32)) → Cl d 74 [.ref 75] h (fun r2 h1 => ∃ y3, r2 = some (.long y3) ∧ Lay h1 ∧ Cl d 74 [.ref 75] h1 (fun r5 h4 => ∃ y6, r5 = some (.long y6) ∧ Lay h4 ∧ Cl d 72 [.int i1, .long y6, .long y3] h4 (fun r8 h7 => ∃ y9, r8 = some (.long y9) ∧ Lay h7 ∧ Cl d 73 [.ref 75, .long y9] h7 (fun r11 h10 => r11 = none ∧ Lay h10 ∧ Q none h10))))) ∧ (¬ (¬ i1 = (-23 : Int32)) → Cl d 74 [.ref 75] h (fun r13 h12 => ∃ y14, r13 = some (.long y14) ∧ Lay h12 ∧ ((¬ (lg_cmp y14 (0 : Int64)) = (0 : Int32)) → Cl d 73 [.ref 75, .long (0 : Int64)] h12 (fun r16 h15 => r16 = none ∧ Lay h15 ∧ Q none h15)) ∧ (¬ (¬ (lg_cmp y14 (0 : Int64)) = (0 : Int32)) → Cl d 73 [.ref 75, .long (1 : Int64)] h12 (fun r18 h17 => r18 = none ∧ Lay h17 ∧ Q none h17))))) ∧ (¬ (¬ i1 = (-29 : Int32)) → Cl d 74 [.ref 75] h (fun r20 h19 => ∃ y21, r20 = some (.long y21) ∧ Lay h19 ∧ Cl d 73 [.ref 75, .long (-y21)] h19 (fun r23 h22 => r23 = none ∧ Lay h22 ∧ Q none h22)))) ∧ (¬ (8 : Int32) ≤ ((-1 : Int32) - i1) → am_in ((-1 : Int32) - i1) 8 ∧ Cl d 73 [.ref 75, .long (am_gl h 76 (Int32.toNatClampNeg ((-1 : Int32) - i1)))] h (fun r26 h25 => r26 = none ∧ Lay h25 ∧ Q none h25))) ∧ (¬ i1 < (0 : Int32) → Cl d 73 [.ref 75, .long (Int32.toInt64 i1)] h (fun r28 h27 => r28 = none ∧ Lay h27 ∧ Q none h27))) : Cl (d + 1) 71 [.ref 75, .int i1] h Q := by
  show Ev (d + 1) 71 0 [.ref 75, .int i1, .null, .null] [] h Q
  refine ev_p (pc' := 1) (loc' := [.ref 75, .int i1, .null, .null]) (st' := [.int i1]) 1 am_q71 rfl ?_
  refine ev_jz (t := 13) am_q71 rfl rfl (fun hq => ?_) (fun hq => ?_)
  · replace H := H.1 hq
    refine ev_p (pc' := 18) (loc' := [.ref 75, .int i1, .null, .null]) (st' := [.int (8 : Int32), .int ((-1 : Int32) - i1)]) 4 am_q71 rfl ?_
    refine ev_jc (t := 36) am_q71 rfl rfl (fun hq => ?_) (fun hq => ?_)
    · replace H := H.1 hq
      refine ev_p (pc' := 39) (loc' := [.ref 75, .int i1, .null, .null]) (st' := [.int (-29 : Int32), .int i1]) 2 am_q71 rfl ?_
      refine ev_jc (t := 54) am_q71 rfl rfl (fun hq => ?_) (fun hq => ?_)
      · replace H := H.1 hq
        refine ev_p (pc' := 57) (loc' := [.ref 75, .int i1, .null, .null]) (st' := [.int (-23 : Int32), .int i1]) 2 am_q71 rfl ?_
        refine ev_jc (t := 81) am_q71 rfl rfl (fun hq => ?_) (fun hq => ?_)
        · replace H := H.1 hq
          refine ev_p (pc' := 82) (loc' := [.ref 75, .int i1, .null, .null]) (st' := [.ref 75]) 1 am_q71 rfl ?_
          refine ev_c (vs := [.ref 75]) (rest := []) 74 am_q71 rfl rfl rfl rfl rfl rfl rfl rfl rfl rfl rfl rfl (Or.inr (congrArg some (lk75 Ly))) (Cl.mono H (Nat.le_refl _) (fun r2 h1 H => ?_))
          obtain ⟨y3, rfl, Ly, H⟩ := H
          refine ev_p (pc' := 89) (loc' := [.ref 75, .int i1, .long y3, .null]) (st' := [.ref 75, .int i1, .ref 75]) 4 am_q71 rfl ?_
          refine ev_c (vs := [.ref 75]) (rest := [.int i1, .ref 75]) 74 am_q71 rfl rfl rfl rfl rfl rfl rfl rfl rfl rfl rfl rfl (Or.inr (congrArg some (lk75 Ly))) (Cl.mono H (Nat.le_refl _) (fun r5 h4 H => ?_))
          obtain ⟨y6, rfl, Ly, H⟩ := H
          refine ev_p (pc' := 93) (loc' := [.ref 75, .int i1, .long y3, .null]) (st' := [.long y3, .long y6, .int i1, .ref 75]) 1 am_q71 rfl ?_
          refine ev_c (vs := [.int i1, .long y6, .long y3]) (rest := [.ref 75]) 72 am_q71 rfl rfl rfl rfl rfl rfl rfl rfl rfl rfl rfl rfl (Or.inl rfl) (Cl.mono H (Nat.le_refl _) (fun r8 h7 H => ?_))
          obtain ⟨y9, rfl, Ly, H⟩ := H
          refine ev_c (vs := [.ref 75, .long y9]) (rest := []) 73 am_q71 rfl rfl rfl rfl rfl rfl rfl rfl rfl rfl rfl rfl (Or.inr (congrArg some (lk75 Ly))) (Cl.mono H (Nat.le_refl _) (fun r11 h10 H => ?_))
          obtain ⟨rfl, Ly, H⟩ := H
          exact ev_r (v := none) am_q71 rfl rfl rfl rfl H
        · replace H := H.2 hq
          refine ev_p (pc' := 62) (loc' := [.ref 75, .int i1, .null, .null]) (st' := [.ref 75, .ref 75]) 2 am_q71 rfl ?_
          refine ev_c (vs := [.ref 75]) (rest := [.ref 75]) 74 am_q71 rfl rfl rfl rfl rfl rfl rfl rfl rfl rfl rfl rfl (Or.inr (congrArg some (lk75 Ly))) (Cl.mono H (Nat.le_refl _) (fun r13 h12 H => ?_))
          obtain ⟨y14, rfl, Ly, H⟩ := H
          refine ev_p (pc' := 67) (loc' := [.ref 75, .int i1, .null, .null]) (st' := [.int (lg_cmp y14 (0 : Int64)), .ref 75]) 2 am_q71 rfl ?_
          refine ev_jz (t := 74) am_q71 rfl rfl (fun hq => ?_) (fun hq => ?_)
          · replace H := H.1 hq
            refine ev_p (pc' := 75) (loc' := [.ref 75, .int i1, .null, .null]) (st' := [.long (0 : Int64), .ref 75]) 1 am_q71 rfl ?_
            refine ev_c (vs := [.ref 75, .long (0 : Int64)]) (rest := []) 73 am_q71 rfl rfl rfl rfl rfl rfl rfl rfl rfl rfl rfl rfl (Or.inr (congrArg some (lk75 Ly))) (Cl.mono H (Nat.le_refl _) (fun r16 h15 H => ?_))
            obtain ⟨rfl, Ly, H⟩ := H
            refine ev_p (pc' := 99) (loc' := [.null, .null, .null, .null]) (st' := []) 1 am_q71 rfl ?_
            exact ev_r (v := none) am_q71 rfl rfl rfl rfl H
          · replace H := H.2 hq
            refine ev_p (pc' := 75) (loc' := [.ref 75, .int i1, .null, .null]) (st' := [.long (1 : Int64), .ref 75]) 2 am_q71 rfl ?_
            refine ev_c (vs := [.ref 75, .long (1 : Int64)]) (rest := []) 73 am_q71 rfl rfl rfl rfl rfl rfl rfl rfl rfl rfl rfl rfl (Or.inr (congrArg some (lk75 Ly))) (Cl.mono H (Nat.le_refl _) (fun r18 h17 H => ?_))
            obtain ⟨rfl, Ly, H⟩ := H
            refine ev_p (pc' := 99) (loc' := [.null, .null, .null, .null]) (st' := []) 1 am_q71 rfl ?_
            exact ev_r (v := none) am_q71 rfl rfl rfl rfl H
      · replace H := H.2 hq
        refine ev_p (pc' := 44) (loc' := [.ref 75, .int i1, .null, .null]) (st' := [.ref 75, .ref 75]) 2 am_q71 rfl ?_
        refine ev_c (vs := [.ref 75]) (rest := [.ref 75]) 74 am_q71 rfl rfl rfl rfl rfl rfl rfl rfl rfl rfl rfl rfl (Or.inr (congrArg some (lk75 Ly))) (Cl.mono H (Nat.le_refl _) (fun r20 h19 H => ?_))
        obtain ⟨y21, rfl, Ly, H⟩ := H
        refine ev_p (pc' := 48) (loc' := [.ref 75, .int i1, .null, .null]) (st' := [.long (-y21), .ref 75]) 1 am_q71 rfl ?_
        refine ev_c (vs := [.ref 75, .long (-y21)]) (rest := []) 73 am_q71 rfl rfl rfl rfl rfl rfl rfl rfl rfl rfl rfl rfl (Or.inr (congrArg some (lk75 Ly))) (Cl.mono H (Nat.le_refl _) (fun r23 h22 H => ?_))
        obtain ⟨rfl, Ly, H⟩ := H
        refine ev_p (pc' := 99) (loc' := [.ref 75, .int i1, .null, .null]) (st' := []) 1 am_q71 rfl ?_
        exact ev_r (v := none) am_q71 rfl rfl rfl rfl H
    · replace H := H.2 hq
      refine ev_p (pc' := 23) (loc' := [.ref 75, .int i1, .null, .null]) (st' := [.ref 75, .ref 75]) 2 am_q71 rfl ?_
      refine ev_s (pc' := 26) (loc' := [.ref 75, .int i1, .null, .null]) (st' := [.ref 76, .ref 75]) (h1 := h) am_q71 rfl rfl rfl (am_gf2 (lk75 Ly) (lr75_0 Ly)) ?_
      refine ev_p (pc' := 29) (loc' := [.ref 75, .int i1, .null, .null]) (st' := [.int ((-1 : Int32) - i1), .ref 76, .ref 75]) 3 am_q71 rfl ?_
      obtain ⟨g24, H⟩ := H
      refine ev_s (pc' := 30) (loc' := [.ref 75, .int i1, .null, .null]) (st' := [.long (am_gl h 76 (Int32.toNatClampNeg ((-1 : Int32) - i1))), .ref 75]) (h1 := h) am_q71 rfl rfl rfl (am_xx (lk76 Ly) (am_inl (ln76 Ly) g24)) ?_
      refine ev_c (vs := [.ref 75, .long (am_gl h 76 (Int32.toNatClampNeg ((-1 : Int32) - i1)))]) (rest := []) 73 am_q71 rfl rfl rfl rfl rfl rfl rfl rfl rfl rfl rfl rfl (Or.inr (congrArg some (lk75 Ly))) (Cl.mono H (Nat.le_refl _) (fun r26 h25 H => ?_))
      obtain ⟨rfl, Ly, H⟩ := H
      refine ev_p (pc' := 99) (loc' := [.ref 75, .int i1, .null, .null]) (st' := []) 1 am_q71 rfl ?_
      exact ev_r (v := none) am_q71 rfl rfl rfl rfl H
  · replace H := H.2 hq
    refine ev_p (pc' := 7) (loc' := [.ref 75, .int i1, .null, .null]) (st' := [.long (Int32.toInt64 i1), .ref 75]) 3 am_q71 rfl ?_
    refine ev_c (vs := [.ref 75, .long (Int32.toInt64 i1)]) (rest := []) 73 am_q71 rfl rfl rfl rfl rfl rfl rfl rfl rfl rfl rfl rfl (Or.inr (congrArg some (lk75 Ly))) (Cl.mono H (Nat.le_refl _) (fun r28 h27 H => ?_))
    obtain ⟨rfl, Ly, H⟩ := H
    refine ev_p (pc' := 99) (loc' := [.ref 75, .int i1, .null, .null]) (st' := []) 1 am_q71 rfl ?_
    exact ev_r (v := none) am_q71 rfl rfl rfl rfl H
/-! 72: X8_joined -/
set_option maxRecDepth 20000 in
set_option maxHeartbeats 2000000 in
theorem ws72 {d : Nat}  (i0 : Int32) (l1 : Int64) (l3 : Int64) {h : AH} {Q : Option Value → AH → Prop} (Ly : Lay h) (H : (i0 = (-27 : Int32) → Q (some (.long (l1 - l3))) h) ∧ (i0 = (-26 : Int32) → Q (some (.long (l1 + l3))) h) ∧ (i0 = (-25 : Int32) → ((¬ (lg_cmp l1 l3) = (0 : Int32)) → Q (some (.long (0 : Int64))) h) ∧ (¬ (¬ (lg_cmp l1 l3) = (0 : Int32)) → Q (some (.long (1 : Int64))) h)) ∧ (i0 = (-24 : Int32) → ((0 : Int32) ≤ (lg_cmp l1 l3) → Q (some (.long (0 : Int64))) h) ∧ (¬ (0 : Int32) ≤ (lg_cmp l1 l3) → Q (some (.long (1 : Int64))) h)) ∧ (i0 = (-23 : Int32) → Q (some (.long (l1 * l3))) h) ∧ (i0 = (-22 : Int32) → ((lg_cmp l1 (0 : Int64)) = (0 : Int32) → Q (some (.long (0 : Int64))) h) ∧ (¬ (lg_cmp l1 (0 : Int64)) = (0 : Int32) → ((lg_cmp l3 (0 : Int64)) = (0 : Int32) → Q (some (.long (0 : Int64))) h) ∧ (¬ (lg_cmp l3 (0 : Int64)) = (0 : Int32) → Q (some (.long (1 : Int64))) h))) ∧ (i0 = (-21 : Int32) → ((¬ (lg_cmp l1 (0 : Int64)) = (0 : Int32)) → Q (some (.long (1 : Int64))) h) ∧ (¬ (¬ (lg_cmp l1 (0 : Int64)) = (0 : Int32)) → ((lg_cmp l3 (0 : Int64)) = (0 : Int32) → Q (some (.long (0 : Int64))) h) ∧ (¬ (lg_cmp l3 (0 : Int64)) = (0 : Int32) → Q (some (.long (1 : Int64))) h))) ∧ (¬ i0 = (-27 : Int32) ∧ ¬ i0 = (-26 : Int32) ∧ ¬ i0 = (-25 : Int32) ∧ ¬ i0 = (-24 : Int32) ∧ ¬ i0 = (-23 : Int32) ∧ ¬ i0 = (-22 : Int32) ∧ ¬ i0 = (-21 : Int32) → Q (some (.long (l1 * l3))) h)) : Cl d 72 [.int i0, .long l1, .long l3] h Q := by
  show Ev d 72 0 [.int i0, .long l1, .null, .long l3, .null] [] h Q
  refine ev_p (pc' := 1) (loc' := [.int i0, .long l1, .null, .long l3, .null]) (st' := [.int i0]) 1 am_q72 rfl ?_
  by_cases k1 : i0 = (-27 : Int32)
  · replace H := H.1 k1
    refine ev_s (pc' := 108) (loc' := [.int i0, .long l1, .null, .long l3, .null]) (st' := []) (h1 := h) am_q72 rfl rfl rfl (by rw [k1]; rfl) ?_
    refine ev_p (pc' := 111) (loc' := [.int i0, .long l1, .null, .long l3, .null]) (st' := [.long (l1 - l3)]) 3 am_q72 rfl ?_
    exact ev_r (v := some (.long (l1 - l3))) am_q72 rfl rfl rfl rfl H
  replace H := H.2
  by_cases k2 : i0 = (-26 : Int32)
  · replace H := H.1 k2
    refine ev_s (pc' := 104) (loc' := [.int i0, .long l1, .null, .long l3, .null]) (st' := []) (h1 := h) am_q72 rfl rfl rfl (by rw [k2]; rfl) ?_
    refine ev_p (pc' := 107) (loc' := [.int i0, .long l1, .null, .long l3, .null]) (st' := [.long (l1 + l3)]) 3 am_q72 rfl ?_
    exact ev_r (v := some (.long (l1 + l3))) am_q72 rfl rfl rfl rfl H
  replace H := H.2
  by_cases k3 : i0 = (-25 : Int32)
  · replace H := H.1 k3
    refine ev_s (pc' := 92) (loc' := [.int i0, .long l1, .null, .long l3, .null]) (st' := []) (h1 := h) am_q72 rfl rfl rfl (by rw [k3]; rfl) ?_
    refine ev_p (pc' := 95) (loc' := [.int i0, .long l1, .null, .long l3, .null]) (st' := [.int (lg_cmp l1 l3)]) 3 am_q72 rfl ?_
    refine ev_jz (t := 102) am_q72 rfl rfl (fun hq => ?_) (fun hq => ?_)
    · replace H := H.1 hq
      refine ev_p (pc' := 103) (loc' := [.int i0, .long l1, .null, .long l3, .null]) (st' := [.long (0 : Int64)]) 1 am_q72 rfl ?_
      exact ev_r (v := some (.long (0 : Int64))) am_q72 rfl rfl rfl rfl H
    · replace H := H.2 hq
      refine ev_p (pc' := 103) (loc' := [.int i0, .long l1, .null, .long l3, .null]) (st' := [.long (1 : Int64)]) 2 am_q72 rfl ?_
      exact ev_r (v := some (.long (1 : Int64))) am_q72 rfl rfl rfl rfl H
  replace H := H.2
  by_cases k4 : i0 = (-24 : Int32)
  · replace H := H.1 k4
    refine ev_s (pc' := 80) (loc' := [.int i0, .long l1, .null, .long l3, .null]) (st' := []) (h1 := h) am_q72 rfl rfl rfl (by rw [k4]; rfl) ?_
    refine ev_p (pc' := 83) (loc' := [.int i0, .long l1, .null, .long l3, .null]) (st' := [.int (lg_cmp l1 l3)]) 3 am_q72 rfl ?_
    refine ev_jz (t := 90) am_q72 rfl rfl (fun hq => ?_) (fun hq => ?_)
    · replace H := H.1 hq
      refine ev_p (pc' := 91) (loc' := [.int i0, .long l1, .null, .long l3, .null]) (st' := [.long (0 : Int64)]) 1 am_q72 rfl ?_
      exact ev_r (v := some (.long (0 : Int64))) am_q72 rfl rfl rfl rfl H
    · replace H := H.2 hq
      refine ev_p (pc' := 91) (loc' := [.int i0, .long l1, .null, .long l3, .null]) (st' := [.long (1 : Int64)]) 2 am_q72 rfl ?_
      exact ev_r (v := some (.long (1 : Int64))) am_q72 rfl rfl rfl rfl H
  replace H := H.2
  by_cases k5 : i0 = (-23 : Int32)
  · replace H := H.1 k5
    refine ev_s (pc' := 112) (loc' := [.int i0, .long l1, .null, .long l3, .null]) (st' := []) (h1 := h) am_q72 rfl rfl rfl (by rw [k5]; rfl) ?_
    refine ev_p (pc' := 115) (loc' := [.int i0, .long l1, .null, .long l3, .null]) (st' := [.long (l1 * l3)]) 3 am_q72 rfl ?_
    exact ev_r (v := some (.long (l1 * l3))) am_q72 rfl rfl rfl rfl H
  replace H := H.2
  by_cases k6 : i0 = (-22 : Int32)
  · replace H := H.1 k6
    refine ev_s (pc' := 62) (loc' := [.int i0, .long l1, .null, .long l3, .null]) (st' := []) (h1 := h) am_q72 rfl rfl rfl (by rw [k6]; rfl) ?_
    refine ev_p (pc' := 65) (loc' := [.int i0, .long l1, .null, .long l3, .null]) (st' := [.int (lg_cmp l1 (0 : Int64))]) 3 am_q72 rfl ?_
    refine ev_jz (t := 78) am_q72 rfl rfl (fun hq => ?_) (fun hq => ?_)
    · replace H := H.1 hq
      refine ev_p (pc' := 79) (loc' := [.null, .null, .null, .null, .null]) (st' := [.long (0 : Int64)]) 1 am_q72 rfl ?_
      exact ev_r (v := some (.long (0 : Int64))) am_q72 rfl rfl rfl rfl H
    · replace H := H.2 hq
      refine ev_p (pc' := 71) (loc' := [.int i0, .long l1, .null, .long l3, .null]) (st' := [.int (lg_cmp l3 (0 : Int64))]) 3 am_q72 rfl ?_
      refine ev_jz (t := 78) am_q72 rfl rfl (fun hq => ?_) (fun hq => ?_)
      · replace H := H.1 hq
        refine ev_p (pc' := 79) (loc' := [.null, .null, .null, .null, .null]) (st' := [.long (0 : Int64)]) 1 am_q72 rfl ?_
        exact ev_r (v := some (.long (0 : Int64))) am_q72 rfl rfl rfl rfl H
      · replace H := H.2 hq
        refine ev_p (pc' := 79) (loc' := [.int i0, .long l1, .null, .long l3, .null]) (st' := [.long (1 : Int64)]) 2 am_q72 rfl ?_
        exact ev_r (v := some (.long (1 : Int64))) am_q72 rfl rfl rfl rfl H
  replace H := H.2
  by_cases k7 : i0 = (-21 : Int32)
  · replace H := H.1 k7
    refine ev_s (pc' := 44) (loc' := [.int i0, .long l1, .null, .long l3, .null]) (st' := []) (h1 := h) am_q72 rfl rfl rfl (by rw [k7]; rfl) ?_
    refine ev_p (pc' := 47) (loc' := [.int i0, .long l1, .null, .long l3, .null]) (st' := [.int (lg_cmp l1 (0 : Int64))]) 3 am_q72 rfl ?_
    refine ev_jz (t := 56) am_q72 rfl rfl (fun hq => ?_) (fun hq => ?_)
    · replace H := H.1 hq
      refine ev_p (pc' := 61) (loc' := [.null, .null, .null, .null, .null]) (st' := [.long (1 : Int64)]) 2 am_q72 rfl ?_
      exact ev_r (v := some (.long (1 : Int64))) am_q72 rfl rfl rfl rfl H
    · replace H := H.2 hq
      refine ev_p (pc' := 53) (loc' := [.int i0, .long l1, .null, .long l3, .null]) (st' := [.int (lg_cmp l3 (0 : Int64))]) 3 am_q72 rfl ?_
      refine ev_jz (t := 60) am_q72 rfl rfl (fun hq => ?_) (fun hq => ?_)
      · replace H := H.1 hq
        refine ev_p (pc' := 61) (loc' := [.int i0, .long l1, .null, .long l3, .null]) (st' := [.long (0 : Int64)]) 1 am_q72 rfl ?_
        exact ev_r (v := some (.long (0 : Int64))) am_q72 rfl rfl rfl rfl H
      · replace H := H.2 hq
        refine ev_p (pc' := 61) (loc' := [.null, .null, .null, .null, .null]) (st' := [.long (1 : Int64)]) 2 am_q72 rfl ?_
        exact ev_r (v := some (.long (1 : Int64))) am_q72 rfl rfl rfl rfl H
  replace H := H.2
  replace H := H ⟨k1, k2, k3, k4, k5, k6, k7⟩
  refine ev_s (pc' := 112) (loc' := [.int i0, .long l1, .null, .long l3, .null]) (st' := []) (h1 := h) am_q72 rfl rfl rfl (am_tso (x := (i0).toInt) (by have z0 : (i0).toInt ≠ -27 := am_tn k1 (by decide); have z1 : (i0).toInt ≠ -26 := am_tn k2 (by decide); have z2 : (i0).toInt ≠ -25 := am_tn k3 (by decide); have z3 : (i0).toInt ≠ -24 := am_tn k4 (by decide); have z4 : (i0).toInt ≠ -23 := am_tn k5 (by decide); have z5 : (i0).toInt ≠ -22 := am_tn k6 (by decide); have z6 : (i0).toInt ≠ -21 := am_tn k7 (by decide); omega)) ?_
  refine ev_p (pc' := 115) (loc' := [.int i0, .long l1, .null, .long l3, .null]) (st' := [.long (l1 * l3)]) 3 am_q72 rfl ?_
  exact ev_r (v := some (.long (l1 * l3))) am_q72 rfl rfl rfl rfl H
/-! 73: X8_push -/
set_option maxRecDepth 20000 in
set_option maxHeartbeats 2000000 in
theorem ws73 {d : Nat}  (l1 : Int64) {h : AH} {Q : Option Value → AH → Prop} (Ly : Lay h) (H : ((64 : Int32) ≤ (am_gi h 75 2) → Q none h) ∧ (¬ (64 : Int32) ≤ (am_gi h 75 2) → am_in (am_gi h 75 2) 64 ∧ ∀ h2, h2 = am_sl h 77 (Int32.toNatClampNeg (am_gi h 75 2)) l1 → ∀ h3, h3 = am_si h2 75 2 ((am_gi h2 75 2) + (1 : Int32)) → Q none h3)) : Cl d 73 [.ref 75, .long l1] h Q := by
  show Ev d 73 0 [.ref 75, .long l1, .null] [] h Q
  refine ev_p (pc' := 1) (loc' := [.ref 75, .long l1, .null]) (st' := [.ref 75]) 1 am_q73 rfl ?_
  refine ev_s (pc' := 4) (loc' := [.ref 75, .long l1, .null]) (st' := [.int (am_gi h 75 2)]) (h1 := h) am_q73 rfl rfl rfl (if_pos (e := none) (lk75 Ly)) ?_
  refine ev_p (pc' := 6) (loc' := [.ref 75, .long l1, .null]) (st' := [.int (64 : Int32), .int (am_gi h 75 2)]) 1 am_q73 rfl ?_
  refine ev_jc (t := 29) am_q73 rfl rfl (fun hq => ?_) (fun hq => ?_)
  · replace H := H.1 hq
    exact ev_r (v := none) am_q73 rfl rfl rfl rfl H
  · replace H := H.2 hq
    refine ev_p (pc' := 10) (loc' := [.ref 75, .long l1, .null]) (st' := [.ref 75]) 1 am_q73 rfl ?_
    refine ev_s (pc' := 13) (loc' := [.ref 75, .long l1, .null]) (st' := [.ref 77]) (h1 := h) am_q73 rfl rfl rfl (am_gf2 (lk75 Ly) (lr75_1 Ly)) ?_
    refine ev_p (pc' := 14) (loc' := [.ref 75, .long l1, .null]) (st' := [.ref 75, .ref 77]) 1 am_q73 rfl ?_
    refine ev_s (pc' := 17) (loc' := [.ref 75, .long l1, .null]) (st' := [.int (am_gi h 75 2), .ref 77]) (h1 := h) am_q73 rfl rfl rfl (if_pos (e := none) (lk75 Ly)) ?_
    refine ev_p (pc' := 18) (loc' := [.ref 75, .long l1, .null]) (st' := [.long l1, .int (am_gi h 75 2), .ref 77]) 1 am_q73 rfl ?_
    obtain ⟨g1, H⟩ := H
    refine ev_s (pc' := 19) (loc' := [.ref 75, .long l1, .null]) (st' := []) (h1 := am_sl h 77 (Int32.toNatClampNeg (am_gi h 75 2)) l1) am_q73 rfl rfl rfl (am_xx (lk77 Ly) (am_inl (ln77 Ly) g1)) ?_
    replace H := H _ rfl
    replace Ly : Lay (am_sl h 77 (Int32.toNatClampNeg (am_gi h 75 2)) l1) := Ly.sl _ _ _
    generalize am_sl h 77 (Int32.toNatClampNeg (am_gi h 75 2)) l1 = h2 at H Ly ⊢
    refine ev_p (pc' := 21) (loc' := [.ref 75, .long l1, .null]) (st' := [.ref 75, .ref 75]) 2 am_q73 rfl ?_
    refine ev_s (pc' := 24) (loc' := [.ref 75, .long l1, .null]) (st' := [.int (am_gi h2 75 2), .ref 75]) (h1 := h2) am_q73 rfl rfl rfl (if_pos (e := none) (lk75 Ly)) ?_
    refine ev_p (pc' := 26) (loc' := [.ref 75, .long l1, .null]) (st' := [.int ((am_gi h2 75 2) + (1 : Int32)), .ref 75]) 2 am_q73 rfl ?_
    refine ev_s (pc' := 29) (loc' := [.ref 75, .long l1, .null]) (st' := []) (h1 := am_si h2 75 2 ((am_gi h2 75 2) + (1 : Int32))) am_q73 rfl rfl rfl (if_pos (e := none) (lk75 Ly)) ?_
    replace H := H _ rfl
    replace Ly : Lay (am_si h2 75 2 ((am_gi h2 75 2) + (1 : Int32))) := Ly.si _ _ _
    generalize am_si h2 75 2 ((am_gi h2 75 2) + (1 : Int32)) = h3 at H Ly ⊢
    exact ev_r (v := none) am_q73 rfl rfl rfl rfl H
/-! 74: X8_pop -/
set_option maxRecDepth 20000 in
set_option maxHeartbeats 2000000 in
theorem ws74 {d : Nat}   {h : AH} {Q : Option Value → AH → Prop} (Ly : Lay h) (H : ((1 : Int32) ≤ (am_gi h 75 2) → ∀ h1, h1 = am_si h 75 2 ((am_gi h 75 2) - (1 : Int32)) → am_in (am_gi h1 75 2) 64 ∧ Q (some (.long (am_gl h1 77 (Int32.toNatClampNeg (am_gi h1 75 2))))) h1) ∧ (¬ (1 : Int32) ≤ (am_gi h 75 2) → Q (some (.long (0 : Int64))) h)) : Cl d 74 [.ref 75] h Q := by
  show Ev d 74 0 [.ref 75] [] h Q
  refine ev_p (pc' := 1) (loc' := [.ref 75]) (st' := [.ref 75]) 1 am_q74 rfl ?_
  refine ev_s (pc' := 4) (loc' := [.ref 75]) (st' := [.int (am_gi h 75 2)]) (h1 := h) am_q74 rfl rfl rfl (if_pos (e := none) (lk75 Ly)) ?_
  refine ev_p (pc' := 5) (loc' := [.ref 75]) (st' := [.int (1 : Int32), .int (am_gi h 75 2)]) 1 am_q74 rfl ?_
  refine ev_jc (t := 10) am_q74 rfl rfl (fun hq => ?_) (fun hq => ?_)
  · replace H := H.1 hq
    refine ev_p (pc' := 12) (loc' := [.ref 75]) (st' := [.ref 75, .ref 75]) 2 am_q74 rfl ?_
    refine ev_s (pc' := 15) (loc' := [.ref 75]) (st' := [.int (am_gi h 75 2), .ref 75]) (h1 := h) am_q74 rfl rfl rfl (if_pos (e := none) (lk75 Ly)) ?_
    refine ev_p (pc' := 17) (loc' := [.ref 75]) (st' := [.int ((am_gi h 75 2) - (1 : Int32)), .ref 75]) 2 am_q74 rfl ?_
    refine ev_s (pc' := 20) (loc' := [.ref 75]) (st' := []) (h1 := am_si h 75 2 ((am_gi h 75 2) - (1 : Int32))) am_q74 rfl rfl rfl (if_pos (e := none) (lk75 Ly)) ?_
    replace H := H _ rfl
    replace Ly : Lay (am_si h 75 2 ((am_gi h 75 2) - (1 : Int32))) := Ly.si _ _ _
    generalize am_si h 75 2 ((am_gi h 75 2) - (1 : Int32)) = h1 at H Ly ⊢
    refine ev_p (pc' := 21) (loc' := [.ref 75]) (st' := [.ref 75]) 1 am_q74 rfl ?_
    refine ev_s (pc' := 24) (loc' := [.ref 75]) (st' := [.ref 77]) (h1 := h1) am_q74 rfl rfl rfl (am_gf2 (lk75 Ly) (lr75_1 Ly)) ?_
    refine ev_p (pc' := 25) (loc' := [.ref 75]) (st' := [.ref 75, .ref 77]) 1 am_q74 rfl ?_
    refine ev_s (pc' := 28) (loc' := [.ref 75]) (st' := [.int (am_gi h1 75 2), .ref 77]) (h1 := h1) am_q74 rfl rfl rfl (if_pos (e := none) (lk75 Ly)) ?_
    obtain ⟨g2, H⟩ := H
    refine ev_s (pc' := 29) (loc' := [.ref 75]) (st' := [.long (am_gl h1 77 (Int32.toNatClampNeg (am_gi h1 75 2)))]) (h1 := h1) am_q74 rfl rfl rfl (am_xx (lk77 Ly) (am_inl (ln77 Ly) g2)) ?_
    exact ev_r (v := some (.long (am_gl h1 77 (Int32.toNatClampNeg (am_gi h1 75 2))))) am_q74 rfl rfl rfl rfl H
  · replace H := H.2 hq
    refine ev_p (pc' := 9) (loc' := [.ref 75]) (st' := [.long (0 : Int64)]) 1 am_q74 rfl ?_
    exact ev_r (v := some (.long (0 : Int64))) am_q74 rfl rfl rfl rfl H
/-! 76: X9_copyFrom -/
set_option maxRecDepth 20000 in
set_option maxHeartbeats 2000000 in
theorem ws76 {d : Nat} {j0 : Nat} (hj0 : j0 < 12)  {h : AH} {Q : Option Value → AH → Prop} (Ly : Lay h) (H : (am_kd h 72 = 102 ∧ ¬ (am_gi h 71 1) < (0 : Int32) ∧ (Int32.toNatClampNeg (am_gi h 71 1)) ≤ am_ln h 72 ∧ am_ln h 72 ≤ 100000 ∧ (∀ j, j < am_ln h 72 → (-128 : Int32) ≤ am_gi h 72 j ∧ am_gi h 72 j ≤ 127)) ∧ ∀ b2, b2 = am_sz h → ∀ h1, h1 = am_sw (am_nw h 102 (Int32.toNatClampNeg (am_gi h 71 1)) (Int32.toNatClampNeg (am_gi h 71 1))) (am_sz h) (am_gi h 72) → ∀ h4, h4 = am_sr h1 (148 + 4 * j0) 0 (some b2) → ((am_kd h4 73 = 100 ∧ 6 ≤ 73) ∧ ¬ (am_gi h4 71 3) < (0 : Int32) ∧ (Int32.toNatClampNeg (am_gi h4 71 3)) ≤ am_ln h4 73 ∧ am_ln h4 73 ≤ 100000) ∧ ∀ b6, b6 = am_sz h4 → ∀ h5, h5 = am_sw (am_nw h4 100 (Int32.toNatClampNeg (am_gi h4 71 3)) (Int32.toNatClampNeg (am_gi h4 71 3))) (am_sz h4) (am_gi h4 73) → ∀ h8, h8 = am_sr h5 (148 + 4 * j0) 1 (some b6) → ((am_kd h8 74 = 100 ∧ 6 ≤ 74) ∧ (am_kd h8 (151 + 4 * j0) = 100 ∧ 6 ≤ 151 + 4 * j0) ∧ 74 ≠ (151 + 4 * j0) ∧ (0 : Int32) = (0 : Int32) ∧ (0 : Int32) = (0 : Int32) ∧ ¬ (5 : Int32) < (0 : Int32) ∧ (Int32.toNatClampNeg (5 : Int32)) ≤ am_ln h8 74 ∧ (Int32.toNatClampNeg (5 : Int32)) ≤ am_ln h8 (151 + 4 * j0)) ∧ ∀ h9, h9 = am_sw h8 (151 + 4 * j0) (fun j => if j < (Int32.toNatClampNeg (5 : Int32)) then am_gi h8 74 j else am_gi h8 (151 + 4 * j0) j) → Q none h9) : Cl d 76 [.ref (148 + 4 * j0), .ref 71] h Q := by
  show Ev d 76 0 [.ref (148 + 4 * j0), .ref 71] [] h Q
  refine ev_p (pc' := 2) (loc' := [.ref (148 + 4 * j0), .ref 71]) (st' := [.ref 71, .ref (148 + 4 * j0)]) 2 am_q76 rfl ?_
  refine ev_s (pc' := 5) (loc' := [.ref (148 + 4 * j0), .ref 71]) (st' := [.ref 72, .ref (148 + 4 * j0)]) (h1 := h) am_q76 rfl rfl rfl (am_gf2 (lk71 Ly) (lr71_0 Ly)) ?_
  refine ev_p (pc' := 6) (loc' := [.ref (148 + 4 * j0), .ref 71]) (st' := [.ref 71, .ref 72, .ref (148 + 4 * j0)]) 1 am_q76 rfl ?_
  refine ev_s (pc' := 9) (loc' := [.ref (148 + 4 * j0), .ref 71]) (st' := [.int (am_gi h 71 1), .ref 72, .ref (148 + 4 * j0)]) (h1 := h) am_q76 rfl rfl rfl (if_pos (e := none) (lk71 Ly)) ?_
  obtain ⟨g3, H⟩ := H
  refine ev_b (st' := [.ref (am_sz h), .ref (148 + 4 * j0)]) (h1 := am_sw (am_nw h 102 (Int32.toNatClampNeg (am_gi h 71 1)) (Int32.toNatClampNeg (am_gi h 71 1))) (am_sz h) (am_gi h 72)) am_q76 rfl rfl rfl rfl (if_pos (e := none) g3) rfl ?_
  replace H := H _ rfl _ rfl
  replace Ly : Lay (am_sw (am_nw h 102 (Int32.toNatClampNeg (am_gi h 71 1)) (Int32.toNatClampNeg (am_gi h 71 1))) (am_sz h) (am_gi h 72)) := (Ly.nw _ _ _).sw _ _
  generalize am_sw (am_nw h 102 (Int32.toNatClampNeg (am_gi h 71 1)) (Int32.toNatClampNeg (am_gi h 71 1))) (am_sz h) (am_gi h 72) = h1 at H Ly ⊢
  generalize am_sz h = b2 at H ⊢
  refine ev_s (pc' := 15) (loc' := [.ref (148 + 4 * j0), .ref 71]) (st' := []) (h1 := am_sr h1 (148 + 4 * j0) 0 (some b2)) am_q76 rfl rfl rfl (if_pos (e := none) (lk_text Ly hj0)) ?_
  replace H := H _ rfl
  replace Ly : Lay (am_sr h1 (148 + 4 * j0) 0 (some b2)) := Ly.sr_text hj0 (by decide)
  generalize am_sr h1 (148 + 4 * j0) 0 (some b2) = h4 at H Ly ⊢
  refine ev_p (pc' := 17) (loc' := [.ref (148 + 4 * j0), .ref 71]) (st' := [.ref 71, .ref (148 + 4 * j0)]) 2 am_q76 rfl ?_
  refine ev_s (pc' := 20) (loc' := [.ref (148 + 4 * j0), .ref 71]) (st' := [.ref 73, .ref (148 + 4 * j0)]) (h1 := h4) am_q76 rfl rfl rfl (am_gf2 (lk71 Ly) (lr71_2 Ly)) ?_
  refine ev_p (pc' := 21) (loc' := [.ref (148 + 4 * j0), .ref 71]) (st' := [.ref 71, .ref 73, .ref (148 + 4 * j0)]) 1 am_q76 rfl ?_
  refine ev_s (pc' := 24) (loc' := [.ref (148 + 4 * j0), .ref 71]) (st' := [.int (am_gi h4 71 3), .ref 73, .ref (148 + 4 * j0)]) (h1 := h4) am_q76 rfl rfl rfl (if_pos (e := none) (lk71 Ly)) ?_
  obtain ⟨g7, H⟩ := H
  refine ev_b (st' := [.ref (am_sz h4), .ref (148 + 4 * j0)]) (h1 := am_sw (am_nw h4 100 (Int32.toNatClampNeg (am_gi h4 71 3)) (Int32.toNatClampNeg (am_gi h4 71 3))) (am_sz h4) (am_gi h4 73)) am_q76 rfl rfl rfl rfl (if_pos (e := none) g7) rfl ?_
  replace H := H _ rfl _ rfl
  replace Ly : Lay (am_sw (am_nw h4 100 (Int32.toNatClampNeg (am_gi h4 71 3)) (Int32.toNatClampNeg (am_gi h4 71 3))) (am_sz h4) (am_gi h4 73)) := (Ly.nw _ _ _).sw _ _
  generalize am_sw (am_nw h4 100 (Int32.toNatClampNeg (am_gi h4 71 3)) (Int32.toNatClampNeg (am_gi h4 71 3))) (am_sz h4) (am_gi h4 73) = h5 at H Ly ⊢
  generalize am_sz h4 = b6 at H ⊢
  refine ev_s (pc' := 30) (loc' := [.ref (148 + 4 * j0), .ref 71]) (st' := []) (h1 := am_sr h5 (148 + 4 * j0) 1 (some b6)) am_q76 rfl rfl rfl (if_pos (e := none) (lk_text Ly hj0)) ?_
  replace H := H _ rfl
  replace Ly : Lay (am_sr h5 (148 + 4 * j0) 1 (some b6)) := Ly.sr_text hj0 (by decide)
  generalize am_sr h5 (148 + 4 * j0) 1 (some b6) = h8 at H Ly ⊢
  refine ev_p (pc' := 31) (loc' := [.ref (148 + 4 * j0), .ref 71]) (st' := [.ref 71]) 1 am_q76 rfl ?_
  refine ev_s (pc' := 34) (loc' := [.ref (148 + 4 * j0), .ref 71]) (st' := [.ref 74]) (h1 := h8) am_q76 rfl rfl rfl (am_gf2 (lk71 Ly) (lr71_4 Ly)) ?_
  refine ev_p (pc' := 36) (loc' := [.ref (148 + 4 * j0), .ref 71]) (st' := [.ref (148 + 4 * j0), .int (0 : Int32), .ref 74]) 2 am_q76 rfl ?_
  refine ev_s (pc' := 39) (loc' := [.ref (148 + 4 * j0), .ref 71]) (st' := [.ref (151 + 4 * j0), .int (0 : Int32), .ref 74]) (h1 := h8) am_q76 rfl rfl rfl (am_gf2 (lk_text Ly hj0) (lr_starts Ly hj0)) ?_
  refine ev_p (pc' := 41) (loc' := [.ref (148 + 4 * j0), .ref 71]) (st' := [.int (5 : Int32), .int (0 : Int32), .ref (151 + 4 * j0), .int (0 : Int32), .ref 74]) 2 am_q76 rfl ?_
  obtain ⟨g10, H⟩ := H
  refine ev_b (st' := []) (h1 := am_sw h8 (151 + 4 * j0) (fun j => if j < (Int32.toNatClampNeg (5 : Int32)) then am_gi h8 74 j else am_gi h8 (151 + 4 * j0) j)) am_q76 rfl rfl rfl rfl (if_pos (e := none) g10) rfl ?_
  replace H := H _ rfl
  replace Ly : Lay (am_sw h8 (151 + 4 * j0) (fun j => if j < (Int32.toNatClampNeg (5 : Int32)) then am_gi h8 74 j else am_gi h8 (151 + 4 * j0) j)) := Ly.sw _ _
  generalize am_sw h8 (151 + 4 * j0) (fun j => if j < (Int32.toNatClampNeg (5 : Int32)) then am_gi h8 74 j else am_gi h8 (151 + 4 * j0) j) = h9 at H Ly ⊢
  exact ev_r (v := none) am_q76 rfl rfl rfl rfl H
/-! 77: X9_isCarried -/
set_option maxRecDepth 20000 in
set_option maxHeartbeats 2000000 in
theorem ws77 {d : Nat} {j0 : Nat} (hj0 : j0 < 12)  {h : AH} {Q : Option Value → AH → Prop} (Ly : Lay h) (H : ((am_gi h (148 + 4 * j0) 6) = (-1 : Int32) → Q (some (.int (0 : Int32))) h) ∧ (¬ (am_gi h (148 + 4 * j0) 6) = (-1 : Int32) → Q (some (.int (1 : Int32))) h)) : Cl d 77 [.ref (148 + 4 * j0)] h Q := by
  show Ev d 77 0 [.ref (148 + 4 * j0)] [] h Q
  refine ev_p (pc' := 1) (loc' := [.ref (148 + 4 * j0)]) (st' := [.ref (148 + 4 * j0)]) 1 am_q77 rfl ?_
  refine ev_s (pc' := 4) (loc' := [.ref (148 + 4 * j0)]) (st' := [.int (am_gi h (148 + 4 * j0) 6)]) (h1 := h) am_q77 rfl rfl rfl (if_pos (e := none) (lk_text Ly hj0)) ?_
  refine ev_p (pc' := 5) (loc' := [.ref (148 + 4 * j0)]) (st' := [.int (-1 : Int32), .int (am_gi h (148 + 4 * j0) 6)]) 1 am_q77 rfl ?_
  refine ev_jc (t := 12) am_q77 rfl rfl (fun hq => ?_) (fun hq => ?_)
  · replace H := H.1 hq
    refine ev_p (pc' := 13) (loc' := [.ref (148 + 4 * j0)]) (st' := [.int (0 : Int32)]) 1 am_q77 rfl ?_
    exact ev_r (v := some (.int (0 : Int32))) am_q77 rfl rfl rfl rfl H
  · replace H := H.2 hq
    refine ev_p (pc' := 13) (loc' := [.ref (148 + 4 * j0)]) (st' := [.int (1 : Int32)]) 2 am_q77 rfl ?_
    exact ev_r (v := some (.int (1 : Int32))) am_q77 rfl rfl rfl rfl H
/-! 78: X9_isLaw -/
set_option maxRecDepth 20000 in
set_option maxHeartbeats 2000000 in
theorem ws78 {d : Nat} {j0 : Nat} (hj0 : j0 < 12) (i1 : Int32) {h : AH} {Q : Option Value → AH → Prop} (Ly : Lay h) (H : Cl d 77 [.ref (148 + 4 * j0)] h (fun r2 h1 => ∃ x3, r2 = some (.int x3) ∧ Lay h1 ∧ (x3 = (0 : Int32) → Q (some (.int (0 : Int32))) h1) ∧ (¬ x3 = (0 : Int32) → ((¬ (am_gi h1 (148 + 4 * j0) 5) = (0 : Int32)) → Q (some (.int (0 : Int32))) h1) ∧ (¬ (¬ (am_gi h1 (148 + 4 * j0) 5) = (0 : Int32)) → (i1 < (am_gi h1 (148 + 4 * j0) 7) → Q (some (.int (0 : Int32))) h1) ∧ (¬ i1 < (am_gi h1 (148 + 4 * j0) 7) → Q (some (.int (1 : Int32))) h1))))) : Cl (d + 1) 78 [.ref (148 + 4 * j0), .int i1] h Q := by
  show Ev (d + 1) 78 0 [.ref (148 + 4 * j0), .int i1] [] h Q
  refine ev_p (pc' := 1) (loc' := [.ref (148 + 4 * j0), .int i1]) (st' := [.ref (148 + 4 * j0)]) 1 am_q78 rfl ?_
  refine ev_c (vs := [.ref (148 + 4 * j0)]) (rest := []) 77 am_q78 rfl rfl rfl rfl rfl rfl rfl rfl rfl rfl rfl rfl (Or.inr (congrArg some (lk_text Ly hj0))) (Cl.mono H (Nat.le_refl _) (fun r2 h1 H => ?_))
  obtain ⟨x3, rfl, Ly, H⟩ := H
  refine ev_jz (t := 26) am_q78 rfl rfl (fun hq => ?_) (fun hq => ?_)
  · replace H := H.1 hq
    refine ev_p (pc' := 27) (loc' := [.null, .null]) (st' := [.int (0 : Int32)]) 1 am_q78 rfl ?_
    exact ev_r (v := some (.int (0 : Int32))) am_q78 rfl rfl rfl rfl H
  · replace H := H.2 hq
    refine ev_p (pc' := 8) (loc' := [.ref (148 + 4 * j0), .int i1]) (st' := [.ref (148 + 4 * j0)]) 1 am_q78 rfl ?_
    refine ev_s (pc' := 11) (loc' := [.ref (148 + 4 * j0), .int i1]) (st' := [.int (am_gi h1 (148 + 4 * j0) 5)]) (h1 := h1) am_q78 rfl rfl rfl (if_pos (e := none) (lk_text Ly hj0)) ?_
    refine ev_jz (t := 26) am_q78 rfl rfl (fun hq => ?_) (fun hq => ?_)
    · replace H := H.1 hq
      refine ev_p (pc' := 27) (loc' := [.null, .null]) (st' := [.int (0 : Int32)]) 1 am_q78 rfl ?_
      exact ev_r (v := some (.int (0 : Int32))) am_q78 rfl rfl rfl rfl H
    · replace H := H.2 hq
      refine ev_p (pc' := 15) (loc' := [.ref (148 + 4 * j0), .int i1]) (st' := [.ref (148 + 4 * j0)]) 1 am_q78 rfl ?_
      refine ev_s (pc' := 18) (loc' := [.ref (148 + 4 * j0), .int i1]) (st' := [.int (am_gi h1 (148 + 4 * j0) 7)]) (h1 := h1) am_q78 rfl rfl rfl (if_pos (e := none) (lk_text Ly hj0)) ?_
      refine ev_p (pc' := 19) (loc' := [.ref (148 + 4 * j0), .int i1]) (st' := [.int i1, .int (am_gi h1 (148 + 4 * j0) 7)]) 1 am_q78 rfl ?_
      refine ev_jc (t := 26) am_q78 rfl rfl (fun hq => ?_) (fun hq => ?_)
      · replace H := H.1 hq
        refine ev_p (pc' := 27) (loc' := [.null, .null]) (st' := [.int (0 : Int32)]) 1 am_q78 rfl ?_
        exact ev_r (v := some (.int (0 : Int32))) am_q78 rfl rfl rfl rfl H
      · replace H := H.2 hq
        refine ev_p (pc' := 27) (loc' := [.ref (148 + 4 * j0), .int i1]) (st' := [.int (1 : Int32)]) 2 am_q78 rfl ?_
        exact ev_r (v := some (.int (1 : Int32))) am_q78 rfl rfl rfl rfl H
/-! 79: X9_hasVoteOf -/
set_option maxRecDepth 20000 in
set_option maxHeartbeats 2000000 in
theorem ws79 {d : Nat} {j0 : Nat} (hj0 : j0 < 12) (i1 : Int32) {h : AH} {Q : Option Value → AH → Prop} (Ly : Lay h) (H : (((((am_gi h (148 + 4 * j0) 3) ||| (am_gi h (148 + 4 * j0) 4)) >>> (i1 &&& 31)) &&& (1 : Int32)) = (0 : Int32) → Q (some (.int (0 : Int32))) h) ∧ (¬ ((((am_gi h (148 + 4 * j0) 3) ||| (am_gi h (148 + 4 * j0) 4)) >>> (i1 &&& 31)) &&& (1 : Int32)) = (0 : Int32) → Q (some (.int (1 : Int32))) h)) : Cl d 79 [.ref (148 + 4 * j0), .int i1] h Q := by
  show Ev d 79 0 [.ref (148 + 4 * j0), .int i1] [] h Q
  refine ev_p (pc' := 1) (loc' := [.ref (148 + 4 * j0), .int i1]) (st' := [.ref (148 + 4 * j0)]) 1 am_q79 rfl ?_
  refine ev_s (pc' := 4) (loc' := [.ref (148 + 4 * j0), .int i1]) (st' := [.int (am_gi h (148 + 4 * j0) 3)]) (h1 := h) am_q79 rfl rfl rfl (if_pos (e := none) (lk_text Ly hj0)) ?_
  refine ev_p (pc' := 5) (loc' := [.ref (148 + 4 * j0), .int i1]) (st' := [.ref (148 + 4 * j0), .int (am_gi h (148 + 4 * j0) 3)]) 1 am_q79 rfl ?_
  refine ev_s (pc' := 8) (loc' := [.ref (148 + 4 * j0), .int i1]) (st' := [.int (am_gi h (148 + 4 * j0) 4), .int (am_gi h (148 + 4 * j0) 3)]) (h1 := h) am_q79 rfl rfl rfl (if_pos (e := none) (lk_text Ly hj0)) ?_
  refine ev_p (pc' := 13) (loc' := [.ref (148 + 4 * j0), .int i1]) (st' := [.int ((((am_gi h (148 + 4 * j0) 3) ||| (am_gi h (148 + 4 * j0) 4)) >>> (i1 &&& 31)) &&& (1 : Int32))]) 5 am_q79 rfl ?_
  refine ev_jz (t := 20) am_q79 rfl rfl (fun hq => ?_) (fun hq => ?_)
  · replace H := H.1 hq
    refine ev_p (pc' := 21) (loc' := [.ref (148 + 4 * j0), .int i1]) (st' := [.int (0 : Int32)]) 1 am_q79 rfl ?_
    exact ev_r (v := some (.int (0 : Int32))) am_q79 rfl rfl rfl rfl H
  · replace H := H.2 hq
    refine ev_p (pc' := 21) (loc' := [.ref (148 + 4 * j0), .int i1]) (st' := [.int (1 : Int32)]) 2 am_q79 rfl ?_
    exact ev_r (v := some (.int (1 : Int32))) am_q79 rfl rfl rfl rfl H
/-! 80: X9_countVote -/
set_option maxRecDepth 20000 in
set_option maxHeartbeats 2000000 in
theorem ws80 {d : Nat} {j0 : Nat} (hj0 : j0 < 12) (i1 : Int32) (i2 : Int32) {h : AH} {Q : Option Value → AH → Prop} (Ly : Lay h) (H : (i2 = (0 : Int32) → ∀ h1, h1 = am_si h (148 + 4 * j0) 4 ((am_gi h (148 + 4 * j0) 4) ||| ((1 : Int32) <<< (i1 &&& 31))) → Q none h1) ∧ (¬ i2 = (0 : Int32) → ∀ h2, h2 = am_si h (148 + 4 * j0) 3 ((am_gi h (148 + 4 * j0) 3) ||| ((1 : Int32) <<< (i1 &&& 31))) → Q none h2)) : Cl d 80 [.ref (148 + 4 * j0), .int i1, .int i2] h Q := by
  show Ev d 80 0 [.ref (148 + 4 * j0), .int i1, .int i2] [] h Q
  refine ev_p (pc' := 1) (loc' := [.ref (148 + 4 * j0), .int i1, .int i2]) (st' := [.int i2]) 1 am_q80 rfl ?_
  refine ev_jz (t := 19) am_q80 rfl rfl (fun hq => ?_) (fun hq => ?_)
  · replace H := H.1 hq
    refine ev_p (pc' := 21) (loc' := [.ref (148 + 4 * j0), .int i1, .int i2]) (st' := [.ref (148 + 4 * j0), .ref (148 + 4 * j0)]) 2 am_q80 rfl ?_
    refine ev_s (pc' := 24) (loc' := [.ref (148 + 4 * j0), .int i1, .int i2]) (st' := [.int (am_gi h (148 + 4 * j0) 4), .ref (148 + 4 * j0)]) (h1 := h) am_q80 rfl rfl rfl (if_pos (e := none) (lk_text Ly hj0)) ?_
    refine ev_p (pc' := 28) (loc' := [.ref (148 + 4 * j0), .int i1, .int i2]) (st' := [.int ((am_gi h (148 + 4 * j0) 4) ||| ((1 : Int32) <<< (i1 &&& 31))), .ref (148 + 4 * j0)]) 4 am_q80 rfl ?_
    refine ev_s (pc' := 31) (loc' := [.ref (148 + 4 * j0), .int i1, .int i2]) (st' := []) (h1 := am_si h (148 + 4 * j0) 4 ((am_gi h (148 + 4 * j0) 4) ||| ((1 : Int32) <<< (i1 &&& 31)))) am_q80 rfl rfl rfl (if_pos (e := none) (lk_text Ly hj0)) ?_
    replace H := H _ rfl
    replace Ly : Lay (am_si h (148 + 4 * j0) 4 ((am_gi h (148 + 4 * j0) 4) ||| ((1 : Int32) <<< (i1 &&& 31)))) := Ly.si _ _ _
    generalize am_si h (148 + 4 * j0) 4 ((am_gi h (148 + 4 * j0) 4) ||| ((1 : Int32) <<< (i1 &&& 31))) = h1 at H Ly ⊢
    exact ev_r (v := none) am_q80 rfl rfl rfl rfl H
  · replace H := H.2 hq
    refine ev_p (pc' := 6) (loc' := [.ref (148 + 4 * j0), .int i1, .int i2]) (st' := [.ref (148 + 4 * j0), .ref (148 + 4 * j0)]) 2 am_q80 rfl ?_
    refine ev_s (pc' := 9) (loc' := [.ref (148 + 4 * j0), .int i1, .int i2]) (st' := [.int (am_gi h (148 + 4 * j0) 3), .ref (148 + 4 * j0)]) (h1 := h) am_q80 rfl rfl rfl (if_pos (e := none) (lk_text Ly hj0)) ?_
    refine ev_p (pc' := 13) (loc' := [.ref (148 + 4 * j0), .int i1, .int i2]) (st' := [.int ((am_gi h (148 + 4 * j0) 3) ||| ((1 : Int32) <<< (i1 &&& 31))), .ref (148 + 4 * j0)]) 4 am_q80 rfl ?_
    refine ev_s (pc' := 16) (loc' := [.ref (148 + 4 * j0), .int i1, .int i2]) (st' := []) (h1 := am_si h (148 + 4 * j0) 3 ((am_gi h (148 + 4 * j0) 3) ||| ((1 : Int32) <<< (i1 &&& 31)))) am_q80 rfl rfl rfl (if_pos (e := none) (lk_text Ly hj0)) ?_
    replace H := H _ rfl
    replace Ly : Lay (am_si h (148 + 4 * j0) 3 ((am_gi h (148 + 4 * j0) 3) ||| ((1 : Int32) <<< (i1 &&& 31)))) := Ly.si _ _ _
    generalize am_si h (148 + 4 * j0) 3 ((am_gi h (148 + 4 * j0) 3) ||| ((1 : Int32) <<< (i1 &&& 31))) = h2 at H Ly ⊢
    refine ev_p (pc' := 31) (loc' := [.ref (148 + 4 * j0), .int i1, .int i2]) (st' := []) 1 am_q80 rfl ?_
    exact ev_r (v := none) am_q80 rfl rfl rfl rfl H
/-! 81: X9_enact -/
set_option maxRecDepth 20000 in
set_option maxHeartbeats 2000000 in
theorem ws81 {d : Nat} {j0 : Nat} (hj0 : j0 < 12) (i1 : Int32) (i2 : Int32) (i3 : Int32) {h : AH} {Q : Option Value → AH → Prop} (Ly : Lay h) (H : ∀ h1, h1 = am_si h (148 + 4 * j0) 6 i1 → ∀ h2, h2 = am_si h1 (148 + 4 * j0) 7 i2 → ∀ h3, h3 = am_si h2 (148 + 4 * j0) 8 i3 → Q none h3) : Cl d 81 [.ref (148 + 4 * j0), .int i1, .int i2, .int i3] h Q := by
  show Ev d 81 0 [.ref (148 + 4 * j0), .int i1, .int i2, .int i3] [] h Q
  refine ev_p (pc' := 2) (loc' := [.ref (148 + 4 * j0), .int i1, .int i2, .int i3]) (st' := [.int i1, .ref (148 + 4 * j0)]) 2 am_q81 rfl ?_
  refine ev_s (pc' := 5) (loc' := [.ref (148 + 4 * j0), .int i1, .int i2, .int i3]) (st' := []) (h1 := am_si h (148 + 4 * j0) 6 i1) am_q81 rfl rfl rfl (if_pos (e := none) (lk_text Ly hj0)) ?_
  replace H := H _ rfl
  replace Ly : Lay (am_si h (148 + 4 * j0) 6 i1) := Ly.si _ _ _
  generalize am_si h (148 + 4 * j0) 6 i1 = h1 at H Ly ⊢
  refine ev_p (pc' := 7) (loc' := [.ref (148 + 4 * j0), .int i1, .int i2, .int i3]) (st' := [.int i2, .ref (148 + 4 * j0)]) 2 am_q81 rfl ?_
  refine ev_s (pc' := 10) (loc' := [.ref (148 + 4 * j0), .int i1, .int i2, .int i3]) (st' := []) (h1 := am_si h1 (148 + 4 * j0) 7 i2) am_q81 rfl rfl rfl (if_pos (e := none) (lk_text Ly hj0)) ?_
  replace H := H _ rfl
  replace Ly : Lay (am_si h1 (148 + 4 * j0) 7 i2) := Ly.si _ _ _
  generalize am_si h1 (148 + 4 * j0) 7 i2 = h2 at H Ly ⊢
  refine ev_p (pc' := 12) (loc' := [.ref (148 + 4 * j0), .int i1, .int i2, .int i3]) (st' := [.int i3, .ref (148 + 4 * j0)]) 2 am_q81 rfl ?_
  refine ev_s (pc' := 15) (loc' := [.ref (148 + 4 * j0), .int i1, .int i2, .int i3]) (st' := []) (h1 := am_si h2 (148 + 4 * j0) 8 i3) am_q81 rfl rfl rfl (if_pos (e := none) (lk_text Ly hj0)) ?_
  replace H := H _ rfl
  replace Ly : Lay (am_si h2 (148 + 4 * j0) 8 i3) := Ly.si _ _ _
  generalize am_si h2 (148 + 4 * j0) 8 i3 = h3 at H Ly ⊢
  exact ev_r (v := none) am_q81 rfl rfl rfl rfl H
/-! 83: X10_holdNothing -/
set_option maxRecDepth 20000 in
set_option maxHeartbeats 2000000 in
theorem ws83 {d : Nat} {j0 : Nat} (hj0 : j0 < 6)  {h : AH} {Q : Option Value → AH → Prop} (Ly : Lay h) (H : ∀ h1, h1 = am_si h (196 + 3 * j0) 0 (0 : Int32) → Q none h1) : Cl d 83 [.ref (196 + 3 * j0)] h Q := by
  show Ev d 83 0 [.ref (196 + 3 * j0)] [] h Q
  refine ev_p (pc' := 2) (loc' := [.ref (196 + 3 * j0)]) (st' := [.int (0 : Int32), .ref (196 + 3 * j0)]) 2 am_q83 rfl ?_
  refine ev_s (pc' := 5) (loc' := [.ref (196 + 3 * j0)]) (st' := []) (h1 := am_si h (196 + 3 * j0) 0 (0 : Int32)) am_q83 rfl rfl rfl (if_pos (e := none) (lk_tray Ly hj0)) ?_
  replace H := H _ rfl
  replace Ly : Lay (am_si h (196 + 3 * j0) 0 (0 : Int32)) := Ly.si _ _ _
  generalize am_si h (196 + 3 * j0) 0 (0 : Int32) = h1 at H Ly ⊢
  exact ev_r (v := none) am_q83 rfl rfl rfl rfl H
/-! 84: X10_holdRight -/
set_option maxRecDepth 20000 in
set_option maxHeartbeats 2000000 in
theorem ws84 {d : Nat} {j0 : Nat} (hj0 : j0 < 6) {j1 : Nat} (hj1 : j1 < 60)  {h : AH} {Q : Option Value → AH → Prop} (Ly : Lay h) (H : ∀ h1, h1 = am_si h (196 + 3 * j0) 0 (1 : Int32) → ∀ h2, h2 = am_si h1 (196 + 3 * j0) 1 (am_gi h1 (11 + j1) 0) → ∀ h3, h3 = am_si h2 (196 + 3 * j0) 2 (am_gi h2 (11 + j1) 1) → Q none h3) : Cl d 84 [.ref (196 + 3 * j0), .ref (11 + j1)] h Q := by
  show Ev d 84 0 [.ref (196 + 3 * j0), .ref (11 + j1)] [] h Q
  refine ev_p (pc' := 2) (loc' := [.ref (196 + 3 * j0), .ref (11 + j1)]) (st' := [.int (1 : Int32), .ref (196 + 3 * j0)]) 2 am_q84 rfl ?_
  refine ev_s (pc' := 5) (loc' := [.ref (196 + 3 * j0), .ref (11 + j1)]) (st' := []) (h1 := am_si h (196 + 3 * j0) 0 (1 : Int32)) am_q84 rfl rfl rfl (if_pos (e := none) (lk_tray Ly hj0)) ?_
  replace H := H _ rfl
  replace Ly : Lay (am_si h (196 + 3 * j0) 0 (1 : Int32)) := Ly.si _ _ _
  generalize am_si h (196 + 3 * j0) 0 (1 : Int32) = h1 at H Ly ⊢
  refine ev_p (pc' := 7) (loc' := [.ref (196 + 3 * j0), .ref (11 + j1)]) (st' := [.ref (11 + j1), .ref (196 + 3 * j0)]) 2 am_q84 rfl ?_
  refine ev_s (pc' := 10) (loc' := [.ref (196 + 3 * j0), .ref (11 + j1)]) (st' := [.int (am_gi h1 (11 + j1) 0), .ref (196 + 3 * j0)]) (h1 := h1) am_q84 rfl rfl rfl (if_pos (e := none) (lk_right Ly hj1)) ?_
  refine ev_s (pc' := 13) (loc' := [.ref (196 + 3 * j0), .ref (11 + j1)]) (st' := []) (h1 := am_si h1 (196 + 3 * j0) 1 (am_gi h1 (11 + j1) 0)) am_q84 rfl rfl rfl (if_pos (e := none) (lk_tray Ly hj0)) ?_
  replace H := H _ rfl
  replace Ly : Lay (am_si h1 (196 + 3 * j0) 1 (am_gi h1 (11 + j1) 0)) := Ly.si _ _ _
  generalize am_si h1 (196 + 3 * j0) 1 (am_gi h1 (11 + j1) 0) = h2 at H Ly ⊢
  refine ev_p (pc' := 15) (loc' := [.ref (196 + 3 * j0), .ref (11 + j1)]) (st' := [.ref (11 + j1), .ref (196 + 3 * j0)]) 2 am_q84 rfl ?_
  refine ev_s (pc' := 18) (loc' := [.ref (196 + 3 * j0), .ref (11 + j1)]) (st' := [.int (am_gi h2 (11 + j1) 1), .ref (196 + 3 * j0)]) (h1 := h2) am_q84 rfl rfl rfl (if_pos (e := none) (lk_right Ly hj1)) ?_
  refine ev_s (pc' := 21) (loc' := [.ref (196 + 3 * j0), .ref (11 + j1)]) (st' := []) (h1 := am_si h2 (196 + 3 * j0) 2 (am_gi h2 (11 + j1) 1)) am_q84 rfl rfl rfl (if_pos (e := none) (lk_tray Ly hj0)) ?_
  replace H := H _ rfl
  replace Ly : Lay (am_si h2 (196 + 3 * j0) 2 (am_gi h2 (11 + j1) 1)) := Ly.si _ _ _
  generalize am_si h2 (196 + 3 * j0) 2 (am_gi h2 (11 + j1) 1) = h3 at H Ly ⊢
  exact ev_r (v := none) am_q84 rfl rfl rfl rfl H
/-! 85: X10_holdBytes -/
set_option maxRecDepth 20000 in
set_option maxHeartbeats 2000000 in
theorem ws85 {d : Nat} {j0 : Nat} (hj0 : j0 < 6) {j1 : Nat} (hj1 : j1 < 12)  {h : AH} {Q : Option Value → AH → Prop} (Ly : Lay h) (H : ∀ h1, h1 = am_si h (196 + 3 * j0) 0 (2 : Int32) → ∃ b2, am_gr h1 (148 + 4 * j1) 0 = some b2 ∧ ∀ h4, h4 = am_sr h1 (196 + 3 * j0) 3 (some b2) → ∃ b5, am_gr h4 (196 + 3 * j0) 3 = some b5 ∧ (100 ≤ am_kd h4 b5 ∧ am_kd h4 b5 ≤ 109) ∧ ∀ h8, h8 = am_si h4 (196 + 3 * j0) 6 (Int32.ofNat (am_ln h4 b5)) → Q none h8) : Cl d 85 [.ref (196 + 3 * j0), .ref (148 + 4 * j1)] h Q := by
  show Ev d 85 0 [.ref (196 + 3 * j0), .ref (148 + 4 * j1)] [] h Q
  refine ev_p (pc' := 2) (loc' := [.ref (196 + 3 * j0), .ref (148 + 4 * j1)]) (st' := [.int (2 : Int32), .ref (196 + 3 * j0)]) 2 am_q85 rfl ?_
  refine ev_s (pc' := 5) (loc' := [.ref (196 + 3 * j0), .ref (148 + 4 * j1)]) (st' := []) (h1 := am_si h (196 + 3 * j0) 0 (2 : Int32)) am_q85 rfl rfl rfl (if_pos (e := none) (lk_tray Ly hj0)) ?_
  replace H := H _ rfl
  replace Ly : Lay (am_si h (196 + 3 * j0) 0 (2 : Int32)) := Ly.si _ _ _
  generalize am_si h (196 + 3 * j0) 0 (2 : Int32) = h1 at H Ly ⊢
  refine ev_p (pc' := 7) (loc' := [.ref (196 + 3 * j0), .ref (148 + 4 * j1)]) (st' := [.ref (148 + 4 * j1), .ref (196 + 3 * j0)]) 2 am_q85 rfl ?_
  obtain ⟨b2, e3, H⟩ := H
  refine ev_s (pc' := 10) (loc' := [.ref (196 + 3 * j0), .ref (148 + 4 * j1)]) (st' := [.ref b2, .ref (196 + 3 * j0)]) (h1 := h1) am_q85 rfl rfl rfl (am_gf2 (lk_text Ly hj1) e3) ?_
  refine ev_s (pc' := 13) (loc' := [.ref (196 + 3 * j0), .ref (148 + 4 * j1)]) (st' := []) (h1 := am_sr h1 (196 + 3 * j0) 3 (some b2)) am_q85 rfl rfl rfl (if_pos (e := none) (lk_tray Ly hj0)) ?_
  replace H := H _ rfl
  replace Ly : Lay (am_sr h1 (196 + 3 * j0) 3 (some b2)) := Ly.sr_tray hj0 (by decide)
  generalize am_sr h1 (196 + 3 * j0) 3 (some b2) = h4 at H Ly ⊢
  refine ev_p (pc' := 15) (loc' := [.ref (196 + 3 * j0), .ref (148 + 4 * j1)]) (st' := [.ref (196 + 3 * j0), .ref (196 + 3 * j0)]) 2 am_q85 rfl ?_
  obtain ⟨b5, e6, H⟩ := H
  refine ev_s (pc' := 18) (loc' := [.ref (196 + 3 * j0), .ref (148 + 4 * j1)]) (st' := [.ref b5, .ref (196 + 3 * j0)]) (h1 := h4) am_q85 rfl rfl rfl (am_gf2 (lk_tray Ly hj0) e6) ?_
  obtain ⟨g7, H⟩ := H
  refine ev_s (pc' := 19) (loc' := [.ref (196 + 3 * j0), .ref (148 + 4 * j1)]) (st' := [.int (Int32.ofNat (am_ln h4 b5)), .ref (196 + 3 * j0)]) (h1 := h4) am_q85 rfl rfl rfl (if_pos (e := none) g7) ?_
  refine ev_s (pc' := 22) (loc' := [.ref (196 + 3 * j0), .ref (148 + 4 * j1)]) (st' := []) (h1 := am_si h4 (196 + 3 * j0) 6 (Int32.ofNat (am_ln h4 b5))) am_q85 rfl rfl rfl (if_pos (e := none) (lk_tray Ly hj0)) ?_
  replace H := H _ rfl
  replace Ly : Lay (am_si h4 (196 + 3 * j0) 6 (Int32.ofNat (am_ln h4 b5))) := Ly.si _ _ _
  generalize am_si h4 (196 + 3 * j0) 6 (Int32.ofNat (am_ln h4 b5)) = h8 at H Ly ⊢
  exact ev_r (v := none) am_q85 rfl rfl rfl rfl H
/-! 86: X10_holdDebts -/
set_option maxRecDepth 20000 in
set_option maxHeartbeats 2000000 in
theorem ws86 {d : Nat} {j0 : Nat} (hj0 : j0 < 6) (i2 : Int32) {h : AH} {Q : Option Value → AH → Prop} (Ly : Lay h) (H : ∀ h1, h1 = am_si h (196 + 3 * j0) 0 (3 : Int32) → Cl d 265 [.int i2, .int (24 : Int32)] h1 (fun r3 h2 => ∃ x4, r3 = some (.int x4) ∧ Lay h2 ∧ ∀ h5, h5 = am_si h2 (196 + 3 * j0) 6 x4 → Ev (d + 1) 86 17 [.ref (196 + 3 * j0), .ref 8, .null, .int (0 : Int32)] [] h5 Q)) : Cl (d + 1) 86 [.ref (196 + 3 * j0), .ref 8, .int i2] h Q := by
  show Ev (d + 1) 86 0 [.ref (196 + 3 * j0), .ref 8, .int i2, .null] [] h Q
  refine ev_p (pc' := 2) (loc' := [.ref (196 + 3 * j0), .ref 8, .int i2, .null]) (st' := [.int (3 : Int32), .ref (196 + 3 * j0)]) 2 am_q86 rfl ?_
  refine ev_s (pc' := 5) (loc' := [.ref (196 + 3 * j0), .ref 8, .int i2, .null]) (st' := []) (h1 := am_si h (196 + 3 * j0) 0 (3 : Int32)) am_q86 rfl rfl rfl (if_pos (e := none) (lk_tray Ly hj0)) ?_
  replace H := H _ rfl
  replace Ly : Lay (am_si h (196 + 3 * j0) 0 (3 : Int32)) := Ly.si _ _ _
  generalize am_si h (196 + 3 * j0) 0 (3 : Int32) = h1 at H Ly ⊢
  refine ev_p (pc' := 9) (loc' := [.ref (196 + 3 * j0), .ref 8, .int i2, .null]) (st' := [.int (24 : Int32), .int i2, .ref (196 + 3 * j0)]) 3 am_q86 rfl ?_
  refine ev_c (vs := [.int i2, .int (24 : Int32)]) (rest := [.ref (196 + 3 * j0)]) 265 am_q86 rfl rfl rfl rfl rfl rfl rfl rfl rfl rfl rfl rfl (Or.inl rfl) (Cl.mono H (Nat.le_refl _) (fun r3 h2 H => ?_))
  obtain ⟨x4, rfl, Ly, H⟩ := H
  refine ev_s (pc' := 15) (loc' := [.ref (196 + 3 * j0), .ref 8, .int i2, .null]) (st' := []) (h1 := am_si h2 (196 + 3 * j0) 6 x4) am_q86 rfl rfl rfl (if_pos (e := none) (lk_tray Ly hj0)) ?_
  replace H := H _ rfl
  replace Ly : Lay (am_si h2 (196 + 3 * j0) 6 x4) := Ly.si _ _ _
  generalize am_si h2 (196 + 3 * j0) 6 x4 = h5 at H Ly ⊢
  refine ev_p (pc' := 17) (loc' := [.ref (196 + 3 * j0), .ref 8, .int i2, .int (0 : Int32)]) (st' := []) 2 am_q86 rfl ?_
  exact ev_m (loc' := [.ref (196 + 3 * j0), .ref 8, .null, .int (0 : Int32)]) am_q86 rfl rfl H
set_option maxRecDepth 20000 in
set_option maxHeartbeats 2000000 in
theorem ws86_17 {d : Nat} {j0 : Nat} (hj0 : j0 < 6) (i3 : Int32) {h : AH} {Q : Option Value → AH → Prop} (Ly : Lay h) (H : ((am_gi h (196 + 3 * j0) 6) ≤ i3 → Q none h) ∧ (¬ (am_gi h (196 + 3 * j0) 6) ≤ i3 → am_in i3 24 ∧ am_in i3 24 ∧ ∀ h3, h3 = am_sl h (198 + 3 * j0) (Int32.toNatClampNeg i3) (am_gl h (124 + (Int32.toNatClampNeg i3)) 5) → Ev (d + 1) 86 17 [.ref (196 + 3 * j0), .ref 8, .null, .int (i3 + (1 : Int32))] [] h3 Q)) : Ev (d + 1) 86 17 [.ref (196 + 3 * j0), .ref 8, .null, .int i3] [] h Q := by
  refine ev_p (pc' := 19) (loc' := [.ref (196 + 3 * j0), .ref 8, .null, .int i3]) (st' := [.ref (196 + 3 * j0), .int i3]) 2 am_q86 rfl ?_
  refine ev_s (pc' := 22) (loc' := [.ref (196 + 3 * j0), .ref 8, .null, .int i3]) (st' := [.int (am_gi h (196 + 3 * j0) 6), .int i3]) (h1 := h) am_q86 rfl rfl rfl (if_pos (e := none) (lk_tray Ly hj0)) ?_
  refine ev_jc (t := 43) am_q86 rfl rfl (fun hq => ?_) (fun hq => ?_)
  · replace H := H.1 hq
    exact ev_r (v := none) am_q86 rfl rfl rfl rfl H
  · replace H := H.2 hq
    refine ev_p (pc' := 26) (loc' := [.ref (196 + 3 * j0), .ref 8, .null, .int i3]) (st' := [.ref (196 + 3 * j0)]) 1 am_q86 rfl ?_
    refine ev_s (pc' := 29) (loc' := [.ref (196 + 3 * j0), .ref 8, .null, .int i3]) (st' := [.ref (198 + 3 * j0)]) (h1 := h) am_q86 rfl rfl rfl (am_gf2 (lk_tray Ly hj0) (lr_debts Ly hj0)) ?_
    refine ev_p (pc' := 32) (loc' := [.ref (196 + 3 * j0), .ref 8, .null, .int i3]) (st' := [.int i3, .ref 8, .int i3, .ref (198 + 3 * j0)]) 3 am_q86 rfl ?_
    obtain ⟨g1, H⟩ := H
    refine ev_s (pc' := 33) (loc' := [.ref (196 + 3 * j0), .ref 8, .null, .int i3]) (st' := [.ref (124 + (Int32.toNatClampNeg i3)), .int i3, .ref (198 + 3 * j0)]) (h1 := h) am_q86 rfl rfl rfl (am_xa (am_rng (lk8 Ly) (by decide)) (am_inl (ln8 Ly) g1) (lr_member Ly (am_in_lt2 g1))) ?_
    refine ev_s (pc' := 36) (loc' := [.ref (196 + 3 * j0), .ref 8, .null, .int i3]) (st' := [.long (am_gl h (124 + (Int32.toNatClampNeg i3)) 5), .int i3, .ref (198 + 3 * j0)]) (h1 := h) am_q86 rfl rfl rfl (if_pos (e := none) (lk_member Ly (am_in_lt2 g1))) ?_
    obtain ⟨g2, H⟩ := H
    refine ev_s (pc' := 37) (loc' := [.ref (196 + 3 * j0), .ref 8, .null, .int i3]) (st' := []) (h1 := am_sl h (198 + 3 * j0) (Int32.toNatClampNeg i3) (am_gl h (124 + (Int32.toNatClampNeg i3)) 5)) am_q86 rfl rfl rfl (am_xx (lk_debts Ly hj0) (am_inl (ln_debts Ly hj0) g2)) ?_
    replace H := H _ rfl
    replace Ly : Lay (am_sl h (198 + 3 * j0) (Int32.toNatClampNeg i3) (am_gl h (124 + (Int32.toNatClampNeg i3)) 5)) := Ly.sl _ _ _
    generalize am_sl h (198 + 3 * j0) (Int32.toNatClampNeg i3) (am_gl h (124 + (Int32.toNatClampNeg i3)) 5) = h3 at H Ly ⊢
    refine ev_p (pc' := 17) (loc' := [.ref (196 + 3 * j0), .ref 8, .null, .int (i3 + (1 : Int32))]) (st' := []) 2 am_q86 rfl ?_
    exact ev_m (loc' := [.ref (196 + 3 * j0), .ref 8, .null, .int (i3 + (1 : Int32))]) am_q86 rfl rfl H
/-! 87: X10_holdTruths -/
set_option maxRecDepth 20000 in
set_option maxHeartbeats 2000000 in
theorem ws87 {d : Nat} {j0 : Nat} (hj0 : j0 < 6) (i1 : Int32) (i2 : Int32) {h : AH} {Q : Option Value → AH → Prop} (Ly : Lay h) (H : ∀ h1, h1 = am_si h (196 + 3 * j0) 0 (4 : Int32) → ∀ h2, h2 = am_si h1 (196 + 3 * j0) 5 i1 → ∀ h3, h3 = am_si h2 (196 + 3 * j0) 6 i2 → Q none h3) : Cl d 87 [.ref (196 + 3 * j0), .int i1, .int i2] h Q := by
  show Ev d 87 0 [.ref (196 + 3 * j0), .int i1, .int i2] [] h Q
  refine ev_p (pc' := 2) (loc' := [.ref (196 + 3 * j0), .int i1, .int i2]) (st' := [.int (4 : Int32), .ref (196 + 3 * j0)]) 2 am_q87 rfl ?_
  refine ev_s (pc' := 5) (loc' := [.ref (196 + 3 * j0), .int i1, .int i2]) (st' := []) (h1 := am_si h (196 + 3 * j0) 0 (4 : Int32)) am_q87 rfl rfl rfl (if_pos (e := none) (lk_tray Ly hj0)) ?_
  replace H := H _ rfl
  replace Ly : Lay (am_si h (196 + 3 * j0) 0 (4 : Int32)) := Ly.si _ _ _
  generalize am_si h (196 + 3 * j0) 0 (4 : Int32) = h1 at H Ly ⊢
  refine ev_p (pc' := 7) (loc' := [.ref (196 + 3 * j0), .int i1, .int i2]) (st' := [.int i1, .ref (196 + 3 * j0)]) 2 am_q87 rfl ?_
  refine ev_s (pc' := 10) (loc' := [.ref (196 + 3 * j0), .int i1, .int i2]) (st' := []) (h1 := am_si h1 (196 + 3 * j0) 5 i1) am_q87 rfl rfl rfl (if_pos (e := none) (lk_tray Ly hj0)) ?_
  replace H := H _ rfl
  replace Ly : Lay (am_si h1 (196 + 3 * j0) 5 i1) := Ly.si _ _ _
  generalize am_si h1 (196 + 3 * j0) 5 i1 = h2 at H Ly ⊢
  refine ev_p (pc' := 12) (loc' := [.ref (196 + 3 * j0), .int i1, .int i2]) (st' := [.int i2, .ref (196 + 3 * j0)]) 2 am_q87 rfl ?_
  refine ev_s (pc' := 15) (loc' := [.ref (196 + 3 * j0), .int i1, .int i2]) (st' := []) (h1 := am_si h2 (196 + 3 * j0) 6 i2) am_q87 rfl rfl rfl (if_pos (e := none) (lk_tray Ly hj0)) ?_
  replace H := H _ rfl
  replace Ly : Lay (am_si h2 (196 + 3 * j0) 6 i2) := Ly.si _ _ _
  generalize am_si h2 (196 + 3 * j0) 6 i2 = h3 at H Ly ⊢
  exact ev_r (v := none) am_q87 rfl rfl rfl rfl H
/-! 88: X10_work -/
set_option maxRecDepth 20000 in
set_option maxHeartbeats 2000000 in
theorem ws88 {d : Nat} {j0 : Nat} (hj0 : j0 < 6) (i1 : Int32) (i2 : Int32) {h : AH} {Q : Option Value → AH → Prop} (Ly : Lay h) (H : (i1 = (0 : Int32) → Cl d 263 [.int i2, .int (5 : Int32)] h (fun r2 h1 => ∃ x3, r2 = some (.int x3) ∧ Lay h1 ∧ Cl d 91 [.ref (196 + 3 * j0), .int x3] h1 (fun r5 h4 => ∃ x6, r5 = some (.int x6) ∧ Lay h4 ∧ Q (some (.int x6)) h4))) ∧ (i1 = (1 : Int32) → Cl d 94 [.ref (196 + 3 * j0), .int (2 : Int32), .int i2] h (fun r9 h8 => ∃ x10, r9 = some (.int x10) ∧ Lay h8 ∧ Q (some (.int x10)) h8)) ∧ (i1 = (2 : Int32) → Cl d 94 [.ref (196 + 3 * j0), .int (3 : Int32), .int i2] h (fun r13 h12 => ∃ x14, r13 = some (.int x14) ∧ Lay h12 ∧ Q (some (.int x14)) h12)) ∧ (i1 = (3 : Int32) → Cl d 94 [.ref (196 + 3 * j0), .int (4 : Int32), .int i2] h (fun r17 h16 => ∃ x18, r17 = some (.int x18) ∧ Lay h16 ∧ Q (some (.int x18)) h16)) ∧ (i1 = (4 : Int32) → ((0 : Int32) ≤ i2 → Cl d 90 [.ref (196 + 3 * j0), .int i2] h (fun r21 h20 => ∃ x22, r21 = some (.int x22) ∧ Lay h20 ∧ Q (some (.int x22)) h20)) ∧ (¬ (0 : Int32) ≤ i2 → Cl d 89 [.ref (196 + 3 * j0), .int (13 : Int32)] h (fun r24 h23 => ∃ x25, r24 = some (.int x25) ∧ Lay h23 ∧ Q (some (.int x25)) h23))) ∧ (i1 = (5 : Int32) → Cl d 95 [.ref (196 + 3 * j0), .int i2] h (fun r28 h27 => ∃ x29, r28 = some (.int x29) ∧ Lay h27 ∧ Q (some (.int x29)) h27)) ∧ (i1 = (6 : Int32) → Cl d 92 [.ref (196 + 3 * j0)] h (fun r32 h31 => ∃ x33, r32 = some (.int x33) ∧ Lay h31 ∧ Q (some (.int x33)) h31)) ∧ (i1 = (7 : Int32) → ((¬ i2 = (0 : Int32)) → ¬ i2 = (0 : Int32) ∧ Cl d 90 [.ref (196 + 3 * j0), .int ((1000 : Int32) / i2)] h (fun r37 h36 => ∃ x38, r37 = some (.int x38) ∧ Lay h36 ∧ Q (some (.int x38)) h36)) ∧ (¬ (¬ i2 = (0 : Int32)) → Cl d 89 [.ref (196 + 3 * j0), .int (15 : Int32)] h (fun r40 h39 => ∃ x41, r40 = some (.int x41) ∧ Lay h39 ∧ Q (some (.int x41)) h39))) ∧ (i1 = (8 : Int32) → Cl d 89 [.ref (196 + 3 * j0), .int (10 : Int32)] h (fun r44 h43 => ∃ x45, r44 = some (.int x45) ∧ Lay h43 ∧ Q (some (.int x45)) h43)) ∧ (¬ i1 = (0 : Int32) ∧ ¬ i1 = (1 : Int32) ∧ ¬ i1 = (2 : Int32) ∧ ¬ i1 = (3 : Int32) ∧ ¬ i1 = (4 : Int32) ∧ ¬ i1 = (5 : Int32) ∧ ¬ i1 = (6 : Int32) ∧ ¬ i1 = (7 : Int32) ∧ ¬ i1 = (8 : Int32) → Cl d 89 [.ref (196 + 3 * j0), .int (1 : Int32)] h (fun r48 h47 => ∃ x49, r48 = some (.int x49) ∧ Lay h47 ∧ Q (some (.int x49)) h47))) : Cl (d + 1) 88 [.ref (196 + 3 * j0), .int i1, .int i2] h Q := by
  show Ev (d + 1) 88 0 [.ref (196 + 3 * j0), .int i1, .int i2] [] h Q
  refine ev_p (pc' := 1) (loc' := [.ref (196 + 3 * j0), .int i1, .int i2]) (st' := [.int i1]) 1 am_q88 rfl ?_
  by_cases k7 : i1 = (0 : Int32)
  · replace H := H.1 k7
    refine ev_s (pc' := 52) (loc' := [.ref (196 + 3 * j0), .int i1, .int i2]) (st' := []) (h1 := h) am_q88 rfl rfl rfl (by rw [k7]; rfl) ?_
    refine ev_p (pc' := 55) (loc' := [.ref (196 + 3 * j0), .int i1, .int i2]) (st' := [.int (5 : Int32), .int i2, .ref (196 + 3 * j0)]) 3 am_q88 rfl ?_
    refine ev_c (vs := [.int i2, .int (5 : Int32)]) (rest := [.ref (196 + 3 * j0)]) 263 am_q88 rfl rfl rfl rfl rfl rfl rfl rfl rfl rfl rfl rfl (Or.inl rfl) (Cl.mono H (Nat.le_refl _) (fun r2 h1 H => ?_))
    obtain ⟨x3, rfl, Ly, H⟩ := H
    refine ev_c (vs := [.ref (196 + 3 * j0), .int x3]) (rest := []) 91 am_q88 rfl rfl rfl rfl rfl rfl rfl rfl rfl rfl rfl rfl (Or.inr (congrArg some (lk_tray Ly hj0))) (Cl.mono H (Nat.le_refl _) (fun r5 h4 H => ?_))
    obtain ⟨x6, rfl, Ly, H⟩ := H
    exact ev_r (v := some (.int x6)) am_q88 rfl rfl rfl rfl H
  replace H := H.2
  by_cases k11 : i1 = (1 : Int32)
  · replace H := H.1 k11
    refine ev_s (pc' := 62) (loc' := [.ref (196 + 3 * j0), .int i1, .int i2]) (st' := []) (h1 := h) am_q88 rfl rfl rfl (by rw [k11]; rfl) ?_
    refine ev_p (pc' := 65) (loc' := [.ref (196 + 3 * j0), .int i1, .int i2]) (st' := [.int i2, .int (2 : Int32), .ref (196 + 3 * j0)]) 3 am_q88 rfl ?_
    refine ev_c (vs := [.ref (196 + 3 * j0), .int (2 : Int32), .int i2]) (rest := []) 94 am_q88 rfl rfl rfl rfl rfl rfl rfl rfl rfl rfl rfl rfl (Or.inr (congrArg some (lk_tray Ly hj0))) (Cl.mono H (Nat.le_refl _) (fun r9 h8 H => ?_))
    obtain ⟨x10, rfl, Ly, H⟩ := H
    exact ev_r (v := some (.int x10)) am_q88 rfl rfl rfl rfl H
  replace H := H.2
  by_cases k15 : i1 = (2 : Int32)
  · replace H := H.1 k15
    refine ev_s (pc' := 69) (loc' := [.ref (196 + 3 * j0), .int i1, .int i2]) (st' := []) (h1 := h) am_q88 rfl rfl rfl (by rw [k15]; rfl) ?_
    refine ev_p (pc' := 72) (loc' := [.ref (196 + 3 * j0), .int i1, .int i2]) (st' := [.int i2, .int (3 : Int32), .ref (196 + 3 * j0)]) 3 am_q88 rfl ?_
    refine ev_c (vs := [.ref (196 + 3 * j0), .int (3 : Int32), .int i2]) (rest := []) 94 am_q88 rfl rfl rfl rfl rfl rfl rfl rfl rfl rfl rfl rfl (Or.inr (congrArg some (lk_tray Ly hj0))) (Cl.mono H (Nat.le_refl _) (fun r13 h12 H => ?_))
    obtain ⟨x14, rfl, Ly, H⟩ := H
    exact ev_r (v := some (.int x14)) am_q88 rfl rfl rfl rfl H
  replace H := H.2
  by_cases k19 : i1 = (3 : Int32)
  · replace H := H.1 k19
    refine ev_s (pc' := 76) (loc' := [.ref (196 + 3 * j0), .int i1, .int i2]) (st' := []) (h1 := h) am_q88 rfl rfl rfl (by rw [k19]; rfl) ?_
    refine ev_p (pc' := 79) (loc' := [.ref (196 + 3 * j0), .int i1, .int i2]) (st' := [.int i2, .int (4 : Int32), .ref (196 + 3 * j0)]) 3 am_q88 rfl ?_
    refine ev_c (vs := [.ref (196 + 3 * j0), .int (4 : Int32), .int i2]) (rest := []) 94 am_q88 rfl rfl rfl rfl rfl rfl rfl rfl rfl rfl rfl rfl (Or.inr (congrArg some (lk_tray Ly hj0))) (Cl.mono H (Nat.le_refl _) (fun r17 h16 H => ?_))
    obtain ⟨x18, rfl, Ly, H⟩ := H
    exact ev_r (v := some (.int x18)) am_q88 rfl rfl rfl rfl H
  replace H := H.2
  by_cases k26 : i1 = (4 : Int32)
  · replace H := H.1 k26
    refine ev_s (pc' := 83) (loc' := [.ref (196 + 3 * j0), .int i1, .int i2]) (st' := []) (h1 := h) am_q88 rfl rfl rfl (by rw [k26]; rfl) ?_
    refine ev_p (pc' := 84) (loc' := [.ref (196 + 3 * j0), .int i1, .int i2]) (st' := [.int i2]) 1 am_q88 rfl ?_
    refine ev_jz (t := 96) am_q88 rfl rfl (fun hq => ?_) (fun hq => ?_)
    · replace H := H.1 hq
      refine ev_p (pc' := 98) (loc' := [.ref (196 + 3 * j0), .int i1, .int i2]) (st' := [.int i2, .ref (196 + 3 * j0)]) 2 am_q88 rfl ?_
      refine ev_c (vs := [.ref (196 + 3 * j0), .int i2]) (rest := []) 90 am_q88 rfl rfl rfl rfl rfl rfl rfl rfl rfl rfl rfl rfl (Or.inr (congrArg some (lk_tray Ly hj0))) (Cl.mono H (Nat.le_refl _) (fun r21 h20 H => ?_))
      obtain ⟨x22, rfl, Ly, H⟩ := H
      exact ev_r (v := some (.int x22)) am_q88 rfl rfl rfl rfl H
    · replace H := H.2 hq
      refine ev_p (pc' := 90) (loc' := [.ref (196 + 3 * j0), .int i1, .int i2]) (st' := [.int (13 : Int32), .ref (196 + 3 * j0)]) 2 am_q88 rfl ?_
      refine ev_c (vs := [.ref (196 + 3 * j0), .int (13 : Int32)]) (rest := []) 89 am_q88 rfl rfl rfl rfl rfl rfl rfl rfl rfl rfl rfl rfl (Or.inr (congrArg some (lk_tray Ly hj0))) (Cl.mono H (Nat.le_refl _) (fun r24 h23 H => ?_))
      obtain ⟨x25, rfl, Ly, H⟩ := H
      refine ev_p (pc' := 101) (loc' := [.ref (196 + 3 * j0), .int i1, .int i2]) (st' := [.int x25]) 1 am_q88 rfl ?_
      exact ev_r (v := some (.int x25)) am_q88 rfl rfl rfl rfl H
  replace H := H.2
  by_cases k30 : i1 = (5 : Int32)
  · replace H := H.1 k30
    refine ev_s (pc' := 102) (loc' := [.ref (196 + 3 * j0), .int i1, .int i2]) (st' := []) (h1 := h) am_q88 rfl rfl rfl (by rw [k30]; rfl) ?_
    refine ev_p (pc' := 104) (loc' := [.ref (196 + 3 * j0), .int i1, .int i2]) (st' := [.int i2, .ref (196 + 3 * j0)]) 2 am_q88 rfl ?_
    refine ev_c (vs := [.ref (196 + 3 * j0), .int i2]) (rest := []) 95 am_q88 rfl rfl rfl rfl rfl rfl rfl rfl rfl rfl rfl rfl (Or.inr (congrArg some (lk_tray Ly hj0))) (Cl.mono H (Nat.le_refl _) (fun r28 h27 H => ?_))
    obtain ⟨x29, rfl, Ly, H⟩ := H
    exact ev_r (v := some (.int x29)) am_q88 rfl rfl rfl rfl H
  replace H := H.2
  by_cases k34 : i1 = (6 : Int32)
  · replace H := H.1 k34
    refine ev_s (pc' := 108) (loc' := [.ref (196 + 3 * j0), .int i1, .int i2]) (st' := []) (h1 := h) am_q88 rfl rfl rfl (by rw [k34]; rfl) ?_
    refine ev_p (pc' := 109) (loc' := [.ref (196 + 3 * j0), .int i1, .int i2]) (st' := [.ref (196 + 3 * j0)]) 1 am_q88 rfl ?_
    refine ev_c (vs := [.ref (196 + 3 * j0)]) (rest := []) 92 am_q88 rfl rfl rfl rfl rfl rfl rfl rfl rfl rfl rfl rfl (Or.inr (congrArg some (lk_tray Ly hj0))) (Cl.mono H (Nat.le_refl _) (fun r32 h31 H => ?_))
    obtain ⟨x33, rfl, Ly, H⟩ := H
    exact ev_r (v := some (.int x33)) am_q88 rfl rfl rfl rfl H
  replace H := H.2
  by_cases k42 : i1 = (7 : Int32)
  · replace H := H.1 k42
    refine ev_s (pc' := 113) (loc' := [.ref (196 + 3 * j0), .int i1, .int i2]) (st' := []) (h1 := h) am_q88 rfl rfl rfl (by rw [k42]; rfl) ?_
    refine ev_p (pc' := 114) (loc' := [.ref (196 + 3 * j0), .int i1, .int i2]) (st' := [.int i2]) 1 am_q88 rfl ?_
    refine ev_jz (t := 126) am_q88 rfl rfl (fun hq => ?_) (fun hq => ?_)
    · replace H := H.1 hq
      refine ev_p (pc' := 131) (loc' := [.ref (196 + 3 * j0), .int i1, .int i2]) (st' := [.int i2, .int (1000 : Int32), .ref (196 + 3 * j0)]) 3 am_q88 rfl ?_
      obtain ⟨g35, H⟩ := H
      refine ev_s (pc' := 132) (loc' := [.ref (196 + 3 * j0), .int i1, .int i2]) (st' := [.int ((1000 : Int32) / i2), .ref (196 + 3 * j0)]) (h1 := h) am_q88 rfl rfl rfl (if_neg (t := none) g35) ?_
      refine ev_c (vs := [.ref (196 + 3 * j0), .int ((1000 : Int32) / i2)]) (rest := []) 90 am_q88 rfl rfl rfl rfl rfl rfl rfl rfl rfl rfl rfl rfl (Or.inr (congrArg some (lk_tray Ly hj0))) (Cl.mono H (Nat.le_refl _) (fun r37 h36 H => ?_))
      obtain ⟨x38, rfl, Ly, H⟩ := H
      exact ev_r (v := some (.int x38)) am_q88 rfl rfl rfl rfl H
    · replace H := H.2 hq
      refine ev_p (pc' := 120) (loc' := [.ref (196 + 3 * j0), .int i1, .int i2]) (st' := [.int (15 : Int32), .ref (196 + 3 * j0)]) 2 am_q88 rfl ?_
      refine ev_c (vs := [.ref (196 + 3 * j0), .int (15 : Int32)]) (rest := []) 89 am_q88 rfl rfl rfl rfl rfl rfl rfl rfl rfl rfl rfl rfl (Or.inr (congrArg some (lk_tray Ly hj0))) (Cl.mono H (Nat.le_refl _) (fun r40 h39 H => ?_))
      obtain ⟨x41, rfl, Ly, H⟩ := H
      refine ev_p (pc' := 135) (loc' := [.ref (196 + 3 * j0), .int i1, .int i2]) (st' := [.int x41]) 1 am_q88 rfl ?_
      exact ev_r (v := some (.int x41)) am_q88 rfl rfl rfl rfl H
  replace H := H.2
  by_cases k46 : i1 = (8 : Int32)
  · replace H := H.1 k46
    refine ev_s (pc' := 136) (loc' := [.ref (196 + 3 * j0), .int i1, .int i2]) (st' := []) (h1 := h) am_q88 rfl rfl rfl (by rw [k46]; rfl) ?_
    refine ev_p (pc' := 139) (loc' := [.ref (196 + 3 * j0), .int i1, .int i2]) (st' := [.int (10 : Int32), .ref (196 + 3 * j0)]) 2 am_q88 rfl ?_
    refine ev_c (vs := [.ref (196 + 3 * j0), .int (10 : Int32)]) (rest := []) 89 am_q88 rfl rfl rfl rfl rfl rfl rfl rfl rfl rfl rfl rfl (Or.inr (congrArg some (lk_tray Ly hj0))) (Cl.mono H (Nat.le_refl _) (fun r44 h43 H => ?_))
    obtain ⟨x45, rfl, Ly, H⟩ := H
    exact ev_r (v := some (.int x45)) am_q88 rfl rfl rfl rfl H
  replace H := H.2
  replace H := H ⟨k7, k11, k15, k19, k26, k30, k34, k42, k46⟩
  refine ev_s (pc' := 143) (loc' := [.ref (196 + 3 * j0), .int i1, .int i2]) (st' := []) (h1 := h) am_q88 rfl rfl rfl (am_tso (x := (i1).toInt) (by have z0 : (i1).toInt ≠ 0 := am_tn k7 (by decide); have z1 : (i1).toInt ≠ 1 := am_tn k11 (by decide); have z2 : (i1).toInt ≠ 2 := am_tn k15 (by decide); have z3 : (i1).toInt ≠ 3 := am_tn k19 (by decide); have z4 : (i1).toInt ≠ 4 := am_tn k26 (by decide); have z5 : (i1).toInt ≠ 5 := am_tn k30 (by decide); have z6 : (i1).toInt ≠ 6 := am_tn k34 (by decide); have z7 : (i1).toInt ≠ 7 := am_tn k42 (by decide); have z8 : (i1).toInt ≠ 8 := am_tn k46 (by decide); omega)) ?_
  refine ev_p (pc' := 145) (loc' := [.ref (196 + 3 * j0), .int i1, .int i2]) (st' := [.int (1 : Int32), .ref (196 + 3 * j0)]) 2 am_q88 rfl ?_
  refine ev_c (vs := [.ref (196 + 3 * j0), .int (1 : Int32)]) (rest := []) 89 am_q88 rfl rfl rfl rfl rfl rfl rfl rfl rfl rfl rfl rfl (Or.inr (congrArg some (lk_tray Ly hj0))) (Cl.mono H (Nat.le_refl _) (fun r48 h47 H => ?_))
  obtain ⟨x49, rfl, Ly, H⟩ := H
  exact ev_r (v := some (.int x49)) am_q88 rfl rfl rfl rfl H
/-! 89: X10_refuse -/
set_option maxRecDepth 20000 in
set_option maxHeartbeats 2000000 in
theorem ws89 {d : Nat} {j0 : Nat} (hj0 : j0 < 6) (i1 : Int32) {h : AH} {Q : Option Value → AH → Prop} (Ly : Lay h) (H : ∀ h1, h1 = am_si h (196 + 3 * j0) 7 i1 → Q (some (.int (-1 : Int32))) h1) : Cl d 89 [.ref (196 + 3 * j0), .int i1] h Q := by
  show Ev d 89 0 [.ref (196 + 3 * j0), .int i1] [] h Q
  refine ev_p (pc' := 2) (loc' := [.ref (196 + 3 * j0), .int i1]) (st' := [.int i1, .ref (196 + 3 * j0)]) 2 am_q89 rfl ?_
  refine ev_s (pc' := 5) (loc' := [.ref (196 + 3 * j0), .int i1]) (st' := []) (h1 := am_si h (196 + 3 * j0) 7 i1) am_q89 rfl rfl rfl (if_pos (e := none) (lk_tray Ly hj0)) ?_
  replace H := H _ rfl
  replace Ly : Lay (am_si h (196 + 3 * j0) 7 i1) := Ly.si _ _ _
  generalize am_si h (196 + 3 * j0) 7 i1 = h1 at H Ly ⊢
  refine ev_p (pc' := 6) (loc' := [.ref (196 + 3 * j0), .int i1]) (st' := [.int (-1 : Int32)]) 1 am_q89 rfl ?_
  exact ev_r (v := some (.int (-1 : Int32))) am_q89 rfl rfl rfl rfl H
/-! 90: X10_answer -/
set_option maxRecDepth 20000 in
set_option maxHeartbeats 2000000 in
theorem ws90 {d : Nat} {j0 : Nat} (hj0 : j0 < 6) (i1 : Int32) {h : AH} {Q : Option Value → AH → Prop} (Ly : Lay h) (H : ∀ h1, h1 = am_si h (196 + 3 * j0) 7 (0 : Int32) → Q (some (.int i1)) h1) : Cl d 90 [.ref (196 + 3 * j0), .int i1] h Q := by
  show Ev d 90 0 [.ref (196 + 3 * j0), .int i1] [] h Q
  refine ev_p (pc' := 2) (loc' := [.ref (196 + 3 * j0), .int i1]) (st' := [.int (0 : Int32), .ref (196 + 3 * j0)]) 2 am_q90 rfl ?_
  refine ev_s (pc' := 5) (loc' := [.ref (196 + 3 * j0), .int i1]) (st' := []) (h1 := am_si h (196 + 3 * j0) 7 (0 : Int32)) am_q90 rfl rfl rfl (if_pos (e := none) (lk_tray Ly hj0)) ?_
  replace H := H _ rfl
  replace Ly : Lay (am_si h (196 + 3 * j0) 7 (0 : Int32)) := Ly.si _ _ _
  generalize am_si h (196 + 3 * j0) 7 (0 : Int32) = h1 at H Ly ⊢
  refine ev_p (pc' := 6) (loc' := [.ref (196 + 3 * j0), .int i1]) (st' := [.int i1]) 1 am_q90 rfl ?_
  exact ev_r (v := some (.int i1)) am_q90 rfl rfl rfl rfl H
/-! 91: X10_homeOfRight -/
set_option maxRecDepth 20000 in
set_option maxHeartbeats 2000000 in
theorem ws91 {d : Nat} {j0 : Nat} (hj0 : j0 < 6) (i1 : Int32) {h : AH} {Q : Option Value → AH → Prop} (Ly : Lay h) (H : ((¬ (am_gi h (196 + 3 * j0) 0) = (0 : Int32)) → Cl d 93 [.ref (196 + 3 * j0), .int i1] h (fun r2 h1 => ∃ x3, r2 = some (.int x3) ∧ Lay h1 ∧ (x3 = (0 : Int32) → Cl d 89 [.ref (196 + 3 * j0), .int (11 : Int32)] h1 (fun r5 h4 => ∃ x6, r5 = some (.int x6) ∧ Lay h4 ∧ Q (some (.int x6)) h4)) ∧ (¬ x3 = (0 : Int32) → Cl d 90 [.ref (196 + 3 * j0), .int (am_gi h1 (196 + 3 * j0) 2)] h1 (fun r8 h7 => ∃ x9, r8 = some (.int x9) ∧ Lay h7 ∧ Q (some (.int x9)) h7)))) ∧ (¬ (¬ (am_gi h (196 + 3 * j0) 0) = (0 : Int32)) → Cl d 89 [.ref (196 + 3 * j0), .int (10 : Int32)] h (fun r11 h10 => ∃ x12, r11 = some (.int x12) ∧ Lay h10 ∧ Q (some (.int x12)) h10))) : Cl (d + 1) 91 [.ref (196 + 3 * j0), .int i1] h Q := by
  show Ev (d + 1) 91 0 [.ref (196 + 3 * j0), .int i1] [] h Q
  refine ev_p (pc' := 1) (loc' := [.ref (196 + 3 * j0), .int i1]) (st' := [.ref (196 + 3 * j0)]) 1 am_q91 rfl ?_
  refine ev_s (pc' := 4) (loc' := [.ref (196 + 3 * j0), .int i1]) (st' := [.int (am_gi h (196 + 3 * j0) 0)]) (h1 := h) am_q91 rfl rfl rfl (if_pos (e := none) (lk_tray Ly hj0)) ?_
  refine ev_jz (t := 14) am_q91 rfl rfl (fun hq => ?_) (fun hq => ?_)
  · replace H := H.1 hq
    refine ev_p (pc' := 16) (loc' := [.ref (196 + 3 * j0), .int i1]) (st' := [.int i1, .ref (196 + 3 * j0)]) 2 am_q91 rfl ?_
    refine ev_c (vs := [.ref (196 + 3 * j0), .int i1]) (rest := []) 93 am_q91 rfl rfl rfl rfl rfl rfl rfl rfl rfl rfl rfl rfl (Or.inr (congrArg some (lk_tray Ly hj0))) (Cl.mono H (Nat.le_refl _) (fun r2 h1 H => ?_))
    obtain ⟨x3, rfl, Ly, H⟩ := H
    refine ev_jz (t := 33) am_q91 rfl rfl (fun hq => ?_) (fun hq => ?_)
    · replace H := H.1 hq
      refine ev_p (pc' := 36) (loc' := [.ref (196 + 3 * j0), .int i1]) (st' := [.int (11 : Int32), .ref (196 + 3 * j0)]) 2 am_q91 rfl ?_
      refine ev_c (vs := [.ref (196 + 3 * j0), .int (11 : Int32)]) (rest := []) 89 am_q91 rfl rfl rfl rfl rfl rfl rfl rfl rfl rfl rfl rfl (Or.inr (congrArg some (lk_tray Ly hj0))) (Cl.mono H (Nat.le_refl _) (fun r5 h4 H => ?_))
      obtain ⟨x6, rfl, Ly, H⟩ := H
      exact ev_r (v := some (.int x6)) am_q91 rfl rfl rfl rfl H
    · replace H := H.2 hq
      refine ev_p (pc' := 24) (loc' := [.ref (196 + 3 * j0), .int i1]) (st' := [.ref (196 + 3 * j0), .ref (196 + 3 * j0)]) 2 am_q91 rfl ?_
      refine ev_s (pc' := 27) (loc' := [.ref (196 + 3 * j0), .int i1]) (st' := [.int (am_gi h1 (196 + 3 * j0) 2), .ref (196 + 3 * j0)]) (h1 := h1) am_q91 rfl rfl rfl (if_pos (e := none) (lk_tray Ly hj0)) ?_
      refine ev_c (vs := [.ref (196 + 3 * j0), .int (am_gi h1 (196 + 3 * j0) 2)]) (rest := []) 90 am_q91 rfl rfl rfl rfl rfl rfl rfl rfl rfl rfl rfl rfl (Or.inr (congrArg some (lk_tray Ly hj0))) (Cl.mono H (Nat.le_refl _) (fun r8 h7 H => ?_))
      obtain ⟨x9, rfl, Ly, H⟩ := H
      refine ev_p (pc' := 39) (loc' := [.ref (196 + 3 * j0), .int i1]) (st' := [.int x9]) 1 am_q91 rfl ?_
      exact ev_r (v := some (.int x9)) am_q91 rfl rfl rfl rfl H
  · replace H := H.2 hq
    refine ev_p (pc' := 10) (loc' := [.ref (196 + 3 * j0), .int i1]) (st' := [.int (10 : Int32), .ref (196 + 3 * j0)]) 2 am_q91 rfl ?_
    refine ev_c (vs := [.ref (196 + 3 * j0), .int (10 : Int32)]) (rest := []) 89 am_q91 rfl rfl rfl rfl rfl rfl rfl rfl rfl rfl rfl rfl (Or.inr (congrArg some (lk_tray Ly hj0))) (Cl.mono H (Nat.le_refl _) (fun r11 h10 H => ?_))
    obtain ⟨x12, rfl, Ly, H⟩ := H
    exact ev_r (v := some (.int x12)) am_q91 rfl rfl rfl rfl H
/-! 92: X10_homeOfLet -/
set_option maxRecDepth 20000 in
set_option maxHeartbeats 2000000 in
theorem ws92 {d : Nat} {j0 : Nat} (hj0 : j0 < 6)  {h : AH} {Q : Option Value → AH → Prop} (Ly : Lay h) (H : ((¬ (am_gi h (196 + 3 * j0) 0) = (0 : Int32)) → Cl d 93 [.ref (196 + 3 * j0), .int (1 : Int32)] h (fun r2 h1 => ∃ x3, r2 = some (.int x3) ∧ Lay h1 ∧ (x3 = (0 : Int32) → Cl d 89 [.ref (196 + 3 * j0), .int (14 : Int32)] h1 (fun r5 h4 => ∃ x6, r5 = some (.int x6) ∧ Lay h4 ∧ Q (some (.int x6)) h4)) ∧ (¬ x3 = (0 : Int32) → Cl d 90 [.ref (196 + 3 * j0), .int (am_gi h1 (196 + 3 * j0) 2)] h1 (fun r8 h7 => ∃ x9, r8 = some (.int x9) ∧ Lay h7 ∧ Q (some (.int x9)) h7)))) ∧ (¬ (¬ (am_gi h (196 + 3 * j0) 0) = (0 : Int32)) → Cl d 90 [.ref (196 + 3 * j0), .int (0 : Int32)] h (fun r11 h10 => ∃ x12, r11 = some (.int x12) ∧ Lay h10 ∧ Q (some (.int x12)) h10))) : Cl (d + 1) 92 [.ref (196 + 3 * j0)] h Q := by
  show Ev (d + 1) 92 0 [.ref (196 + 3 * j0)] [] h Q
  refine ev_p (pc' := 1) (loc' := [.ref (196 + 3 * j0)]) (st' := [.ref (196 + 3 * j0)]) 1 am_q92 rfl ?_
  refine ev_s (pc' := 4) (loc' := [.ref (196 + 3 * j0)]) (st' := [.int (am_gi h (196 + 3 * j0) 0)]) (h1 := h) am_q92 rfl rfl rfl (if_pos (e := none) (lk_tray Ly hj0)) ?_
  refine ev_jz (t := 13) am_q92 rfl rfl (fun hq => ?_) (fun hq => ?_)
  · replace H := H.1 hq
    refine ev_p (pc' := 15) (loc' := [.ref (196 + 3 * j0)]) (st' := [.int (1 : Int32), .ref (196 + 3 * j0)]) 2 am_q92 rfl ?_
    refine ev_c (vs := [.ref (196 + 3 * j0), .int (1 : Int32)]) (rest := []) 93 am_q92 rfl rfl rfl rfl rfl rfl rfl rfl rfl rfl rfl rfl (Or.inr (congrArg some (lk_tray Ly hj0))) (Cl.mono H (Nat.le_refl _) (fun r2 h1 H => ?_))
    obtain ⟨x3, rfl, Ly, H⟩ := H
    refine ev_jz (t := 32) am_q92 rfl rfl (fun hq => ?_) (fun hq => ?_)
    · replace H := H.1 hq
      refine ev_p (pc' := 35) (loc' := [.ref (196 + 3 * j0)]) (st' := [.int (14 : Int32), .ref (196 + 3 * j0)]) 2 am_q92 rfl ?_
      refine ev_c (vs := [.ref (196 + 3 * j0), .int (14 : Int32)]) (rest := []) 89 am_q92 rfl rfl rfl rfl rfl rfl rfl rfl rfl rfl rfl rfl (Or.inr (congrArg some (lk_tray Ly hj0))) (Cl.mono H (Nat.le_refl _) (fun r5 h4 H => ?_))
      obtain ⟨x6, rfl, Ly, H⟩ := H
      exact ev_r (v := some (.int x6)) am_q92 rfl rfl rfl rfl H
    · replace H := H.2 hq
      refine ev_p (pc' := 23) (loc' := [.ref (196 + 3 * j0)]) (st' := [.ref (196 + 3 * j0), .ref (196 + 3 * j0)]) 2 am_q92 rfl ?_
      refine ev_s (pc' := 26) (loc' := [.ref (196 + 3 * j0)]) (st' := [.int (am_gi h1 (196 + 3 * j0) 2), .ref (196 + 3 * j0)]) (h1 := h1) am_q92 rfl rfl rfl (if_pos (e := none) (lk_tray Ly hj0)) ?_
      refine ev_c (vs := [.ref (196 + 3 * j0), .int (am_gi h1 (196 + 3 * j0) 2)]) (rest := []) 90 am_q92 rfl rfl rfl rfl rfl rfl rfl rfl rfl rfl rfl rfl (Or.inr (congrArg some (lk_tray Ly hj0))) (Cl.mono H (Nat.le_refl _) (fun r8 h7 H => ?_))
      obtain ⟨x9, rfl, Ly, H⟩ := H
      refine ev_p (pc' := 38) (loc' := [.ref (196 + 3 * j0)]) (st' := [.int x9]) 1 am_q92 rfl ?_
      exact ev_r (v := some (.int x9)) am_q92 rfl rfl rfl rfl H
  · replace H := H.2 hq
    refine ev_p (pc' := 9) (loc' := [.ref (196 + 3 * j0)]) (st' := [.int (0 : Int32), .ref (196 + 3 * j0)]) 2 am_q92 rfl ?_
    refine ev_c (vs := [.ref (196 + 3 * j0), .int (0 : Int32)]) (rest := []) 90 am_q92 rfl rfl rfl rfl rfl rfl rfl rfl rfl rfl rfl rfl (Or.inr (congrArg some (lk_tray Ly hj0))) (Cl.mono H (Nat.le_refl _) (fun r11 h10 H => ?_))
    obtain ⟨x12, rfl, Ly, H⟩ := H
    exact ev_r (v := some (.int x12)) am_q92 rfl rfl rfl rfl H
/-! 93: X10_isRightUnder -/
set_option maxRecDepth 20000 in
set_option maxHeartbeats 2000000 in
theorem ws93 {d : Nat} {j0 : Nat} (hj0 : j0 < 6) (i1 : Int32) {h : AH} {Q : Option Value → AH → Prop} (Ly : Lay h) (H : ((¬ (am_gi h (196 + 3 * j0) 0) = (1 : Int32)) → Q (some (.int (0 : Int32))) h) ∧ (¬ (¬ (am_gi h (196 + 3 * j0) 0) = (1 : Int32)) → ((am_gi h (196 + 3 * j0) 1) = i1 → Q (some (.int (1 : Int32))) h) ∧ (¬ (am_gi h (196 + 3 * j0) 1) = i1 → (i1 = (0 : Int32) → Q (some (.int (1 : Int32))) h) ∧ (¬ i1 = (0 : Int32) → ((¬ i1 = (1 : Int32)) → Q (some (.int (0 : Int32))) h) ∧ (¬ (¬ i1 = (1 : Int32)) → ((¬ (am_gi h (196 + 3 * j0) 1) = (2 : Int32)) → Q (some (.int (0 : Int32))) h) ∧ (¬ (¬ (am_gi h (196 + 3 * j0) 1) = (2 : Int32)) → Q (some (.int (1 : Int32))) h)))))) : Cl d 93 [.ref (196 + 3 * j0), .int i1] h Q := by
  show Ev d 93 0 [.ref (196 + 3 * j0), .int i1] [] h Q
  refine ev_p (pc' := 1) (loc' := [.ref (196 + 3 * j0), .int i1]) (st' := [.ref (196 + 3 * j0)]) 1 am_q93 rfl ?_
  refine ev_s (pc' := 4) (loc' := [.ref (196 + 3 * j0), .int i1]) (st' := [.int (am_gi h (196 + 3 * j0) 0)]) (h1 := h) am_q93 rfl rfl rfl (if_pos (e := none) (lk_tray Ly hj0)) ?_
  refine ev_p (pc' := 5) (loc' := [.ref (196 + 3 * j0), .int i1]) (st' := [.int (1 : Int32), .int (am_gi h (196 + 3 * j0) 0)]) 1 am_q93 rfl ?_
  refine ev_jc (t := 37) am_q93 rfl rfl (fun hq => ?_) (fun hq => ?_)
  · replace H := H.1 hq
    refine ev_p (pc' := 38) (loc' := [.null, .null]) (st' := [.int (0 : Int32)]) 1 am_q93 rfl ?_
    exact ev_r (v := some (.int (0 : Int32))) am_q93 rfl rfl rfl rfl H
  · replace H := H.2 hq
    refine ev_p (pc' := 9) (loc' := [.ref (196 + 3 * j0), .int i1]) (st' := [.ref (196 + 3 * j0)]) 1 am_q93 rfl ?_
    refine ev_s (pc' := 12) (loc' := [.ref (196 + 3 * j0), .int i1]) (st' := [.int (am_gi h (196 + 3 * j0) 1)]) (h1 := h) am_q93 rfl rfl rfl (if_pos (e := none) (lk_tray Ly hj0)) ?_
    refine ev_p (pc' := 13) (loc' := [.ref (196 + 3 * j0), .int i1]) (st' := [.int i1, .int (am_gi h (196 + 3 * j0) 1)]) 1 am_q93 rfl ?_
    refine ev_jc (t := 33) am_q93 rfl rfl (fun hq => ?_) (fun hq => ?_)
    · replace H := H.1 hq
      refine ev_p (pc' := 38) (loc' := [.null, .null]) (st' := [.int (1 : Int32)]) 2 am_q93 rfl ?_
      exact ev_r (v := some (.int (1 : Int32))) am_q93 rfl rfl rfl rfl H
    · replace H := H.2 hq
      refine ev_p (pc' := 17) (loc' := [.ref (196 + 3 * j0), .int i1]) (st' := [.int i1]) 1 am_q93 rfl ?_
      refine ev_jz (t := 33) am_q93 rfl rfl (fun hq => ?_) (fun hq => ?_)
      · replace H := H.1 hq
        refine ev_p (pc' := 38) (loc' := [.null, .null]) (st' := [.int (1 : Int32)]) 2 am_q93 rfl ?_
        exact ev_r (v := some (.int (1 : Int32))) am_q93 rfl rfl rfl rfl H
      · replace H := H.2 hq
        refine ev_p (pc' := 22) (loc' := [.ref (196 + 3 * j0), .int i1]) (st' := [.int (1 : Int32), .int i1]) 2 am_q93 rfl ?_
        refine ev_jc (t := 37) am_q93 rfl rfl (fun hq => ?_) (fun hq => ?_)
        · replace H := H.1 hq
          refine ev_p (pc' := 38) (loc' := [.null, .null]) (st' := [.int (0 : Int32)]) 1 am_q93 rfl ?_
          exact ev_r (v := some (.int (0 : Int32))) am_q93 rfl rfl rfl rfl H
        · replace H := H.2 hq
          refine ev_p (pc' := 26) (loc' := [.ref (196 + 3 * j0), .int i1]) (st' := [.ref (196 + 3 * j0)]) 1 am_q93 rfl ?_
          refine ev_s (pc' := 29) (loc' := [.ref (196 + 3 * j0), .int i1]) (st' := [.int (am_gi h (196 + 3 * j0) 1)]) (h1 := h) am_q93 rfl rfl rfl (if_pos (e := none) (lk_tray Ly hj0)) ?_
          refine ev_p (pc' := 30) (loc' := [.ref (196 + 3 * j0), .int i1]) (st' := [.int (2 : Int32), .int (am_gi h (196 + 3 * j0) 1)]) 1 am_q93 rfl ?_
          refine ev_jc (t := 37) am_q93 rfl rfl (fun hq => ?_) (fun hq => ?_)
          · replace H := H.1 hq
            refine ev_p (pc' := 38) (loc' := [.null, .null]) (st' := [.int (0 : Int32)]) 1 am_q93 rfl ?_
            exact ev_r (v := some (.int (0 : Int32))) am_q93 rfl rfl rfl rfl H
          · replace H := H.2 hq
            refine ev_p (pc' := 38) (loc' := [.null, .null]) (st' := [.int (1 : Int32)]) 2 am_q93 rfl ?_
            exact ev_r (v := some (.int (1 : Int32))) am_q93 rfl rfl rfl rfl H
/-! 94: X10_placeOf -/
set_option maxRecDepth 20000 in
set_option maxHeartbeats 2000000 in
theorem ws94 {d : Nat} {j0 : Nat} (hj0 : j0 < 6) (i1 : Int32) (i2 : Int32) {h : AH} {Q : Option Value → AH → Prop} (Ly : Lay h) (H : ((¬ (am_gi h (196 + 3 * j0) 0) = (0 : Int32)) → ((am_gi h (196 + 3 * j0) 0) = i1 → (i2 < (0 : Int32) → Cl d 89 [.ref (196 + 3 * j0), .int (12 : Int32)] h (fun r2 h1 => ∃ x3, r2 = some (.int x3) ∧ Lay h1 ∧ Q (some (.int x3)) h1)) ∧ (¬ i2 < (0 : Int32) → (i2 < (am_gi h (196 + 3 * j0) 6) → (i1 = (2 : Int32) → ∃ b4, am_gr h (196 + 3 * j0) 3 = some b4 ∧ (am_kd h b4 = 102 ∨ am_kd h b4 = 103) ∧ am_in i2 (am_ln h b4) ∧ Cl d 90 [.ref (196 + 3 * j0), .int (am_gi h b4 (Int32.toNatClampNeg i2))] h (fun r9 h8 => ∃ x10, r9 = some (.int x10) ∧ Lay h8 ∧ Q (some (.int x10)) h8)) ∧ (i1 = (3 : Int32) → am_in i2 24 ∧ Cl d 90 [.ref (196 + 3 * j0), .int (Int64.toInt32 (am_gl h (198 + 3 * j0) (Int32.toNatClampNeg i2)))] h (fun r14 h13 => ∃ x15, r14 = some (.int x15) ∧ Lay h13 ∧ Q (some (.int x15)) h13)) ∧ (¬ i1 = (2 : Int32) ∧ ¬ i1 = (3 : Int32) → Cl d 90 [.ref (196 + 3 * j0), .int (((am_gi h (196 + 3 * j0) 5) >>> (i2 &&& 31)) &&& (1 : Int32))] h (fun r18 h17 => ∃ x19, r18 = some (.int x19) ∧ Lay h17 ∧ Q (some (.int x19)) h17))) ∧ (¬ i2 < (am_gi h (196 + 3 * j0) 6) → Cl d 89 [.ref (196 + 3 * j0), .int (12 : Int32)] h (fun r21 h20 => ∃ x22, r21 = some (.int x22) ∧ Lay h20 ∧ Q (some (.int x22)) h20)))) ∧ (¬ (am_gi h (196 + 3 * j0) 0) = i1 → Cl d 89 [.ref (196 + 3 * j0), .int (11 : Int32)] h (fun r24 h23 => ∃ x25, r24 = some (.int x25) ∧ Lay h23 ∧ Q (some (.int x25)) h23))) ∧ (¬ (¬ (am_gi h (196 + 3 * j0) 0) = (0 : Int32)) → Cl d 89 [.ref (196 + 3 * j0), .int (10 : Int32)] h (fun r27 h26 => ∃ x28, r27 = some (.int x28) ∧ Lay h26 ∧ Q (some (.int x28)) h26))) : Cl (d + 1) 94 [.ref (196 + 3 * j0), .int i1, .int i2] h Q := by
  show Ev (d + 1) 94 0 [.ref (196 + 3 * j0), .int i1, .int i2] [] h Q
  refine ev_p (pc' := 1) (loc' := [.ref (196 + 3 * j0), .int i1, .int i2]) (st' := [.ref (196 + 3 * j0)]) 1 am_q94 rfl ?_
  refine ev_s (pc' := 4) (loc' := [.ref (196 + 3 * j0), .int i1, .int i2]) (st' := [.int (am_gi h (196 + 3 * j0) 0)]) (h1 := h) am_q94 rfl rfl rfl (if_pos (e := none) (lk_tray Ly hj0)) ?_
  refine ev_jz (t := 14) am_q94 rfl rfl (fun hq => ?_) (fun hq => ?_)
  · replace H := H.1 hq
    refine ev_p (pc' := 15) (loc' := [.ref (196 + 3 * j0), .int i1, .int i2]) (st' := [.ref (196 + 3 * j0)]) 1 am_q94 rfl ?_
    refine ev_s (pc' := 18) (loc' := [.ref (196 + 3 * j0), .int i1, .int i2]) (st' := [.int (am_gi h (196 + 3 * j0) 0)]) (h1 := h) am_q94 rfl rfl rfl (if_pos (e := none) (lk_tray Ly hj0)) ?_
    refine ev_p (pc' := 19) (loc' := [.ref (196 + 3 * j0), .int i1, .int i2]) (st' := [.int i1, .int (am_gi h (196 + 3 * j0) 0)]) 1 am_q94 rfl ?_
    refine ev_jc (t := 29) am_q94 rfl rfl (fun hq => ?_) (fun hq => ?_)
    · replace H := H.1 hq
      refine ev_p (pc' := 30) (loc' := [.ref (196 + 3 * j0), .int i1, .int i2]) (st' := [.int i2]) 1 am_q94 rfl ?_
      refine ev_jz (t := 41) am_q94 rfl rfl (fun hq => ?_) (fun hq => ?_)
      · replace H := H.1 hq
        refine ev_p (pc' := 44) (loc' := [.ref (196 + 3 * j0), .null, .null]) (st' := [.int (12 : Int32), .ref (196 + 3 * j0)]) 2 am_q94 rfl ?_
        refine ev_c (vs := [.ref (196 + 3 * j0), .int (12 : Int32)]) (rest := []) 89 am_q94 rfl rfl rfl rfl rfl rfl rfl rfl rfl rfl rfl rfl (Or.inr (congrArg some (lk_tray Ly hj0))) (Cl.mono H (Nat.le_refl _) (fun r2 h1 H => ?_))
        obtain ⟨x3, rfl, Ly, H⟩ := H
        exact ev_r (v := some (.int x3)) am_q94 rfl rfl rfl rfl H
      · replace H := H.2 hq
        refine ev_p (pc' := 35) (loc' := [.ref (196 + 3 * j0), .int i1, .int i2]) (st' := [.ref (196 + 3 * j0), .int i2]) 2 am_q94 rfl ?_
        refine ev_s (pc' := 38) (loc' := [.ref (196 + 3 * j0), .int i1, .int i2]) (st' := [.int (am_gi h (196 + 3 * j0) 6), .int i2]) (h1 := h) am_q94 rfl rfl rfl (if_pos (e := none) (lk_tray Ly hj0)) ?_
        refine ev_jc (t := 48) am_q94 rfl rfl (fun hq => ?_) (fun hq => ?_)
        · replace H := H.1 hq
          refine ev_p (pc' := 49) (loc' := [.ref (196 + 3 * j0), .int i1, .int i2]) (st' := [.int i1]) 1 am_q94 rfl ?_
          by_cases k11 : i1 = (2 : Int32)
          · replace H := H.1 k11
            refine ev_s (pc' := 76) (loc' := [.ref (196 + 3 * j0), .int i1, .int i2]) (st' := []) (h1 := h) am_q94 rfl rfl rfl (by rw [k11]; rfl) ?_
            refine ev_p (pc' := 78) (loc' := [.ref (196 + 3 * j0), .int i1, .int i2]) (st' := [.ref (196 + 3 * j0), .ref (196 + 3 * j0)]) 2 am_q94 rfl ?_
            obtain ⟨b4, e5, H⟩ := H
            refine ev_s (pc' := 81) (loc' := [.ref (196 + 3 * j0), .int i1, .int i2]) (st' := [.ref b4, .ref (196 + 3 * j0)]) (h1 := h) am_q94 rfl rfl rfl (am_gf2 (lk_tray Ly hj0) e5) ?_
            refine ev_p (pc' := 82) (loc' := [.ref (196 + 3 * j0), .int i1, .int i2]) (st' := [.int i2, .ref b4, .ref (196 + 3 * j0)]) 1 am_q94 rfl ?_
            obtain ⟨g6, g7, H⟩ := H
            refine ev_s (pc' := 83) (loc' := [.ref (196 + 3 * j0), .int i1, .int i2]) (st' := [.int (am_gi h b4 (Int32.toNatClampNeg i2)), .ref (196 + 3 * j0)]) (h1 := h) am_q94 rfl rfl rfl (am_xx g6 g7) ?_
            refine ev_c (vs := [.ref (196 + 3 * j0), .int (am_gi h b4 (Int32.toNatClampNeg i2))]) (rest := []) 90 am_q94 rfl rfl rfl rfl rfl rfl rfl rfl rfl rfl rfl rfl (Or.inr (congrArg some (lk_tray Ly hj0))) (Cl.mono H (Nat.le_refl _) (fun r9 h8 H => ?_))
            obtain ⟨x10, rfl, Ly, H⟩ := H
            exact ev_r (v := some (.int x10)) am_q94 rfl rfl rfl rfl H
          replace H := H.2
          by_cases k16 : i1 = (3 : Int32)
          · replace H := H.1 k16
            refine ev_s (pc' := 87) (loc' := [.ref (196 + 3 * j0), .int i1, .int i2]) (st' := []) (h1 := h) am_q94 rfl rfl rfl (by rw [k16]; rfl) ?_
            refine ev_p (pc' := 89) (loc' := [.ref (196 + 3 * j0), .int i1, .int i2]) (st' := [.ref (196 + 3 * j0), .ref (196 + 3 * j0)]) 2 am_q94 rfl ?_
            refine ev_s (pc' := 92) (loc' := [.ref (196 + 3 * j0), .int i1, .int i2]) (st' := [.ref (198 + 3 * j0), .ref (196 + 3 * j0)]) (h1 := h) am_q94 rfl rfl rfl (am_gf2 (lk_tray Ly hj0) (lr_debts Ly hj0)) ?_
            refine ev_p (pc' := 93) (loc' := [.ref (196 + 3 * j0), .int i1, .int i2]) (st' := [.int i2, .ref (198 + 3 * j0), .ref (196 + 3 * j0)]) 1 am_q94 rfl ?_
            obtain ⟨g12, H⟩ := H
            refine ev_s (pc' := 94) (loc' := [.ref (196 + 3 * j0), .int i1, .int i2]) (st' := [.long (am_gl h (198 + 3 * j0) (Int32.toNatClampNeg i2)), .ref (196 + 3 * j0)]) (h1 := h) am_q94 rfl rfl rfl (am_xx (lk_debts Ly hj0) (am_inl (ln_debts Ly hj0) g12)) ?_
            refine ev_p (pc' := 95) (loc' := [.ref (196 + 3 * j0), .int i1, .int i2]) (st' := [.int (Int64.toInt32 (am_gl h (198 + 3 * j0) (Int32.toNatClampNeg i2))), .ref (196 + 3 * j0)]) 1 am_q94 rfl ?_
            refine ev_c (vs := [.ref (196 + 3 * j0), .int (Int64.toInt32 (am_gl h (198 + 3 * j0) (Int32.toNatClampNeg i2)))]) (rest := []) 90 am_q94 rfl rfl rfl rfl rfl rfl rfl rfl rfl rfl rfl rfl (Or.inr (congrArg some (lk_tray Ly hj0))) (Cl.mono H (Nat.le_refl _) (fun r14 h13 H => ?_))
            obtain ⟨x15, rfl, Ly, H⟩ := H
            exact ev_r (v := some (.int x15)) am_q94 rfl rfl rfl rfl H
          replace H := H.2
          replace H := H ⟨k11, k16⟩
          refine ev_s (pc' := 99) (loc' := [.ref (196 + 3 * j0), .int i1, .int i2]) (st' := []) (h1 := h) am_q94 rfl rfl rfl (by have z0 : (i1).toInt ≠ 2 := am_tn k11 (by decide); have z1 : (i1).toInt ≠ 3 := am_tn k16 (by decide); show some (am_tgt 49 (Op.lookupswitch.offset [(2, 27), (3, 38)] 50 (i1).toInt), _, _, _) = _; rw [show Op.lookupswitch.offset [(2, 27), (3, 38)] 50 (i1).toInt = 50 by simp [Op.lookupswitch.offset, Ne.symm z0, z0, Ne.symm z1, z1]]; rfl) ?_
          refine ev_p (pc' := 101) (loc' := [.ref (196 + 3 * j0), .int i1, .int i2]) (st' := [.ref (196 + 3 * j0), .ref (196 + 3 * j0)]) 2 am_q94 rfl ?_
          refine ev_s (pc' := 104) (loc' := [.ref (196 + 3 * j0), .int i1, .int i2]) (st' := [.int (am_gi h (196 + 3 * j0) 5), .ref (196 + 3 * j0)]) (h1 := h) am_q94 rfl rfl rfl (if_pos (e := none) (lk_tray Ly hj0)) ?_
          refine ev_p (pc' := 108) (loc' := [.ref (196 + 3 * j0), .int i1, .int i2]) (st' := [.int (((am_gi h (196 + 3 * j0) 5) >>> (i2 &&& 31)) &&& (1 : Int32)), .ref (196 + 3 * j0)]) 4 am_q94 rfl ?_
          refine ev_c (vs := [.ref (196 + 3 * j0), .int (((am_gi h (196 + 3 * j0) 5) >>> (i2 &&& 31)) &&& (1 : Int32))]) (rest := []) 90 am_q94 rfl rfl rfl rfl rfl rfl rfl rfl rfl rfl rfl rfl (Or.inr (congrArg some (lk_tray Ly hj0))) (Cl.mono H (Nat.le_refl _) (fun r18 h17 H => ?_))
          obtain ⟨x19, rfl, Ly, H⟩ := H
          exact ev_r (v := some (.int x19)) am_q94 rfl rfl rfl rfl H
        · replace H := H.2 hq
          refine ev_p (pc' := 44) (loc' := [.ref (196 + 3 * j0), .null, .null]) (st' := [.int (12 : Int32), .ref (196 + 3 * j0)]) 2 am_q94 rfl ?_
          refine ev_c (vs := [.ref (196 + 3 * j0), .int (12 : Int32)]) (rest := []) 89 am_q94 rfl rfl rfl rfl rfl rfl rfl rfl rfl rfl rfl rfl (Or.inr (congrArg some (lk_tray Ly hj0))) (Cl.mono H (Nat.le_refl _) (fun r21 h20 H => ?_))
          obtain ⟨x22, rfl, Ly, H⟩ := H
          exact ev_r (v := some (.int x22)) am_q94 rfl rfl rfl rfl H
    · replace H := H.2 hq
      refine ev_p (pc' := 25) (loc' := [.ref (196 + 3 * j0), .int i1, .int i2]) (st' := [.int (11 : Int32), .ref (196 + 3 * j0)]) 2 am_q94 rfl ?_
      refine ev_c (vs := [.ref (196 + 3 * j0), .int (11 : Int32)]) (rest := []) 89 am_q94 rfl rfl rfl rfl rfl rfl rfl rfl rfl rfl rfl rfl (Or.inr (congrArg some (lk_tray Ly hj0))) (Cl.mono H (Nat.le_refl _) (fun r24 h23 H => ?_))
      obtain ⟨x25, rfl, Ly, H⟩ := H
      exact ev_r (v := some (.int x25)) am_q94 rfl rfl rfl rfl H
  · replace H := H.2 hq
    refine ev_p (pc' := 10) (loc' := [.ref (196 + 3 * j0), .int i1, .int i2]) (st' := [.int (10 : Int32), .ref (196 + 3 * j0)]) 2 am_q94 rfl ?_
    refine ev_c (vs := [.ref (196 + 3 * j0), .int (10 : Int32)]) (rest := []) 89 am_q94 rfl rfl rfl rfl rfl rfl rfl rfl rfl rfl rfl rfl (Or.inr (congrArg some (lk_tray Ly hj0))) (Cl.mono H (Nat.le_refl _) (fun r27 h26 H => ?_))
    obtain ⟨x28, rfl, Ly, H⟩ := H
    exact ev_r (v := some (.int x28)) am_q94 rfl rfl rfl rfl H
/-! 95: X10_sumOfCopy -/
set_option maxRecDepth 20000 in
set_option maxHeartbeats 2000000 in
theorem ws95 {d : Nat} {j0 : Nat} (hj0 : j0 < 6) (i1 : Int32) {h : AH} {Q : Option Value → AH → Prop} (Ly : Lay h) (H : ((¬ (am_gi h (196 + 3 * j0) 0) = (0 : Int32)) → ((am_gi h (196 + 3 * j0) 0) = (2 : Int32) → (i1 < (0 : Int32) → Cl d 89 [.ref (196 + 3 * j0), .int (12 : Int32)] h (fun r2 h1 => ∃ x3, r2 = some (.int x3) ∧ Lay h1 ∧ Q (some (.int x3)) h1)) ∧ (¬ i1 < (0 : Int32) → ((am_gi h (196 + 3 * j0) 6) < ((1 : Int32) + i1) → Cl d 89 [.ref (196 + 3 * j0), .int (12 : Int32)] h (fun r5 h4 => ∃ x6, r5 = some (.int x6) ∧ Lay h4 ∧ Q (some (.int x6)) h4)) ∧ (¬ (am_gi h (196 + 3 * j0) 6) < ((1 : Int32) + i1) → ((i1 + i1) ≤ (9 : Int32) → Ev (d + 1) 95 62 [.ref (196 + 3 * j0), .int i1, .int (0 : Int32), .int (1 : Int32)] [] h Q) ∧ (¬ (i1 + i1) ≤ (9 : Int32) → Cl d 89 [.ref (196 + 3 * j0), .int (12 : Int32)] h (fun r8 h7 => ∃ x9, r8 = some (.int x9) ∧ Lay h7 ∧ Q (some (.int x9)) h7))))) ∧ (¬ (am_gi h (196 + 3 * j0) 0) = (2 : Int32) → Cl d 89 [.ref (196 + 3 * j0), .int (11 : Int32)] h (fun r11 h10 => ∃ x12, r11 = some (.int x12) ∧ Lay h10 ∧ Q (some (.int x12)) h10))) ∧ (¬ (¬ (am_gi h (196 + 3 * j0) 0) = (0 : Int32)) → Cl d 89 [.ref (196 + 3 * j0), .int (10 : Int32)] h (fun r14 h13 => ∃ x15, r14 = some (.int x15) ∧ Lay h13 ∧ Q (some (.int x15)) h13))) : Cl (d + 1) 95 [.ref (196 + 3 * j0), .int i1] h Q := by
  show Ev (d + 1) 95 0 [.ref (196 + 3 * j0), .int i1, .null, .null] [] h Q
  refine ev_p (pc' := 1) (loc' := [.ref (196 + 3 * j0), .int i1, .null, .null]) (st' := [.ref (196 + 3 * j0)]) 1 am_q95 rfl ?_
  refine ev_s (pc' := 4) (loc' := [.ref (196 + 3 * j0), .int i1, .null, .null]) (st' := [.int (am_gi h (196 + 3 * j0) 0)]) (h1 := h) am_q95 rfl rfl rfl (if_pos (e := none) (lk_tray Ly hj0)) ?_
  refine ev_jz (t := 14) am_q95 rfl rfl (fun hq => ?_) (fun hq => ?_)
  · replace H := H.1 hq
    refine ev_p (pc' := 15) (loc' := [.ref (196 + 3 * j0), .int i1, .null, .null]) (st' := [.ref (196 + 3 * j0)]) 1 am_q95 rfl ?_
    refine ev_s (pc' := 18) (loc' := [.ref (196 + 3 * j0), .int i1, .null, .null]) (st' := [.int (am_gi h (196 + 3 * j0) 0)]) (h1 := h) am_q95 rfl rfl rfl (if_pos (e := none) (lk_tray Ly hj0)) ?_
    refine ev_p (pc' := 19) (loc' := [.ref (196 + 3 * j0), .int i1, .null, .null]) (st' := [.int (2 : Int32), .int (am_gi h (196 + 3 * j0) 0)]) 1 am_q95 rfl ?_
    refine ev_jc (t := 29) am_q95 rfl rfl (fun hq => ?_) (fun hq => ?_)
    · replace H := H.1 hq
      refine ev_p (pc' := 30) (loc' := [.ref (196 + 3 * j0), .int i1, .null, .null]) (st' := [.int i1]) 1 am_q95 rfl ?_
      refine ev_jz (t := 51) am_q95 rfl rfl (fun hq => ?_) (fun hq => ?_)
      · replace H := H.1 hq
        refine ev_p (pc' := 54) (loc' := [.ref (196 + 3 * j0), .null, .null, .null]) (st' := [.int (12 : Int32), .ref (196 + 3 * j0)]) 2 am_q95 rfl ?_
        refine ev_c (vs := [.ref (196 + 3 * j0), .int (12 : Int32)]) (rest := []) 89 am_q95 rfl rfl rfl rfl rfl rfl rfl rfl rfl rfl rfl rfl (Or.inr (congrArg some (lk_tray Ly hj0))) (Cl.mono H (Nat.le_refl _) (fun r2 h1 H => ?_))
        obtain ⟨x3, rfl, Ly, H⟩ := H
        exact ev_r (v := some (.int x3)) am_q95 rfl rfl rfl rfl H
      · replace H := H.2 hq
        refine ev_p (pc' := 37) (loc' := [.ref (196 + 3 * j0), .int i1, .null, .null]) (st' := [.ref (196 + 3 * j0), .int ((1 : Int32) + i1)]) 4 am_q95 rfl ?_
        refine ev_s (pc' := 40) (loc' := [.ref (196 + 3 * j0), .int i1, .null, .null]) (st' := [.int (am_gi h (196 + 3 * j0) 6), .int ((1 : Int32) + i1)]) (h1 := h) am_q95 rfl rfl rfl (if_pos (e := none) (lk_tray Ly hj0)) ?_
        refine ev_jc (t := 51) am_q95 rfl rfl (fun hq => ?_) (fun hq => ?_)
        · replace H := H.1 hq
          refine ev_p (pc' := 54) (loc' := [.ref (196 + 3 * j0), .null, .null, .null]) (st' := [.int (12 : Int32), .ref (196 + 3 * j0)]) 2 am_q95 rfl ?_
          refine ev_c (vs := [.ref (196 + 3 * j0), .int (12 : Int32)]) (rest := []) 89 am_q95 rfl rfl rfl rfl rfl rfl rfl rfl rfl rfl rfl rfl (Or.inr (congrArg some (lk_tray Ly hj0))) (Cl.mono H (Nat.le_refl _) (fun r5 h4 H => ?_))
          obtain ⟨x6, rfl, Ly, H⟩ := H
          exact ev_r (v := some (.int x6)) am_q95 rfl rfl rfl rfl H
        · replace H := H.2 hq
          refine ev_p (pc' := 48) (loc' := [.ref (196 + 3 * j0), .int i1, .null, .null]) (st' := [.int (9 : Int32), .int (i1 + i1)]) 4 am_q95 rfl ?_
          refine ev_jc (t := 58) am_q95 rfl rfl (fun hq => ?_) (fun hq => ?_)
          · replace H := H.1 hq
            refine ev_p (pc' := 62) (loc' := [.ref (196 + 3 * j0), .int i1, .int (0 : Int32), .int (1 : Int32)]) (st' := []) 4 am_q95 rfl ?_
            exact ev_m (loc' := [.ref (196 + 3 * j0), .int i1, .int (0 : Int32), .int (1 : Int32)]) am_q95 rfl rfl H
          · replace H := H.2 hq
            refine ev_p (pc' := 54) (loc' := [.ref (196 + 3 * j0), .null, .null, .null]) (st' := [.int (12 : Int32), .ref (196 + 3 * j0)]) 2 am_q95 rfl ?_
            refine ev_c (vs := [.ref (196 + 3 * j0), .int (12 : Int32)]) (rest := []) 89 am_q95 rfl rfl rfl rfl rfl rfl rfl rfl rfl rfl rfl rfl (Or.inr (congrArg some (lk_tray Ly hj0))) (Cl.mono H (Nat.le_refl _) (fun r8 h7 H => ?_))
            obtain ⟨x9, rfl, Ly, H⟩ := H
            exact ev_r (v := some (.int x9)) am_q95 rfl rfl rfl rfl H
    · replace H := H.2 hq
      refine ev_p (pc' := 25) (loc' := [.ref (196 + 3 * j0), .int i1, .null, .null]) (st' := [.int (11 : Int32), .ref (196 + 3 * j0)]) 2 am_q95 rfl ?_
      refine ev_c (vs := [.ref (196 + 3 * j0), .int (11 : Int32)]) (rest := []) 89 am_q95 rfl rfl rfl rfl rfl rfl rfl rfl rfl rfl rfl rfl (Or.inr (congrArg some (lk_tray Ly hj0))) (Cl.mono H (Nat.le_refl _) (fun r11 h10 H => ?_))
      obtain ⟨x12, rfl, Ly, H⟩ := H
      exact ev_r (v := some (.int x12)) am_q95 rfl rfl rfl rfl H
  · replace H := H.2 hq
    refine ev_p (pc' := 10) (loc' := [.ref (196 + 3 * j0), .int i1, .null, .null]) (st' := [.int (10 : Int32), .ref (196 + 3 * j0)]) 2 am_q95 rfl ?_
    refine ev_c (vs := [.ref (196 + 3 * j0), .int (10 : Int32)]) (rest := []) 89 am_q95 rfl rfl rfl rfl rfl rfl rfl rfl rfl rfl rfl rfl (Or.inr (congrArg some (lk_tray Ly hj0))) (Cl.mono H (Nat.le_refl _) (fun r14 h13 H => ?_))
    obtain ⟨x15, rfl, Ly, H⟩ := H
    exact ev_r (v := some (.int x15)) am_q95 rfl rfl rfl rfl H
set_option maxRecDepth 20000 in
set_option maxHeartbeats 2000000 in
theorem ws95_62 {d : Nat} {j0 : Nat} (hj0 : j0 < 6) (i1 : Int32) (i2 : Int32) (i3 : Int32) {h : AH} {Q : Option Value → AH → Prop} (Ly : Lay h) (H : (i1 < i3 → Cl d 90 [.ref (196 + 3 * j0), .int i2] h (fun r2 h1 => ∃ x3, r2 = some (.int x3) ∧ Lay h1 ∧ Q (some (.int x3)) h1)) ∧ (¬ i1 < i3 → ∃ b4, am_gr h (196 + 3 * j0) 3 = some b4 ∧ (am_kd h b4 = 102 ∨ am_kd h b4 = 103) ∧ am_in i3 (am_ln h b4) ∧ Ev (d + 1) 95 62 [.ref (196 + 3 * j0), .int i1, .int (i2 + (am_gi h b4 (Int32.toNatClampNeg i3))), .int (i3 + (1 : Int32))] [] h Q)) : Ev (d + 1) 95 62 [.ref (196 + 3 * j0), .int i1, .int i2, .int i3] [] h Q := by
  refine ev_p (pc' := 64) (loc' := [.ref (196 + 3 * j0), .int i1, .int i2, .int i3]) (st' := [.int i1, .int i3]) 2 am_q95 rfl ?_
  refine ev_jc (t := 82) am_q95 rfl rfl (fun hq => ?_) (fun hq => ?_)
  · replace H := H.1 hq
    refine ev_p (pc' := 84) (loc' := [.ref (196 + 3 * j0), .int i1, .int i2, .int i3]) (st' := [.int i2, .ref (196 + 3 * j0)]) 2 am_q95 rfl ?_
    refine ev_c (vs := [.ref (196 + 3 * j0), .int i2]) (rest := []) 90 am_q95 rfl rfl rfl rfl rfl rfl rfl rfl rfl rfl rfl rfl (Or.inr (congrArg some (lk_tray Ly hj0))) (Cl.mono H (Nat.le_refl _) (fun r2 h1 H => ?_))
    obtain ⟨x3, rfl, Ly, H⟩ := H
    exact ev_r (v := some (.int x3)) am_q95 rfl rfl rfl rfl H
  · replace H := H.2 hq
    refine ev_p (pc' := 69) (loc' := [.ref (196 + 3 * j0), .int i1, .int i2, .int i3]) (st' := [.ref (196 + 3 * j0), .int i2]) 2 am_q95 rfl ?_
    obtain ⟨b4, e5, H⟩ := H
    refine ev_s (pc' := 72) (loc' := [.ref (196 + 3 * j0), .int i1, .int i2, .int i3]) (st' := [.ref b4, .int i2]) (h1 := h) am_q95 rfl rfl rfl (am_gf2 (lk_tray Ly hj0) e5) ?_
    refine ev_p (pc' := 73) (loc' := [.ref (196 + 3 * j0), .int i1, .int i2, .int i3]) (st' := [.int i3, .ref b4, .int i2]) 1 am_q95 rfl ?_
    obtain ⟨g6, g7, H⟩ := H
    refine ev_s (pc' := 74) (loc' := [.ref (196 + 3 * j0), .int i1, .int i2, .int i3]) (st' := [.int (am_gi h b4 (Int32.toNatClampNeg i3)), .int i2]) (h1 := h) am_q95 rfl rfl rfl (am_xx g6 g7) ?_
    refine ev_p (pc' := 62) (loc' := [.ref (196 + 3 * j0), .int i1, .int (i2 + (am_gi h b4 (Int32.toNatClampNeg i3))), .int (i3 + (1 : Int32))]) (st' := []) 4 am_q95 rfl ?_
    exact ev_m (loc' := [.ref (196 + 3 * j0), .int i1, .int (i2 + (am_gi h b4 (Int32.toNatClampNeg i3))), .int (i3 + (1 : Int32))]) am_q95 rfl rfl H
