/-! 167: X12_in -/
theorem am_q167 : (am_mt 167).2.2.2.2.2 = am_m167.2.2.2.2.2 := rfl
set_option maxRecDepth 20000 in
set_option maxHeartbeats 2000000 in
theorem wp167 {d : Nat} (i0 : Int32) (i1 : Int32) (i2 : Int32) {h : AH} {Q : Option Value → AH → Prop} (H : (i0 < i1 → Q (some (.int (0 : Int32))) h) ∧ (¬ i0 < i1 → (i2 < i0 → Q (some (.int (0 : Int32))) h) ∧ (¬ i2 < i0 → Q (some (.int (1 : Int32))) h))) : Cl d 167 [.int i0, .int i1, .int i2] h Q := by
  show Ev d 167 0 [.int i0, .int i1, .int i2] [] h Q
  refine ev_p (pc' := 2) (loc' := [.int i0, .int i1, .int i2]) (st' := [.int i1, .int i0]) 2 am_q167 rfl ?_
  refine ev_jc (t := 14) am_q167 rfl rfl (fun hq => ?_) (fun hq => ?_)
  · replace H := H.1 hq
    refine ev_p (pc' := 15) (loc' := [.null, .null, .null]) (st' := [.int (0 : Int32)]) 1 am_q167 rfl ?_
    exact ev_r (v := some (.int (0 : Int32))) am_q167 rfl rfl rfl rfl H
  · replace H := H.2 hq
    refine ev_p (pc' := 7) (loc' := [.int i0, .int i1, .int i2]) (st' := [.int i2, .int i0]) 2 am_q167 rfl ?_
    refine ev_jc (t := 14) am_q167 rfl rfl (fun hq => ?_) (fun hq => ?_)
    · replace H := H.1 hq
      refine ev_p (pc' := 15) (loc' := [.null, .null, .null]) (st' := [.int (0 : Int32)]) 1 am_q167 rfl ?_
      exact ev_r (v := some (.int (0 : Int32))) am_q167 rfl rfl rfl rfl H
    · replace H := H.2 hq
      refine ev_p (pc' := 15) (loc' := [.int i0, .int i1, .int i2]) (st' := [.int (1 : Int32)]) 2 am_q167 rfl ?_
      exact ev_r (v := some (.int (1 : Int32))) am_q167 rfl rfl rfl rfl H
/-! 168: X12_isHome -/
theorem am_q168 : (am_mt 168).2.2.2.2.2 = am_m168.2.2.2.2.2 := rfl
set_option maxRecDepth 20000 in
set_option maxHeartbeats 2000000 in
theorem wp168 {d : Nat} (a0 : Nat) (i1 : Int32) {h : AH} {Q : Option Value → AH → Prop} (H : am_kd h a0 = 12 ∧ Cl d 167 [.int i1, .int (0 : Int32), .int ((am_gi h a0 1) - (1 : Int32))] h (fun r3 h2 => ∃ x4, r3 = some (.int x4) ∧ (x4 = (0 : Int32) ∨ x4 = (1 : Int32)) ∧ Q (some (.int x4)) h2)) : Cl (d + 1) 168 [.ref a0, .int i1] h Q := by
  show Ev (d + 1) 168 0 [.ref a0, .int i1] [] h Q
  refine ev_p (pc' := 3) (loc' := [.ref a0, .int i1]) (st' := [.ref a0, .int (0 : Int32), .int i1]) 3 am_q168 rfl ?_
  obtain ⟨g1, H⟩ := H
  refine ev_s (pc' := 6) (loc' := [.ref a0, .int i1]) (st' := [.int (am_gi h a0 1), .int (0 : Int32), .int i1]) (h1 := h) am_q168 rfl rfl rfl (if_pos (e := none) g1) ?_
  refine ev_p (pc' := 8) (loc' := [.ref a0, .int i1]) (st' := [.int ((am_gi h a0 1) - (1 : Int32)), .int (0 : Int32), .int i1]) 2 am_q168 rfl ?_
  refine ev_c (vs := [.int i1, .int (0 : Int32), .int ((am_gi h a0 1) - (1 : Int32))]) (rest := []) 167 am_q168 rfl rfl rfl rfl rfl rfl rfl rfl rfl rfl rfl rfl (Or.inl rfl) (Cl.mono H (Nat.le_refl _) (fun r3 h2 H => ?_))
  obtain ⟨x4, rfl, H⟩ := H
  exact ev_r (v := some (.int x4)) am_q168 rfl rfl rfl (decide_eq_true H.1) H.2
/-! 169: X12_isMember -/
theorem am_q169 : (am_mt 169).2.2.2.2.2 = am_m169.2.2.2.2.2 := rfl
set_option maxRecDepth 20000 in
set_option maxHeartbeats 2000000 in
theorem wp169 {d : Nat} (a0 : Nat) (i1 : Int32) {h : AH} {Q : Option Value → AH → Prop} (H : am_kd h a0 = 12 ∧ Cl d 167 [.int i1, .int (0 : Int32), .int ((am_gi h a0 7) - (1 : Int32))] h (fun r3 h2 => ∃ x4, r3 = some (.int x4) ∧ (x4 = (0 : Int32) ∨ x4 = (1 : Int32)) ∧ Q (some (.int x4)) h2)) : Cl (d + 1) 169 [.ref a0, .int i1] h Q := by
  show Ev (d + 1) 169 0 [.ref a0, .int i1] [] h Q
  refine ev_p (pc' := 3) (loc' := [.ref a0, .int i1]) (st' := [.ref a0, .int (0 : Int32), .int i1]) 3 am_q169 rfl ?_
  obtain ⟨g1, H⟩ := H
  refine ev_s (pc' := 6) (loc' := [.ref a0, .int i1]) (st' := [.int (am_gi h a0 7), .int (0 : Int32), .int i1]) (h1 := h) am_q169 rfl rfl rfl (if_pos (e := none) g1) ?_
  refine ev_p (pc' := 8) (loc' := [.ref a0, .int i1]) (st' := [.int ((am_gi h a0 7) - (1 : Int32)), .int (0 : Int32), .int i1]) 2 am_q169 rfl ?_
  refine ev_c (vs := [.int i1, .int (0 : Int32), .int ((am_gi h a0 7) - (1 : Int32))]) (rest := []) 167 am_q169 rfl rfl rfl rfl rfl rfl rfl rfl rfl rfl rfl rfl (Or.inl rfl) (Cl.mono H (Nat.le_refl _) (fun r3 h2 H => ?_))
  obtain ⟨x4, rfl, H⟩ := H
  exact ev_r (v := some (.int x4)) am_q169 rfl rfl rfl (decide_eq_true H.1) H.2
/-! 170: X12_isHere -/
theorem am_q170 : (am_mt 170).2.2.2.2.2 = am_m170.2.2.2.2.2 := rfl
set_option maxRecDepth 20000 in
set_option maxHeartbeats 2000000 in
theorem wp170 {d : Nat} (a0 : Nat) (i1 : Int32) {h : AH} {Q : Option Value → AH → Prop} (H : am_kd h a0 = 12 ∧ ∃ b2, am_gr h a0 10 = some b2 ∧ am_kd h b2 = 100 ∧ am_in i1 (am_ln h b2) ∧ ((¬ (am_gi h b2 (Int32.toNatClampNeg i1)) = (-1 : Int32)) → Q (some (.int (0 : Int32))) h) ∧ (¬ (¬ (am_gi h b2 (Int32.toNatClampNeg i1)) = (-1 : Int32)) → Q (some (.int (1 : Int32))) h)) : Cl d 170 [.ref a0, .int i1] h Q := by
  show Ev d 170 0 [.ref a0, .int i1] [] h Q
  refine ev_p (pc' := 1) (loc' := [.ref a0, .int i1]) (st' := [.ref a0]) 1 am_q170 rfl ?_
  obtain ⟨g1, b2, e3, H⟩ := H
  refine ev_s (pc' := 4) (loc' := [.ref a0, .int i1]) (st' := [.ref b2]) (h1 := h) am_q170 rfl rfl rfl (am_gf2 g1 e3) ?_
  refine ev_p (pc' := 5) (loc' := [.ref a0, .int i1]) (st' := [.int i1, .ref b2]) 1 am_q170 rfl ?_
  obtain ⟨g4, g5, H⟩ := H
  refine ev_s (pc' := 6) (loc' := [.ref a0, .int i1]) (st' := [.int (am_gi h b2 (Int32.toNatClampNeg i1))]) (h1 := h) am_q170 rfl rfl rfl (am_xx g4 g5) ?_
  refine ev_p (pc' := 7) (loc' := [.ref a0, .int i1]) (st' := [.int (-1 : Int32), .int (am_gi h b2 (Int32.toNatClampNeg i1))]) 1 am_q170 rfl ?_
  refine ev_jc (t := 14) am_q170 rfl rfl (fun hq => ?_) (fun hq => ?_)
  · replace H := H.1 hq
    refine ev_p (pc' := 15) (loc' := [.ref a0, .int i1]) (st' := [.int (0 : Int32)]) 1 am_q170 rfl ?_
    exact ev_r (v := some (.int (0 : Int32))) am_q170 rfl rfl rfl rfl H
  · replace H := H.2 hq
    refine ev_p (pc' := 15) (loc' := [.ref a0, .int i1]) (st' := [.int (1 : Int32)]) 2 am_q170 rfl ?_
    exact ev_r (v := some (.int (1 : Int32))) am_q170 rfl rfl rfl rfl H
/-! 171: X12_isOn -/
theorem am_q171 : (am_mt 171).2.2.2.2.2 = am_m171.2.2.2.2.2 := rfl
set_option maxRecDepth 20000 in
set_option maxHeartbeats 2000000 in
theorem wp171 {d : Nat} (a0 : Nat) (i1 : Int32) (i2 : Int32) {h : AH} {Q : Option Value → AH → Prop} (H : am_kd h a0 = 12 ∧ ∃ b2, am_gr h a0 19 = some b2 ∧ am_kd h b2 = 100 ∧ am_in i1 (am_ln h b2) ∧ (i2 < (am_gi h b2 (Int32.toNatClampNeg i1)) → Q (some (.int (0 : Int32))) h) ∧ (¬ i2 < (am_gi h b2 (Int32.toNatClampNeg i1)) → am_kd h a0 = 12 ∧ ∃ b7, am_gr h a0 20 = some b7 ∧ am_kd h b7 = 100 ∧ am_in i1 (am_ln h b7) ∧ ((am_gi h b7 (Int32.toNatClampNeg i1)) = (-1 : Int32) → Q (some (.int (1 : Int32))) h) ∧ (¬ (am_gi h b7 (Int32.toNatClampNeg i1)) = (-1 : Int32) → am_kd h a0 = 12 ∧ ∃ b12, am_gr h a0 20 = some b12 ∧ am_kd h b12 = 100 ∧ am_in i1 (am_ln h b12) ∧ ((am_gi h b12 (Int32.toNatClampNeg i1)) ≤ i2 → Q (some (.int (0 : Int32))) h) ∧ (¬ (am_gi h b12 (Int32.toNatClampNeg i1)) ≤ i2 → Q (some (.int (1 : Int32))) h)))) : Cl d 171 [.ref a0, .int i1, .int i2] h Q := by
  show Ev d 171 0 [.ref a0, .int i1, .int i2] [] h Q
  refine ev_p (pc' := 1) (loc' := [.ref a0, .int i1, .int i2]) (st' := [.ref a0]) 1 am_q171 rfl ?_
  obtain ⟨g1, b2, e3, H⟩ := H
  refine ev_s (pc' := 4) (loc' := [.ref a0, .int i1, .int i2]) (st' := [.ref b2]) (h1 := h) am_q171 rfl rfl rfl (am_gf2 g1 e3) ?_
  refine ev_p (pc' := 5) (loc' := [.ref a0, .int i1, .int i2]) (st' := [.int i1, .ref b2]) 1 am_q171 rfl ?_
  obtain ⟨g4, g5, H⟩ := H
  refine ev_s (pc' := 6) (loc' := [.ref a0, .int i1, .int i2]) (st' := [.int (am_gi h b2 (Int32.toNatClampNeg i1))]) (h1 := h) am_q171 rfl rfl rfl (am_xx g4 g5) ?_
  refine ev_p (pc' := 7) (loc' := [.ref a0, .int i1, .int i2]) (st' := [.int i2, .int (am_gi h b2 (Int32.toNatClampNeg i1))]) 1 am_q171 rfl ?_
  refine ev_jc (t := 34) am_q171 rfl rfl (fun hq => ?_) (fun hq => ?_)
  · replace H := H.1 hq
    refine ev_p (pc' := 35) (loc' := [.null, .null, .null]) (st' := [.int (0 : Int32)]) 1 am_q171 rfl ?_
    exact ev_r (v := some (.int (0 : Int32))) am_q171 rfl rfl rfl rfl H
  · replace H := H.2 hq
    refine ev_p (pc' := 11) (loc' := [.ref a0, .int i1, .int i2]) (st' := [.ref a0]) 1 am_q171 rfl ?_
    obtain ⟨g6, b7, e8, H⟩ := H
    refine ev_s (pc' := 14) (loc' := [.ref a0, .int i1, .int i2]) (st' := [.ref b7]) (h1 := h) am_q171 rfl rfl rfl (am_gf2 g6 e8) ?_
    refine ev_p (pc' := 15) (loc' := [.ref a0, .int i1, .int i2]) (st' := [.int i1, .ref b7]) 1 am_q171 rfl ?_
    obtain ⟨g9, g10, H⟩ := H
    refine ev_s (pc' := 16) (loc' := [.ref a0, .int i1, .int i2]) (st' := [.int (am_gi h b7 (Int32.toNatClampNeg i1))]) (h1 := h) am_q171 rfl rfl rfl (am_xx g9 g10) ?_
    refine ev_p (pc' := 17) (loc' := [.ref a0, .int i1, .int i2]) (st' := [.int (-1 : Int32), .int (am_gi h b7 (Int32.toNatClampNeg i1))]) 1 am_q171 rfl ?_
    refine ev_jc (t := 30) am_q171 rfl rfl (fun hq => ?_) (fun hq => ?_)
    · replace H := H.1 hq
      refine ev_p (pc' := 35) (loc' := [.null, .null, .null]) (st' := [.int (1 : Int32)]) 2 am_q171 rfl ?_
      exact ev_r (v := some (.int (1 : Int32))) am_q171 rfl rfl rfl rfl H
    · replace H := H.2 hq
      refine ev_p (pc' := 22) (loc' := [.ref a0, .int i1, .int i2]) (st' := [.ref a0, .int i2]) 2 am_q171 rfl ?_
      obtain ⟨g11, b12, e13, H⟩ := H
      refine ev_s (pc' := 25) (loc' := [.ref a0, .int i1, .int i2]) (st' := [.ref b12, .int i2]) (h1 := h) am_q171 rfl rfl rfl (am_gf2 g11 e13) ?_
      refine ev_p (pc' := 26) (loc' := [.ref a0, .int i1, .int i2]) (st' := [.int i1, .ref b12, .int i2]) 1 am_q171 rfl ?_
      obtain ⟨g14, g15, H⟩ := H
      refine ev_s (pc' := 27) (loc' := [.ref a0, .int i1, .int i2]) (st' := [.int (am_gi h b12 (Int32.toNatClampNeg i1)), .int i2]) (h1 := h) am_q171 rfl rfl rfl (am_xx g14 g15) ?_
      refine ev_jc (t := 34) am_q171 rfl rfl (fun hq => ?_) (fun hq => ?_)
      · replace H := H.1 hq
        refine ev_p (pc' := 35) (loc' := [.null, .null, .null]) (st' := [.int (0 : Int32)]) 1 am_q171 rfl ?_
        exact ev_r (v := some (.int (0 : Int32))) am_q171 rfl rfl rfl rfl H
      · replace H := H.2 hq
        refine ev_p (pc' := 35) (loc' := [.null, .null, .null]) (st' := [.int (1 : Int32)]) 2 am_q171 rfl ?_
        exact ev_r (v := some (.int (1 : Int32))) am_q171 rfl rfl rfl rfl H
/-! 172: X12_isOf -/
theorem am_q172 : (am_mt 172).2.2.2.2.2 = am_m172.2.2.2.2.2 := rfl
set_option maxRecDepth 20000 in
set_option maxHeartbeats 2000000 in
theorem wp172 {d : Nat} (a0 : Nat) (i1 : Int32) (i2 : Int32) {h : AH} {Q : Option Value → AH → Prop} (H : am_kd h a0 = 12 ∧ ∃ b2, am_gr h a0 17 = some b2 ∧ am_kd h b2 = 100 ∧ am_in i1 (am_ln h b2) ∧ ((am_gi h b2 (Int32.toNatClampNeg i1)) = i2 → Q (some (.int (1 : Int32))) h) ∧ (¬ (am_gi h b2 (Int32.toNatClampNeg i1)) = i2 → am_kd h a0 = 12 ∧ ∃ b7, am_gr h a0 15 = some b7 ∧ am_kd h b7 = 100 ∧ am_in i1 (am_ln h b7) ∧ ((¬ (am_gi h b7 (Int32.toNatClampNeg i1)) = (3 : Int32)) → Q (some (.int (0 : Int32))) h) ∧ (¬ (¬ (am_gi h b7 (Int32.toNatClampNeg i1)) = (3 : Int32)) → am_kd h a0 = 12 ∧ ∃ b12, am_gr h a0 18 = some b12 ∧ am_kd h b12 = 100 ∧ am_in i1 (am_ln h b12) ∧ ((¬ (am_gi h b12 (Int32.toNatClampNeg i1)) = i2) → Q (some (.int (0 : Int32))) h) ∧ (¬ (¬ (am_gi h b12 (Int32.toNatClampNeg i1)) = i2) → Q (some (.int (1 : Int32))) h)))) : Cl d 172 [.ref a0, .int i1, .int i2] h Q := by
  show Ev d 172 0 [.ref a0, .int i1, .int i2] [] h Q
  refine ev_p (pc' := 1) (loc' := [.ref a0, .int i1, .int i2]) (st' := [.ref a0]) 1 am_q172 rfl ?_
  obtain ⟨g1, b2, e3, H⟩ := H
  refine ev_s (pc' := 4) (loc' := [.ref a0, .int i1, .int i2]) (st' := [.ref b2]) (h1 := h) am_q172 rfl rfl rfl (am_gf2 g1 e3) ?_
  refine ev_p (pc' := 5) (loc' := [.ref a0, .int i1, .int i2]) (st' := [.int i1, .ref b2]) 1 am_q172 rfl ?_
  obtain ⟨g4, g5, H⟩ := H
  refine ev_s (pc' := 6) (loc' := [.ref a0, .int i1, .int i2]) (st' := [.int (am_gi h b2 (Int32.toNatClampNeg i1))]) (h1 := h) am_q172 rfl rfl rfl (am_xx g4 g5) ?_
  refine ev_p (pc' := 7) (loc' := [.ref a0, .int i1, .int i2]) (st' := [.int i2, .int (am_gi h b2 (Int32.toNatClampNeg i1))]) 1 am_q172 rfl ?_
  refine ev_jc (t := 30) am_q172 rfl rfl (fun hq => ?_) (fun hq => ?_)
  · replace H := H.1 hq
    refine ev_p (pc' := 35) (loc' := [.null, .null, .null]) (st' := [.int (1 : Int32)]) 2 am_q172 rfl ?_
    exact ev_r (v := some (.int (1 : Int32))) am_q172 rfl rfl rfl rfl H
  · replace H := H.2 hq
    refine ev_p (pc' := 11) (loc' := [.ref a0, .int i1, .int i2]) (st' := [.ref a0]) 1 am_q172 rfl ?_
    obtain ⟨g6, b7, e8, H⟩ := H
    refine ev_s (pc' := 14) (loc' := [.ref a0, .int i1, .int i2]) (st' := [.ref b7]) (h1 := h) am_q172 rfl rfl rfl (am_gf2 g6 e8) ?_
    refine ev_p (pc' := 15) (loc' := [.ref a0, .int i1, .int i2]) (st' := [.int i1, .ref b7]) 1 am_q172 rfl ?_
    obtain ⟨g9, g10, H⟩ := H
    refine ev_s (pc' := 16) (loc' := [.ref a0, .int i1, .int i2]) (st' := [.int (am_gi h b7 (Int32.toNatClampNeg i1))]) (h1 := h) am_q172 rfl rfl rfl (am_xx g9 g10) ?_
    refine ev_p (pc' := 17) (loc' := [.ref a0, .int i1, .int i2]) (st' := [.int (3 : Int32), .int (am_gi h b7 (Int32.toNatClampNeg i1))]) 1 am_q172 rfl ?_
    refine ev_jc (t := 34) am_q172 rfl rfl (fun hq => ?_) (fun hq => ?_)
    · replace H := H.1 hq
      refine ev_p (pc' := 35) (loc' := [.null, .null, .null]) (st' := [.int (0 : Int32)]) 1 am_q172 rfl ?_
      exact ev_r (v := some (.int (0 : Int32))) am_q172 rfl rfl rfl rfl H
    · replace H := H.2 hq
      refine ev_p (pc' := 21) (loc' := [.ref a0, .int i1, .int i2]) (st' := [.ref a0]) 1 am_q172 rfl ?_
      obtain ⟨g11, b12, e13, H⟩ := H
      refine ev_s (pc' := 24) (loc' := [.ref a0, .int i1, .int i2]) (st' := [.ref b12]) (h1 := h) am_q172 rfl rfl rfl (am_gf2 g11 e13) ?_
      refine ev_p (pc' := 25) (loc' := [.ref a0, .int i1, .int i2]) (st' := [.int i1, .ref b12]) 1 am_q172 rfl ?_
      obtain ⟨g14, g15, H⟩ := H
      refine ev_s (pc' := 26) (loc' := [.ref a0, .int i1, .int i2]) (st' := [.int (am_gi h b12 (Int32.toNatClampNeg i1))]) (h1 := h) am_q172 rfl rfl rfl (am_xx g14 g15) ?_
      refine ev_p (pc' := 27) (loc' := [.ref a0, .int i1, .int i2]) (st' := [.int i2, .int (am_gi h b12 (Int32.toNatClampNeg i1))]) 1 am_q172 rfl ?_
      refine ev_jc (t := 34) am_q172 rfl rfl (fun hq => ?_) (fun hq => ?_)
      · replace H := H.1 hq
        refine ev_p (pc' := 35) (loc' := [.null, .null, .null]) (st' := [.int (0 : Int32)]) 1 am_q172 rfl ?_
        exact ev_r (v := some (.int (0 : Int32))) am_q172 rfl rfl rfl rfl H
      · replace H := H.2 hq
        refine ev_p (pc' := 35) (loc' := [.null, .null, .null]) (st' := [.int (1 : Int32)]) 2 am_q172 rfl ?_
        exact ev_r (v := some (.int (1 : Int32))) am_q172 rfl rfl rfl rfl H
/-! 173: X12_filled -/
theorem am_q173 : (am_mt 173).2.2.2.2.2 = am_m173.2.2.2.2.2 := rfl
set_option maxRecDepth 20000 in
set_option maxHeartbeats 2000000 in
theorem wp173 {d : Nat} (a0 : Nat) (i1 : Int32) (i2 : Int32) {h : AH} {Q : Option Value → AH → Prop} (H : Ev (d + 1) 173 2 [.ref a0, .int i1, .int i2, .int (0 : Int32)] [] h Q) : Cl (d + 1) 173 [.ref a0, .int i1, .int i2] h Q := by
  show Ev (d + 1) 173 0 [.ref a0, .int i1, .int i2, .null] [] h Q
  refine ev_p (pc' := 2) (loc' := [.ref a0, .int i1, .int i2, .int (0 : Int32)]) (st' := []) 2 am_q173 rfl ?_
  exact ev_m (loc' := [.ref a0, .int i1, .int i2, .int (0 : Int32)]) am_q173 rfl rfl H
set_option maxRecDepth 20000 in
set_option maxHeartbeats 2000000 in
theorem wp173_2 {d : Nat} (a0 : Nat) (i1 : Int32) (i2 : Int32) (i3 : Int32) {h : AH} {Q : Option Value → AH → Prop} (H : am_kd h a0 = 12 ∧ ((am_gi h a0 14) ≤ i3 → Q (some (.int (-1 : Int32))) h) ∧ (¬ (am_gi h a0 14) ≤ i3 → am_kd h a0 = 12 ∧ ∃ b3, am_gr h a0 15 = some b3 ∧ am_kd h b3 = 100 ∧ am_in i3 (am_ln h b3) ∧ ((am_gi h b3 (Int32.toNatClampNeg i3)) = (2 : Int32) → Ev (d + 1) 173 2 [.ref a0, .int i1, .int i2, .int (i3 + (1 : Int32))] [] h Q) ∧ (¬ (am_gi h b3 (Int32.toNatClampNeg i3)) = (2 : Int32) → am_kd h a0 = 12 ∧ ∃ b8, am_gr h a0 16 = some b8 ∧ am_kd h b8 = 100 ∧ am_in i3 (am_ln h b8) ∧ ((¬ (am_gi h b8 (Int32.toNatClampNeg i3)) = i1) → Ev (d + 1) 173 2 [.ref a0, .int i1, .int i2, .int (i3 + (1 : Int32))] [] h Q) ∧ (¬ (¬ (am_gi h b8 (Int32.toNatClampNeg i3)) = i1) → am_kd h a0 = 12 ∧ Cl d 171 [.ref a0, .int i3, .int i2] h (fun r13 h12 => ∃ x15, r13 = some (.int x15) ∧ (x15 = (0 : Int32) → Ev (d + 1) 173 2 [.ref a0, .int i1, .int i2, .int (i3 + (1 : Int32))] [] h12 Q) ∧ (¬ x15 = (0 : Int32) → Q (some (.int i3)) h12)))))) : Ev (d + 1) 173 2 [.ref a0, .int i1, .int i2, .int i3] [] h Q := by
  refine ev_p (pc' := 4) (loc' := [.ref a0, .int i1, .int i2, .int i3]) (st' := [.ref a0, .int i3]) 2 am_q173 rfl ?_
  obtain ⟨g1, H⟩ := H
  refine ev_s (pc' := 7) (loc' := [.ref a0, .int i1, .int i2, .int i3]) (st' := [.int (am_gi h a0 14), .int i3]) (h1 := h) am_q173 rfl rfl rfl (if_pos (e := none) g1) ?_
  refine ev_jc (t := 47) am_q173 rfl rfl (fun hq => ?_) (fun hq => ?_)
  · replace H := H.1 hq
    refine ev_p (pc' := 48) (loc' := [.ref a0, .int i1, .int i2, .int i3]) (st' := [.int (-1 : Int32)]) 1 am_q173 rfl ?_
    exact ev_r (v := some (.int (-1 : Int32))) am_q173 rfl rfl rfl rfl H
  · replace H := H.2 hq
    refine ev_p (pc' := 11) (loc' := [.ref a0, .int i1, .int i2, .int i3]) (st' := [.ref a0]) 1 am_q173 rfl ?_
    obtain ⟨g2, b3, e4, H⟩ := H
    refine ev_s (pc' := 14) (loc' := [.ref a0, .int i1, .int i2, .int i3]) (st' := [.ref b3]) (h1 := h) am_q173 rfl rfl rfl (am_gf2 g2 e4) ?_
    refine ev_p (pc' := 15) (loc' := [.ref a0, .int i1, .int i2, .int i3]) (st' := [.int i3, .ref b3]) 1 am_q173 rfl ?_
    obtain ⟨g5, g6, H⟩ := H
    refine ev_s (pc' := 16) (loc' := [.ref a0, .int i1, .int i2, .int i3]) (st' := [.int (am_gi h b3 (Int32.toNatClampNeg i3))]) (h1 := h) am_q173 rfl rfl rfl (am_xx g5 g6) ?_
    refine ev_p (pc' := 17) (loc' := [.ref a0, .int i1, .int i2, .int i3]) (st' := [.int (2 : Int32), .int (am_gi h b3 (Int32.toNatClampNeg i3))]) 1 am_q173 rfl ?_
    refine ev_jc (t := 41) am_q173 rfl rfl (fun hq => ?_) (fun hq => ?_)
    · replace H := H.1 hq
      refine ev_p (pc' := 2) (loc' := [.ref a0, .int i1, .int i2, .int (i3 + (1 : Int32))]) (st' := []) 2 am_q173 rfl ?_
      exact ev_m (loc' := [.ref a0, .int i1, .int i2, .int (i3 + (1 : Int32))]) am_q173 rfl rfl H
    · replace H := H.2 hq
      refine ev_p (pc' := 21) (loc' := [.ref a0, .int i1, .int i2, .int i3]) (st' := [.ref a0]) 1 am_q173 rfl ?_
      obtain ⟨g7, b8, e9, H⟩ := H
      refine ev_s (pc' := 24) (loc' := [.ref a0, .int i1, .int i2, .int i3]) (st' := [.ref b8]) (h1 := h) am_q173 rfl rfl rfl (am_gf2 g7 e9) ?_
      refine ev_p (pc' := 25) (loc' := [.ref a0, .int i1, .int i2, .int i3]) (st' := [.int i3, .ref b8]) 1 am_q173 rfl ?_
      obtain ⟨g10, g11, H⟩ := H
      refine ev_s (pc' := 26) (loc' := [.ref a0, .int i1, .int i2, .int i3]) (st' := [.int (am_gi h b8 (Int32.toNatClampNeg i3))]) (h1 := h) am_q173 rfl rfl rfl (am_xx g10 g11) ?_
      refine ev_p (pc' := 27) (loc' := [.ref a0, .int i1, .int i2, .int i3]) (st' := [.int i1, .int (am_gi h b8 (Int32.toNatClampNeg i3))]) 1 am_q173 rfl ?_
      refine ev_jc (t := 41) am_q173 rfl rfl (fun hq => ?_) (fun hq => ?_)
      · replace H := H.1 hq
        refine ev_p (pc' := 2) (loc' := [.ref a0, .int i1, .int i2, .int (i3 + (1 : Int32))]) (st' := []) 2 am_q173 rfl ?_
        exact ev_m (loc' := [.ref a0, .int i1, .int i2, .int (i3 + (1 : Int32))]) am_q173 rfl rfl H
      · replace H := H.2 hq
        refine ev_p (pc' := 33) (loc' := [.ref a0, .int i1, .int i2, .int i3]) (st' := [.int i2, .int i3, .ref a0]) 3 am_q173 rfl ?_
        obtain ⟨g14, H⟩ := H
        refine ev_c (vs := [.ref a0, .int i3, .int i2]) (rest := []) 171 am_q173 rfl rfl rfl rfl rfl rfl rfl rfl rfl rfl rfl rfl (Or.inr (congrArg some g14)) (Cl.mono H (Nat.le_refl _) (fun r13 h12 H => ?_))
        obtain ⟨x15, rfl, H⟩ := H
        refine ev_jz (t := 41) am_q173 rfl rfl (fun hq => ?_) (fun hq => ?_)
        · replace H := H.1 hq
          refine ev_p (pc' := 2) (loc' := [.ref a0, .int i1, .int i2, .int (i3 + (1 : Int32))]) (st' := []) 2 am_q173 rfl ?_
          exact ev_m (loc' := [.ref a0, .int i1, .int i2, .int (i3 + (1 : Int32))]) am_q173 rfl rfl H
        · replace H := H.2 hq
          refine ev_p (pc' := 40) (loc' := [.ref a0, .int i1, .int i2, .int i3]) (st' := [.int i3]) 1 am_q173 rfl ?_
          exact ev_r (v := some (.int i3)) am_q173 rfl rfl rfl rfl H
/-! 174: X12_held -/
theorem am_q174 : (am_mt 174).2.2.2.2.2 = am_m174.2.2.2.2.2 := rfl
set_option maxRecDepth 20000 in
set_option maxHeartbeats 2000000 in
theorem wp174 {d : Nat} (a0 : Nat) (i1 : Int32) (i2 : Int32) {h : AH} {Q : Option Value → AH → Prop} (H : Ev (d + 1) 174 2 [.ref a0, .int i1, .int i2, .int (0 : Int32)] [] h Q) : Cl (d + 1) 174 [.ref a0, .int i1, .int i2] h Q := by
  show Ev (d + 1) 174 0 [.ref a0, .int i1, .int i2, .null] [] h Q
  refine ev_p (pc' := 2) (loc' := [.ref a0, .int i1, .int i2, .int (0 : Int32)]) (st' := []) 2 am_q174 rfl ?_
  exact ev_m (loc' := [.ref a0, .int i1, .int i2, .int (0 : Int32)]) am_q174 rfl rfl H
set_option maxRecDepth 20000 in
set_option maxHeartbeats 2000000 in
theorem wp174_2 {d : Nat} (a0 : Nat) (i1 : Int32) (i2 : Int32) (i3 : Int32) {h : AH} {Q : Option Value → AH → Prop} (H : am_kd h a0 = 12 ∧ ((am_gi h a0 14) ≤ i3 → Q (some (.int (-1 : Int32))) h) ∧ (¬ (am_gi h a0 14) ≤ i3 → am_kd h a0 = 12 ∧ ∃ b3, am_gr h a0 15 = some b3 ∧ am_kd h b3 = 100 ∧ am_in i3 (am_ln h b3) ∧ ((am_gi h b3 (Int32.toNatClampNeg i3)) = (2 : Int32) → Ev (d + 1) 174 2 [.ref a0, .int i1, .int i2, .int (i3 + (1 : Int32))] [] h Q) ∧ (¬ (am_gi h b3 (Int32.toNatClampNeg i3)) = (2 : Int32) → am_kd h a0 = 12 ∧ Cl d 172 [.ref a0, .int i3, .int i1] h (fun r8 h7 => ∃ x10, r8 = some (.int x10) ∧ (x10 = (0 : Int32) → Ev (d + 1) 174 2 [.ref a0, .int i1, .int i2, .int (i3 + (1 : Int32))] [] h7 Q) ∧ (¬ x10 = (0 : Int32) → am_kd h7 a0 = 12 ∧ Cl d 171 [.ref a0, .int i3, .int i2] h7 (fun r12 h11 => ∃ x14, r12 = some (.int x14) ∧ (x14 = (0 : Int32) → Ev (d + 1) 174 2 [.ref a0, .int i1, .int i2, .int (i3 + (1 : Int32))] [] h11 Q) ∧ (¬ x14 = (0 : Int32) → Q (some (.int i3)) h11))))))) : Ev (d + 1) 174 2 [.ref a0, .int i1, .int i2, .int i3] [] h Q := by
  refine ev_p (pc' := 4) (loc' := [.ref a0, .int i1, .int i2, .int i3]) (st' := [.ref a0, .int i3]) 2 am_q174 rfl ?_
  obtain ⟨g1, H⟩ := H
  refine ev_s (pc' := 7) (loc' := [.ref a0, .int i1, .int i2, .int i3]) (st' := [.int (am_gi h a0 14), .int i3]) (h1 := h) am_q174 rfl rfl rfl (if_pos (e := none) g1) ?_
  refine ev_jc (t := 46) am_q174 rfl rfl (fun hq => ?_) (fun hq => ?_)
  · replace H := H.1 hq
    refine ev_p (pc' := 47) (loc' := [.ref a0, .int i1, .int i2, .int i3]) (st' := [.int (-1 : Int32)]) 1 am_q174 rfl ?_
    exact ev_r (v := some (.int (-1 : Int32))) am_q174 rfl rfl rfl rfl H
  · replace H := H.2 hq
    refine ev_p (pc' := 11) (loc' := [.ref a0, .int i1, .int i2, .int i3]) (st' := [.ref a0]) 1 am_q174 rfl ?_
    obtain ⟨g2, b3, e4, H⟩ := H
    refine ev_s (pc' := 14) (loc' := [.ref a0, .int i1, .int i2, .int i3]) (st' := [.ref b3]) (h1 := h) am_q174 rfl rfl rfl (am_gf2 g2 e4) ?_
    refine ev_p (pc' := 15) (loc' := [.ref a0, .int i1, .int i2, .int i3]) (st' := [.int i3, .ref b3]) 1 am_q174 rfl ?_
    obtain ⟨g5, g6, H⟩ := H
    refine ev_s (pc' := 16) (loc' := [.ref a0, .int i1, .int i2, .int i3]) (st' := [.int (am_gi h b3 (Int32.toNatClampNeg i3))]) (h1 := h) am_q174 rfl rfl rfl (am_xx g5 g6) ?_
    refine ev_p (pc' := 17) (loc' := [.ref a0, .int i1, .int i2, .int i3]) (st' := [.int (2 : Int32), .int (am_gi h b3 (Int32.toNatClampNeg i3))]) 1 am_q174 rfl ?_
    refine ev_jc (t := 40) am_q174 rfl rfl (fun hq => ?_) (fun hq => ?_)
    · replace H := H.1 hq
      refine ev_p (pc' := 2) (loc' := [.ref a0, .int i1, .int i2, .int (i3 + (1 : Int32))]) (st' := []) 2 am_q174 rfl ?_
      exact ev_m (loc' := [.ref a0, .int i1, .int i2, .int (i3 + (1 : Int32))]) am_q174 rfl rfl H
    · replace H := H.2 hq
      refine ev_p (pc' := 23) (loc' := [.ref a0, .int i1, .int i2, .int i3]) (st' := [.int i1, .int i3, .ref a0]) 3 am_q174 rfl ?_
      obtain ⟨g9, H⟩ := H
      refine ev_c (vs := [.ref a0, .int i3, .int i1]) (rest := []) 172 am_q174 rfl rfl rfl rfl rfl rfl rfl rfl rfl rfl rfl rfl (Or.inr (congrArg some g9)) (Cl.mono H (Nat.le_refl _) (fun r8 h7 H => ?_))
      obtain ⟨x10, rfl, H⟩ := H
      refine ev_jz (t := 40) am_q174 rfl rfl (fun hq => ?_) (fun hq => ?_)
      · replace H := H.1 hq
        refine ev_p (pc' := 2) (loc' := [.ref a0, .int i1, .int i2, .int (i3 + (1 : Int32))]) (st' := []) 2 am_q174 rfl ?_
        exact ev_m (loc' := [.ref a0, .int i1, .int i2, .int (i3 + (1 : Int32))]) am_q174 rfl rfl H
      · replace H := H.2 hq
        refine ev_p (pc' := 32) (loc' := [.ref a0, .int i1, .int i2, .int i3]) (st' := [.int i2, .int i3, .ref a0]) 3 am_q174 rfl ?_
        obtain ⟨g13, H⟩ := H
        refine ev_c (vs := [.ref a0, .int i3, .int i2]) (rest := []) 171 am_q174 rfl rfl rfl rfl rfl rfl rfl rfl rfl rfl rfl rfl (Or.inr (congrArg some g13)) (Cl.mono H (Nat.le_refl _) (fun r12 h11 H => ?_))
        obtain ⟨x14, rfl, H⟩ := H
        refine ev_jz (t := 40) am_q174 rfl rfl (fun hq => ?_) (fun hq => ?_)
        · replace H := H.1 hq
          refine ev_p (pc' := 2) (loc' := [.ref a0, .int i1, .int i2, .int (i3 + (1 : Int32))]) (st' := []) 2 am_q174 rfl ?_
          exact ev_m (loc' := [.ref a0, .int i1, .int i2, .int (i3 + (1 : Int32))]) am_q174 rfl rfl H
        · replace H := H.2 hq
          refine ev_p (pc' := 39) (loc' := [.ref a0, .int i1, .int i2, .int i3]) (st' := [.int i3]) 1 am_q174 rfl ?_
          exact ev_r (v := some (.int i3)) am_q174 rfl rfl rfl rfl H
/-! 175: X12_newRight -/
theorem am_q175 : (am_mt 175).2.2.2.2.2 = am_m175.2.2.2.2.2 := rfl
set_option maxRecDepth 20000 in
set_option maxHeartbeats 2000000 in
theorem wp175 {d : Nat} (a0 : Nat) (i1 : Int32) (i2 : Int32) (i3 : Int32) (i4 : Int32) (i5 : Int32) {h : AH} {Q : Option Value → AH → Prop} (H : am_kd h a0 = 12 ∧ ∃ b2, am_gr h a0 15 = some b2 ∧ am_kd h a0 = 12 ∧ (am_kd h b2 = 100 ∧ 6 ≤ b2) ∧ am_in (am_gi h a0 14) (am_ln h b2) ∧ ∀ h7, h7 = am_si h b2 (Int32.toNatClampNeg (am_gi h a0 14)) i1 → am_kd h7 a0 = 12 ∧ ∃ b9, am_gr h7 a0 16 = some b9 ∧ am_kd h7 a0 = 12 ∧ (am_kd h7 b9 = 100 ∧ 6 ≤ b9) ∧ am_in (am_gi h7 a0 14) (am_ln h7 b9) ∧ ∀ h14, h14 = am_si h7 b9 (Int32.toNatClampNeg (am_gi h7 a0 14)) i2 → am_kd h14 a0 = 12 ∧ ∃ b16, am_gr h14 a0 17 = some b16 ∧ am_kd h14 a0 = 12 ∧ (am_kd h14 b16 = 100 ∧ 6 ≤ b16) ∧ am_in (am_gi h14 a0 14) (am_ln h14 b16) ∧ ∀ h21, h21 = am_si h14 b16 (Int32.toNatClampNeg (am_gi h14 a0 14)) i3 → am_kd h21 a0 = 12 ∧ ∃ b23, am_gr h21 a0 18 = some b23 ∧ am_kd h21 a0 = 12 ∧ (am_kd h21 b23 = 100 ∧ 6 ≤ b23) ∧ am_in (am_gi h21 a0 14) (am_ln h21 b23) ∧ ∀ h28, h28 = am_si h21 b23 (Int32.toNatClampNeg (am_gi h21 a0 14)) i4 → am_kd h28 a0 = 12 ∧ ∃ b30, am_gr h28 a0 19 = some b30 ∧ am_kd h28 a0 = 12 ∧ am_kd h28 a0 = 12 ∧ (am_kd h28 b30 = 100 ∧ 6 ≤ b30) ∧ am_in (am_gi h28 a0 14) (am_ln h28 b30) ∧ ∀ h36, h36 = am_si h28 b30 (Int32.toNatClampNeg (am_gi h28 a0 14)) (am_gi h28 a0 0) → am_kd h36 a0 = 12 ∧ ∃ b38, am_gr h36 a0 20 = some b38 ∧ am_kd h36 a0 = 12 ∧ (am_kd h36 b38 = 100 ∧ 6 ≤ b38) ∧ am_in (am_gi h36 a0 14) (am_ln h36 b38) ∧ ∀ h43, h43 = am_si h36 b38 (Int32.toNatClampNeg (am_gi h36 a0 14)) i5 → am_kd h43 a0 = 12 ∧ am_kd h43 a0 = 12 ∧ ∀ h46, h46 = am_si h43 a0 14 ((am_gi h43 a0 14) + (1 : Int32)) → am_kd h46 a0 = 12 ∧ Q (some (.int ((am_gi h46 a0 14) - (1 : Int32)))) h46) : Cl d 175 [.ref a0, .int i1, .int i2, .int i3, .int i4, .int i5] h Q := by
  show Ev d 175 0 [.ref a0, .int i1, .int i2, .int i3, .int i4, .int i5] [] h Q
  refine ev_p (pc' := 1) (loc' := [.ref a0, .int i1, .int i2, .int i3, .int i4, .int i5]) (st' := [.ref a0]) 1 am_q175 rfl ?_
  obtain ⟨g1, b2, e3, H⟩ := H
  refine ev_s (pc' := 4) (loc' := [.ref a0, .int i1, .int i2, .int i3, .int i4, .int i5]) (st' := [.ref b2]) (h1 := h) am_q175 rfl rfl rfl (am_gf2 g1 e3) ?_
  refine ev_p (pc' := 5) (loc' := [.ref a0, .int i1, .int i2, .int i3, .int i4, .int i5]) (st' := [.ref a0, .ref b2]) 1 am_q175 rfl ?_
  obtain ⟨g4, H⟩ := H
  refine ev_s (pc' := 8) (loc' := [.ref a0, .int i1, .int i2, .int i3, .int i4, .int i5]) (st' := [.int (am_gi h a0 14), .ref b2]) (h1 := h) am_q175 rfl rfl rfl (if_pos (e := none) g4) ?_
  refine ev_p (pc' := 9) (loc' := [.ref a0, .int i1, .int i2, .int i3, .int i4, .int i5]) (st' := [.int i1, .int (am_gi h a0 14), .ref b2]) 1 am_q175 rfl ?_
  obtain ⟨g5, g6, H⟩ := H
  refine ev_s (pc' := 10) (loc' := [.ref a0, .int i1, .int i2, .int i3, .int i4, .int i5]) (st' := []) (h1 := am_si h b2 (Int32.toNatClampNeg (am_gi h a0 14)) i1) am_q175 rfl rfl rfl (am_xx g5 g6) ?_
  replace H := H _ rfl
  generalize am_si h b2 (Int32.toNatClampNeg (am_gi h a0 14)) i1 = h7 at H ⊢
  refine ev_p (pc' := 11) (loc' := [.ref a0, .int i1, .int i2, .int i3, .int i4, .int i5]) (st' := [.ref a0]) 1 am_q175 rfl ?_
  obtain ⟨g8, b9, e10, H⟩ := H
  refine ev_s (pc' := 14) (loc' := [.ref a0, .int i1, .int i2, .int i3, .int i4, .int i5]) (st' := [.ref b9]) (h1 := h7) am_q175 rfl rfl rfl (am_gf2 g8 e10) ?_
  refine ev_p (pc' := 15) (loc' := [.ref a0, .int i1, .int i2, .int i3, .int i4, .int i5]) (st' := [.ref a0, .ref b9]) 1 am_q175 rfl ?_
  obtain ⟨g11, H⟩ := H
  refine ev_s (pc' := 18) (loc' := [.ref a0, .int i1, .int i2, .int i3, .int i4, .int i5]) (st' := [.int (am_gi h7 a0 14), .ref b9]) (h1 := h7) am_q175 rfl rfl rfl (if_pos (e := none) g11) ?_
  refine ev_p (pc' := 19) (loc' := [.ref a0, .int i1, .int i2, .int i3, .int i4, .int i5]) (st' := [.int i2, .int (am_gi h7 a0 14), .ref b9]) 1 am_q175 rfl ?_
  obtain ⟨g12, g13, H⟩ := H
  refine ev_s (pc' := 20) (loc' := [.ref a0, .int i1, .int i2, .int i3, .int i4, .int i5]) (st' := []) (h1 := am_si h7 b9 (Int32.toNatClampNeg (am_gi h7 a0 14)) i2) am_q175 rfl rfl rfl (am_xx g12 g13) ?_
  replace H := H _ rfl
  generalize am_si h7 b9 (Int32.toNatClampNeg (am_gi h7 a0 14)) i2 = h14 at H ⊢
  refine ev_p (pc' := 21) (loc' := [.ref a0, .int i1, .int i2, .int i3, .int i4, .int i5]) (st' := [.ref a0]) 1 am_q175 rfl ?_
  obtain ⟨g15, b16, e17, H⟩ := H
  refine ev_s (pc' := 24) (loc' := [.ref a0, .int i1, .int i2, .int i3, .int i4, .int i5]) (st' := [.ref b16]) (h1 := h14) am_q175 rfl rfl rfl (am_gf2 g15 e17) ?_
  refine ev_p (pc' := 25) (loc' := [.ref a0, .int i1, .int i2, .int i3, .int i4, .int i5]) (st' := [.ref a0, .ref b16]) 1 am_q175 rfl ?_
  obtain ⟨g18, H⟩ := H
  refine ev_s (pc' := 28) (loc' := [.ref a0, .int i1, .int i2, .int i3, .int i4, .int i5]) (st' := [.int (am_gi h14 a0 14), .ref b16]) (h1 := h14) am_q175 rfl rfl rfl (if_pos (e := none) g18) ?_
  refine ev_p (pc' := 29) (loc' := [.ref a0, .int i1, .int i2, .int i3, .int i4, .int i5]) (st' := [.int i3, .int (am_gi h14 a0 14), .ref b16]) 1 am_q175 rfl ?_
  obtain ⟨g19, g20, H⟩ := H
  refine ev_s (pc' := 30) (loc' := [.ref a0, .int i1, .int i2, .int i3, .int i4, .int i5]) (st' := []) (h1 := am_si h14 b16 (Int32.toNatClampNeg (am_gi h14 a0 14)) i3) am_q175 rfl rfl rfl (am_xx g19 g20) ?_
  replace H := H _ rfl
  generalize am_si h14 b16 (Int32.toNatClampNeg (am_gi h14 a0 14)) i3 = h21 at H ⊢
  refine ev_p (pc' := 31) (loc' := [.ref a0, .int i1, .int i2, .int i3, .int i4, .int i5]) (st' := [.ref a0]) 1 am_q175 rfl ?_
  obtain ⟨g22, b23, e24, H⟩ := H
  refine ev_s (pc' := 34) (loc' := [.ref a0, .int i1, .int i2, .int i3, .int i4, .int i5]) (st' := [.ref b23]) (h1 := h21) am_q175 rfl rfl rfl (am_gf2 g22 e24) ?_
  refine ev_p (pc' := 35) (loc' := [.ref a0, .int i1, .int i2, .int i3, .int i4, .int i5]) (st' := [.ref a0, .ref b23]) 1 am_q175 rfl ?_
  obtain ⟨g25, H⟩ := H
  refine ev_s (pc' := 38) (loc' := [.ref a0, .int i1, .int i2, .int i3, .int i4, .int i5]) (st' := [.int (am_gi h21 a0 14), .ref b23]) (h1 := h21) am_q175 rfl rfl rfl (if_pos (e := none) g25) ?_
  refine ev_p (pc' := 40) (loc' := [.ref a0, .int i1, .int i2, .int i3, .int i4, .int i5]) (st' := [.int i4, .int (am_gi h21 a0 14), .ref b23]) 1 am_q175 rfl ?_
  obtain ⟨g26, g27, H⟩ := H
  refine ev_s (pc' := 41) (loc' := [.ref a0, .int i1, .int i2, .int i3, .int i4, .int i5]) (st' := []) (h1 := am_si h21 b23 (Int32.toNatClampNeg (am_gi h21 a0 14)) i4) am_q175 rfl rfl rfl (am_xx g26 g27) ?_
  replace H := H _ rfl
  generalize am_si h21 b23 (Int32.toNatClampNeg (am_gi h21 a0 14)) i4 = h28 at H ⊢
  refine ev_p (pc' := 42) (loc' := [.ref a0, .int i1, .int i2, .int i3, .int i4, .int i5]) (st' := [.ref a0]) 1 am_q175 rfl ?_
  obtain ⟨g29, b30, e31, H⟩ := H
  refine ev_s (pc' := 45) (loc' := [.ref a0, .int i1, .int i2, .int i3, .int i4, .int i5]) (st' := [.ref b30]) (h1 := h28) am_q175 rfl rfl rfl (am_gf2 g29 e31) ?_
  refine ev_p (pc' := 46) (loc' := [.ref a0, .int i1, .int i2, .int i3, .int i4, .int i5]) (st' := [.ref a0, .ref b30]) 1 am_q175 rfl ?_
  obtain ⟨g32, H⟩ := H
  refine ev_s (pc' := 49) (loc' := [.ref a0, .int i1, .int i2, .int i3, .int i4, .int i5]) (st' := [.int (am_gi h28 a0 14), .ref b30]) (h1 := h28) am_q175 rfl rfl rfl (if_pos (e := none) g32) ?_
  refine ev_p (pc' := 50) (loc' := [.ref a0, .int i1, .int i2, .int i3, .int i4, .int i5]) (st' := [.ref a0, .int (am_gi h28 a0 14), .ref b30]) 1 am_q175 rfl ?_
  obtain ⟨g33, H⟩ := H
  refine ev_s (pc' := 53) (loc' := [.ref a0, .int i1, .int i2, .int i3, .int i4, .int i5]) (st' := [.int (am_gi h28 a0 0), .int (am_gi h28 a0 14), .ref b30]) (h1 := h28) am_q175 rfl rfl rfl (if_pos (e := none) g33) ?_
  obtain ⟨g34, g35, H⟩ := H
  refine ev_s (pc' := 54) (loc' := [.ref a0, .int i1, .int i2, .int i3, .int i4, .int i5]) (st' := []) (h1 := am_si h28 b30 (Int32.toNatClampNeg (am_gi h28 a0 14)) (am_gi h28 a0 0)) am_q175 rfl rfl rfl (am_xx g34 g35) ?_
  replace H := H _ rfl
  generalize am_si h28 b30 (Int32.toNatClampNeg (am_gi h28 a0 14)) (am_gi h28 a0 0) = h36 at H ⊢
  refine ev_p (pc' := 55) (loc' := [.ref a0, .int i1, .int i2, .int i3, .int i4, .int i5]) (st' := [.ref a0]) 1 am_q175 rfl ?_
  obtain ⟨g37, b38, e39, H⟩ := H
  refine ev_s (pc' := 58) (loc' := [.ref a0, .int i1, .int i2, .int i3, .int i4, .int i5]) (st' := [.ref b38]) (h1 := h36) am_q175 rfl rfl rfl (am_gf2 g37 e39) ?_
  refine ev_p (pc' := 59) (loc' := [.ref a0, .int i1, .int i2, .int i3, .int i4, .int i5]) (st' := [.ref a0, .ref b38]) 1 am_q175 rfl ?_
  obtain ⟨g40, H⟩ := H
  refine ev_s (pc' := 62) (loc' := [.ref a0, .int i1, .int i2, .int i3, .int i4, .int i5]) (st' := [.int (am_gi h36 a0 14), .ref b38]) (h1 := h36) am_q175 rfl rfl rfl (if_pos (e := none) g40) ?_
  refine ev_p (pc' := 64) (loc' := [.ref a0, .int i1, .int i2, .int i3, .int i4, .int i5]) (st' := [.int i5, .int (am_gi h36 a0 14), .ref b38]) 1 am_q175 rfl ?_
  obtain ⟨g41, g42, H⟩ := H
  refine ev_s (pc' := 65) (loc' := [.ref a0, .int i1, .int i2, .int i3, .int i4, .int i5]) (st' := []) (h1 := am_si h36 b38 (Int32.toNatClampNeg (am_gi h36 a0 14)) i5) am_q175 rfl rfl rfl (am_xx g41 g42) ?_
  replace H := H _ rfl
  generalize am_si h36 b38 (Int32.toNatClampNeg (am_gi h36 a0 14)) i5 = h43 at H ⊢
  refine ev_p (pc' := 67) (loc' := [.ref a0, .int i1, .int i2, .int i3, .int i4, .int i5]) (st' := [.ref a0, .ref a0]) 2 am_q175 rfl ?_
  obtain ⟨g44, H⟩ := H
  refine ev_s (pc' := 70) (loc' := [.ref a0, .int i1, .int i2, .int i3, .int i4, .int i5]) (st' := [.int (am_gi h43 a0 14), .ref a0]) (h1 := h43) am_q175 rfl rfl rfl (if_pos (e := none) g44) ?_
  refine ev_p (pc' := 72) (loc' := [.ref a0, .int i1, .int i2, .int i3, .int i4, .int i5]) (st' := [.int ((am_gi h43 a0 14) + (1 : Int32)), .ref a0]) 2 am_q175 rfl ?_
  obtain ⟨g45, H⟩ := H
  refine ev_s (pc' := 75) (loc' := [.ref a0, .int i1, .int i2, .int i3, .int i4, .int i5]) (st' := []) (h1 := am_si h43 a0 14 ((am_gi h43 a0 14) + (1 : Int32))) am_q175 rfl rfl rfl (if_pos (e := none) g45) ?_
  replace H := H _ rfl
  generalize am_si h43 a0 14 ((am_gi h43 a0 14) + (1 : Int32)) = h46 at H ⊢
  refine ev_p (pc' := 76) (loc' := [.ref a0, .int i1, .int i2, .int i3, .int i4, .int i5]) (st' := [.ref a0]) 1 am_q175 rfl ?_
  obtain ⟨g47, H⟩ := H
  refine ev_s (pc' := 79) (loc' := [.ref a0, .int i1, .int i2, .int i3, .int i4, .int i5]) (st' := [.int (am_gi h46 a0 14)]) (h1 := h46) am_q175 rfl rfl rfl (if_pos (e := none) g47) ?_
  refine ev_p (pc' := 81) (loc' := [.ref a0, .int i1, .int i2, .int i3, .int i4, .int i5]) (st' := [.int ((am_gi h46 a0 14) - (1 : Int32))]) 2 am_q175 rfl ?_
  exact ev_r (v := some (.int ((am_gi h46 a0 14) - (1 : Int32)))) am_q175 rfl rfl rfl rfl H
/-! 176: X12_day -/
theorem am_q176 : (am_mt 176).2.2.2.2.2 = am_m176.2.2.2.2.2 := rfl
set_option maxRecDepth 20000 in
set_option maxHeartbeats 2000000 in
theorem wp176 {d : Nat} (a0 : Nat) (i1 : Int32) {h : AH} {Q : Option Value → AH → Prop} (H : Cl d 167 [.int i1, .int (0 : Int32), .int (10000 : Int32)] h (fun r2 h1 => ∃ x3, r2 = some (.int x3) ∧ ((¬ x3 = (0 : Int32)) → am_kd h1 a0 = 12 ∧ (((am_gi h1 a0 0) + i1) ≤ (1000000 : Int32) → am_kd h1 a0 = 12 ∧ am_kd h1 a0 = 12 ∧ ∀ h7, h7 = am_si h1 a0 0 ((am_gi h1 a0 0) + i1) → am_kd h7 a0 = 12 ∧ Q (some (.int (am_gi h7 a0 0))) h7) ∧ (¬ ((am_gi h1 a0 0) + i1) ≤ (1000000 : Int32) → Q (some (.int (-4 : Int32))) h1)) ∧ (¬ (¬ x3 = (0 : Int32)) → Q (some (.int (-2 : Int32))) h1))) : Cl (d + 1) 176 [.ref a0, .int i1] h Q := by
  show Ev (d + 1) 176 0 [.ref a0, .int i1] [] h Q
  refine ev_p (pc' := 5) (loc' := [.ref a0, .int i1]) (st' := [.int (10000 : Int32), .int (0 : Int32), .int i1]) 3 am_q176 rfl ?_
  refine ev_c (vs := [.int i1, .int (0 : Int32), .int (10000 : Int32)]) (rest := []) 167 am_q176 rfl rfl rfl rfl rfl rfl rfl rfl rfl rfl rfl rfl (Or.inl rfl) (Cl.mono H (Nat.le_refl _) (fun r2 h1 H => ?_))
  obtain ⟨x3, rfl, H⟩ := H
  refine ev_jz (t := 14) am_q176 rfl rfl (fun hq => ?_) (fun hq => ?_)
  · replace H := H.1 hq
    refine ev_p (pc' := 15) (loc' := [.ref a0, .int i1]) (st' := [.ref a0]) 1 am_q176 rfl ?_
    obtain ⟨g4, H⟩ := H
    refine ev_s (pc' := 18) (loc' := [.ref a0, .int i1]) (st' := [.int (am_gi h1 a0 0)]) (h1 := h1) am_q176 rfl rfl rfl (if_pos (e := none) g4) ?_
    refine ev_p (pc' := 22) (loc' := [.ref a0, .int i1]) (st' := [.int (1000000 : Int32), .int ((am_gi h1 a0 0) + i1)]) 3 am_q176 rfl ?_
    refine ev_jc (t := 28) am_q176 rfl rfl (fun hq => ?_) (fun hq => ?_)
    · replace H := H.1 hq
      refine ev_p (pc' := 30) (loc' := [.ref a0, .int i1]) (st' := [.ref a0, .ref a0]) 2 am_q176 rfl ?_
      obtain ⟨g5, H⟩ := H
      refine ev_s (pc' := 33) (loc' := [.ref a0, .int i1]) (st' := [.int (am_gi h1 a0 0), .ref a0]) (h1 := h1) am_q176 rfl rfl rfl (if_pos (e := none) g5) ?_
      refine ev_p (pc' := 35) (loc' := [.ref a0, .int i1]) (st' := [.int ((am_gi h1 a0 0) + i1), .ref a0]) 2 am_q176 rfl ?_
      obtain ⟨g6, H⟩ := H
      refine ev_s (pc' := 38) (loc' := [.ref a0, .int i1]) (st' := []) (h1 := am_si h1 a0 0 ((am_gi h1 a0 0) + i1)) am_q176 rfl rfl rfl (if_pos (e := none) g6) ?_
      replace H := H _ rfl
      generalize am_si h1 a0 0 ((am_gi h1 a0 0) + i1) = h7 at H ⊢
      refine ev_p (pc' := 39) (loc' := [.ref a0, .int i1]) (st' := [.ref a0]) 1 am_q176 rfl ?_
      obtain ⟨g8, H⟩ := H
      refine ev_s (pc' := 42) (loc' := [.ref a0, .int i1]) (st' := [.int (am_gi h7 a0 0)]) (h1 := h7) am_q176 rfl rfl rfl (if_pos (e := none) g8) ?_
      exact ev_r (v := some (.int (am_gi h7 a0 0))) am_q176 rfl rfl rfl rfl H
    · replace H := H.2 hq
      refine ev_p (pc' := 27) (loc' := [.ref a0, .int i1]) (st' := [.int (-4 : Int32)]) 1 am_q176 rfl ?_
      exact ev_r (v := some (.int (-4 : Int32))) am_q176 rfl rfl rfl rfl H
  · replace H := H.2 hq
    refine ev_p (pc' := 13) (loc' := [.ref a0, .int i1]) (st' := [.int (-2 : Int32)]) 1 am_q176 rfl ?_
    exact ev_r (v := some (.int (-2 : Int32))) am_q176 rfl rfl rfl rfl H
/-! 177: X12_home -/
theorem am_q177 : (am_mt 177).2.2.2.2.2 = am_m177.2.2.2.2.2 := rfl
set_option maxRecDepth 20000 in
set_option maxHeartbeats 2000000 in
theorem wp177 {d : Nat} (a0 : Nat) (i1 : Int32) (i2 : Int32) (i3 : Int32) {h : AH} {Q : Option Value → AH → Prop} (H : Cl d 167 [.int i1, .int (0 : Int32), .int (3 : Int32)] h (fun r2 h1 => ∃ x3, r2 = some (.int x3) ∧ (x3 = (0 : Int32) → Q (some (.int (-2 : Int32))) h1) ∧ (¬ x3 = (0 : Int32) → Cl d 167 [.int i2, .int (1 : Int32), .int (6 : Int32)] h1 (fun r5 h4 => ∃ x6, r5 = some (.int x6) ∧ (x6 = (0 : Int32) → Q (some (.int (-2 : Int32))) h4) ∧ (¬ x6 = (0 : Int32) → Cl d 167 [.int i3, .int (1 : Int32), .int (100 : Int32)] h4 (fun r8 h7 => ∃ x9, r8 = some (.int x9) ∧ ((¬ x9 = (0 : Int32)) → am_kd h7 a0 = 12 ∧ ((¬ (am_gi h7 a0 1) = (12 : Int32)) → am_kd h7 a0 = 12 ∧ ∃ b12, am_gr h7 a0 2 = some b12 ∧ am_kd h7 a0 = 12 ∧ (am_kd h7 b12 = 100 ∧ 6 ≤ b12) ∧ am_in (am_gi h7 a0 1) (am_ln h7 b12) ∧ ∀ h17, h17 = am_si h7 b12 (Int32.toNatClampNeg (am_gi h7 a0 1)) i1 → am_kd h17 a0 = 12 ∧ ∃ b19, am_gr h17 a0 3 = some b19 ∧ am_kd h17 a0 = 12 ∧ (am_kd h17 b19 = 100 ∧ 6 ≤ b19) ∧ am_in (am_gi h17 a0 1) (am_ln h17 b19) ∧ ∀ h24, h24 = am_si h17 b19 (Int32.toNatClampNeg (am_gi h17 a0 1)) i2 → am_kd h24 a0 = 12 ∧ ∃ b26, am_gr h24 a0 4 = some b26 ∧ am_kd h24 a0 = 12 ∧ (am_kd h24 b26 = 100 ∧ 6 ≤ b26) ∧ am_in (am_gi h24 a0 1) (am_ln h24 b26) ∧ ∀ h31, h31 = am_si h24 b26 (Int32.toNatClampNeg (am_gi h24 a0 1)) i3 → am_kd h31 a0 = 12 ∧ am_kd h31 a0 = 12 ∧ ∀ h34, h34 = am_si h31 a0 1 ((am_gi h31 a0 1) + (1 : Int32)) → am_kd h34 a0 = 12 ∧ Q (some (.int ((am_gi h34 a0 1) - (1 : Int32)))) h34) ∧ (¬ (¬ (am_gi h7 a0 1) = (12 : Int32)) → Q (some (.int (-4 : Int32))) h7)) ∧ (¬ (¬ x9 = (0 : Int32)) → Q (some (.int (-2 : Int32))) h7))))))) : Cl (d + 1) 177 [.ref a0, .int i1, .int i2, .int i3] h Q := by
  show Ev (d + 1) 177 0 [.ref a0, .int i1, .int i2, .int i3] [] h Q
  refine ev_p (pc' := 3) (loc' := [.ref a0, .int i1, .int i2, .int i3]) (st' := [.int (3 : Int32), .int (0 : Int32), .int i1]) 3 am_q177 rfl ?_
  refine ev_c (vs := [.int i1, .int (0 : Int32), .int (3 : Int32)]) (rest := []) 167 am_q177 rfl rfl rfl rfl rfl rfl rfl rfl rfl rfl rfl rfl (Or.inl rfl) (Cl.mono H (Nat.le_refl _) (fun r2 h1 H => ?_))
  obtain ⟨x3, rfl, H⟩ := H
  refine ev_jz (t := 29) am_q177 rfl rfl (fun hq => ?_) (fun hq => ?_)
  · replace H := H.1 hq
    refine ev_p (pc' := 31) (loc' := [.null, .null, .null, .null]) (st' := [.int (-2 : Int32)]) 1 am_q177 rfl ?_
    exact ev_r (v := some (.int (-2 : Int32))) am_q177 rfl rfl rfl rfl H
  · replace H := H.2 hq
    refine ev_p (pc' := 13) (loc' := [.ref a0, .int i1, .int i2, .int i3]) (st' := [.int (6 : Int32), .int (1 : Int32), .int i2]) 3 am_q177 rfl ?_
    refine ev_c (vs := [.int i2, .int (1 : Int32), .int (6 : Int32)]) (rest := []) 167 am_q177 rfl rfl rfl rfl rfl rfl rfl rfl rfl rfl rfl rfl (Or.inl rfl) (Cl.mono H (Nat.le_refl _) (fun r5 h4 H => ?_))
    obtain ⟨x6, rfl, H⟩ := H
    refine ev_jz (t := 29) am_q177 rfl rfl (fun hq => ?_) (fun hq => ?_)
    · replace H := H.1 hq
      refine ev_p (pc' := 31) (loc' := [.null, .null, .null, .null]) (st' := [.int (-2 : Int32)]) 1 am_q177 rfl ?_
      exact ev_r (v := some (.int (-2 : Int32))) am_q177 rfl rfl rfl rfl H
    · replace H := H.2 hq
      refine ev_p (pc' := 23) (loc' := [.ref a0, .int i1, .int i2, .int i3]) (st' := [.int (100 : Int32), .int (1 : Int32), .int i3]) 3 am_q177 rfl ?_
      refine ev_c (vs := [.int i3, .int (1 : Int32), .int (100 : Int32)]) (rest := []) 167 am_q177 rfl rfl rfl rfl rfl rfl rfl rfl rfl rfl rfl rfl (Or.inl rfl) (Cl.mono H (Nat.le_refl _) (fun r8 h7 H => ?_))
      obtain ⟨x9, rfl, H⟩ := H
      refine ev_jz (t := 32) am_q177 rfl rfl (fun hq => ?_) (fun hq => ?_)
      · replace H := H.1 hq
        refine ev_p (pc' := 33) (loc' := [.ref a0, .int i1, .int i2, .int i3]) (st' := [.ref a0]) 1 am_q177 rfl ?_
        obtain ⟨g10, H⟩ := H
        refine ev_s (pc' := 36) (loc' := [.ref a0, .int i1, .int i2, .int i3]) (st' := [.int (am_gi h7 a0 1)]) (h1 := h7) am_q177 rfl rfl rfl (if_pos (e := none) g10) ?_
        refine ev_p (pc' := 38) (loc' := [.ref a0, .int i1, .int i2, .int i3]) (st' := [.int (12 : Int32), .int (am_gi h7 a0 1)]) 1 am_q177 rfl ?_
        refine ev_jc (t := 44) am_q177 rfl rfl (fun hq => ?_) (fun hq => ?_)
        · replace H := H.1 hq
          refine ev_p (pc' := 45) (loc' := [.ref a0, .int i1, .int i2, .int i3]) (st' := [.ref a0]) 1 am_q177 rfl ?_
          obtain ⟨g11, b12, e13, H⟩ := H
          refine ev_s (pc' := 48) (loc' := [.ref a0, .int i1, .int i2, .int i3]) (st' := [.ref b12]) (h1 := h7) am_q177 rfl rfl rfl (am_gf2 g11 e13) ?_
          refine ev_p (pc' := 49) (loc' := [.ref a0, .int i1, .int i2, .int i3]) (st' := [.ref a0, .ref b12]) 1 am_q177 rfl ?_
          obtain ⟨g14, H⟩ := H
          refine ev_s (pc' := 52) (loc' := [.ref a0, .int i1, .int i2, .int i3]) (st' := [.int (am_gi h7 a0 1), .ref b12]) (h1 := h7) am_q177 rfl rfl rfl (if_pos (e := none) g14) ?_
          refine ev_p (pc' := 53) (loc' := [.ref a0, .int i1, .int i2, .int i3]) (st' := [.int i1, .int (am_gi h7 a0 1), .ref b12]) 1 am_q177 rfl ?_
          obtain ⟨g15, g16, H⟩ := H
          refine ev_s (pc' := 54) (loc' := [.ref a0, .int i1, .int i2, .int i3]) (st' := []) (h1 := am_si h7 b12 (Int32.toNatClampNeg (am_gi h7 a0 1)) i1) am_q177 rfl rfl rfl (am_xx g15 g16) ?_
          replace H := H _ rfl
          generalize am_si h7 b12 (Int32.toNatClampNeg (am_gi h7 a0 1)) i1 = h17 at H ⊢
          refine ev_p (pc' := 55) (loc' := [.ref a0, .int i1, .int i2, .int i3]) (st' := [.ref a0]) 1 am_q177 rfl ?_
          obtain ⟨g18, b19, e20, H⟩ := H
          refine ev_s (pc' := 58) (loc' := [.ref a0, .int i1, .int i2, .int i3]) (st' := [.ref b19]) (h1 := h17) am_q177 rfl rfl rfl (am_gf2 g18 e20) ?_
          refine ev_p (pc' := 59) (loc' := [.ref a0, .int i1, .int i2, .int i3]) (st' := [.ref a0, .ref b19]) 1 am_q177 rfl ?_
          obtain ⟨g21, H⟩ := H
          refine ev_s (pc' := 62) (loc' := [.ref a0, .int i1, .int i2, .int i3]) (st' := [.int (am_gi h17 a0 1), .ref b19]) (h1 := h17) am_q177 rfl rfl rfl (if_pos (e := none) g21) ?_
          refine ev_p (pc' := 63) (loc' := [.ref a0, .int i1, .int i2, .int i3]) (st' := [.int i2, .int (am_gi h17 a0 1), .ref b19]) 1 am_q177 rfl ?_
          obtain ⟨g22, g23, H⟩ := H
          refine ev_s (pc' := 64) (loc' := [.ref a0, .int i1, .int i2, .int i3]) (st' := []) (h1 := am_si h17 b19 (Int32.toNatClampNeg (am_gi h17 a0 1)) i2) am_q177 rfl rfl rfl (am_xx g22 g23) ?_
          replace H := H _ rfl
          generalize am_si h17 b19 (Int32.toNatClampNeg (am_gi h17 a0 1)) i2 = h24 at H ⊢
          refine ev_p (pc' := 65) (loc' := [.ref a0, .int i1, .int i2, .int i3]) (st' := [.ref a0]) 1 am_q177 rfl ?_
          obtain ⟨g25, b26, e27, H⟩ := H
          refine ev_s (pc' := 68) (loc' := [.ref a0, .int i1, .int i2, .int i3]) (st' := [.ref b26]) (h1 := h24) am_q177 rfl rfl rfl (am_gf2 g25 e27) ?_
          refine ev_p (pc' := 69) (loc' := [.ref a0, .int i1, .int i2, .int i3]) (st' := [.ref a0, .ref b26]) 1 am_q177 rfl ?_
          obtain ⟨g28, H⟩ := H
          refine ev_s (pc' := 72) (loc' := [.ref a0, .int i1, .int i2, .int i3]) (st' := [.int (am_gi h24 a0 1), .ref b26]) (h1 := h24) am_q177 rfl rfl rfl (if_pos (e := none) g28) ?_
          refine ev_p (pc' := 73) (loc' := [.ref a0, .int i1, .int i2, .int i3]) (st' := [.int i3, .int (am_gi h24 a0 1), .ref b26]) 1 am_q177 rfl ?_
          obtain ⟨g29, g30, H⟩ := H
          refine ev_s (pc' := 74) (loc' := [.ref a0, .int i1, .int i2, .int i3]) (st' := []) (h1 := am_si h24 b26 (Int32.toNatClampNeg (am_gi h24 a0 1)) i3) am_q177 rfl rfl rfl (am_xx g29 g30) ?_
          replace H := H _ rfl
          generalize am_si h24 b26 (Int32.toNatClampNeg (am_gi h24 a0 1)) i3 = h31 at H ⊢
          refine ev_p (pc' := 76) (loc' := [.ref a0, .int i1, .int i2, .int i3]) (st' := [.ref a0, .ref a0]) 2 am_q177 rfl ?_
          obtain ⟨g32, H⟩ := H
          refine ev_s (pc' := 79) (loc' := [.ref a0, .int i1, .int i2, .int i3]) (st' := [.int (am_gi h31 a0 1), .ref a0]) (h1 := h31) am_q177 rfl rfl rfl (if_pos (e := none) g32) ?_
          refine ev_p (pc' := 81) (loc' := [.ref a0, .int i1, .int i2, .int i3]) (st' := [.int ((am_gi h31 a0 1) + (1 : Int32)), .ref a0]) 2 am_q177 rfl ?_
          obtain ⟨g33, H⟩ := H
          refine ev_s (pc' := 84) (loc' := [.ref a0, .int i1, .int i2, .int i3]) (st' := []) (h1 := am_si h31 a0 1 ((am_gi h31 a0 1) + (1 : Int32))) am_q177 rfl rfl rfl (if_pos (e := none) g33) ?_
          replace H := H _ rfl
          generalize am_si h31 a0 1 ((am_gi h31 a0 1) + (1 : Int32)) = h34 at H ⊢
          refine ev_p (pc' := 85) (loc' := [.ref a0, .int i1, .int i2, .int i3]) (st' := [.ref a0]) 1 am_q177 rfl ?_
          obtain ⟨g35, H⟩ := H
          refine ev_s (pc' := 88) (loc' := [.ref a0, .int i1, .int i2, .int i3]) (st' := [.int (am_gi h34 a0 1)]) (h1 := h34) am_q177 rfl rfl rfl (if_pos (e := none) g35) ?_
          refine ev_p (pc' := 90) (loc' := [.ref a0, .int i1, .int i2, .int i3]) (st' := [.int ((am_gi h34 a0 1) - (1 : Int32))]) 2 am_q177 rfl ?_
          exact ev_r (v := some (.int ((am_gi h34 a0 1) - (1 : Int32)))) am_q177 rfl rfl rfl rfl H
        · replace H := H.2 hq
          refine ev_p (pc' := 43) (loc' := [.ref a0, .int i1, .int i2, .int i3]) (st' := [.int (-4 : Int32)]) 1 am_q177 rfl ?_
          exact ev_r (v := some (.int (-4 : Int32))) am_q177 rfl rfl rfl rfl H
      · replace H := H.2 hq
        refine ev_p (pc' := 31) (loc' := [.null, .null, .null, .null]) (st' := [.int (-2 : Int32)]) 1 am_q177 rfl ?_
        exact ev_r (v := some (.int (-2 : Int32))) am_q177 rfl rfl rfl rfl H
/-! 178: X12_member -/
theorem am_q178 : (am_mt 178).2.2.2.2.2 = am_m178.2.2.2.2.2 := rfl
set_option maxRecDepth 20000 in
set_option maxHeartbeats 2000000 in
theorem wp178 {d : Nat} (a0 : Nat) (i1 : Int32) {h : AH} {Q : Option Value → AH → Prop} (H : Cl d 167 [.int i1, .int (1 : Int32), .int (9 : Int32)] h (fun r2 h1 => ∃ x3, r2 = some (.int x3) ∧ ((¬ x3 = (0 : Int32)) → am_kd h1 a0 = 12 ∧ ((¬ (am_gi h1 a0 7) = (24 : Int32)) → am_kd h1 a0 = 12 ∧ ∃ b6, am_gr h1 a0 8 = some b6 ∧ am_kd h1 a0 = 12 ∧ (am_kd h1 b6 = 100 ∧ 6 ≤ b6) ∧ am_in (am_gi h1 a0 7) (am_ln h1 b6) ∧ ∀ h11, h11 = am_si h1 b6 (Int32.toNatClampNeg (am_gi h1 a0 7)) i1 → am_kd h11 a0 = 12 ∧ ∃ b13, am_gr h11 a0 9 = some b13 ∧ am_kd h11 a0 = 12 ∧ am_kd h11 a0 = 12 ∧ (am_kd h11 b13 = 100 ∧ 6 ≤ b13) ∧ am_in (am_gi h11 a0 7) (am_ln h11 b13) ∧ ∀ h19, h19 = am_si h11 b13 (Int32.toNatClampNeg (am_gi h11 a0 7)) (am_gi h11 a0 0) → am_kd h19 a0 = 12 ∧ ∃ b21, am_gr h19 a0 10 = some b21 ∧ am_kd h19 a0 = 12 ∧ (am_kd h19 b21 = 100 ∧ 6 ≤ b21) ∧ am_in (am_gi h19 a0 7) (am_ln h19 b21) ∧ ∀ h26, h26 = am_si h19 b21 (Int32.toNatClampNeg (am_gi h19 a0 7)) (-1 : Int32) → am_kd h26 a0 = 12 ∧ ∃ b28, am_gr h26 a0 11 = some b28 ∧ am_kd h26 a0 = 12 ∧ (am_kd h26 b28 = 100 ∧ 6 ≤ b28) ∧ am_in (am_gi h26 a0 7) (am_ln h26 b28) ∧ ∀ h33, h33 = am_si h26 b28 (Int32.toNatClampNeg (am_gi h26 a0 7)) (-1 : Int32) → am_kd h33 a0 = 12 ∧ am_kd h33 a0 = 12 ∧ ∀ h36, h36 = am_si h33 a0 7 ((am_gi h33 a0 7) + (1 : Int32)) → am_kd h36 a0 = 12 ∧ Q (some (.int ((am_gi h36 a0 7) - (1 : Int32)))) h36) ∧ (¬ (¬ (am_gi h1 a0 7) = (24 : Int32)) → Q (some (.int (-4 : Int32))) h1)) ∧ (¬ (¬ x3 = (0 : Int32)) → Q (some (.int (-2 : Int32))) h1))) : Cl (d + 1) 178 [.ref a0, .int i1] h Q := by
  show Ev (d + 1) 178 0 [.ref a0, .int i1] [] h Q
  refine ev_p (pc' := 4) (loc' := [.ref a0, .int i1]) (st' := [.int (9 : Int32), .int (1 : Int32), .int i1]) 3 am_q178 rfl ?_
  refine ev_c (vs := [.int i1, .int (1 : Int32), .int (9 : Int32)]) (rest := []) 167 am_q178 rfl rfl rfl rfl rfl rfl rfl rfl rfl rfl rfl rfl (Or.inl rfl) (Cl.mono H (Nat.le_refl _) (fun r2 h1 H => ?_))
  obtain ⟨x3, rfl, H⟩ := H
  refine ev_jz (t := 13) am_q178 rfl rfl (fun hq => ?_) (fun hq => ?_)
  · replace H := H.1 hq
    refine ev_p (pc' := 14) (loc' := [.ref a0, .int i1]) (st' := [.ref a0]) 1 am_q178 rfl ?_
    obtain ⟨g4, H⟩ := H
    refine ev_s (pc' := 17) (loc' := [.ref a0, .int i1]) (st' := [.int (am_gi h1 a0 7)]) (h1 := h1) am_q178 rfl rfl rfl (if_pos (e := none) g4) ?_
    refine ev_p (pc' := 19) (loc' := [.ref a0, .int i1]) (st' := [.int (24 : Int32), .int (am_gi h1 a0 7)]) 1 am_q178 rfl ?_
    refine ev_jc (t := 25) am_q178 rfl rfl (fun hq => ?_) (fun hq => ?_)
    · replace H := H.1 hq
      refine ev_p (pc' := 26) (loc' := [.ref a0, .int i1]) (st' := [.ref a0]) 1 am_q178 rfl ?_
      obtain ⟨g5, b6, e7, H⟩ := H
      refine ev_s (pc' := 29) (loc' := [.ref a0, .int i1]) (st' := [.ref b6]) (h1 := h1) am_q178 rfl rfl rfl (am_gf2 g5 e7) ?_
      refine ev_p (pc' := 30) (loc' := [.ref a0, .int i1]) (st' := [.ref a0, .ref b6]) 1 am_q178 rfl ?_
      obtain ⟨g8, H⟩ := H
      refine ev_s (pc' := 33) (loc' := [.ref a0, .int i1]) (st' := [.int (am_gi h1 a0 7), .ref b6]) (h1 := h1) am_q178 rfl rfl rfl (if_pos (e := none) g8) ?_
      refine ev_p (pc' := 34) (loc' := [.ref a0, .int i1]) (st' := [.int i1, .int (am_gi h1 a0 7), .ref b6]) 1 am_q178 rfl ?_
      obtain ⟨g9, g10, H⟩ := H
      refine ev_s (pc' := 35) (loc' := [.ref a0, .int i1]) (st' := []) (h1 := am_si h1 b6 (Int32.toNatClampNeg (am_gi h1 a0 7)) i1) am_q178 rfl rfl rfl (am_xx g9 g10) ?_
      replace H := H _ rfl
      generalize am_si h1 b6 (Int32.toNatClampNeg (am_gi h1 a0 7)) i1 = h11 at H ⊢
      refine ev_p (pc' := 36) (loc' := [.ref a0, .int i1]) (st' := [.ref a0]) 1 am_q178 rfl ?_
      obtain ⟨g12, b13, e14, H⟩ := H
      refine ev_s (pc' := 39) (loc' := [.ref a0, .int i1]) (st' := [.ref b13]) (h1 := h11) am_q178 rfl rfl rfl (am_gf2 g12 e14) ?_
      refine ev_p (pc' := 40) (loc' := [.ref a0, .int i1]) (st' := [.ref a0, .ref b13]) 1 am_q178 rfl ?_
      obtain ⟨g15, H⟩ := H
      refine ev_s (pc' := 43) (loc' := [.ref a0, .int i1]) (st' := [.int (am_gi h11 a0 7), .ref b13]) (h1 := h11) am_q178 rfl rfl rfl (if_pos (e := none) g15) ?_
      refine ev_p (pc' := 44) (loc' := [.ref a0, .int i1]) (st' := [.ref a0, .int (am_gi h11 a0 7), .ref b13]) 1 am_q178 rfl ?_
      obtain ⟨g16, H⟩ := H
      refine ev_s (pc' := 47) (loc' := [.ref a0, .int i1]) (st' := [.int (am_gi h11 a0 0), .int (am_gi h11 a0 7), .ref b13]) (h1 := h11) am_q178 rfl rfl rfl (if_pos (e := none) g16) ?_
      obtain ⟨g17, g18, H⟩ := H
      refine ev_s (pc' := 48) (loc' := [.ref a0, .int i1]) (st' := []) (h1 := am_si h11 b13 (Int32.toNatClampNeg (am_gi h11 a0 7)) (am_gi h11 a0 0)) am_q178 rfl rfl rfl (am_xx g17 g18) ?_
      replace H := H _ rfl
      generalize am_si h11 b13 (Int32.toNatClampNeg (am_gi h11 a0 7)) (am_gi h11 a0 0) = h19 at H ⊢
      refine ev_p (pc' := 49) (loc' := [.ref a0, .int i1]) (st' := [.ref a0]) 1 am_q178 rfl ?_
      obtain ⟨g20, b21, e22, H⟩ := H
      refine ev_s (pc' := 52) (loc' := [.ref a0, .int i1]) (st' := [.ref b21]) (h1 := h19) am_q178 rfl rfl rfl (am_gf2 g20 e22) ?_
      refine ev_p (pc' := 53) (loc' := [.ref a0, .int i1]) (st' := [.ref a0, .ref b21]) 1 am_q178 rfl ?_
      obtain ⟨g23, H⟩ := H
      refine ev_s (pc' := 56) (loc' := [.ref a0, .int i1]) (st' := [.int (am_gi h19 a0 7), .ref b21]) (h1 := h19) am_q178 rfl rfl rfl (if_pos (e := none) g23) ?_
      refine ev_p (pc' := 57) (loc' := [.ref a0, .int i1]) (st' := [.int (-1 : Int32), .int (am_gi h19 a0 7), .ref b21]) 1 am_q178 rfl ?_
      obtain ⟨g24, g25, H⟩ := H
      refine ev_s (pc' := 58) (loc' := [.ref a0, .int i1]) (st' := []) (h1 := am_si h19 b21 (Int32.toNatClampNeg (am_gi h19 a0 7)) (-1 : Int32)) am_q178 rfl rfl rfl (am_xx g24 g25) ?_
      replace H := H _ rfl
      generalize am_si h19 b21 (Int32.toNatClampNeg (am_gi h19 a0 7)) (-1 : Int32) = h26 at H ⊢
      refine ev_p (pc' := 59) (loc' := [.ref a0, .int i1]) (st' := [.ref a0]) 1 am_q178 rfl ?_
      obtain ⟨g27, b28, e29, H⟩ := H
      refine ev_s (pc' := 62) (loc' := [.ref a0, .int i1]) (st' := [.ref b28]) (h1 := h26) am_q178 rfl rfl rfl (am_gf2 g27 e29) ?_
      refine ev_p (pc' := 63) (loc' := [.ref a0, .int i1]) (st' := [.ref a0, .ref b28]) 1 am_q178 rfl ?_
      obtain ⟨g30, H⟩ := H
      refine ev_s (pc' := 66) (loc' := [.ref a0, .int i1]) (st' := [.int (am_gi h26 a0 7), .ref b28]) (h1 := h26) am_q178 rfl rfl rfl (if_pos (e := none) g30) ?_
      refine ev_p (pc' := 67) (loc' := [.ref a0, .int i1]) (st' := [.int (-1 : Int32), .int (am_gi h26 a0 7), .ref b28]) 1 am_q178 rfl ?_
      obtain ⟨g31, g32, H⟩ := H
      refine ev_s (pc' := 68) (loc' := [.ref a0, .int i1]) (st' := []) (h1 := am_si h26 b28 (Int32.toNatClampNeg (am_gi h26 a0 7)) (-1 : Int32)) am_q178 rfl rfl rfl (am_xx g31 g32) ?_
      replace H := H _ rfl
      generalize am_si h26 b28 (Int32.toNatClampNeg (am_gi h26 a0 7)) (-1 : Int32) = h33 at H ⊢
      refine ev_p (pc' := 70) (loc' := [.ref a0, .int i1]) (st' := [.ref a0, .ref a0]) 2 am_q178 rfl ?_
      obtain ⟨g34, H⟩ := H
      refine ev_s (pc' := 73) (loc' := [.ref a0, .int i1]) (st' := [.int (am_gi h33 a0 7), .ref a0]) (h1 := h33) am_q178 rfl rfl rfl (if_pos (e := none) g34) ?_
      refine ev_p (pc' := 75) (loc' := [.ref a0, .int i1]) (st' := [.int ((am_gi h33 a0 7) + (1 : Int32)), .ref a0]) 2 am_q178 rfl ?_
      obtain ⟨g35, H⟩ := H
      refine ev_s (pc' := 78) (loc' := [.ref a0, .int i1]) (st' := []) (h1 := am_si h33 a0 7 ((am_gi h33 a0 7) + (1 : Int32))) am_q178 rfl rfl rfl (if_pos (e := none) g35) ?_
      replace H := H _ rfl
      generalize am_si h33 a0 7 ((am_gi h33 a0 7) + (1 : Int32)) = h36 at H ⊢
      refine ev_p (pc' := 79) (loc' := [.ref a0, .int i1]) (st' := [.ref a0]) 1 am_q178 rfl ?_
      obtain ⟨g37, H⟩ := H
      refine ev_s (pc' := 82) (loc' := [.ref a0, .int i1]) (st' := [.int (am_gi h36 a0 7)]) (h1 := h36) am_q178 rfl rfl rfl (if_pos (e := none) g37) ?_
      refine ev_p (pc' := 84) (loc' := [.ref a0, .int i1]) (st' := [.int ((am_gi h36 a0 7) - (1 : Int32))]) 2 am_q178 rfl ?_
      exact ev_r (v := some (.int ((am_gi h36 a0 7) - (1 : Int32)))) am_q178 rfl rfl rfl rfl H
    · replace H := H.2 hq
      refine ev_p (pc' := 24) (loc' := [.ref a0, .int i1]) (st' := [.int (-4 : Int32)]) 1 am_q178 rfl ?_
      exact ev_r (v := some (.int (-4 : Int32))) am_q178 rfl rfl rfl rfl H
  · replace H := H.2 hq
    refine ev_p (pc' := 12) (loc' := [.ref a0, .int i1]) (st' := [.int (-2 : Int32)]) 1 am_q178 rfl ?_
    exact ev_r (v := some (.int (-2 : Int32))) am_q178 rfl rfl rfl rfl H
/-! 179: X12_family -/
theorem am_q179 : (am_mt 179).2.2.2.2.2 = am_m179.2.2.2.2.2 := rfl
set_option maxRecDepth 20000 in
set_option maxHeartbeats 2000000 in
theorem wp179 {d : Nat} (a0 : Nat) (i1 : Int32) (i2 : Int32) {h : AH} {Q : Option Value → AH → Prop} (H : am_kd h a0 = 12 ∧ Cl d 169 [.ref a0, .int i1] h (fun r2 h1 => ∃ x4, r2 = some (.int x4) ∧ (x4 = (0 : Int32) → Q (some (.int (-2 : Int32))) h1) ∧ (¬ x4 = (0 : Int32) → Cl d 167 [.int i2, .int (1 : Int32), .int (9 : Int32)] h1 (fun r6 h5 => ∃ x7, r6 = some (.int x7) ∧ ((¬ x7 = (0 : Int32)) → am_kd h5 a0 = 12 ∧ Cl d 170 [.ref a0, .int i1] h5 (fun r9 h8 => ∃ x11, r9 = some (.int x11) ∧ ((¬ x11 = (0 : Int32)) → am_kd h8 a0 = 12 ∧ ∃ b13, am_gr h8 a0 8 = some b13 ∧ am_kd h8 b13 = 100 ∧ am_in i1 (am_ln h8 b13) ∧ am_kd h8 a0 = 12 ∧ ∃ b18, am_gr h8 a0 8 = some b18 ∧ (am_kd h8 b18 = 100 ∧ 6 ≤ b18) ∧ am_in i1 (am_ln h8 b18) ∧ ∀ h22, h22 = am_si h8 b18 (Int32.toNatClampNeg i1) i2 → Q (some (.int (am_gi h8 b13 (Int32.toNatClampNeg i1)))) h22) ∧ (¬ (¬ x11 = (0 : Int32)) → Q (some (.int (-3 : Int32))) h8))) ∧ (¬ (¬ x7 = (0 : Int32)) → Q (some (.int (-2 : Int32))) h5))))) : Cl (d + 1) 179 [.ref a0, .int i1, .int i2] h Q := by
  show Ev (d + 1) 179 0 [.ref a0, .int i1, .int i2, .null] [] h Q
  refine ev_p (pc' := 2) (loc' := [.ref a0, .int i1, .int i2, .null]) (st' := [.int i1, .ref a0]) 2 am_q179 rfl ?_
  obtain ⟨g3, H⟩ := H
  refine ev_c (vs := [.ref a0, .int i1]) (rest := []) 169 am_q179 rfl rfl rfl rfl rfl rfl rfl rfl rfl rfl rfl rfl (Or.inr (congrArg some g3)) (Cl.mono H (Nat.le_refl _) (fun r2 h1 H => ?_))
  obtain ⟨x4, rfl, H⟩ := H
  refine ev_jz (t := 18) am_q179 rfl rfl (fun hq => ?_) (fun hq => ?_)
  · replace H := H.1 hq
    refine ev_p (pc' := 20) (loc' := [.null, .null, .null, .null]) (st' := [.int (-2 : Int32)]) 1 am_q179 rfl ?_
    exact ev_r (v := some (.int (-2 : Int32))) am_q179 rfl rfl rfl rfl H
  · replace H := H.2 hq
    refine ev_p (pc' := 12) (loc' := [.ref a0, .int i1, .int i2, .null]) (st' := [.int (9 : Int32), .int (1 : Int32), .int i2]) 3 am_q179 rfl ?_
    refine ev_c (vs := [.int i2, .int (1 : Int32), .int (9 : Int32)]) (rest := []) 167 am_q179 rfl rfl rfl rfl rfl rfl rfl rfl rfl rfl rfl rfl (Or.inl rfl) (Cl.mono H (Nat.le_refl _) (fun r6 h5 H => ?_))
    obtain ⟨x7, rfl, H⟩ := H
    refine ev_jz (t := 21) am_q179 rfl rfl (fun hq => ?_) (fun hq => ?_)
    · replace H := H.1 hq
      refine ev_p (pc' := 23) (loc' := [.ref a0, .int i1, .int i2, .null]) (st' := [.int i1, .ref a0]) 2 am_q179 rfl ?_
      obtain ⟨g10, H⟩ := H
      refine ev_c (vs := [.ref a0, .int i1]) (rest := []) 170 am_q179 rfl rfl rfl rfl rfl rfl rfl rfl rfl rfl rfl rfl (Or.inr (congrArg some g10)) (Cl.mono H (Nat.le_refl _) (fun r9 h8 H => ?_))
      obtain ⟨x11, rfl, H⟩ := H
      refine ev_jz (t := 32) am_q179 rfl rfl (fun hq => ?_) (fun hq => ?_)
      · replace H := H.1 hq
        refine ev_p (pc' := 33) (loc' := [.ref a0, .int i1, .int i2, .null]) (st' := [.ref a0]) 1 am_q179 rfl ?_
        obtain ⟨g12, b13, e14, H⟩ := H
        refine ev_s (pc' := 36) (loc' := [.ref a0, .int i1, .int i2, .null]) (st' := [.ref b13]) (h1 := h8) am_q179 rfl rfl rfl (am_gf2 g12 e14) ?_
        refine ev_p (pc' := 37) (loc' := [.ref a0, .int i1, .int i2, .null]) (st' := [.int i1, .ref b13]) 1 am_q179 rfl ?_
        obtain ⟨g15, g16, H⟩ := H
        refine ev_s (pc' := 38) (loc' := [.ref a0, .int i1, .int i2, .null]) (st' := [.int (am_gi h8 b13 (Int32.toNatClampNeg i1))]) (h1 := h8) am_q179 rfl rfl rfl (am_xx g15 g16) ?_
        refine ev_p (pc' := 40) (loc' := [.ref a0, .int i1, .int i2, .int (am_gi h8 b13 (Int32.toNatClampNeg i1))]) (st' := [.ref a0]) 2 am_q179 rfl ?_
        obtain ⟨g17, b18, e19, H⟩ := H
        refine ev_s (pc' := 43) (loc' := [.ref a0, .int i1, .int i2, .int (am_gi h8 b13 (Int32.toNatClampNeg i1))]) (st' := [.ref b18]) (h1 := h8) am_q179 rfl rfl rfl (am_gf2 g17 e19) ?_
        refine ev_p (pc' := 45) (loc' := [.ref a0, .int i1, .int i2, .int (am_gi h8 b13 (Int32.toNatClampNeg i1))]) (st' := [.int i2, .int i1, .ref b18]) 2 am_q179 rfl ?_
        obtain ⟨g20, g21, H⟩ := H
        refine ev_s (pc' := 46) (loc' := [.ref a0, .int i1, .int i2, .int (am_gi h8 b13 (Int32.toNatClampNeg i1))]) (st' := []) (h1 := am_si h8 b18 (Int32.toNatClampNeg i1) i2) am_q179 rfl rfl rfl (am_xx g20 g21) ?_
        replace H := H _ rfl
        generalize am_si h8 b18 (Int32.toNatClampNeg i1) i2 = h22 at H ⊢
        refine ev_p (pc' := 47) (loc' := [.ref a0, .int i1, .int i2, .int (am_gi h8 b13 (Int32.toNatClampNeg i1))]) (st' := [.int (am_gi h8 b13 (Int32.toNatClampNeg i1))]) 1 am_q179 rfl ?_
        exact ev_r (v := some (.int (am_gi h8 b13 (Int32.toNatClampNeg i1)))) am_q179 rfl rfl rfl rfl H
      · replace H := H.2 hq
        refine ev_p (pc' := 31) (loc' := [.ref a0, .int i1, .int i2, .null]) (st' := [.int (-3 : Int32)]) 1 am_q179 rfl ?_
        exact ev_r (v := some (.int (-3 : Int32))) am_q179 rfl rfl rfl rfl H
    · replace H := H.2 hq
      refine ev_p (pc' := 20) (loc' := [.null, .null, .null, .null]) (st' := [.int (-2 : Int32)]) 1 am_q179 rfl ?_
      exact ev_r (v := some (.int (-2 : Int32))) am_q179 rfl rfl rfl rfl H
/-! 180: X12_right -/
theorem am_q180 : (am_mt 180).2.2.2.2.2 = am_m180.2.2.2.2.2 := rfl
set_option maxRecDepth 20000 in
set_option maxHeartbeats 2000000 in
theorem wp180 {d : Nat} (a0 : Nat) (i1 : Int32) (i2 : Int32) (i3 : Int32) (i4 : Int32) {h : AH} {Q : Option Value → AH → Prop} (H : (i1 = (1 : Int32) → Cl d 167 [.int i4, .int (1 : Int32), .int (10000 : Int32)] h (fun r2 h1 => ∃ x3, r2 = some (.int x3) ∧ Ev (d + 1) 180 32 [.ref a0, .int i1, .int i2, .int i3, .int i4, .null, .null] [.int x3] h1 Q)) ∧ (¬ i1 = (1 : Int32) → ((¬ i1 = (2 : Int32)) → ((¬ i4 = (0 : Int32)) → Ev (d + 1) 180 32 [.ref a0, .int i1, .int i2, .int i3, .int i4, .null, .null] [.int (0 : Int32)] h Q) ∧ (¬ (¬ i4 = (0 : Int32)) → Ev (d + 1) 180 32 [.ref a0, .int i1, .int i2, .int i3, .int i4, .null, .null] [.int (1 : Int32)] h Q)) ∧ (¬ (¬ i1 = (2 : Int32)) → Cl d 167 [.int i4, .int (1 : Int32), .int (10000 : Int32)] h (fun r5 h4 => ∃ x6, r5 = some (.int x6) ∧ Ev (d + 1) 180 32 [.ref a0, .int i1, .int i2, .int i3, .int i4, .null, .null] [.int x6] h4 Q)))) : Cl (d + 1) 180 [.ref a0, .int i1, .int i2, .int i3, .int i4] h Q := by
  show Ev (d + 1) 180 0 [.ref a0, .int i1, .int i2, .int i3, .int i4, .null, .null] [] h Q
  refine ev_p (pc' := 2) (loc' := [.ref a0, .int i1, .int i2, .int i3, .int i4, .null, .null]) (st' := [.int (1 : Int32), .int i1]) 2 am_q180 rfl ?_
  refine ev_jc (t := 10) am_q180 rfl rfl (fun hq => ?_) (fun hq => ?_)
  · replace H := H.1 hq
    refine ev_p (pc' := 16) (loc' := [.ref a0, .int i1, .int i2, .int i3, .int i4, .null, .null]) (st' := [.int (10000 : Int32), .int (1 : Int32), .int i4]) 3 am_q180 rfl ?_
    refine ev_c (vs := [.int i4, .int (1 : Int32), .int (10000 : Int32)]) (rest := []) 167 am_q180 rfl rfl rfl rfl rfl rfl rfl rfl rfl rfl rfl rfl (Or.inl rfl) (Cl.mono H (Nat.le_refl _) (fun r2 h1 H => ?_))
    obtain ⟨x3, rfl, H⟩ := H
    refine ev_p (pc' := 32) (loc' := [.ref a0, .int i1, .int i2, .int i3, .int i4, .null, .null]) (st' := [.int x3]) 1 am_q180 rfl ?_
    exact ev_m (loc' := [.ref a0, .int i1, .int i2, .int i3, .int i4, .null, .null]) am_q180 rfl rfl H
  · replace H := H.2 hq
    refine ev_p (pc' := 7) (loc' := [.ref a0, .int i1, .int i2, .int i3, .int i4, .null, .null]) (st' := [.int (2 : Int32), .int i1]) 2 am_q180 rfl ?_
    refine ev_jc (t := 22) am_q180 rfl rfl (fun hq => ?_) (fun hq => ?_)
    · replace H := H.1 hq
      refine ev_p (pc' := 24) (loc' := [.ref a0, .int i1, .int i2, .int i3, .int i4, .null, .null]) (st' := [.int i4]) 1 am_q180 rfl ?_
      refine ev_jz (t := 31) am_q180 rfl rfl (fun hq => ?_) (fun hq => ?_)
      · replace H := H.1 hq
        refine ev_p (pc' := 32) (loc' := [.ref a0, .int i1, .int i2, .int i3, .int i4, .null, .null]) (st' := [.int (0 : Int32)]) 1 am_q180 rfl ?_
        exact ev_m (loc' := [.ref a0, .int i1, .int i2, .int i3, .int i4, .null, .null]) am_q180 rfl rfl H
      · replace H := H.2 hq
        refine ev_p (pc' := 32) (loc' := [.ref a0, .int i1, .int i2, .int i3, .int i4, .null, .null]) (st' := [.int (1 : Int32)]) 2 am_q180 rfl ?_
        exact ev_m (loc' := [.ref a0, .int i1, .int i2, .int i3, .int i4, .null, .null]) am_q180 rfl rfl H
    · replace H := H.2 hq
      refine ev_p (pc' := 16) (loc' := [.ref a0, .int i1, .int i2, .int i3, .int i4, .null, .null]) (st' := [.int (10000 : Int32), .int (1 : Int32), .int i4]) 3 am_q180 rfl ?_
      refine ev_c (vs := [.int i4, .int (1 : Int32), .int (10000 : Int32)]) (rest := []) 167 am_q180 rfl rfl rfl rfl rfl rfl rfl rfl rfl rfl rfl rfl (Or.inl rfl) (Cl.mono H (Nat.le_refl _) (fun r5 h4 H => ?_))
      obtain ⟨x6, rfl, H⟩ := H
      refine ev_p (pc' := 32) (loc' := [.ref a0, .int i1, .int i2, .int i3, .int i4, .null, .null]) (st' := [.int x6]) 1 am_q180 rfl ?_
      exact ev_m (loc' := [.ref a0, .int i1, .int i2, .int i3, .int i4, .null, .null]) am_q180 rfl rfl H
set_option maxRecDepth 20000 in
set_option maxHeartbeats 2000000 in
theorem wp180_32 {d : Nat} (a0 : Nat) (i1 : Int32) (i2 : Int32) (i3 : Int32) (i4 : Int32) (s0 : Int32) {h : AH} {Q : Option Value → AH → Prop} (H : Cl d 167 [.int i1, .int (0 : Int32), .int (2 : Int32)] h (fun r2 h1 => ∃ x3, r2 = some (.int x3) ∧ (x3 = (0 : Int32) → Q (some (.int (-2 : Int32))) h1) ∧ (¬ x3 = (0 : Int32) → am_kd h1 a0 = 12 ∧ Cl d 168 [.ref a0, .int i2] h1 (fun r5 h4 => ∃ x7, r5 = some (.int x7) ∧ (x7 = (0 : Int32) → Q (some (.int (-2 : Int32))) h4) ∧ (¬ x7 = (0 : Int32) → am_kd h4 a0 = 12 ∧ Cl d 169 [.ref a0, .int i3] h4 (fun r9 h8 => ∃ x11, r9 = some (.int x11) ∧ (x11 = (0 : Int32) → Q (some (.int (-2 : Int32))) h8) ∧ (¬ x11 = (0 : Int32) → ((¬ s0 = (0 : Int32)) → am_kd h8 a0 = 12 ∧ Cl d 170 [.ref a0, .int i3] h8 (fun r13 h12 => ∃ x15, r13 = some (.int x15) ∧ ((¬ x15 = (0 : Int32)) → am_kd h12 a0 = 12 ∧ am_kd h12 a0 = 12 ∧ Cl d 174 [.ref a0, .int i3, .int (am_gi h12 a0 0)] h12 (fun r18 h17 => ∃ x20, r18 = some (.int x20) ∧ (i1 = (2 : Int32) → ((¬ i1 = (2 : Int32)) → Ev (d + 1) 180 150 [.ref a0, .int i1, .int i2, .int i3, .int i4, .null, .null] [] h17 Q) ∧ (¬ (¬ i1 = (2 : Int32)) → (x20 = (-1 : Int32) → Ev (d + 1) 180 150 [.ref a0, .int i1, .int i2, .int i3, .int i4, .null, .null] [] h17 Q) ∧ (¬ x20 = (-1 : Int32) → am_kd h17 a0 = 12 ∧ ∃ b22, am_gr h17 a0 16 = some b22 ∧ am_kd h17 b22 = 100 ∧ am_in x20 (am_ln h17 b22) ∧ ((¬ (am_gi h17 b22 (Int32.toNatClampNeg x20)) = i2) → Ev (d + 1) 180 150 [.ref a0, .int i1, .int i2, .int i3, .int i4, .null, .null] [] h17 Q) ∧ (¬ (¬ (am_gi h17 b22 (Int32.toNatClampNeg x20)) = i2) → Q (some (.int (-3 : Int32))) h17)))) ∧ (¬ i1 = (2 : Int32) → am_kd h17 a0 = 12 ∧ am_kd h17 a0 = 12 ∧ Cl d 173 [.ref a0, .int i2, .int (am_gi h17 a0 0)] h17 (fun r28 h27 => ∃ x30, r28 = some (.int x30) ∧ ((¬ x30 = (-1 : Int32)) → Q (some (.int (-3 : Int32))) h27) ∧ (¬ (¬ x30 = (-1 : Int32)) → am_kd h27 a0 = 12 ∧ ∃ b32, am_gr h27 a0 5 = some b32 ∧ (am_kd h27 b32 = 102 ∨ am_kd h27 b32 = 103) ∧ am_in i2 (am_ln h27 b32) ∧ ((¬ (am_gi h27 b32 (Int32.toNatClampNeg i2)) = (0 : Int32)) → Q (some (.int (-3 : Int32))) h27) ∧ (¬ (¬ (am_gi h27 b32 (Int32.toNatClampNeg i2)) = (0 : Int32)) → (x20 = (-1 : Int32) → ((¬ i1 = (2 : Int32)) → Ev (d + 1) 180 150 [.ref a0, .int i1, .int i2, .int i3, .int i4, .null, .null] [] h27 Q) ∧ (¬ (¬ i1 = (2 : Int32)) → (x20 = (-1 : Int32) → Ev (d + 1) 180 150 [.ref a0, .int i1, .int i2, .int i3, .int i4, .null, .null] [] h27 Q) ∧ (¬ x20 = (-1 : Int32) → am_kd h27 a0 = 12 ∧ ∃ b37, am_gr h27 a0 16 = some b37 ∧ am_kd h27 b37 = 100 ∧ am_in x20 (am_ln h27 b37) ∧ ((¬ (am_gi h27 b37 (Int32.toNatClampNeg x20)) = i2) → Ev (d + 1) 180 150 [.ref a0, .int i1, .int i2, .int i3, .int i4, .null, .null] [] h27 Q) ∧ (¬ (¬ (am_gi h27 b37 (Int32.toNatClampNeg x20)) = i2) → Q (some (.int (-3 : Int32))) h27)))) ∧ (¬ x20 = (-1 : Int32) → Q (some (.int (-3 : Int32))) h27))))))) ∧ (¬ (¬ x15 = (0 : Int32)) → Q (some (.int (-3 : Int32))) h12))) ∧ (¬ (¬ s0 = (0 : Int32)) → Q (some (.int (-2 : Int32))) h8)))))))) : Ev (d + 1) 180 32 [.ref a0, .int i1, .int i2, .int i3, .int i4, .null, .null] [.int s0] h Q := by
  refine ev_p (pc' := 37) (loc' := [.ref a0, .int i1, .int i2, .int i3, .int i4, .int s0, .null]) (st' := [.int (2 : Int32), .int (0 : Int32), .int i1]) 4 am_q180 rfl ?_
  refine ev_c (vs := [.int i1, .int (0 : Int32), .int (2 : Int32)]) (rest := []) 167 am_q180 rfl rfl rfl rfl rfl rfl rfl rfl rfl rfl rfl rfl (Or.inl rfl) (Cl.mono H (Nat.le_refl _) (fun r2 h1 H => ?_))
  obtain ⟨x3, rfl, H⟩ := H
  refine ev_jz (t := 64) am_q180 rfl rfl (fun hq => ?_) (fun hq => ?_)
  · replace H := H.1 hq
    refine ev_p (pc' := 66) (loc' := [.null, .null, .null, .null, .null, .null, .null]) (st' := [.int (-2 : Int32)]) 1 am_q180 rfl ?_
    exact ev_r (v := some (.int (-2 : Int32))) am_q180 rfl rfl rfl rfl H
  · replace H := H.2 hq
    refine ev_p (pc' := 45) (loc' := [.ref a0, .int i1, .int i2, .int i3, .int i4, .int s0, .null]) (st' := [.int i2, .ref a0]) 2 am_q180 rfl ?_
    obtain ⟨g6, H⟩ := H
    refine ev_c (vs := [.ref a0, .int i2]) (rest := []) 168 am_q180 rfl rfl rfl rfl rfl rfl rfl rfl rfl rfl rfl rfl (Or.inr (congrArg some g6)) (Cl.mono H (Nat.le_refl _) (fun r5 h4 H => ?_))
    obtain ⟨x7, rfl, H⟩ := H
    refine ev_jz (t := 64) am_q180 rfl rfl (fun hq => ?_) (fun hq => ?_)
    · replace H := H.1 hq
      refine ev_p (pc' := 66) (loc' := [.null, .null, .null, .null, .null, .null, .null]) (st' := [.int (-2 : Int32)]) 1 am_q180 rfl ?_
      exact ev_r (v := some (.int (-2 : Int32))) am_q180 rfl rfl rfl rfl H
    · replace H := H.2 hq
      refine ev_p (pc' := 53) (loc' := [.ref a0, .int i1, .int i2, .int i3, .int i4, .int s0, .null]) (st' := [.int i3, .ref a0]) 2 am_q180 rfl ?_
      obtain ⟨g10, H⟩ := H
      refine ev_c (vs := [.ref a0, .int i3]) (rest := []) 169 am_q180 rfl rfl rfl rfl rfl rfl rfl rfl rfl rfl rfl rfl (Or.inr (congrArg some g10)) (Cl.mono H (Nat.le_refl _) (fun r9 h8 H => ?_))
      obtain ⟨x11, rfl, H⟩ := H
      refine ev_jz (t := 64) am_q180 rfl rfl (fun hq => ?_) (fun hq => ?_)
      · replace H := H.1 hq
        refine ev_p (pc' := 66) (loc' := [.null, .null, .null, .null, .null, .null, .null]) (st' := [.int (-2 : Int32)]) 1 am_q180 rfl ?_
        exact ev_r (v := some (.int (-2 : Int32))) am_q180 rfl rfl rfl rfl H
      · replace H := H.2 hq
        refine ev_p (pc' := 61) (loc' := [.ref a0, .int i1, .int i2, .int i3, .int i4, .int s0, .null]) (st' := [.int s0]) 1 am_q180 rfl ?_
        refine ev_jz (t := 67) am_q180 rfl rfl (fun hq => ?_) (fun hq => ?_)
        · replace H := H.1 hq
          refine ev_p (pc' := 69) (loc' := [.ref a0, .int i1, .int i2, .int i3, .int i4, .int s0, .null]) (st' := [.int i3, .ref a0]) 2 am_q180 rfl ?_
          obtain ⟨g14, H⟩ := H
          refine ev_c (vs := [.ref a0, .int i3]) (rest := []) 170 am_q180 rfl rfl rfl rfl rfl rfl rfl rfl rfl rfl rfl rfl (Or.inr (congrArg some g14)) (Cl.mono H (Nat.le_refl _) (fun r13 h12 H => ?_))
          obtain ⟨x15, rfl, H⟩ := H
          refine ev_jz (t := 78) am_q180 rfl rfl (fun hq => ?_) (fun hq => ?_)
          · replace H := H.1 hq
            refine ev_p (pc' := 81) (loc' := [.ref a0, .int i1, .int i2, .int i3, .int i4, .int s0, .null]) (st' := [.ref a0, .int i3, .ref a0]) 3 am_q180 rfl ?_
            obtain ⟨g16, H⟩ := H
            refine ev_s (pc' := 84) (loc' := [.ref a0, .int i1, .int i2, .int i3, .int i4, .int s0, .null]) (st' := [.int (am_gi h12 a0 0), .int i3, .ref a0]) (h1 := h12) am_q180 rfl rfl rfl (if_pos (e := none) g16) ?_
            obtain ⟨g19, H⟩ := H
            refine ev_c (vs := [.ref a0, .int i3, .int (am_gi h12 a0 0)]) (rest := []) 174 am_q180 rfl rfl rfl rfl rfl rfl rfl rfl rfl rfl rfl rfl (Or.inr (congrArg some g19)) (Cl.mono H (Nat.le_refl _) (fun r18 h17 H => ?_))
            obtain ⟨x20, rfl, H⟩ := H
            refine ev_p (pc' := 91) (loc' := [.ref a0, .int i1, .int i2, .int i3, .int i4, .int s0, .int x20]) (st' := [.int (2 : Int32), .int i1]) 3 am_q180 rfl ?_
            refine ev_jc (t := 125) am_q180 rfl rfl (fun hq => ?_) (fun hq => ?_)
            · replace H := H.1 hq
              refine ev_p (pc' := 127) (loc' := [.ref a0, .int i1, .int i2, .int i3, .int i4, .null, .int x20]) (st' := [.int (2 : Int32), .int i1]) 2 am_q180 rfl ?_
              refine ev_jc (t := 150) am_q180 rfl rfl (fun hq => ?_) (fun hq => ?_)
              · replace H := H.1 hq
                exact ev_m (loc' := [.ref a0, .int i1, .int i2, .int i3, .int i4, .null, .null]) am_q180 rfl rfl H
              · replace H := H.2 hq
                refine ev_p (pc' := 133) (loc' := [.ref a0, .int i1, .int i2, .int i3, .int i4, .null, .int x20]) (st' := [.int (-1 : Int32), .int x20]) 2 am_q180 rfl ?_
                refine ev_jc (t := 150) am_q180 rfl rfl (fun hq => ?_) (fun hq => ?_)
                · replace H := H.1 hq
                  exact ev_m (loc' := [.ref a0, .int i1, .int i2, .int i3, .int i4, .null, .null]) am_q180 rfl rfl H
                · replace H := H.2 hq
                  refine ev_p (pc' := 137) (loc' := [.ref a0, .int i1, .int i2, .int i3, .int i4, .null, .int x20]) (st' := [.ref a0]) 1 am_q180 rfl ?_
                  obtain ⟨g21, b22, e23, H⟩ := H
                  refine ev_s (pc' := 140) (loc' := [.ref a0, .int i1, .int i2, .int i3, .int i4, .null, .int x20]) (st' := [.ref b22]) (h1 := h17) am_q180 rfl rfl rfl (am_gf2 g21 e23) ?_
                  refine ev_p (pc' := 142) (loc' := [.ref a0, .int i1, .int i2, .int i3, .int i4, .null, .int x20]) (st' := [.int x20, .ref b22]) 1 am_q180 rfl ?_
                  obtain ⟨g24, g25, H⟩ := H
                  refine ev_s (pc' := 143) (loc' := [.ref a0, .int i1, .int i2, .int i3, .int i4, .null, .int x20]) (st' := [.int (am_gi h17 b22 (Int32.toNatClampNeg x20))]) (h1 := h17) am_q180 rfl rfl rfl (am_xx g24 g25) ?_
                  refine ev_p (pc' := 144) (loc' := [.ref a0, .int i1, .int i2, .int i3, .int i4, .null, .int x20]) (st' := [.int i2, .int (am_gi h17 b22 (Int32.toNatClampNeg x20))]) 1 am_q180 rfl ?_
                  refine ev_jc (t := 150) am_q180 rfl rfl (fun hq => ?_) (fun hq => ?_)
                  · replace H := H.1 hq
                    exact ev_m (loc' := [.ref a0, .int i1, .int i2, .int i3, .int i4, .null, .null]) am_q180 rfl rfl H
                  · replace H := H.2 hq
                    refine ev_p (pc' := 149) (loc' := [.ref a0, .int i1, .int i2, .int i3, .int i4, .null, .int x20]) (st' := [.int (-3 : Int32)]) 1 am_q180 rfl ?_
                    exact ev_r (v := some (.int (-3 : Int32))) am_q180 rfl rfl rfl rfl H
            · replace H := H.2 hq
              refine ev_p (pc' := 97) (loc' := [.ref a0, .int i1, .int i2, .int i3, .int i4, .int s0, .int x20]) (st' := [.ref a0, .int i2, .ref a0]) 3 am_q180 rfl ?_
              obtain ⟨g26, H⟩ := H
              refine ev_s (pc' := 100) (loc' := [.ref a0, .int i1, .int i2, .int i3, .int i4, .int s0, .int x20]) (st' := [.int (am_gi h17 a0 0), .int i2, .ref a0]) (h1 := h17) am_q180 rfl rfl rfl (if_pos (e := none) g26) ?_
              obtain ⟨g29, H⟩ := H
              refine ev_c (vs := [.ref a0, .int i2, .int (am_gi h17 a0 0)]) (rest := []) 173 am_q180 rfl rfl rfl rfl rfl rfl rfl rfl rfl rfl rfl rfl (Or.inr (congrArg some g29)) (Cl.mono H (Nat.le_refl _) (fun r28 h27 H => ?_))
              obtain ⟨x30, rfl, H⟩ := H
              refine ev_p (pc' := 104) (loc' := [.ref a0, .int i1, .int i2, .int i3, .int i4, .int s0, .int x20]) (st' := [.int (-1 : Int32), .int x30]) 1 am_q180 rfl ?_
              refine ev_jc (t := 122) am_q180 rfl rfl (fun hq => ?_) (fun hq => ?_)
              · replace H := H.1 hq
                refine ev_p (pc' := 124) (loc' := [.null, .null, .null, .null, .null, .null, .null]) (st' := [.int (-3 : Int32)]) 1 am_q180 rfl ?_
                exact ev_r (v := some (.int (-3 : Int32))) am_q180 rfl rfl rfl rfl H
              · replace H := H.2 hq
                refine ev_p (pc' := 108) (loc' := [.ref a0, .int i1, .int i2, .int i3, .int i4, .int s0, .int x20]) (st' := [.ref a0]) 1 am_q180 rfl ?_
                obtain ⟨g31, b32, e33, H⟩ := H
                refine ev_s (pc' := 111) (loc' := [.ref a0, .int i1, .int i2, .int i3, .int i4, .int s0, .int x20]) (st' := [.ref b32]) (h1 := h27) am_q180 rfl rfl rfl (am_gf2 g31 e33) ?_
                refine ev_p (pc' := 112) (loc' := [.ref a0, .int i1, .int i2, .int i3, .int i4, .int s0, .int x20]) (st' := [.int i2, .ref b32]) 1 am_q180 rfl ?_
                obtain ⟨g34, g35, H⟩ := H
                refine ev_s (pc' := 113) (loc' := [.ref a0, .int i1, .int i2, .int i3, .int i4, .int s0, .int x20]) (st' := [.int (am_gi h27 b32 (Int32.toNatClampNeg i2))]) (h1 := h27) am_q180 rfl rfl rfl (am_xx g34 g35) ?_
                refine ev_jz (t := 122) am_q180 rfl rfl (fun hq => ?_) (fun hq => ?_)
                · replace H := H.1 hq
                  refine ev_p (pc' := 124) (loc' := [.null, .null, .null, .null, .null, .null, .null]) (st' := [.int (-3 : Int32)]) 1 am_q180 rfl ?_
                  exact ev_r (v := some (.int (-3 : Int32))) am_q180 rfl rfl rfl rfl H
                · replace H := H.2 hq
                  refine ev_p (pc' := 119) (loc' := [.ref a0, .int i1, .int i2, .int i3, .int i4, .int s0, .int x20]) (st' := [.int (-1 : Int32), .int x20]) 2 am_q180 rfl ?_
                  refine ev_jc (t := 125) am_q180 rfl rfl (fun hq => ?_) (fun hq => ?_)
                  · replace H := H.1 hq
                    refine ev_p (pc' := 127) (loc' := [.ref a0, .int i1, .int i2, .int i3, .int i4, .null, .int x20]) (st' := [.int (2 : Int32), .int i1]) 2 am_q180 rfl ?_
                    refine ev_jc (t := 150) am_q180 rfl rfl (fun hq => ?_) (fun hq => ?_)
                    · replace H := H.1 hq
                      exact ev_m (loc' := [.ref a0, .int i1, .int i2, .int i3, .int i4, .null, .null]) am_q180 rfl rfl H
                    · replace H := H.2 hq
                      refine ev_p (pc' := 133) (loc' := [.ref a0, .int i1, .int i2, .int i3, .int i4, .null, .int x20]) (st' := [.int (-1 : Int32), .int x20]) 2 am_q180 rfl ?_
                      refine ev_jc (t := 150) am_q180 rfl rfl (fun hq => ?_) (fun hq => ?_)
                      · replace H := H.1 hq
                        exact ev_m (loc' := [.ref a0, .int i1, .int i2, .int i3, .int i4, .null, .null]) am_q180 rfl rfl H
                      · replace H := H.2 hq
                        refine ev_p (pc' := 137) (loc' := [.ref a0, .int i1, .int i2, .int i3, .int i4, .null, .int x20]) (st' := [.ref a0]) 1 am_q180 rfl ?_
                        obtain ⟨g36, b37, e38, H⟩ := H
                        refine ev_s (pc' := 140) (loc' := [.ref a0, .int i1, .int i2, .int i3, .int i4, .null, .int x20]) (st' := [.ref b37]) (h1 := h27) am_q180 rfl rfl rfl (am_gf2 g36 e38) ?_
                        refine ev_p (pc' := 142) (loc' := [.ref a0, .int i1, .int i2, .int i3, .int i4, .null, .int x20]) (st' := [.int x20, .ref b37]) 1 am_q180 rfl ?_
                        obtain ⟨g39, g40, H⟩ := H
                        refine ev_s (pc' := 143) (loc' := [.ref a0, .int i1, .int i2, .int i3, .int i4, .null, .int x20]) (st' := [.int (am_gi h27 b37 (Int32.toNatClampNeg x20))]) (h1 := h27) am_q180 rfl rfl rfl (am_xx g39 g40) ?_
                        refine ev_p (pc' := 144) (loc' := [.ref a0, .int i1, .int i2, .int i3, .int i4, .null, .int x20]) (st' := [.int i2, .int (am_gi h27 b37 (Int32.toNatClampNeg x20))]) 1 am_q180 rfl ?_
                        refine ev_jc (t := 150) am_q180 rfl rfl (fun hq => ?_) (fun hq => ?_)
                        · replace H := H.1 hq
                          exact ev_m (loc' := [.ref a0, .int i1, .int i2, .int i3, .int i4, .null, .null]) am_q180 rfl rfl H
                        · replace H := H.2 hq
                          refine ev_p (pc' := 149) (loc' := [.ref a0, .int i1, .int i2, .int i3, .int i4, .null, .int x20]) (st' := [.int (-3 : Int32)]) 1 am_q180 rfl ?_
                          exact ev_r (v := some (.int (-3 : Int32))) am_q180 rfl rfl rfl rfl H
                  · replace H := H.2 hq
                    refine ev_p (pc' := 124) (loc' := [.null, .null, .null, .null, .null, .null, .null]) (st' := [.int (-3 : Int32)]) 1 am_q180 rfl ?_
                    exact ev_r (v := some (.int (-3 : Int32))) am_q180 rfl rfl rfl rfl H
          · replace H := H.2 hq
            refine ev_p (pc' := 77) (loc' := [.ref a0, .int i1, .int i2, .int i3, .int i4, .int s0, .null]) (st' := [.int (-3 : Int32)]) 1 am_q180 rfl ?_
            exact ev_r (v := some (.int (-3 : Int32))) am_q180 rfl rfl rfl rfl H
        · replace H := H.2 hq
          refine ev_p (pc' := 66) (loc' := [.null, .null, .null, .null, .null, .null, .null]) (st' := [.int (-2 : Int32)]) 1 am_q180 rfl ?_
          exact ev_r (v := some (.int (-2 : Int32))) am_q180 rfl rfl rfl rfl H
set_option maxRecDepth 20000 in
set_option maxHeartbeats 2000000 in
theorem wp180_150 {d : Nat} (a0 : Nat) (i1 : Int32) (i2 : Int32) (i3 : Int32) (i4 : Int32) {h : AH} {Q : Option Value → AH → Prop} (H : am_kd h a0 = 12 ∧ ((¬ (am_gi h a0 14) = (60 : Int32)) → ((¬ i1 = (0 : Int32)) → am_kd h a0 = 12 ∧ am_kd h a0 = 12 ∧ Cl d 175 [.ref a0, .int i1, .int i2, .int i3, .int (-1 : Int32), .int ((am_gi h a0 0) + i4)] h (fun r4 h3 => ∃ x6, r4 = some (.int x6) ∧ Q (some (.int x6)) h3)) ∧ (¬ (¬ i1 = (0 : Int32)) → am_kd h a0 = 12 ∧ Cl d 175 [.ref a0, .int i1, .int i2, .int i3, .int (-1 : Int32), .int (-1 : Int32)] h (fun r8 h7 => ∃ x10, r8 = some (.int x10) ∧ Q (some (.int x10)) h7))) ∧ (¬ (¬ (am_gi h a0 14) = (60 : Int32)) → Q (some (.int (-4 : Int32))) h)) : Ev (d + 1) 180 150 [.ref a0, .int i1, .int i2, .int i3, .int i4, .null, .null] [] h Q := by
  refine ev_p (pc' := 151) (loc' := [.ref a0, .int i1, .int i2, .int i3, .int i4, .null, .null]) (st' := [.ref a0]) 1 am_q180 rfl ?_
  obtain ⟨g1, H⟩ := H
  refine ev_s (pc' := 154) (loc' := [.ref a0, .int i1, .int i2, .int i3, .int i4, .null, .null]) (st' := [.int (am_gi h a0 14)]) (h1 := h) am_q180 rfl rfl rfl (if_pos (e := none) g1) ?_
  refine ev_p (pc' := 156) (loc' := [.ref a0, .int i1, .int i2, .int i3, .int i4, .null, .null]) (st' := [.int (60 : Int32), .int (am_gi h a0 14)]) 1 am_q180 rfl ?_
  refine ev_jc (t := 164) am_q180 rfl rfl (fun hq => ?_) (fun hq => ?_)
  · replace H := H.1 hq
    refine ev_p (pc' := 170) (loc' := [.ref a0, .int i1, .int i2, .int i3, .int i4, .null, .null]) (st' := [.int i1, .int (-1 : Int32), .int i3, .int i2, .int i1, .ref a0]) 6 am_q180 rfl ?_
    refine ev_jz (t := 177) am_q180 rfl rfl (fun hq => ?_) (fun hq => ?_)
    · replace H := H.1 hq
      refine ev_p (pc' := 178) (loc' := [.ref a0, .int i1, .int i2, .int i3, .int i4, .null, .null]) (st' := [.ref a0, .int (-1 : Int32), .int i3, .int i2, .int i1, .ref a0]) 1 am_q180 rfl ?_
      obtain ⟨g2, H⟩ := H
      refine ev_s (pc' := 181) (loc' := [.ref a0, .int i1, .int i2, .int i3, .int i4, .null, .null]) (st' := [.int (am_gi h a0 0), .int (-1 : Int32), .int i3, .int i2, .int i1, .ref a0]) (h1 := h) am_q180 rfl rfl rfl (if_pos (e := none) g2) ?_
      refine ev_p (pc' := 184) (loc' := [.ref a0, .int i1, .int i2, .int i3, .int i4, .null, .null]) (st' := [.int ((am_gi h a0 0) + i4), .int (-1 : Int32), .int i3, .int i2, .int i1, .ref a0]) 2 am_q180 rfl ?_
      obtain ⟨g5, H⟩ := H
      refine ev_c (vs := [.ref a0, .int i1, .int i2, .int i3, .int (-1 : Int32), .int ((am_gi h a0 0) + i4)]) (rest := []) 175 am_q180 rfl rfl rfl rfl rfl rfl rfl rfl rfl rfl rfl rfl (Or.inr (congrArg some g5)) (Cl.mono H (Nat.le_refl _) (fun r4 h3 H => ?_))
      obtain ⟨x6, rfl, H⟩ := H
      exact ev_r (v := some (.int x6)) am_q180 rfl rfl rfl rfl H
    · replace H := H.2 hq
      refine ev_p (pc' := 184) (loc' := [.ref a0, .int i1, .int i2, .int i3, .int i4, .null, .null]) (st' := [.int (-1 : Int32), .int (-1 : Int32), .int i3, .int i2, .int i1, .ref a0]) 2 am_q180 rfl ?_
      obtain ⟨g9, H⟩ := H
      refine ev_c (vs := [.ref a0, .int i1, .int i2, .int i3, .int (-1 : Int32), .int (-1 : Int32)]) (rest := []) 175 am_q180 rfl rfl rfl rfl rfl rfl rfl rfl rfl rfl rfl rfl (Or.inr (congrArg some g9)) (Cl.mono H (Nat.le_refl _) (fun r8 h7 H => ?_))
      obtain ⟨x10, rfl, H⟩ := H
      exact ev_r (v := some (.int x10)) am_q180 rfl rfl rfl rfl H
  · replace H := H.2 hq
    refine ev_p (pc' := 187) (loc' := [.ref a0, .int i1, .int i2, .int i3, .int i4, .null, .null]) (st' := [.int (-4 : Int32)]) 2 am_q180 rfl ?_
    exact ev_r (v := some (.int (-4 : Int32))) am_q180 rfl rfl rfl rfl H
/-! 181: X12_isRight -/
theorem am_q181 : (am_mt 181).2.2.2.2.2 = am_m181.2.2.2.2.2 := rfl
set_option maxRecDepth 20000 in
set_option maxHeartbeats 2000000 in
theorem wp181 {d : Nat} (a0 : Nat) (i1 : Int32) {h : AH} {Q : Option Value → AH → Prop} (H : am_kd h a0 = 12 ∧ Cl d 167 [.int i1, .int (0 : Int32), .int ((am_gi h a0 14) - (1 : Int32))] h (fun r3 h2 => ∃ x4, r3 = some (.int x4) ∧ (x4 = (0 : Int32) ∨ x4 = (1 : Int32)) ∧ Q (some (.int x4)) h2)) : Cl (d + 1) 181 [.ref a0, .int i1] h Q := by
  show Ev (d + 1) 181 0 [.ref a0, .int i1] [] h Q
  refine ev_p (pc' := 3) (loc' := [.ref a0, .int i1]) (st' := [.ref a0, .int (0 : Int32), .int i1]) 3 am_q181 rfl ?_
  obtain ⟨g1, H⟩ := H
  refine ev_s (pc' := 6) (loc' := [.ref a0, .int i1]) (st' := [.int (am_gi h a0 14), .int (0 : Int32), .int i1]) (h1 := h) am_q181 rfl rfl rfl (if_pos (e := none) g1) ?_
  refine ev_p (pc' := 8) (loc' := [.ref a0, .int i1]) (st' := [.int ((am_gi h a0 14) - (1 : Int32)), .int (0 : Int32), .int i1]) 2 am_q181 rfl ?_
  refine ev_c (vs := [.int i1, .int (0 : Int32), .int ((am_gi h a0 14) - (1 : Int32))]) (rest := []) 167 am_q181 rfl rfl rfl rfl rfl rfl rfl rfl rfl rfl rfl rfl (Or.inl rfl) (Cl.mono H (Nat.le_refl _) (fun r3 h2 H => ?_))
  obtain ⟨x4, rfl, H⟩ := H
  exact ev_r (v := some (.int x4)) am_q181 rfl rfl rfl (decide_eq_true H.1) H.2
/-! 182: X12_join -/
theorem am_q182 : (am_mt 182).2.2.2.2.2 = am_m182.2.2.2.2.2 := rfl
set_option maxRecDepth 20000 in
set_option maxHeartbeats 2000000 in
theorem wp182 {d : Nat} (a0 : Nat) (i1 : Int32) (i2 : Int32) {h : AH} {Q : Option Value → AH → Prop} (H : am_kd h a0 = 12 ∧ Cl d 181 [.ref a0, .int i1] h (fun r2 h1 => ∃ x4, r2 = some (.int x4) ∧ (x4 = (0 : Int32) → Q (some (.int (-2 : Int32))) h1) ∧ (¬ x4 = (0 : Int32) → am_kd h1 a0 = 12 ∧ Cl d 169 [.ref a0, .int i2] h1 (fun r6 h5 => ∃ x8, r6 = some (.int x8) ∧ ((¬ x8 = (0 : Int32)) → am_kd h5 a0 = 12 ∧ ∃ b10, am_gr h5 a0 15 = some b10 ∧ am_kd h5 b10 = 100 ∧ am_in i1 (am_ln h5 b10) ∧ ((¬ (am_gi h5 b10 (Int32.toNatClampNeg i1)) = (0 : Int32)) → Q (some (.int (-3 : Int32))) h5) ∧ (¬ (¬ (am_gi h5 b10 (Int32.toNatClampNeg i1)) = (0 : Int32)) → am_kd h5 a0 = 12 ∧ am_kd h5 a0 = 12 ∧ Cl d 171 [.ref a0, .int i1, .int (am_gi h5 a0 0)] h5 (fun r16 h15 => ∃ x18, r16 = some (.int x18) ∧ (x18 = (0 : Int32) → Q (some (.int (-3 : Int32))) h15) ∧ (¬ x18 = (0 : Int32) → am_kd h15 a0 = 12 ∧ Cl d 170 [.ref a0, .int i2] h15 (fun r20 h19 => ∃ x22, r20 = some (.int x22) ∧ (x22 = (0 : Int32) → Q (some (.int (-3 : Int32))) h19) ∧ (¬ x22 = (0 : Int32) → am_kd h19 a0 = 12 ∧ am_kd h19 a0 = 12 ∧ Cl d 174 [.ref a0, .int i2, .int (am_gi h19 a0 0)] h19 (fun r25 h24 => ∃ x27, r25 = some (.int x27) ∧ (x27 = (-1 : Int32) → am_kd h24 a0 = 12 ∧ ((¬ (am_gi h24 a0 14) = (60 : Int32)) → am_kd h24 a0 = 12 ∧ ∃ b30, am_gr h24 a0 20 = some b30 ∧ am_kd h24 a0 = 12 ∧ (am_kd h24 b30 = 100 ∧ 6 ≤ b30) ∧ am_in i1 (am_ln h24 b30) ∧ ∀ h35, h35 = am_si h24 b30 (Int32.toNatClampNeg i1) (am_gi h24 a0 0) → am_kd h35 a0 = 12 ∧ ∃ b37, am_gr h35 a0 16 = some b37 ∧ am_kd h35 b37 = 100 ∧ am_in i1 (am_ln h35 b37) ∧ am_kd h35 a0 = 12 ∧ ∃ b42, am_gr h35 a0 17 = some b42 ∧ am_kd h35 b42 = 100 ∧ am_in i1 (am_ln h35 b42) ∧ am_kd h35 a0 = 12 ∧ Cl d 175 [.ref a0, .int (3 : Int32), .int (am_gi h35 b37 (Int32.toNatClampNeg i1)), .int (am_gi h35 b42 (Int32.toNatClampNeg i1)), .int i2, .int (-1 : Int32)] h35 (fun r47 h46 => ∃ x49, r47 = some (.int x49) ∧ Q (some (.int x49)) h46)) ∧ (¬ (¬ (am_gi h24 a0 14) = (60 : Int32)) → Q (some (.int (-4 : Int32))) h24)) ∧ (¬ x27 = (-1 : Int32) → Q (some (.int (-3 : Int32))) h24)))))))) ∧ (¬ (¬ x8 = (0 : Int32)) → Q (some (.int (-2 : Int32))) h5))))) : Cl (d + 1) 182 [.ref a0, .int i1, .int i2] h Q := by
  show Ev (d + 1) 182 0 [.ref a0, .int i1, .int i2] [] h Q
  refine ev_p (pc' := 2) (loc' := [.ref a0, .int i1, .int i2]) (st' := [.int i1, .ref a0]) 2 am_q182 rfl ?_
  obtain ⟨g3, H⟩ := H
  refine ev_c (vs := [.ref a0, .int i1]) (rest := []) 181 am_q182 rfl rfl rfl rfl rfl rfl rfl rfl rfl rfl rfl rfl (Or.inr (congrArg some g3)) (Cl.mono H (Nat.le_refl _) (fun r2 h1 H => ?_))
  obtain ⟨x4, rfl, H⟩ := H
  refine ev_jz (t := 16) am_q182 rfl rfl (fun hq => ?_) (fun hq => ?_)
  · replace H := H.1 hq
    refine ev_p (pc' := 18) (loc' := [.null, .null, .null]) (st' := [.int (-2 : Int32)]) 1 am_q182 rfl ?_
    exact ev_r (v := some (.int (-2 : Int32))) am_q182 rfl rfl rfl rfl H
  · replace H := H.2 hq
    refine ev_p (pc' := 10) (loc' := [.ref a0, .int i1, .int i2]) (st' := [.int i2, .ref a0]) 2 am_q182 rfl ?_
    obtain ⟨g7, H⟩ := H
    refine ev_c (vs := [.ref a0, .int i2]) (rest := []) 169 am_q182 rfl rfl rfl rfl rfl rfl rfl rfl rfl rfl rfl rfl (Or.inr (congrArg some g7)) (Cl.mono H (Nat.le_refl _) (fun r6 h5 H => ?_))
    obtain ⟨x8, rfl, H⟩ := H
    refine ev_jz (t := 19) am_q182 rfl rfl (fun hq => ?_) (fun hq => ?_)
    · replace H := H.1 hq
      refine ev_p (pc' := 20) (loc' := [.ref a0, .int i1, .int i2]) (st' := [.ref a0]) 1 am_q182 rfl ?_
      obtain ⟨g9, b10, e11, H⟩ := H
      refine ev_s (pc' := 23) (loc' := [.ref a0, .int i1, .int i2]) (st' := [.ref b10]) (h1 := h5) am_q182 rfl rfl rfl (am_gf2 g9 e11) ?_
      refine ev_p (pc' := 24) (loc' := [.ref a0, .int i1, .int i2]) (st' := [.int i1, .ref b10]) 1 am_q182 rfl ?_
      obtain ⟨g12, g13, H⟩ := H
      refine ev_s (pc' := 25) (loc' := [.ref a0, .int i1, .int i2]) (st' := [.int (am_gi h5 b10 (Int32.toNatClampNeg i1))]) (h1 := h5) am_q182 rfl rfl rfl (am_xx g12 g13) ?_
      refine ev_jz (t := 61) am_q182 rfl rfl (fun hq => ?_) (fun hq => ?_)
      · replace H := H.1 hq
        refine ev_p (pc' := 63) (loc' := [.null, .null, .null]) (st' := [.int (-3 : Int32)]) 1 am_q182 rfl ?_
        exact ev_r (v := some (.int (-3 : Int32))) am_q182 rfl rfl rfl rfl H
      · replace H := H.2 hq
        refine ev_p (pc' := 31) (loc' := [.ref a0, .int i1, .int i2]) (st' := [.ref a0, .int i1, .ref a0]) 3 am_q182 rfl ?_
        obtain ⟨g14, H⟩ := H
        refine ev_s (pc' := 34) (loc' := [.ref a0, .int i1, .int i2]) (st' := [.int (am_gi h5 a0 0), .int i1, .ref a0]) (h1 := h5) am_q182 rfl rfl rfl (if_pos (e := none) g14) ?_
        obtain ⟨g17, H⟩ := H
        refine ev_c (vs := [.ref a0, .int i1, .int (am_gi h5 a0 0)]) (rest := []) 171 am_q182 rfl rfl rfl rfl rfl rfl rfl rfl rfl rfl rfl rfl (Or.inr (congrArg some g17)) (Cl.mono H (Nat.le_refl _) (fun r16 h15 H => ?_))
        obtain ⟨x18, rfl, H⟩ := H
        refine ev_jz (t := 61) am_q182 rfl rfl (fun hq => ?_) (fun hq => ?_)
        · replace H := H.1 hq
          refine ev_p (pc' := 63) (loc' := [.null, .null, .null]) (st' := [.int (-3 : Int32)]) 1 am_q182 rfl ?_
          exact ev_r (v := some (.int (-3 : Int32))) am_q182 rfl rfl rfl rfl H
        · replace H := H.2 hq
          refine ev_p (pc' := 42) (loc' := [.ref a0, .int i1, .int i2]) (st' := [.int i2, .ref a0]) 2 am_q182 rfl ?_
          obtain ⟨g21, H⟩ := H
          refine ev_c (vs := [.ref a0, .int i2]) (rest := []) 170 am_q182 rfl rfl rfl rfl rfl rfl rfl rfl rfl rfl rfl rfl (Or.inr (congrArg some g21)) (Cl.mono H (Nat.le_refl _) (fun r20 h19 H => ?_))
          obtain ⟨x22, rfl, H⟩ := H
          refine ev_jz (t := 61) am_q182 rfl rfl (fun hq => ?_) (fun hq => ?_)
          · replace H := H.1 hq
            refine ev_p (pc' := 63) (loc' := [.null, .null, .null]) (st' := [.int (-3 : Int32)]) 1 am_q182 rfl ?_
            exact ev_r (v := some (.int (-3 : Int32))) am_q182 rfl rfl rfl rfl H
          · replace H := H.2 hq
            refine ev_p (pc' := 51) (loc' := [.ref a0, .int i1, .int i2]) (st' := [.ref a0, .int i2, .ref a0]) 3 am_q182 rfl ?_
            obtain ⟨g23, H⟩ := H
            refine ev_s (pc' := 54) (loc' := [.ref a0, .int i1, .int i2]) (st' := [.int (am_gi h19 a0 0), .int i2, .ref a0]) (h1 := h19) am_q182 rfl rfl rfl (if_pos (e := none) g23) ?_
            obtain ⟨g26, H⟩ := H
            refine ev_c (vs := [.ref a0, .int i2, .int (am_gi h19 a0 0)]) (rest := []) 174 am_q182 rfl rfl rfl rfl rfl rfl rfl rfl rfl rfl rfl rfl (Or.inr (congrArg some g26)) (Cl.mono H (Nat.le_refl _) (fun r25 h24 H => ?_))
            obtain ⟨x27, rfl, H⟩ := H
            refine ev_p (pc' := 58) (loc' := [.ref a0, .int i1, .int i2]) (st' := [.int (-1 : Int32), .int x27]) 1 am_q182 rfl ?_
            refine ev_jc (t := 64) am_q182 rfl rfl (fun hq => ?_) (fun hq => ?_)
            · replace H := H.1 hq
              refine ev_p (pc' := 65) (loc' := [.ref a0, .int i1, .int i2]) (st' := [.ref a0]) 1 am_q182 rfl ?_
              obtain ⟨g28, H⟩ := H
              refine ev_s (pc' := 68) (loc' := [.ref a0, .int i1, .int i2]) (st' := [.int (am_gi h24 a0 14)]) (h1 := h24) am_q182 rfl rfl rfl (if_pos (e := none) g28) ?_
              refine ev_p (pc' := 70) (loc' := [.ref a0, .int i1, .int i2]) (st' := [.int (60 : Int32), .int (am_gi h24 a0 14)]) 1 am_q182 rfl ?_
              refine ev_jc (t := 76) am_q182 rfl rfl (fun hq => ?_) (fun hq => ?_)
              · replace H := H.1 hq
                refine ev_p (pc' := 77) (loc' := [.ref a0, .int i1, .int i2]) (st' := [.ref a0]) 1 am_q182 rfl ?_
                obtain ⟨g29, b30, e31, H⟩ := H
                refine ev_s (pc' := 80) (loc' := [.ref a0, .int i1, .int i2]) (st' := [.ref b30]) (h1 := h24) am_q182 rfl rfl rfl (am_gf2 g29 e31) ?_
                refine ev_p (pc' := 82) (loc' := [.ref a0, .int i1, .int i2]) (st' := [.ref a0, .int i1, .ref b30]) 2 am_q182 rfl ?_
                obtain ⟨g32, H⟩ := H
                refine ev_s (pc' := 85) (loc' := [.ref a0, .int i1, .int i2]) (st' := [.int (am_gi h24 a0 0), .int i1, .ref b30]) (h1 := h24) am_q182 rfl rfl rfl (if_pos (e := none) g32) ?_
                obtain ⟨g33, g34, H⟩ := H
                refine ev_s (pc' := 86) (loc' := [.ref a0, .int i1, .int i2]) (st' := []) (h1 := am_si h24 b30 (Int32.toNatClampNeg i1) (am_gi h24 a0 0)) am_q182 rfl rfl rfl (am_xx g33 g34) ?_
                replace H := H _ rfl
                generalize am_si h24 b30 (Int32.toNatClampNeg i1) (am_gi h24 a0 0) = h35 at H ⊢
                refine ev_p (pc' := 89) (loc' := [.ref a0, .int i1, .int i2]) (st' := [.ref a0, .int (3 : Int32), .ref a0]) 3 am_q182 rfl ?_
                obtain ⟨g36, b37, e38, H⟩ := H
                refine ev_s (pc' := 92) (loc' := [.ref a0, .int i1, .int i2]) (st' := [.ref b37, .int (3 : Int32), .ref a0]) (h1 := h35) am_q182 rfl rfl rfl (am_gf2 g36 e38) ?_
                refine ev_p (pc' := 93) (loc' := [.ref a0, .int i1, .int i2]) (st' := [.int i1, .ref b37, .int (3 : Int32), .ref a0]) 1 am_q182 rfl ?_
                obtain ⟨g39, g40, H⟩ := H
                refine ev_s (pc' := 94) (loc' := [.ref a0, .int i1, .int i2]) (st' := [.int (am_gi h35 b37 (Int32.toNatClampNeg i1)), .int (3 : Int32), .ref a0]) (h1 := h35) am_q182 rfl rfl rfl (am_xx g39 g40) ?_
                refine ev_p (pc' := 95) (loc' := [.ref a0, .int i1, .int i2]) (st' := [.ref a0, .int (am_gi h35 b37 (Int32.toNatClampNeg i1)), .int (3 : Int32), .ref a0]) 1 am_q182 rfl ?_
                obtain ⟨g41, b42, e43, H⟩ := H
                refine ev_s (pc' := 98) (loc' := [.ref a0, .int i1, .int i2]) (st' := [.ref b42, .int (am_gi h35 b37 (Int32.toNatClampNeg i1)), .int (3 : Int32), .ref a0]) (h1 := h35) am_q182 rfl rfl rfl (am_gf2 g41 e43) ?_
                refine ev_p (pc' := 99) (loc' := [.ref a0, .int i1, .int i2]) (st' := [.int i1, .ref b42, .int (am_gi h35 b37 (Int32.toNatClampNeg i1)), .int (3 : Int32), .ref a0]) 1 am_q182 rfl ?_
                obtain ⟨g44, g45, H⟩ := H
                refine ev_s (pc' := 100) (loc' := [.ref a0, .int i1, .int i2]) (st' := [.int (am_gi h35 b42 (Int32.toNatClampNeg i1)), .int (am_gi h35 b37 (Int32.toNatClampNeg i1)), .int (3 : Int32), .ref a0]) (h1 := h35) am_q182 rfl rfl rfl (am_xx g44 g45) ?_
                refine ev_p (pc' := 102) (loc' := [.ref a0, .int i1, .int i2]) (st' := [.int (-1 : Int32), .int i2, .int (am_gi h35 b42 (Int32.toNatClampNeg i1)), .int (am_gi h35 b37 (Int32.toNatClampNeg i1)), .int (3 : Int32), .ref a0]) 2 am_q182 rfl ?_
                obtain ⟨g48, H⟩ := H
                refine ev_c (vs := [.ref a0, .int (3 : Int32), .int (am_gi h35 b37 (Int32.toNatClampNeg i1)), .int (am_gi h35 b42 (Int32.toNatClampNeg i1)), .int i2, .int (-1 : Int32)]) (rest := []) 175 am_q182 rfl rfl rfl rfl rfl rfl rfl rfl rfl rfl rfl rfl (Or.inr (congrArg some g48)) (Cl.mono H (Nat.le_refl _) (fun r47 h46 H => ?_))
                obtain ⟨x49, rfl, H⟩ := H
                exact ev_r (v := some (.int x49)) am_q182 rfl rfl rfl rfl H
              · replace H := H.2 hq
                refine ev_p (pc' := 75) (loc' := [.ref a0, .int i1, .int i2]) (st' := [.int (-4 : Int32)]) 1 am_q182 rfl ?_
                exact ev_r (v := some (.int (-4 : Int32))) am_q182 rfl rfl rfl rfl H
            · replace H := H.2 hq
              refine ev_p (pc' := 63) (loc' := [.null, .null, .null]) (st' := [.int (-3 : Int32)]) 1 am_q182 rfl ?_
              exact ev_r (v := some (.int (-3 : Int32))) am_q182 rfl rfl rfl rfl H
    · replace H := H.2 hq
      refine ev_p (pc' := 18) (loc' := [.null, .null, .null]) (st' := [.int (-2 : Int32)]) 1 am_q182 rfl ?_
      exact ev_r (v := some (.int (-2 : Int32))) am_q182 rfl rfl rfl rfl H
/-! 183: X12_end -/
theorem am_q183 : (am_mt 183).2.2.2.2.2 = am_m183.2.2.2.2.2 := rfl
set_option maxRecDepth 20000 in
set_option maxHeartbeats 2000000 in
theorem wp183 {d : Nat} (a0 : Nat) (i1 : Int32) {h : AH} {Q : Option Value → AH → Prop} (H : am_kd h a0 = 12 ∧ Cl d 181 [.ref a0, .int i1] h (fun r2 h1 => ∃ x4, r2 = some (.int x4) ∧ ((¬ x4 = (0 : Int32)) → am_kd h1 a0 = 12 ∧ am_kd h1 a0 = 12 ∧ Cl d 171 [.ref a0, .int i1, .int (am_gi h1 a0 0)] h1 (fun r7 h6 => ∃ x9, r7 = some (.int x9) ∧ ((¬ x9 = (0 : Int32)) → am_kd h6 a0 = 12 ∧ ∃ b11, am_gr h6 a0 20 = some b11 ∧ am_kd h6 a0 = 12 ∧ (am_kd h6 b11 = 100 ∧ 6 ≤ b11) ∧ am_in i1 (am_ln h6 b11) ∧ ∀ h16, h16 = am_si h6 b11 (Int32.toNatClampNeg i1) (am_gi h6 a0 0) → Q (some (.int (1 : Int32))) h16) ∧ (¬ (¬ x9 = (0 : Int32)) → Q (some (.int (-3 : Int32))) h6))) ∧ (¬ (¬ x4 = (0 : Int32)) → Q (some (.int (-2 : Int32))) h1))) : Cl (d + 1) 183 [.ref a0, .int i1] h Q := by
  show Ev (d + 1) 183 0 [.ref a0, .int i1] [] h Q
  refine ev_p (pc' := 2) (loc' := [.ref a0, .int i1]) (st' := [.int i1, .ref a0]) 2 am_q183 rfl ?_
  obtain ⟨g3, H⟩ := H
  refine ev_c (vs := [.ref a0, .int i1]) (rest := []) 181 am_q183 rfl rfl rfl rfl rfl rfl rfl rfl rfl rfl rfl rfl (Or.inr (congrArg some g3)) (Cl.mono H (Nat.le_refl _) (fun r2 h1 H => ?_))
  obtain ⟨x4, rfl, H⟩ := H
  refine ev_jz (t := 11) am_q183 rfl rfl (fun hq => ?_) (fun hq => ?_)
  · replace H := H.1 hq
    refine ev_p (pc' := 14) (loc' := [.ref a0, .int i1]) (st' := [.ref a0, .int i1, .ref a0]) 3 am_q183 rfl ?_
    obtain ⟨g5, H⟩ := H
    refine ev_s (pc' := 17) (loc' := [.ref a0, .int i1]) (st' := [.int (am_gi h1 a0 0), .int i1, .ref a0]) (h1 := h1) am_q183 rfl rfl rfl (if_pos (e := none) g5) ?_
    obtain ⟨g8, H⟩ := H
    refine ev_c (vs := [.ref a0, .int i1, .int (am_gi h1 a0 0)]) (rest := []) 171 am_q183 rfl rfl rfl rfl rfl rfl rfl rfl rfl rfl rfl rfl (Or.inr (congrArg some g8)) (Cl.mono H (Nat.le_refl _) (fun r7 h6 H => ?_))
    obtain ⟨x9, rfl, H⟩ := H
    refine ev_jz (t := 26) am_q183 rfl rfl (fun hq => ?_) (fun hq => ?_)
    · replace H := H.1 hq
      refine ev_p (pc' := 27) (loc' := [.ref a0, .int i1]) (st' := [.ref a0]) 1 am_q183 rfl ?_
      obtain ⟨g10, b11, e12, H⟩ := H
      refine ev_s (pc' := 30) (loc' := [.ref a0, .int i1]) (st' := [.ref b11]) (h1 := h6) am_q183 rfl rfl rfl (am_gf2 g10 e12) ?_
      refine ev_p (pc' := 32) (loc' := [.ref a0, .int i1]) (st' := [.ref a0, .int i1, .ref b11]) 2 am_q183 rfl ?_
      obtain ⟨g13, H⟩ := H
      refine ev_s (pc' := 35) (loc' := [.ref a0, .int i1]) (st' := [.int (am_gi h6 a0 0), .int i1, .ref b11]) (h1 := h6) am_q183 rfl rfl rfl (if_pos (e := none) g13) ?_
      obtain ⟨g14, g15, H⟩ := H
      refine ev_s (pc' := 36) (loc' := [.ref a0, .int i1]) (st' := []) (h1 := am_si h6 b11 (Int32.toNatClampNeg i1) (am_gi h6 a0 0)) am_q183 rfl rfl rfl (am_xx g14 g15) ?_
      replace H := H _ rfl
      generalize am_si h6 b11 (Int32.toNatClampNeg i1) (am_gi h6 a0 0) = h16 at H ⊢
      refine ev_p (pc' := 37) (loc' := [.ref a0, .int i1]) (st' := [.int (1 : Int32)]) 1 am_q183 rfl ?_
      exact ev_r (v := some (.int (1 : Int32))) am_q183 rfl rfl rfl rfl H
    · replace H := H.2 hq
      refine ev_p (pc' := 25) (loc' := [.ref a0, .int i1]) (st' := [.int (-3 : Int32)]) 1 am_q183 rfl ?_
      exact ev_r (v := some (.int (-3 : Int32))) am_q183 rfl rfl rfl rfl H
  · replace H := H.2 hq
    refine ev_p (pc' := 10) (loc' := [.ref a0, .int i1]) (st' := [.int (-2 : Int32)]) 1 am_q183 rfl ?_
    exact ev_r (v := some (.int (-2 : Int32))) am_q183 rfl rfl rfl rfl H
/-! 184: X12_gives -/
theorem am_q184 : (am_mt 184).2.2.2.2.2 = am_m184.2.2.2.2.2 := rfl
set_option maxRecDepth 20000 in
set_option maxHeartbeats 2000000 in
theorem wp184 {d : Nat} (a0 : Nat) (i1 : Int32) {h : AH} {Q : Option Value → AH → Prop} (H : am_kd h a0 = 12 ∧ am_kd h a0 = 12 ∧ Cl d 174 [.ref a0, .int i1, .int (am_gi h a0 0)] h (fun r3 h2 => ∃ x5, r3 = some (.int x5) ∧ ((¬ x5 = (-1 : Int32)) → am_kd h2 a0 = 12 ∧ ∃ b7, am_gr h2 a0 20 = some b7 ∧ am_kd h2 a0 = 12 ∧ (am_kd h2 b7 = 100 ∧ 6 ≤ b7) ∧ am_in x5 (am_ln h2 b7) ∧ ∀ h12, h12 = am_si h2 b7 (Int32.toNatClampNeg x5) (am_gi h2 a0 0) → am_kd h12 a0 = 12 ∧ ∃ b14, am_gr h12 a0 15 = some b14 ∧ am_kd h12 b14 = 100 ∧ am_in x5 (am_ln h12 b14) ∧ ((¬ (am_gi h12 b14 (Int32.toNatClampNeg x5)) = (3 : Int32)) → Q (some (.int (-1 : Int32))) h12) ∧ (¬ (¬ (am_gi h12 b14 (Int32.toNatClampNeg x5)) = (3 : Int32)) → am_kd h12 a0 = 12 ∧ ∃ b19, am_gr h12 a0 16 = some b19 ∧ am_kd h12 b19 = 100 ∧ am_in x5 (am_ln h12 b19) ∧ am_kd h12 a0 = 12 ∧ ∃ b24, am_gr h12 a0 17 = some b24 ∧ am_kd h12 b24 = 100 ∧ am_in x5 (am_ln h12 b24) ∧ ((¬ (am_gi h12 b24 (Int32.toNatClampNeg x5)) = i1) → am_kd h12 a0 = 12 ∧ ∃ b29, am_gr h12 a0 17 = some b29 ∧ am_kd h12 b29 = 100 ∧ am_in x5 (am_ln h12 b29) ∧ am_kd h12 a0 = 12 ∧ Cl d 175 [.ref a0, .int (4 : Int32), .int (am_gi h12 b19 (Int32.toNatClampNeg x5)), .int (am_gi h12 b29 (Int32.toNatClampNeg x5)), .int (-1 : Int32), .int (-1 : Int32)] h12 (fun r34 h33 => ∃ x36, r34 = some (.int x36) ∧ Q (some (.int x36)) h33)) ∧ (¬ (¬ (am_gi h12 b24 (Int32.toNatClampNeg x5)) = i1) → am_kd h12 a0 = 12 ∧ ∃ b38, am_gr h12 a0 18 = some b38 ∧ am_kd h12 b38 = 100 ∧ am_in x5 (am_ln h12 b38) ∧ am_kd h12 a0 = 12 ∧ Cl d 175 [.ref a0, .int (4 : Int32), .int (am_gi h12 b19 (Int32.toNatClampNeg x5)), .int (am_gi h12 b38 (Int32.toNatClampNeg x5)), .int (-1 : Int32), .int (-1 : Int32)] h12 (fun r43 h42 => ∃ x45, r43 = some (.int x45) ∧ Q (some (.int x45)) h42)))) ∧ (¬ (¬ x5 = (-1 : Int32)) → Q (some (.int (-1 : Int32))) h2))) : Cl (d + 1) 184 [.ref a0, .int i1] h Q := by
  show Ev (d + 1) 184 0 [.ref a0, .int i1, .null] [] h Q
  refine ev_p (pc' := 3) (loc' := [.ref a0, .int i1, .null]) (st' := [.ref a0, .int i1, .ref a0]) 3 am_q184 rfl ?_
  obtain ⟨g1, H⟩ := H
  refine ev_s (pc' := 6) (loc' := [.ref a0, .int i1, .null]) (st' := [.int (am_gi h a0 0), .int i1, .ref a0]) (h1 := h) am_q184 rfl rfl rfl (if_pos (e := none) g1) ?_
  obtain ⟨g4, H⟩ := H
  refine ev_c (vs := [.ref a0, .int i1, .int (am_gi h a0 0)]) (rest := []) 174 am_q184 rfl rfl rfl rfl rfl rfl rfl rfl rfl rfl rfl rfl (Or.inr (congrArg some g4)) (Cl.mono H (Nat.le_refl _) (fun r3 h2 H => ?_))
  obtain ⟨x5, rfl, H⟩ := H
  refine ev_p (pc' := 12) (loc' := [.ref a0, .int i1, .int x5]) (st' := [.int (-1 : Int32), .int x5]) 3 am_q184 rfl ?_
  refine ev_jc (t := 17) am_q184 rfl rfl (fun hq => ?_) (fun hq => ?_)
  · replace H := H.1 hq
    refine ev_p (pc' := 18) (loc' := [.ref a0, .int i1, .int x5]) (st' := [.ref a0]) 1 am_q184 rfl ?_
    obtain ⟨g6, b7, e8, H⟩ := H
    refine ev_s (pc' := 21) (loc' := [.ref a0, .int i1, .int x5]) (st' := [.ref b7]) (h1 := h2) am_q184 rfl rfl rfl (am_gf2 g6 e8) ?_
    refine ev_p (pc' := 23) (loc' := [.ref a0, .int i1, .int x5]) (st' := [.ref a0, .int x5, .ref b7]) 2 am_q184 rfl ?_
    obtain ⟨g9, H⟩ := H
    refine ev_s (pc' := 26) (loc' := [.ref a0, .int i1, .int x5]) (st' := [.int (am_gi h2 a0 0), .int x5, .ref b7]) (h1 := h2) am_q184 rfl rfl rfl (if_pos (e := none) g9) ?_
    obtain ⟨g10, g11, H⟩ := H
    refine ev_s (pc' := 27) (loc' := [.ref a0, .int i1, .int x5]) (st' := []) (h1 := am_si h2 b7 (Int32.toNatClampNeg x5) (am_gi h2 a0 0)) am_q184 rfl rfl rfl (am_xx g10 g11) ?_
    replace H := H _ rfl
    generalize am_si h2 b7 (Int32.toNatClampNeg x5) (am_gi h2 a0 0) = h12 at H ⊢
    refine ev_p (pc' := 28) (loc' := [.ref a0, .int i1, .int x5]) (st' := [.ref a0]) 1 am_q184 rfl ?_
    obtain ⟨g13, b14, e15, H⟩ := H
    refine ev_s (pc' := 31) (loc' := [.ref a0, .int i1, .int x5]) (st' := [.ref b14]) (h1 := h12) am_q184 rfl rfl rfl (am_gf2 g13 e15) ?_
    refine ev_p (pc' := 32) (loc' := [.ref a0, .int i1, .int x5]) (st' := [.int x5, .ref b14]) 1 am_q184 rfl ?_
    obtain ⟨g16, g17, H⟩ := H
    refine ev_s (pc' := 33) (loc' := [.ref a0, .int i1, .int x5]) (st' := [.int (am_gi h12 b14 (Int32.toNatClampNeg x5))]) (h1 := h12) am_q184 rfl rfl rfl (am_xx g16 g17) ?_
    refine ev_p (pc' := 34) (loc' := [.ref a0, .int i1, .int x5]) (st' := [.int (3 : Int32), .int (am_gi h12 b14 (Int32.toNatClampNeg x5))]) 1 am_q184 rfl ?_
    refine ev_jc (t := 78) am_q184 rfl rfl (fun hq => ?_) (fun hq => ?_)
    · replace H := H.1 hq
      refine ev_p (pc' := 79) (loc' := [.ref a0, .int i1, .int x5]) (st' := [.int (-1 : Int32)]) 1 am_q184 rfl ?_
      exact ev_r (v := some (.int (-1 : Int32))) am_q184 rfl rfl rfl rfl H
    · replace H := H.2 hq
      refine ev_p (pc' := 40) (loc' := [.ref a0, .int i1, .int x5]) (st' := [.ref a0, .int (4 : Int32), .ref a0]) 3 am_q184 rfl ?_
      obtain ⟨g18, b19, e20, H⟩ := H
      refine ev_s (pc' := 43) (loc' := [.ref a0, .int i1, .int x5]) (st' := [.ref b19, .int (4 : Int32), .ref a0]) (h1 := h12) am_q184 rfl rfl rfl (am_gf2 g18 e20) ?_
      refine ev_p (pc' := 44) (loc' := [.ref a0, .int i1, .int x5]) (st' := [.int x5, .ref b19, .int (4 : Int32), .ref a0]) 1 am_q184 rfl ?_
      obtain ⟨g21, g22, H⟩ := H
      refine ev_s (pc' := 45) (loc' := [.ref a0, .int i1, .int x5]) (st' := [.int (am_gi h12 b19 (Int32.toNatClampNeg x5)), .int (4 : Int32), .ref a0]) (h1 := h12) am_q184 rfl rfl rfl (am_xx g21 g22) ?_
      refine ev_p (pc' := 46) (loc' := [.ref a0, .int i1, .int x5]) (st' := [.ref a0, .int (am_gi h12 b19 (Int32.toNatClampNeg x5)), .int (4 : Int32), .ref a0]) 1 am_q184 rfl ?_
      obtain ⟨g23, b24, e25, H⟩ := H
      refine ev_s (pc' := 49) (loc' := [.ref a0, .int i1, .int x5]) (st' := [.ref b24, .int (am_gi h12 b19 (Int32.toNatClampNeg x5)), .int (4 : Int32), .ref a0]) (h1 := h12) am_q184 rfl rfl rfl (am_gf2 g23 e25) ?_
      refine ev_p (pc' := 50) (loc' := [.ref a0, .int i1, .int x5]) (st' := [.int x5, .ref b24, .int (am_gi h12 b19 (Int32.toNatClampNeg x5)), .int (4 : Int32), .ref a0]) 1 am_q184 rfl ?_
      obtain ⟨g26, g27, H⟩ := H
      refine ev_s (pc' := 51) (loc' := [.ref a0, .int i1, .int x5]) (st' := [.int (am_gi h12 b24 (Int32.toNatClampNeg x5)), .int (am_gi h12 b19 (Int32.toNatClampNeg x5)), .int (4 : Int32), .ref a0]) (h1 := h12) am_q184 rfl rfl rfl (am_xx g26 g27) ?_
      refine ev_p (pc' := 52) (loc' := [.ref a0, .int i1, .int x5]) (st' := [.int i1, .int (am_gi h12 b24 (Int32.toNatClampNeg x5)), .int (am_gi h12 b19 (Int32.toNatClampNeg x5)), .int (4 : Int32), .ref a0]) 1 am_q184 rfl ?_
      refine ev_jc (t := 64) am_q184 rfl rfl (fun hq => ?_) (fun hq => ?_)
      · replace H := H.1 hq
        refine ev_p (pc' := 65) (loc' := [.ref a0, .int i1, .int x5]) (st' := [.ref a0, .int (am_gi h12 b19 (Int32.toNatClampNeg x5)), .int (4 : Int32), .ref a0]) 1 am_q184 rfl ?_
        obtain ⟨g28, b29, e30, H⟩ := H
        refine ev_s (pc' := 68) (loc' := [.ref a0, .int i1, .int x5]) (st' := [.ref b29, .int (am_gi h12 b19 (Int32.toNatClampNeg x5)), .int (4 : Int32), .ref a0]) (h1 := h12) am_q184 rfl rfl rfl (am_gf2 g28 e30) ?_
        refine ev_p (pc' := 69) (loc' := [.ref a0, .int i1, .int x5]) (st' := [.int x5, .ref b29, .int (am_gi h12 b19 (Int32.toNatClampNeg x5)), .int (4 : Int32), .ref a0]) 1 am_q184 rfl ?_
        obtain ⟨g31, g32, H⟩ := H
        refine ev_s (pc' := 70) (loc' := [.ref a0, .int i1, .int x5]) (st' := [.int (am_gi h12 b29 (Int32.toNatClampNeg x5)), .int (am_gi h12 b19 (Int32.toNatClampNeg x5)), .int (4 : Int32), .ref a0]) (h1 := h12) am_q184 rfl rfl rfl (am_xx g31 g32) ?_
        refine ev_p (pc' := 72) (loc' := [.null, .null, .null]) (st' := [.int (-1 : Int32), .int (-1 : Int32), .int (am_gi h12 b29 (Int32.toNatClampNeg x5)), .int (am_gi h12 b19 (Int32.toNatClampNeg x5)), .int (4 : Int32), .ref a0]) 2 am_q184 rfl ?_
        obtain ⟨g35, H⟩ := H
        refine ev_c (vs := [.ref a0, .int (4 : Int32), .int (am_gi h12 b19 (Int32.toNatClampNeg x5)), .int (am_gi h12 b29 (Int32.toNatClampNeg x5)), .int (-1 : Int32), .int (-1 : Int32)]) (rest := []) 175 am_q184 rfl rfl rfl rfl rfl rfl rfl rfl rfl rfl rfl rfl (Or.inr (congrArg some g35)) (Cl.mono H (Nat.le_refl _) (fun r34 h33 H => ?_))
        obtain ⟨x36, rfl, H⟩ := H
        refine ev_p (pc' := 79) (loc' := [.null, .null, .null]) (st' := [.int x36]) 1 am_q184 rfl ?_
        exact ev_r (v := some (.int x36)) am_q184 rfl rfl rfl rfl H
      · replace H := H.2 hq
        refine ev_p (pc' := 56) (loc' := [.ref a0, .int i1, .int x5]) (st' := [.ref a0, .int (am_gi h12 b19 (Int32.toNatClampNeg x5)), .int (4 : Int32), .ref a0]) 1 am_q184 rfl ?_
        obtain ⟨g37, b38, e39, H⟩ := H
        refine ev_s (pc' := 59) (loc' := [.ref a0, .int i1, .int x5]) (st' := [.ref b38, .int (am_gi h12 b19 (Int32.toNatClampNeg x5)), .int (4 : Int32), .ref a0]) (h1 := h12) am_q184 rfl rfl rfl (am_gf2 g37 e39) ?_
        refine ev_p (pc' := 60) (loc' := [.ref a0, .int i1, .int x5]) (st' := [.int x5, .ref b38, .int (am_gi h12 b19 (Int32.toNatClampNeg x5)), .int (4 : Int32), .ref a0]) 1 am_q184 rfl ?_
        obtain ⟨g40, g41, H⟩ := H
        refine ev_s (pc' := 61) (loc' := [.ref a0, .int i1, .int x5]) (st' := [.int (am_gi h12 b38 (Int32.toNatClampNeg x5)), .int (am_gi h12 b19 (Int32.toNatClampNeg x5)), .int (4 : Int32), .ref a0]) (h1 := h12) am_q184 rfl rfl rfl (am_xx g40 g41) ?_
        refine ev_p (pc' := 72) (loc' := [.null, .null, .null]) (st' := [.int (-1 : Int32), .int (-1 : Int32), .int (am_gi h12 b38 (Int32.toNatClampNeg x5)), .int (am_gi h12 b19 (Int32.toNatClampNeg x5)), .int (4 : Int32), .ref a0]) 3 am_q184 rfl ?_
        obtain ⟨g44, H⟩ := H
        refine ev_c (vs := [.ref a0, .int (4 : Int32), .int (am_gi h12 b19 (Int32.toNatClampNeg x5)), .int (am_gi h12 b38 (Int32.toNatClampNeg x5)), .int (-1 : Int32), .int (-1 : Int32)]) (rest := []) 175 am_q184 rfl rfl rfl rfl rfl rfl rfl rfl rfl rfl rfl rfl (Or.inr (congrArg some g44)) (Cl.mono H (Nat.le_refl _) (fun r43 h42 H => ?_))
        obtain ⟨x45, rfl, H⟩ := H
        refine ev_p (pc' := 79) (loc' := [.null, .null, .null]) (st' := [.int x45]) 1 am_q184 rfl ?_
        exact ev_r (v := some (.int x45)) am_q184 rfl rfl rfl rfl H
  · replace H := H.2 hq
    refine ev_p (pc' := 16) (loc' := [.ref a0, .int i1, .int x5]) (st' := [.int (-1 : Int32)]) 1 am_q184 rfl ?_
    exact ev_r (v := some (.int (-1 : Int32))) am_q184 rfl rfl rfl rfl H
/-! 185: X12_isJoint -/
theorem am_q185 : (am_mt 185).2.2.2.2.2 = am_m185.2.2.2.2.2 := rfl
set_option maxRecDepth 20000 in
set_option maxHeartbeats 2000000 in
theorem wp185 {d : Nat} (a0 : Nat) (i1 : Int32) {h : AH} {Q : Option Value → AH → Prop} (H : am_kd h a0 = 12 ∧ am_kd h a0 = 12 ∧ Cl d 174 [.ref a0, .int i1, .int (am_gi h a0 0)] h (fun r3 h2 => ∃ x5, r3 = some (.int x5) ∧ (x5 = (-1 : Int32) → Q (some (.int (0 : Int32))) h2) ∧ (¬ x5 = (-1 : Int32) → am_kd h2 a0 = 12 ∧ ∃ b7, am_gr h2 a0 15 = some b7 ∧ am_kd h2 b7 = 100 ∧ am_in x5 (am_ln h2 b7) ∧ ((¬ (am_gi h2 b7 (Int32.toNatClampNeg x5)) = (3 : Int32)) → Q (some (.int (0 : Int32))) h2) ∧ (¬ (¬ (am_gi h2 b7 (Int32.toNatClampNeg x5)) = (3 : Int32)) → Q (some (.int (1 : Int32))) h2)))) : Cl (d + 1) 185 [.ref a0, .int i1] h Q := by
  show Ev (d + 1) 185 0 [.ref a0, .int i1, .null] [] h Q
  refine ev_p (pc' := 3) (loc' := [.ref a0, .int i1, .null]) (st' := [.ref a0, .int i1, .ref a0]) 3 am_q185 rfl ?_
  obtain ⟨g1, H⟩ := H
  refine ev_s (pc' := 6) (loc' := [.ref a0, .int i1, .null]) (st' := [.int (am_gi h a0 0), .int i1, .ref a0]) (h1 := h) am_q185 rfl rfl rfl (if_pos (e := none) g1) ?_
  obtain ⟨g4, H⟩ := H
  refine ev_c (vs := [.ref a0, .int i1, .int (am_gi h a0 0)]) (rest := []) 174 am_q185 rfl rfl rfl rfl rfl rfl rfl rfl rfl rfl rfl rfl (Or.inr (congrArg some g4)) (Cl.mono H (Nat.le_refl _) (fun r3 h2 H => ?_))
  obtain ⟨x5, rfl, H⟩ := H
  refine ev_p (pc' := 12) (loc' := [.ref a0, .int i1, .int x5]) (st' := [.int (-1 : Int32), .int x5]) 3 am_q185 rfl ?_
  refine ev_jc (t := 29) am_q185 rfl rfl (fun hq => ?_) (fun hq => ?_)
  · replace H := H.1 hq
    refine ev_p (pc' := 30) (loc' := [.null, .null, .null]) (st' := [.int (0 : Int32)]) 1 am_q185 rfl ?_
    exact ev_r (v := some (.int (0 : Int32))) am_q185 rfl rfl rfl rfl H
  · replace H := H.2 hq
    refine ev_p (pc' := 16) (loc' := [.ref a0, .int i1, .int x5]) (st' := [.ref a0]) 1 am_q185 rfl ?_
    obtain ⟨g6, b7, e8, H⟩ := H
    refine ev_s (pc' := 19) (loc' := [.ref a0, .int i1, .int x5]) (st' := [.ref b7]) (h1 := h2) am_q185 rfl rfl rfl (am_gf2 g6 e8) ?_
    refine ev_p (pc' := 20) (loc' := [.ref a0, .int i1, .int x5]) (st' := [.int x5, .ref b7]) 1 am_q185 rfl ?_
    obtain ⟨g9, g10, H⟩ := H
    refine ev_s (pc' := 21) (loc' := [.ref a0, .int i1, .int x5]) (st' := [.int (am_gi h2 b7 (Int32.toNatClampNeg x5))]) (h1 := h2) am_q185 rfl rfl rfl (am_xx g9 g10) ?_
    refine ev_p (pc' := 22) (loc' := [.ref a0, .int i1, .int x5]) (st' := [.int (3 : Int32), .int (am_gi h2 b7 (Int32.toNatClampNeg x5))]) 1 am_q185 rfl ?_
    refine ev_jc (t := 29) am_q185 rfl rfl (fun hq => ?_) (fun hq => ?_)
    · replace H := H.1 hq
      refine ev_p (pc' := 30) (loc' := [.null, .null, .null]) (st' := [.int (0 : Int32)]) 1 am_q185 rfl ?_
      exact ev_r (v := some (.int (0 : Int32))) am_q185 rfl rfl rfl rfl H
    · replace H := H.2 hq
      refine ev_p (pc' := 30) (loc' := [.ref a0, .int i1, .int x5]) (st' := [.int (1 : Int32)]) 2 am_q185 rfl ?_
      exact ev_r (v := some (.int (1 : Int32))) am_q185 rfl rfl rfl rfl H
/-! 186: X12_leave -/
theorem am_q186 : (am_mt 186).2.2.2.2.2 = am_m186.2.2.2.2.2 := rfl
set_option maxRecDepth 20000 in
set_option maxHeartbeats 2000000 in
theorem wp186 {d : Nat} (a0 : Nat) (i1 : Int32) {h : AH} {Q : Option Value → AH → Prop} (H : am_kd h a0 = 12 ∧ Cl d 169 [.ref a0, .int i1] h (fun r2 h1 => ∃ x4, r2 = some (.int x4) ∧ ((¬ x4 = (0 : Int32)) → am_kd h1 a0 = 12 ∧ Cl d 170 [.ref a0, .int i1] h1 (fun r6 h5 => ∃ x8, r6 = some (.int x8) ∧ ((¬ x8 = (0 : Int32)) → am_kd h5 a0 = 12 ∧ Cl d 185 [.ref a0, .int i1] h5 (fun r10 h9 => ∃ x12, r10 = some (.int x12) ∧ (x12 = (0 : Int32) → am_kd h9 a0 = 12 ∧ Cl d 184 [.ref a0, .int i1] h9 (fun r14 h13 => ∃ x16, r14 = some (.int x16) ∧ Ev (d + 1) 186 50 [.ref a0, .int i1, .int x16, .int (0 : Int32)] [] h13 Q)) ∧ (¬ x12 = (0 : Int32) → am_kd h9 a0 = 12 ∧ ((¬ (am_gi h9 a0 14) = (60 : Int32)) → am_kd h9 a0 = 12 ∧ Cl d 184 [.ref a0, .int i1] h9 (fun r19 h18 => ∃ x21, r19 = some (.int x21) ∧ Ev (d + 1) 186 50 [.ref a0, .int i1, .int x21, .int (0 : Int32)] [] h18 Q)) ∧ (¬ (¬ (am_gi h9 a0 14) = (60 : Int32)) → Q (some (.int (-4 : Int32))) h9)))) ∧ (¬ (¬ x8 = (0 : Int32)) → Q (some (.int (-3 : Int32))) h5))) ∧ (¬ (¬ x4 = (0 : Int32)) → Q (some (.int (-2 : Int32))) h1))) : Cl (d + 1) 186 [.ref a0, .int i1] h Q := by
  show Ev (d + 1) 186 0 [.ref a0, .int i1, .null, .null] [] h Q
  refine ev_p (pc' := 2) (loc' := [.ref a0, .int i1, .null, .null]) (st' := [.int i1, .ref a0]) 2 am_q186 rfl ?_
  obtain ⟨g3, H⟩ := H
  refine ev_c (vs := [.ref a0, .int i1]) (rest := []) 169 am_q186 rfl rfl rfl rfl rfl rfl rfl rfl rfl rfl rfl rfl (Or.inr (congrArg some g3)) (Cl.mono H (Nat.le_refl _) (fun r2 h1 H => ?_))
  obtain ⟨x4, rfl, H⟩ := H
  refine ev_jz (t := 11) am_q186 rfl rfl (fun hq => ?_) (fun hq => ?_)
  · replace H := H.1 hq
    refine ev_p (pc' := 13) (loc' := [.ref a0, .int i1, .null, .null]) (st' := [.int i1, .ref a0]) 2 am_q186 rfl ?_
    obtain ⟨g7, H⟩ := H
    refine ev_c (vs := [.ref a0, .int i1]) (rest := []) 170 am_q186 rfl rfl rfl rfl rfl rfl rfl rfl rfl rfl rfl rfl (Or.inr (congrArg some g7)) (Cl.mono H (Nat.le_refl _) (fun r6 h5 H => ?_))
    obtain ⟨x8, rfl, H⟩ := H
    refine ev_jz (t := 22) am_q186 rfl rfl (fun hq => ?_) (fun hq => ?_)
    · replace H := H.1 hq
      refine ev_p (pc' := 24) (loc' := [.ref a0, .int i1, .null, .null]) (st' := [.int i1, .ref a0]) 2 am_q186 rfl ?_
      obtain ⟨g11, H⟩ := H
      refine ev_c (vs := [.ref a0, .int i1]) (rest := []) 185 am_q186 rfl rfl rfl rfl rfl rfl rfl rfl rfl rfl rfl rfl (Or.inr (congrArg some g11)) (Cl.mono H (Nat.le_refl _) (fun r10 h9 H => ?_))
      obtain ⟨x12, rfl, H⟩ := H
      refine ev_jz (t := 42) am_q186 rfl rfl (fun hq => ?_) (fun hq => ?_)
      · replace H := H.1 hq
        refine ev_p (pc' := 44) (loc' := [.ref a0, .int i1, .null, .null]) (st' := [.int i1, .ref a0]) 2 am_q186 rfl ?_
        obtain ⟨g15, H⟩ := H
        refine ev_c (vs := [.ref a0, .int i1]) (rest := []) 184 am_q186 rfl rfl rfl rfl rfl rfl rfl rfl rfl rfl rfl rfl (Or.inr (congrArg some g15)) (Cl.mono H (Nat.le_refl _) (fun r14 h13 H => ?_))
        obtain ⟨x16, rfl, H⟩ := H
        refine ev_p (pc' := 50) (loc' := [.ref a0, .int i1, .int x16, .int (0 : Int32)]) (st' := []) 3 am_q186 rfl ?_
        exact ev_m (loc' := [.ref a0, .int i1, .int x16, .int (0 : Int32)]) am_q186 rfl rfl H
      · replace H := H.2 hq
        refine ev_p (pc' := 31) (loc' := [.ref a0, .int i1, .null, .null]) (st' := [.ref a0]) 1 am_q186 rfl ?_
        obtain ⟨g17, H⟩ := H
        refine ev_s (pc' := 34) (loc' := [.ref a0, .int i1, .null, .null]) (st' := [.int (am_gi h9 a0 14)]) (h1 := h9) am_q186 rfl rfl rfl (if_pos (e := none) g17) ?_
        refine ev_p (pc' := 36) (loc' := [.ref a0, .int i1, .null, .null]) (st' := [.int (60 : Int32), .int (am_gi h9 a0 14)]) 1 am_q186 rfl ?_
        refine ev_jc (t := 42) am_q186 rfl rfl (fun hq => ?_) (fun hq => ?_)
        · replace H := H.1 hq
          refine ev_p (pc' := 44) (loc' := [.ref a0, .int i1, .null, .null]) (st' := [.int i1, .ref a0]) 2 am_q186 rfl ?_
          obtain ⟨g20, H⟩ := H
          refine ev_c (vs := [.ref a0, .int i1]) (rest := []) 184 am_q186 rfl rfl rfl rfl rfl rfl rfl rfl rfl rfl rfl rfl (Or.inr (congrArg some g20)) (Cl.mono H (Nat.le_refl _) (fun r19 h18 H => ?_))
          obtain ⟨x21, rfl, H⟩ := H
          refine ev_p (pc' := 50) (loc' := [.ref a0, .int i1, .int x21, .int (0 : Int32)]) (st' := []) 3 am_q186 rfl ?_
          exact ev_m (loc' := [.ref a0, .int i1, .int x21, .int (0 : Int32)]) am_q186 rfl rfl H
        · replace H := H.2 hq
          refine ev_p (pc' := 41) (loc' := [.ref a0, .int i1, .null, .null]) (st' := [.int (-4 : Int32)]) 1 am_q186 rfl ?_
          exact ev_r (v := some (.int (-4 : Int32))) am_q186 rfl rfl rfl rfl H
    · replace H := H.2 hq
      refine ev_p (pc' := 21) (loc' := [.ref a0, .int i1, .null, .null]) (st' := [.int (-3 : Int32)]) 1 am_q186 rfl ?_
      exact ev_r (v := some (.int (-3 : Int32))) am_q186 rfl rfl rfl rfl H
  · replace H := H.2 hq
    refine ev_p (pc' := 10) (loc' := [.ref a0, .int i1, .null, .null]) (st' := [.int (-2 : Int32)]) 1 am_q186 rfl ?_
    exact ev_r (v := some (.int (-2 : Int32))) am_q186 rfl rfl rfl rfl H
set_option maxRecDepth 20000 in
set_option maxHeartbeats 2000000 in
theorem wp186_50 {d : Nat} (a0 : Nat) (i1 : Int32) (i2 : Int32) (i3 : Int32) {h : AH} {Q : Option Value → AH → Prop} (H : am_kd h a0 = 12 ∧ ((am_gi h a0 14) ≤ i3 → am_kd h a0 = 12 ∧ ∃ b3, am_gr h a0 10 = some b3 ∧ am_kd h a0 = 12 ∧ (am_kd h b3 = 100 ∧ 6 ≤ b3) ∧ am_in i1 (am_ln h b3) ∧ ∀ h8, h8 = am_si h b3 (Int32.toNatClampNeg i1) (am_gi h a0 0) → am_kd h8 a0 = 12 ∧ ∃ b10, am_gr h8 a0 11 = some b10 ∧ (am_kd h8 b10 = 100 ∧ 6 ≤ b10) ∧ am_in i1 (am_ln h8 b10) ∧ ∀ h14, h14 = am_si h8 b10 (Int32.toNatClampNeg i1) (-1 : Int32) → am_kd h14 a0 = 12 ∧ ∃ b16, am_gr h14 a0 12 = some b16 ∧ (am_kd h14 b16 = 100 ∧ 6 ≤ b16) ∧ am_in i1 (am_ln h14 b16) ∧ ∀ h20, h20 = am_si h14 b16 (Int32.toNatClampNeg i1) (0 : Int32) → Q (some (.int i2)) h20) ∧ (¬ (am_gi h a0 14) ≤ i3 → am_kd h a0 = 12 ∧ ∃ b22, am_gr h a0 15 = some b22 ∧ am_kd h b22 = 100 ∧ am_in i3 (am_ln h b22) ∧ ((¬ (am_gi h b22 (Int32.toNatClampNeg i3)) = (2 : Int32)) → Ev (d + 1) 186 50 [.ref a0, .int i1, .int i2, .int (i3 + (1 : Int32))] [] h Q) ∧ (¬ (¬ (am_gi h b22 (Int32.toNatClampNeg i3)) = (2 : Int32)) → am_kd h a0 = 12 ∧ ∃ b27, am_gr h a0 17 = some b27 ∧ am_kd h b27 = 100 ∧ am_in i3 (am_ln h b27) ∧ ((¬ (am_gi h b27 (Int32.toNatClampNeg i3)) = i1) → Ev (d + 1) 186 50 [.ref a0, .int i1, .int i2, .int (i3 + (1 : Int32))] [] h Q) ∧ (¬ (¬ (am_gi h b27 (Int32.toNatClampNeg i3)) = i1) → am_kd h a0 = 12 ∧ am_kd h a0 = 12 ∧ Cl d 171 [.ref a0, .int i3, .int (am_gi h a0 0)] h (fun r33 h32 => ∃ x35, r33 = some (.int x35) ∧ (x35 = (0 : Int32) → Ev (d + 1) 186 50 [.ref a0, .int i1, .int i2, .int (i3 + (1 : Int32))] [] h32 Q) ∧ (¬ x35 = (0 : Int32) → am_kd h32 a0 = 12 ∧ ∃ b37, am_gr h32 a0 20 = some b37 ∧ am_kd h32 a0 = 12 ∧ (am_kd h32 b37 = 100 ∧ 6 ≤ b37) ∧ am_in i3 (am_ln h32 b37) ∧ ∀ h42, h42 = am_si h32 b37 (Int32.toNatClampNeg i3) (am_gi h32 a0 0) → Ev (d + 1) 186 50 [.ref a0, .int i1, .int i2, .int (i3 + (1 : Int32))] [] h42 Q)))))) : Ev (d + 1) 186 50 [.ref a0, .int i1, .int i2, .int i3] [] h Q := by
  refine ev_p (pc' := 52) (loc' := [.ref a0, .int i1, .int i2, .int i3]) (st' := [.ref a0, .int i3]) 2 am_q186 rfl ?_
  obtain ⟨g1, H⟩ := H
  refine ev_s (pc' := 55) (loc' := [.ref a0, .int i1, .int i2, .int i3]) (st' := [.int (am_gi h a0 14), .int i3]) (h1 := h) am_q186 rfl rfl rfl (if_pos (e := none) g1) ?_
  refine ev_jc (t := 106) am_q186 rfl rfl (fun hq => ?_) (fun hq => ?_)
  · replace H := H.1 hq
    refine ev_p (pc' := 107) (loc' := [.ref a0, .int i1, .int i2, .int i3]) (st' := [.ref a0]) 1 am_q186 rfl ?_
    obtain ⟨g2, b3, e4, H⟩ := H
    refine ev_s (pc' := 110) (loc' := [.ref a0, .int i1, .int i2, .int i3]) (st' := [.ref b3]) (h1 := h) am_q186 rfl rfl rfl (am_gf2 g2 e4) ?_
    refine ev_p (pc' := 112) (loc' := [.ref a0, .int i1, .int i2, .int i3]) (st' := [.ref a0, .int i1, .ref b3]) 2 am_q186 rfl ?_
    obtain ⟨g5, H⟩ := H
    refine ev_s (pc' := 115) (loc' := [.ref a0, .int i1, .int i2, .int i3]) (st' := [.int (am_gi h a0 0), .int i1, .ref b3]) (h1 := h) am_q186 rfl rfl rfl (if_pos (e := none) g5) ?_
    obtain ⟨g6, g7, H⟩ := H
    refine ev_s (pc' := 116) (loc' := [.ref a0, .int i1, .int i2, .int i3]) (st' := []) (h1 := am_si h b3 (Int32.toNatClampNeg i1) (am_gi h a0 0)) am_q186 rfl rfl rfl (am_xx g6 g7) ?_
    replace H := H _ rfl
    generalize am_si h b3 (Int32.toNatClampNeg i1) (am_gi h a0 0) = h8 at H ⊢
    refine ev_p (pc' := 117) (loc' := [.ref a0, .int i1, .int i2, .int i3]) (st' := [.ref a0]) 1 am_q186 rfl ?_
    obtain ⟨g9, b10, e11, H⟩ := H
    refine ev_s (pc' := 120) (loc' := [.ref a0, .int i1, .int i2, .int i3]) (st' := [.ref b10]) (h1 := h8) am_q186 rfl rfl rfl (am_gf2 g9 e11) ?_
    refine ev_p (pc' := 122) (loc' := [.ref a0, .int i1, .int i2, .int i3]) (st' := [.int (-1 : Int32), .int i1, .ref b10]) 2 am_q186 rfl ?_
    obtain ⟨g12, g13, H⟩ := H
    refine ev_s (pc' := 123) (loc' := [.ref a0, .int i1, .int i2, .int i3]) (st' := []) (h1 := am_si h8 b10 (Int32.toNatClampNeg i1) (-1 : Int32)) am_q186 rfl rfl rfl (am_xx g12 g13) ?_
    replace H := H _ rfl
    generalize am_si h8 b10 (Int32.toNatClampNeg i1) (-1 : Int32) = h14 at H ⊢
    refine ev_p (pc' := 124) (loc' := [.ref a0, .int i1, .int i2, .int i3]) (st' := [.ref a0]) 1 am_q186 rfl ?_
    obtain ⟨g15, b16, e17, H⟩ := H
    refine ev_s (pc' := 127) (loc' := [.ref a0, .int i1, .int i2, .int i3]) (st' := [.ref b16]) (h1 := h14) am_q186 rfl rfl rfl (am_gf2 g15 e17) ?_
    refine ev_p (pc' := 129) (loc' := [.ref a0, .int i1, .int i2, .int i3]) (st' := [.int (0 : Int32), .int i1, .ref b16]) 2 am_q186 rfl ?_
    obtain ⟨g18, g19, H⟩ := H
    refine ev_s (pc' := 130) (loc' := [.ref a0, .int i1, .int i2, .int i3]) (st' := []) (h1 := am_si h14 b16 (Int32.toNatClampNeg i1) (0 : Int32)) am_q186 rfl rfl rfl (am_xx g18 g19) ?_
    replace H := H _ rfl
    generalize am_si h14 b16 (Int32.toNatClampNeg i1) (0 : Int32) = h20 at H ⊢
    refine ev_p (pc' := 131) (loc' := [.ref a0, .int i1, .int i2, .int i3]) (st' := [.int i2]) 1 am_q186 rfl ?_
    exact ev_r (v := some (.int i2)) am_q186 rfl rfl rfl rfl H
  · replace H := H.2 hq
    refine ev_p (pc' := 59) (loc' := [.ref a0, .int i1, .int i2, .int i3]) (st' := [.ref a0]) 1 am_q186 rfl ?_
    obtain ⟨g21, b22, e23, H⟩ := H
    refine ev_s (pc' := 62) (loc' := [.ref a0, .int i1, .int i2, .int i3]) (st' := [.ref b22]) (h1 := h) am_q186 rfl rfl rfl (am_gf2 g21 e23) ?_
    refine ev_p (pc' := 63) (loc' := [.ref a0, .int i1, .int i2, .int i3]) (st' := [.int i3, .ref b22]) 1 am_q186 rfl ?_
    obtain ⟨g24, g25, H⟩ := H
    refine ev_s (pc' := 64) (loc' := [.ref a0, .int i1, .int i2, .int i3]) (st' := [.int (am_gi h b22 (Int32.toNatClampNeg i3))]) (h1 := h) am_q186 rfl rfl rfl (am_xx g24 g25) ?_
    refine ev_p (pc' := 65) (loc' := [.ref a0, .int i1, .int i2, .int i3]) (st' := [.int (2 : Int32), .int (am_gi h b22 (Int32.toNatClampNeg i3))]) 1 am_q186 rfl ?_
    refine ev_jc (t := 100) am_q186 rfl rfl (fun hq => ?_) (fun hq => ?_)
    · replace H := H.1 hq
      refine ev_p (pc' := 50) (loc' := [.ref a0, .int i1, .int i2, .int (i3 + (1 : Int32))]) (st' := []) 2 am_q186 rfl ?_
      exact ev_m (loc' := [.ref a0, .int i1, .int i2, .int (i3 + (1 : Int32))]) am_q186 rfl rfl H
    · replace H := H.2 hq
      refine ev_p (pc' := 69) (loc' := [.ref a0, .int i1, .int i2, .int i3]) (st' := [.ref a0]) 1 am_q186 rfl ?_
      obtain ⟨g26, b27, e28, H⟩ := H
      refine ev_s (pc' := 72) (loc' := [.ref a0, .int i1, .int i2, .int i3]) (st' := [.ref b27]) (h1 := h) am_q186 rfl rfl rfl (am_gf2 g26 e28) ?_
      refine ev_p (pc' := 73) (loc' := [.ref a0, .int i1, .int i2, .int i3]) (st' := [.int i3, .ref b27]) 1 am_q186 rfl ?_
      obtain ⟨g29, g30, H⟩ := H
      refine ev_s (pc' := 74) (loc' := [.ref a0, .int i1, .int i2, .int i3]) (st' := [.int (am_gi h b27 (Int32.toNatClampNeg i3))]) (h1 := h) am_q186 rfl rfl rfl (am_xx g29 g30) ?_
      refine ev_p (pc' := 75) (loc' := [.ref a0, .int i1, .int i2, .int i3]) (st' := [.int i1, .int (am_gi h b27 (Int32.toNatClampNeg i3))]) 1 am_q186 rfl ?_
      refine ev_jc (t := 100) am_q186 rfl rfl (fun hq => ?_) (fun hq => ?_)
      · replace H := H.1 hq
        refine ev_p (pc' := 50) (loc' := [.ref a0, .int i1, .int i2, .int (i3 + (1 : Int32))]) (st' := []) 2 am_q186 rfl ?_
        exact ev_m (loc' := [.ref a0, .int i1, .int i2, .int (i3 + (1 : Int32))]) am_q186 rfl rfl H
      · replace H := H.2 hq
        refine ev_p (pc' := 81) (loc' := [.ref a0, .int i1, .int i2, .int i3]) (st' := [.ref a0, .int i3, .ref a0]) 3 am_q186 rfl ?_
        obtain ⟨g31, H⟩ := H
        refine ev_s (pc' := 84) (loc' := [.ref a0, .int i1, .int i2, .int i3]) (st' := [.int (am_gi h a0 0), .int i3, .ref a0]) (h1 := h) am_q186 rfl rfl rfl (if_pos (e := none) g31) ?_
        obtain ⟨g34, H⟩ := H
        refine ev_c (vs := [.ref a0, .int i3, .int (am_gi h a0 0)]) (rest := []) 171 am_q186 rfl rfl rfl rfl rfl rfl rfl rfl rfl rfl rfl rfl (Or.inr (congrArg some g34)) (Cl.mono H (Nat.le_refl _) (fun r33 h32 H => ?_))
        obtain ⟨x35, rfl, H⟩ := H
        refine ev_jz (t := 100) am_q186 rfl rfl (fun hq => ?_) (fun hq => ?_)
        · replace H := H.1 hq
          refine ev_p (pc' := 50) (loc' := [.ref a0, .int i1, .int i2, .int (i3 + (1 : Int32))]) (st' := []) 2 am_q186 rfl ?_
          exact ev_m (loc' := [.ref a0, .int i1, .int i2, .int (i3 + (1 : Int32))]) am_q186 rfl rfl H
        · replace H := H.2 hq
          refine ev_p (pc' := 91) (loc' := [.ref a0, .int i1, .int i2, .int i3]) (st' := [.ref a0]) 1 am_q186 rfl ?_
          obtain ⟨g36, b37, e38, H⟩ := H
          refine ev_s (pc' := 94) (loc' := [.ref a0, .int i1, .int i2, .int i3]) (st' := [.ref b37]) (h1 := h32) am_q186 rfl rfl rfl (am_gf2 g36 e38) ?_
          refine ev_p (pc' := 96) (loc' := [.ref a0, .int i1, .int i2, .int i3]) (st' := [.ref a0, .int i3, .ref b37]) 2 am_q186 rfl ?_
          obtain ⟨g39, H⟩ := H
          refine ev_s (pc' := 99) (loc' := [.ref a0, .int i1, .int i2, .int i3]) (st' := [.int (am_gi h32 a0 0), .int i3, .ref b37]) (h1 := h32) am_q186 rfl rfl rfl (if_pos (e := none) g39) ?_
          obtain ⟨g40, g41, H⟩ := H
          refine ev_s (pc' := 100) (loc' := [.ref a0, .int i1, .int i2, .int i3]) (st' := []) (h1 := am_si h32 b37 (Int32.toNatClampNeg i3) (am_gi h32 a0 0)) am_q186 rfl rfl rfl (am_xx g40 g41) ?_
          replace H := H _ rfl
          generalize am_si h32 b37 (Int32.toNatClampNeg i3) (am_gi h32 a0 0) = h42 at H ⊢
          refine ev_p (pc' := 50) (loc' := [.ref a0, .int i1, .int i2, .int (i3 + (1 : Int32))]) (st' := []) 2 am_q186 rfl ?_
          exact ev_m (loc' := [.ref a0, .int i1, .int i2, .int (i3 + (1 : Int32))]) am_q186 rfl rfl H
/-! 187: X12_rightTold -/
theorem am_q187 : (am_mt 187).2.2.2.2.2 = am_m187.2.2.2.2.2 := rfl
set_option maxRecDepth 20000 in
set_option maxHeartbeats 2000000 in
theorem wp187 {d : Nat} (a0 : Nat) (i1 : Int32) (i2 : Int32) {h : AH} {Q : Option Value → AH → Prop} (H : am_kd h a0 = 12 ∧ Cl d 181 [.ref a0, .int i1] h (fun r2 h1 => ∃ x4, r2 = some (.int x4) ∧ (x4 = (0 : Int32) → Q (some (.int (-2 : Int32))) h1) ∧ (¬ x4 = (0 : Int32) → Cl d 167 [.int i2, .int (0 : Int32), .int (6 : Int32)] h1 (fun r6 h5 => ∃ x7, r6 = some (.int x7) ∧ ((¬ x7 = (0 : Int32)) → (i2 = (0 : Int32) → am_kd h5 a0 = 12 ∧ ∃ b9, am_gr h5 a0 15 = some b9 ∧ am_kd h5 b9 = 100 ∧ am_in i1 (am_ln h5 b9) ∧ Q (some (.int (am_gi h5 b9 (Int32.toNatClampNeg i1)))) h5) ∧ (i2 = (1 : Int32) → am_kd h5 a0 = 12 ∧ ∃ b15, am_gr h5 a0 16 = some b15 ∧ am_kd h5 b15 = 100 ∧ am_in i1 (am_ln h5 b15) ∧ Q (some (.int (am_gi h5 b15 (Int32.toNatClampNeg i1)))) h5) ∧ (i2 = (2 : Int32) → am_kd h5 a0 = 12 ∧ ∃ b21, am_gr h5 a0 17 = some b21 ∧ am_kd h5 b21 = 100 ∧ am_in i1 (am_ln h5 b21) ∧ Q (some (.int (am_gi h5 b21 (Int32.toNatClampNeg i1)))) h5) ∧ (i2 = (3 : Int32) → am_kd h5 a0 = 12 ∧ ∃ b27, am_gr h5 a0 18 = some b27 ∧ am_kd h5 b27 = 100 ∧ am_in i1 (am_ln h5 b27) ∧ Q (some (.int (am_gi h5 b27 (Int32.toNatClampNeg i1)))) h5) ∧ (i2 = (4 : Int32) → am_kd h5 a0 = 12 ∧ ∃ b33, am_gr h5 a0 19 = some b33 ∧ am_kd h5 b33 = 100 ∧ am_in i1 (am_ln h5 b33) ∧ Q (some (.int (am_gi h5 b33 (Int32.toNatClampNeg i1)))) h5) ∧ (i2 = (5 : Int32) → am_kd h5 a0 = 12 ∧ ∃ b39, am_gr h5 a0 20 = some b39 ∧ am_kd h5 b39 = 100 ∧ am_in i1 (am_ln h5 b39) ∧ Q (some (.int (am_gi h5 b39 (Int32.toNatClampNeg i1)))) h5) ∧ (¬ i2 = (0 : Int32) ∧ ¬ i2 = (1 : Int32) ∧ ¬ i2 = (2 : Int32) ∧ ¬ i2 = (3 : Int32) ∧ ¬ i2 = (4 : Int32) ∧ ¬ i2 = (5 : Int32) → am_kd h5 a0 = 12 ∧ am_kd h5 a0 = 12 ∧ Cl d 171 [.ref a0, .int i1, .int (am_gi h5 a0 0)] h5 (fun r46 h45 => ∃ x48, r46 = some (.int x48) ∧ (x48 = (0 : Int32) → Q (some (.int (0 : Int32))) h45) ∧ (¬ x48 = (0 : Int32) → Q (some (.int (1 : Int32))) h45)))) ∧ (¬ (¬ x7 = (0 : Int32)) → Q (some (.int (-2 : Int32))) h5))))) : Cl (d + 1) 187 [.ref a0, .int i1, .int i2] h Q := by
  show Ev (d + 1) 187 0 [.ref a0, .int i1, .int i2] [] h Q
  refine ev_p (pc' := 2) (loc' := [.ref a0, .int i1, .int i2]) (st' := [.int i1, .ref a0]) 2 am_q187 rfl ?_
  obtain ⟨g3, H⟩ := H
  refine ev_c (vs := [.ref a0, .int i1]) (rest := []) 181 am_q187 rfl rfl rfl rfl rfl rfl rfl rfl rfl rfl rfl rfl (Or.inr (congrArg some g3)) (Cl.mono H (Nat.le_refl _) (fun r2 h1 H => ?_))
  obtain ⟨x4, rfl, H⟩ := H
  refine ev_jz (t := 18) am_q187 rfl rfl (fun hq => ?_) (fun hq => ?_)
  · replace H := H.1 hq
    refine ev_p (pc' := 20) (loc' := [.null, .null, .null]) (st' := [.int (-2 : Int32)]) 1 am_q187 rfl ?_
    exact ev_r (v := some (.int (-2 : Int32))) am_q187 rfl rfl rfl rfl H
  · replace H := H.2 hq
    refine ev_p (pc' := 12) (loc' := [.ref a0, .int i1, .int i2]) (st' := [.int (6 : Int32), .int (0 : Int32), .int i2]) 3 am_q187 rfl ?_
    refine ev_c (vs := [.int i2, .int (0 : Int32), .int (6 : Int32)]) (rest := []) 167 am_q187 rfl rfl rfl rfl rfl rfl rfl rfl rfl rfl rfl rfl (Or.inl rfl) (Cl.mono H (Nat.le_refl _) (fun r6 h5 H => ?_))
    obtain ⟨x7, rfl, H⟩ := H
    refine ev_jz (t := 21) am_q187 rfl rfl (fun hq => ?_) (fun hq => ?_)
    · replace H := H.1 hq
      refine ev_p (pc' := 22) (loc' := [.ref a0, .int i1, .int i2]) (st' := [.int i2]) 1 am_q187 rfl ?_
      by_cases k13 : i2 = (0 : Int32)
      · replace H := H.1 k13
        refine ev_s (pc' := 60) (loc' := [.ref a0, .int i1, .int i2]) (st' := []) (h1 := h5) am_q187 rfl rfl rfl (by rw [k13]; rfl) ?_
        refine ev_p (pc' := 61) (loc' := [.ref a0, .int i1, .int i2]) (st' := [.ref a0]) 1 am_q187 rfl ?_
        obtain ⟨g8, b9, e10, H⟩ := H
        refine ev_s (pc' := 64) (loc' := [.ref a0, .int i1, .int i2]) (st' := [.ref b9]) (h1 := h5) am_q187 rfl rfl rfl (am_gf2 g8 e10) ?_
        refine ev_p (pc' := 65) (loc' := [.ref a0, .int i1, .int i2]) (st' := [.int i1, .ref b9]) 1 am_q187 rfl ?_
        obtain ⟨g11, g12, H⟩ := H
        refine ev_s (pc' := 66) (loc' := [.ref a0, .int i1, .int i2]) (st' := [.int (am_gi h5 b9 (Int32.toNatClampNeg i1))]) (h1 := h5) am_q187 rfl rfl rfl (am_xx g11 g12) ?_
        exact ev_r (v := some (.int (am_gi h5 b9 (Int32.toNatClampNeg i1)))) am_q187 rfl rfl rfl rfl H
      replace H := H.2
      by_cases k19 : i2 = (1 : Int32)
      · replace H := H.1 k19
        refine ev_s (pc' := 67) (loc' := [.ref a0, .int i1, .int i2]) (st' := []) (h1 := h5) am_q187 rfl rfl rfl (by rw [k19]; rfl) ?_
        refine ev_p (pc' := 68) (loc' := [.ref a0, .int i1, .int i2]) (st' := [.ref a0]) 1 am_q187 rfl ?_
        obtain ⟨g14, b15, e16, H⟩ := H
        refine ev_s (pc' := 71) (loc' := [.ref a0, .int i1, .int i2]) (st' := [.ref b15]) (h1 := h5) am_q187 rfl rfl rfl (am_gf2 g14 e16) ?_
        refine ev_p (pc' := 72) (loc' := [.ref a0, .int i1, .int i2]) (st' := [.int i1, .ref b15]) 1 am_q187 rfl ?_
        obtain ⟨g17, g18, H⟩ := H
        refine ev_s (pc' := 73) (loc' := [.ref a0, .int i1, .int i2]) (st' := [.int (am_gi h5 b15 (Int32.toNatClampNeg i1))]) (h1 := h5) am_q187 rfl rfl rfl (am_xx g17 g18) ?_
        exact ev_r (v := some (.int (am_gi h5 b15 (Int32.toNatClampNeg i1)))) am_q187 rfl rfl rfl rfl H
      replace H := H.2
      by_cases k25 : i2 = (2 : Int32)
      · replace H := H.1 k25
        refine ev_s (pc' := 74) (loc' := [.ref a0, .int i1, .int i2]) (st' := []) (h1 := h5) am_q187 rfl rfl rfl (by rw [k25]; rfl) ?_
        refine ev_p (pc' := 75) (loc' := [.ref a0, .int i1, .int i2]) (st' := [.ref a0]) 1 am_q187 rfl ?_
        obtain ⟨g20, b21, e22, H⟩ := H
        refine ev_s (pc' := 78) (loc' := [.ref a0, .int i1, .int i2]) (st' := [.ref b21]) (h1 := h5) am_q187 rfl rfl rfl (am_gf2 g20 e22) ?_
        refine ev_p (pc' := 79) (loc' := [.ref a0, .int i1, .int i2]) (st' := [.int i1, .ref b21]) 1 am_q187 rfl ?_
        obtain ⟨g23, g24, H⟩ := H
        refine ev_s (pc' := 80) (loc' := [.ref a0, .int i1, .int i2]) (st' := [.int (am_gi h5 b21 (Int32.toNatClampNeg i1))]) (h1 := h5) am_q187 rfl rfl rfl (am_xx g23 g24) ?_
        exact ev_r (v := some (.int (am_gi h5 b21 (Int32.toNatClampNeg i1)))) am_q187 rfl rfl rfl rfl H
      replace H := H.2
      by_cases k31 : i2 = (3 : Int32)
      · replace H := H.1 k31
        refine ev_s (pc' := 81) (loc' := [.ref a0, .int i1, .int i2]) (st' := []) (h1 := h5) am_q187 rfl rfl rfl (by rw [k31]; rfl) ?_
        refine ev_p (pc' := 82) (loc' := [.ref a0, .int i1, .int i2]) (st' := [.ref a0]) 1 am_q187 rfl ?_
        obtain ⟨g26, b27, e28, H⟩ := H
        refine ev_s (pc' := 85) (loc' := [.ref a0, .int i1, .int i2]) (st' := [.ref b27]) (h1 := h5) am_q187 rfl rfl rfl (am_gf2 g26 e28) ?_
        refine ev_p (pc' := 86) (loc' := [.ref a0, .int i1, .int i2]) (st' := [.int i1, .ref b27]) 1 am_q187 rfl ?_
        obtain ⟨g29, g30, H⟩ := H
        refine ev_s (pc' := 87) (loc' := [.ref a0, .int i1, .int i2]) (st' := [.int (am_gi h5 b27 (Int32.toNatClampNeg i1))]) (h1 := h5) am_q187 rfl rfl rfl (am_xx g29 g30) ?_
        exact ev_r (v := some (.int (am_gi h5 b27 (Int32.toNatClampNeg i1)))) am_q187 rfl rfl rfl rfl H
      replace H := H.2
      by_cases k37 : i2 = (4 : Int32)
      · replace H := H.1 k37
        refine ev_s (pc' := 88) (loc' := [.ref a0, .int i1, .int i2]) (st' := []) (h1 := h5) am_q187 rfl rfl rfl (by rw [k37]; rfl) ?_
        refine ev_p (pc' := 89) (loc' := [.ref a0, .int i1, .int i2]) (st' := [.ref a0]) 1 am_q187 rfl ?_
        obtain ⟨g32, b33, e34, H⟩ := H
        refine ev_s (pc' := 92) (loc' := [.ref a0, .int i1, .int i2]) (st' := [.ref b33]) (h1 := h5) am_q187 rfl rfl rfl (am_gf2 g32 e34) ?_
        refine ev_p (pc' := 93) (loc' := [.ref a0, .int i1, .int i2]) (st' := [.int i1, .ref b33]) 1 am_q187 rfl ?_
        obtain ⟨g35, g36, H⟩ := H
        refine ev_s (pc' := 94) (loc' := [.ref a0, .int i1, .int i2]) (st' := [.int (am_gi h5 b33 (Int32.toNatClampNeg i1))]) (h1 := h5) am_q187 rfl rfl rfl (am_xx g35 g36) ?_
        exact ev_r (v := some (.int (am_gi h5 b33 (Int32.toNatClampNeg i1)))) am_q187 rfl rfl rfl rfl H
      replace H := H.2
      by_cases k43 : i2 = (5 : Int32)
      · replace H := H.1 k43
        refine ev_s (pc' := 95) (loc' := [.ref a0, .int i1, .int i2]) (st' := []) (h1 := h5) am_q187 rfl rfl rfl (by rw [k43]; rfl) ?_
        refine ev_p (pc' := 96) (loc' := [.ref a0, .int i1, .int i2]) (st' := [.ref a0]) 1 am_q187 rfl ?_
        obtain ⟨g38, b39, e40, H⟩ := H
        refine ev_s (pc' := 99) (loc' := [.ref a0, .int i1, .int i2]) (st' := [.ref b39]) (h1 := h5) am_q187 rfl rfl rfl (am_gf2 g38 e40) ?_
        refine ev_p (pc' := 100) (loc' := [.ref a0, .int i1, .int i2]) (st' := [.int i1, .ref b39]) 1 am_q187 rfl ?_
        obtain ⟨g41, g42, H⟩ := H
        refine ev_s (pc' := 101) (loc' := [.ref a0, .int i1, .int i2]) (st' := [.int (am_gi h5 b39 (Int32.toNatClampNeg i1))]) (h1 := h5) am_q187 rfl rfl rfl (am_xx g41 g42) ?_
        exact ev_r (v := some (.int (am_gi h5 b39 (Int32.toNatClampNeg i1)))) am_q187 rfl rfl rfl rfl H
      replace H := H.2
      replace H := H ⟨k13, k19, k25, k31, k37, k43⟩
      refine ev_s (pc' := 102) (loc' := [.ref a0, .int i1, .int i2]) (st' := []) (h1 := h5) am_q187 rfl rfl rfl (am_tso (x := (i2).toInt) (by have z0 : (i2).toInt ≠ 0 := am_tn k13 (by decide); have z1 : (i2).toInt ≠ 1 := am_tn k19 (by decide); have z2 : (i2).toInt ≠ 2 := am_tn k25 (by decide); have z3 : (i2).toInt ≠ 3 := am_tn k31 (by decide); have z4 : (i2).toInt ≠ 4 := am_tn k37 (by decide); have z5 : (i2).toInt ≠ 5 := am_tn k43 (by decide); omega)) ?_
      refine ev_p (pc' := 105) (loc' := [.ref a0, .int i1, .int i2]) (st' := [.ref a0, .int i1, .ref a0]) 3 am_q187 rfl ?_
      obtain ⟨g44, H⟩ := H
      refine ev_s (pc' := 108) (loc' := [.ref a0, .int i1, .int i2]) (st' := [.int (am_gi h5 a0 0), .int i1, .ref a0]) (h1 := h5) am_q187 rfl rfl rfl (if_pos (e := none) g44) ?_
      obtain ⟨g47, H⟩ := H
      refine ev_c (vs := [.ref a0, .int i1, .int (am_gi h5 a0 0)]) (rest := []) 171 am_q187 rfl rfl rfl rfl rfl rfl rfl rfl rfl rfl rfl rfl (Or.inr (congrArg some g47)) (Cl.mono H (Nat.le_refl _) (fun r46 h45 H => ?_))
      obtain ⟨x48, rfl, H⟩ := H
      refine ev_jz (t := 118) am_q187 rfl rfl (fun hq => ?_) (fun hq => ?_)
      · replace H := H.1 hq
        refine ev_p (pc' := 119) (loc' := [.ref a0, .int i1, .int i2]) (st' := [.int (0 : Int32)]) 1 am_q187 rfl ?_
        exact ev_r (v := some (.int (0 : Int32))) am_q187 rfl rfl rfl rfl H
      · replace H := H.2 hq
        refine ev_p (pc' := 119) (loc' := [.ref a0, .int i1, .int i2]) (st' := [.int (1 : Int32)]) 2 am_q187 rfl ?_
        exact ev_r (v := some (.int (1 : Int32))) am_q187 rfl rfl rfl rfl H
    · replace H := H.2 hq
      refine ev_p (pc' := 20) (loc' := [.null, .null, .null]) (st' := [.int (-2 : Int32)]) 1 am_q187 rfl ?_
      exact ev_r (v := some (.int (-2 : Int32))) am_q187 rfl rfl rfl rfl H
/-! 188: X12_inForce -/
theorem am_q188 : (am_mt 188).2.2.2.2.2 = am_m188.2.2.2.2.2 := rfl
set_option maxRecDepth 20000 in
set_option maxHeartbeats 2000000 in
theorem wp188 {d : Nat} (a0 : Nat) (i1 : Int32) (i2 : Int32) (i3 : Int32) {h : AH} {Q : Option Value → AH → Prop} (H : ((¬ i1 = (0 : Int32)) → ((¬ i1 = (1 : Int32)) → Ev (d + 1) 188 30 [.ref a0, .int i1, .int i2, .int i3, .null] [.int (0 : Int32)] h Q) ∧ (¬ (¬ i1 = (1 : Int32)) → am_kd h a0 = 12 ∧ Cl d 169 [.ref a0, .int i2] h (fun r2 h1 => ∃ x4, r2 = some (.int x4) ∧ (x4 = (0 : Int32) → Ev (d + 1) 188 30 [.ref a0, .int i1, .int i2, .int i3, .null] [.int (0 : Int32)] h1 Q) ∧ (¬ x4 = (0 : Int32) → Ev (d + 1) 188 30 [.ref a0, .int i1, .int i2, .int i3, .null] [.int (1 : Int32)] h1 Q)))) ∧ (¬ (¬ i1 = (0 : Int32)) → am_kd h a0 = 12 ∧ Cl d 168 [.ref a0, .int i2] h (fun r6 h5 => ∃ x8, r6 = some (.int x8) ∧ ((¬ x8 = (0 : Int32)) → Ev (d + 1) 188 30 [.ref a0, .int i1, .int i2, .int i3, .null] [.int (1 : Int32)] h5 Q) ∧ (¬ (¬ x8 = (0 : Int32)) → ((¬ i1 = (1 : Int32)) → Ev (d + 1) 188 30 [.ref a0, .int i1, .int i2, .int i3, .null] [.int (0 : Int32)] h5 Q) ∧ (¬ (¬ i1 = (1 : Int32)) → am_kd h5 a0 = 12 ∧ Cl d 169 [.ref a0, .int i2] h5 (fun r10 h9 => ∃ x12, r10 = some (.int x12) ∧ (x12 = (0 : Int32) → Ev (d + 1) 188 30 [.ref a0, .int i1, .int i2, .int i3, .null] [.int (0 : Int32)] h9 Q) ∧ (¬ x12 = (0 : Int32) → Ev (d + 1) 188 30 [.ref a0, .int i1, .int i2, .int i3, .null] [.int (1 : Int32)] h9 Q))))))) : Cl (d + 1) 188 [.ref a0, .int i1, .int i2, .int i3] h Q := by
  show Ev (d + 1) 188 0 [.ref a0, .int i1, .int i2, .int i3, .null] [] h Q
  refine ev_p (pc' := 1) (loc' := [.ref a0, .int i1, .int i2, .int i3, .null]) (st' := [.int i1]) 1 am_q188 rfl ?_
  refine ev_jz (t := 12) am_q188 rfl rfl (fun hq => ?_) (fun hq => ?_)
  · replace H := H.1 hq
    refine ev_p (pc' := 14) (loc' := [.ref a0, .int i1, .int i2, .int i3, .null]) (st' := [.int (1 : Int32), .int i1]) 2 am_q188 rfl ?_
    refine ev_jc (t := 29) am_q188 rfl rfl (fun hq => ?_) (fun hq => ?_)
    · replace H := H.1 hq
      refine ev_p (pc' := 30) (loc' := [.ref a0, .int i1, .int i2, .int i3, .null]) (st' := [.int (0 : Int32)]) 1 am_q188 rfl ?_
      exact ev_m (loc' := [.ref a0, .int i1, .int i2, .int i3, .null]) am_q188 rfl rfl H
    · replace H := H.2 hq
      refine ev_p (pc' := 19) (loc' := [.ref a0, .int i1, .int i2, .int i3, .null]) (st' := [.int i2, .ref a0]) 2 am_q188 rfl ?_
      obtain ⟨g3, H⟩ := H
      refine ev_c (vs := [.ref a0, .int i2]) (rest := []) 169 am_q188 rfl rfl rfl rfl rfl rfl rfl rfl rfl rfl rfl rfl (Or.inr (congrArg some g3)) (Cl.mono H (Nat.le_refl _) (fun r2 h1 H => ?_))
      obtain ⟨x4, rfl, H⟩ := H
      refine ev_jz (t := 29) am_q188 rfl rfl (fun hq => ?_) (fun hq => ?_)
      · replace H := H.1 hq
        refine ev_p (pc' := 30) (loc' := [.ref a0, .int i1, .int i2, .int i3, .null]) (st' := [.int (0 : Int32)]) 1 am_q188 rfl ?_
        exact ev_m (loc' := [.ref a0, .int i1, .int i2, .int i3, .null]) am_q188 rfl rfl H
      · replace H := H.2 hq
        refine ev_p (pc' := 30) (loc' := [.ref a0, .int i1, .int i2, .int i3, .null]) (st' := [.int (1 : Int32)]) 2 am_q188 rfl ?_
        exact ev_m (loc' := [.ref a0, .int i1, .int i2, .int i3, .null]) am_q188 rfl rfl H
  · replace H := H.2 hq
    refine ev_p (pc' := 6) (loc' := [.ref a0, .int i1, .int i2, .int i3, .null]) (st' := [.int i2, .ref a0]) 2 am_q188 rfl ?_
    obtain ⟨g7, H⟩ := H
    refine ev_c (vs := [.ref a0, .int i2]) (rest := []) 168 am_q188 rfl rfl rfl rfl rfl rfl rfl rfl rfl rfl rfl rfl (Or.inr (congrArg some g7)) (Cl.mono H (Nat.le_refl _) (fun r6 h5 H => ?_))
    obtain ⟨x8, rfl, H⟩ := H
    refine ev_jz (t := 25) am_q188 rfl rfl (fun hq => ?_) (fun hq => ?_)
    · replace H := H.1 hq
      refine ev_p (pc' := 30) (loc' := [.ref a0, .int i1, .int i2, .int i3, .null]) (st' := [.int (1 : Int32)]) 2 am_q188 rfl ?_
      exact ev_m (loc' := [.ref a0, .int i1, .int i2, .int i3, .null]) am_q188 rfl rfl H
    · replace H := H.2 hq
      refine ev_p (pc' := 14) (loc' := [.ref a0, .int i1, .int i2, .int i3, .null]) (st' := [.int (1 : Int32), .int i1]) 2 am_q188 rfl ?_
      refine ev_jc (t := 29) am_q188 rfl rfl (fun hq => ?_) (fun hq => ?_)
      · replace H := H.1 hq
        refine ev_p (pc' := 30) (loc' := [.ref a0, .int i1, .int i2, .int i3, .null]) (st' := [.int (0 : Int32)]) 1 am_q188 rfl ?_
        exact ev_m (loc' := [.ref a0, .int i1, .int i2, .int i3, .null]) am_q188 rfl rfl H
      · replace H := H.2 hq
        refine ev_p (pc' := 19) (loc' := [.ref a0, .int i1, .int i2, .int i3, .null]) (st' := [.int i2, .ref a0]) 2 am_q188 rfl ?_
        obtain ⟨g11, H⟩ := H
        refine ev_c (vs := [.ref a0, .int i2]) (rest := []) 169 am_q188 rfl rfl rfl rfl rfl rfl rfl rfl rfl rfl rfl rfl (Or.inr (congrArg some g11)) (Cl.mono H (Nat.le_refl _) (fun r10 h9 H => ?_))
        obtain ⟨x12, rfl, H⟩ := H
        refine ev_jz (t := 29) am_q188 rfl rfl (fun hq => ?_) (fun hq => ?_)
        · replace H := H.1 hq
          refine ev_p (pc' := 30) (loc' := [.ref a0, .int i1, .int i2, .int i3, .null]) (st' := [.int (0 : Int32)]) 1 am_q188 rfl ?_
          exact ev_m (loc' := [.ref a0, .int i1, .int i2, .int i3, .null]) am_q188 rfl rfl H
        · replace H := H.2 hq
          refine ev_p (pc' := 30) (loc' := [.ref a0, .int i1, .int i2, .int i3, .null]) (st' := [.int (1 : Int32)]) 2 am_q188 rfl ?_
          exact ev_m (loc' := [.ref a0, .int i1, .int i2, .int i3, .null]) am_q188 rfl rfl H
set_option maxRecDepth 20000 in
set_option maxHeartbeats 2000000 in
theorem wp188_30 {d : Nat} (a0 : Nat) (i1 : Int32) (i2 : Int32) (i3 : Int32) (s0 : Int32) {h : AH} {Q : Option Value → AH → Prop} (H : (s0 = (0 : Int32) → Q (some (.int (-2 : Int32))) h) ∧ (¬ s0 = (0 : Int32) → Cl d 167 [.int i3, .int (0 : Int32), .int (2000000 : Int32)] h (fun r2 h1 => ∃ x3, r2 = some (.int x3) ∧ ((¬ x3 = (0 : Int32)) → ((¬ i1 = (0 : Int32)) → am_kd h1 a0 = 12 ∧ Cl d 174 [.ref a0, .int i2, .int i3] h1 (fun r5 h4 => ∃ x7, r5 = some (.int x7) ∧ Q (some (.int x7)) h4)) ∧ (¬ (¬ i1 = (0 : Int32)) → am_kd h1 a0 = 12 ∧ Cl d 173 [.ref a0, .int i2, .int i3] h1 (fun r9 h8 => ∃ x11, r9 = some (.int x11) ∧ Q (some (.int x11)) h8))) ∧ (¬ (¬ x3 = (0 : Int32)) → Q (some (.int (-2 : Int32))) h1)))) : Ev (d + 1) 188 30 [.ref a0, .int i1, .int i2, .int i3, .null] [.int s0] h Q := by
  refine ev_p (pc' := 34) (loc' := [.ref a0, .int i1, .int i2, .int i3, .int s0]) (st' := [.int s0]) 2 am_q188 rfl ?_
  refine ev_jz (t := 47) am_q188 rfl rfl (fun hq => ?_) (fun hq => ?_)
  · replace H := H.1 hq
    refine ev_p (pc' := 49) (loc' := [.null, .null, .null, .null, .null]) (st' := [.int (-2 : Int32)]) 1 am_q188 rfl ?_
    exact ev_r (v := some (.int (-2 : Int32))) am_q188 rfl rfl rfl rfl H
  · replace H := H.2 hq
    refine ev_p (pc' := 41) (loc' := [.ref a0, .int i1, .int i2, .int i3, .int s0]) (st' := [.int (2000000 : Int32), .int (0 : Int32), .int i3]) 3 am_q188 rfl ?_
    refine ev_c (vs := [.int i3, .int (0 : Int32), .int (2000000 : Int32)]) (rest := []) 167 am_q188 rfl rfl rfl rfl rfl rfl rfl rfl rfl rfl rfl rfl (Or.inl rfl) (Cl.mono H (Nat.le_refl _) (fun r2 h1 H => ?_))
    obtain ⟨x3, rfl, H⟩ := H
    refine ev_jz (t := 50) am_q188 rfl rfl (fun hq => ?_) (fun hq => ?_)
    · replace H := H.1 hq
      refine ev_p (pc' := 51) (loc' := [.ref a0, .int i1, .int i2, .int i3, .int s0]) (st' := [.int i1]) 1 am_q188 rfl ?_
      refine ev_jz (t := 63) am_q188 rfl rfl (fun hq => ?_) (fun hq => ?_)
      · replace H := H.1 hq
        refine ev_p (pc' := 66) (loc' := [.ref a0, .int i1, .int i2, .int i3, .int s0]) (st' := [.int i3, .int i2, .ref a0]) 3 am_q188 rfl ?_
        obtain ⟨g6, H⟩ := H
        refine ev_c (vs := [.ref a0, .int i2, .int i3]) (rest := []) 174 am_q188 rfl rfl rfl rfl rfl rfl rfl rfl rfl rfl rfl rfl (Or.inr (congrArg some g6)) (Cl.mono H (Nat.le_refl _) (fun r5 h4 H => ?_))
        obtain ⟨x7, rfl, H⟩ := H
        exact ev_r (v := some (.int x7)) am_q188 rfl rfl rfl rfl H
      · replace H := H.2 hq
        refine ev_p (pc' := 57) (loc' := [.ref a0, .int i1, .int i2, .int i3, .int s0]) (st' := [.int i3, .int i2, .ref a0]) 3 am_q188 rfl ?_
        obtain ⟨g10, H⟩ := H
        refine ev_c (vs := [.ref a0, .int i2, .int i3]) (rest := []) 173 am_q188 rfl rfl rfl rfl rfl rfl rfl rfl rfl rfl rfl rfl (Or.inr (congrArg some g10)) (Cl.mono H (Nat.le_refl _) (fun r9 h8 H => ?_))
        obtain ⟨x11, rfl, H⟩ := H
        refine ev_p (pc' := 69) (loc' := [.ref a0, .int i1, .int i2, .int i3, .int s0]) (st' := [.int x11]) 1 am_q188 rfl ?_
        exact ev_r (v := some (.int x11)) am_q188 rfl rfl rfl rfl H
    · replace H := H.2 hq
      refine ev_p (pc' := 49) (loc' := [.null, .null, .null, .null, .null]) (st' := [.int (-2 : Int32)]) 1 am_q188 rfl ?_
      exact ev_r (v := some (.int (-2 : Int32))) am_q188 rfl rfl rfl rfl H
/-! 189: X12_homeTold -/
theorem am_q189 : (am_mt 189).2.2.2.2.2 = am_m189.2.2.2.2.2 := rfl
set_option maxRecDepth 20000 in
set_option maxHeartbeats 2000000 in
theorem wp189 {d : Nat} (a0 : Nat) (i1 : Int32) (i2 : Int32) {h : AH} {Q : Option Value → AH → Prop} (H : am_kd h a0 = 12 ∧ Cl d 168 [.ref a0, .int i1] h (fun r2 h1 => ∃ x4, r2 = some (.int x4) ∧ (x4 = (0 : Int32) → Q (some (.int (-2 : Int32))) h1) ∧ (¬ x4 = (0 : Int32) → Cl d 167 [.int i2, .int (0 : Int32), .int (6 : Int32)] h1 (fun r6 h5 => ∃ x7, r6 = some (.int x7) ∧ ((¬ x7 = (0 : Int32)) → (i2 = (0 : Int32) → am_kd h5 a0 = 12 ∧ ∃ b9, am_gr h5 a0 2 = some b9 ∧ am_kd h5 b9 = 100 ∧ am_in i1 (am_ln h5 b9) ∧ Q (some (.int (am_gi h5 b9 (Int32.toNatClampNeg i1)))) h5) ∧ (i2 = (1 : Int32) → am_kd h5 a0 = 12 ∧ ∃ b15, am_gr h5 a0 3 = some b15 ∧ am_kd h5 b15 = 100 ∧ am_in i1 (am_ln h5 b15) ∧ Q (some (.int (am_gi h5 b15 (Int32.toNatClampNeg i1)))) h5) ∧ (i2 = (2 : Int32) → am_kd h5 a0 = 12 ∧ ∃ b21, am_gr h5 a0 4 = some b21 ∧ am_kd h5 b21 = 100 ∧ am_in i1 (am_ln h5 b21) ∧ Q (some (.int (am_gi h5 b21 (Int32.toNatClampNeg i1)))) h5) ∧ (i2 = (3 : Int32) → am_kd h5 a0 = 12 ∧ am_kd h5 a0 = 12 ∧ Cl d 173 [.ref a0, .int i1, .int (am_gi h5 a0 0)] h5 (fun r28 h27 => ∃ x30, r28 = some (.int x30) ∧ ((¬ x30 = (-1 : Int32)) → Q (some (.int (0 : Int32))) h27) ∧ (¬ (¬ x30 = (-1 : Int32)) → Q (some (.int (1 : Int32))) h27))) ∧ (i2 = (4 : Int32) → am_kd h5 a0 = 12 ∧ Cl d 231 [.ref a0, .int i1] h5 (fun r33 h32 => ∃ x35, r33 = some (.int x35) ∧ Q (some (.int x35)) h32)) ∧ (i2 = (5 : Int32) → am_kd h5 a0 = 12 ∧ ∃ b38, am_gr h5 a0 5 = some b38 ∧ (am_kd h5 b38 = 102 ∨ am_kd h5 b38 = 103) ∧ am_in i1 (am_ln h5 b38) ∧ ((am_gi h5 b38 (Int32.toNatClampNeg i1)) = (0 : Int32) → Q (some (.int (0 : Int32))) h5) ∧ (¬ (am_gi h5 b38 (Int32.toNatClampNeg i1)) = (0 : Int32) → Q (some (.int (1 : Int32))) h5)) ∧ (¬ i2 = (0 : Int32) ∧ ¬ i2 = (1 : Int32) ∧ ¬ i2 = (2 : Int32) ∧ ¬ i2 = (3 : Int32) ∧ ¬ i2 = (4 : Int32) ∧ ¬ i2 = (5 : Int32) → Ev (d + 1) 189 126 [.ref a0, .int i1, .null, .int (0 : Int32), .int (0 : Int32)] [] h5 Q)) ∧ (¬ (¬ x7 = (0 : Int32)) → Q (some (.int (-2 : Int32))) h5))))) : Cl (d + 1) 189 [.ref a0, .int i1, .int i2] h Q := by
  show Ev (d + 1) 189 0 [.ref a0, .int i1, .int i2, .null, .null] [] h Q
  refine ev_p (pc' := 2) (loc' := [.ref a0, .int i1, .int i2, .null, .null]) (st' := [.int i1, .ref a0]) 2 am_q189 rfl ?_
  obtain ⟨g3, H⟩ := H
  refine ev_c (vs := [.ref a0, .int i1]) (rest := []) 168 am_q189 rfl rfl rfl rfl rfl rfl rfl rfl rfl rfl rfl rfl (Or.inr (congrArg some g3)) (Cl.mono H (Nat.le_refl _) (fun r2 h1 H => ?_))
  obtain ⟨x4, rfl, H⟩ := H
  refine ev_jz (t := 18) am_q189 rfl rfl (fun hq => ?_) (fun hq => ?_)
  · replace H := H.1 hq
    refine ev_p (pc' := 20) (loc' := [.null, .null, .null, .null, .null]) (st' := [.int (-2 : Int32)]) 1 am_q189 rfl ?_
    exact ev_r (v := some (.int (-2 : Int32))) am_q189 rfl rfl rfl rfl H
  · replace H := H.2 hq
    refine ev_p (pc' := 12) (loc' := [.ref a0, .int i1, .int i2, .null, .null]) (st' := [.int (6 : Int32), .int (0 : Int32), .int i2]) 3 am_q189 rfl ?_
    refine ev_c (vs := [.int i2, .int (0 : Int32), .int (6 : Int32)]) (rest := []) 167 am_q189 rfl rfl rfl rfl rfl rfl rfl rfl rfl rfl rfl rfl (Or.inl rfl) (Cl.mono H (Nat.le_refl _) (fun r6 h5 H => ?_))
    obtain ⟨x7, rfl, H⟩ := H
    refine ev_jz (t := 21) am_q189 rfl rfl (fun hq => ?_) (fun hq => ?_)
    · replace H := H.1 hq
      refine ev_p (pc' := 22) (loc' := [.ref a0, .int i1, .int i2, .null, .null]) (st' := [.int i2]) 1 am_q189 rfl ?_
      by_cases k13 : i2 = (0 : Int32)
      · replace H := H.1 k13
        refine ev_s (pc' := 60) (loc' := [.ref a0, .int i1, .int i2, .null, .null]) (st' := []) (h1 := h5) am_q189 rfl rfl rfl (by rw [k13]; rfl) ?_
        refine ev_p (pc' := 61) (loc' := [.ref a0, .int i1, .int i2, .null, .null]) (st' := [.ref a0]) 1 am_q189 rfl ?_
        obtain ⟨g8, b9, e10, H⟩ := H
        refine ev_s (pc' := 64) (loc' := [.ref a0, .int i1, .int i2, .null, .null]) (st' := [.ref b9]) (h1 := h5) am_q189 rfl rfl rfl (am_gf2 g8 e10) ?_
        refine ev_p (pc' := 65) (loc' := [.ref a0, .int i1, .int i2, .null, .null]) (st' := [.int i1, .ref b9]) 1 am_q189 rfl ?_
        obtain ⟨g11, g12, H⟩ := H
        refine ev_s (pc' := 66) (loc' := [.ref a0, .int i1, .int i2, .null, .null]) (st' := [.int (am_gi h5 b9 (Int32.toNatClampNeg i1))]) (h1 := h5) am_q189 rfl rfl rfl (am_xx g11 g12) ?_
        exact ev_r (v := some (.int (am_gi h5 b9 (Int32.toNatClampNeg i1)))) am_q189 rfl rfl rfl rfl H
      replace H := H.2
      by_cases k19 : i2 = (1 : Int32)
      · replace H := H.1 k19
        refine ev_s (pc' := 67) (loc' := [.ref a0, .int i1, .int i2, .null, .null]) (st' := []) (h1 := h5) am_q189 rfl rfl rfl (by rw [k19]; rfl) ?_
        refine ev_p (pc' := 68) (loc' := [.ref a0, .int i1, .int i2, .null, .null]) (st' := [.ref a0]) 1 am_q189 rfl ?_
        obtain ⟨g14, b15, e16, H⟩ := H
        refine ev_s (pc' := 71) (loc' := [.ref a0, .int i1, .int i2, .null, .null]) (st' := [.ref b15]) (h1 := h5) am_q189 rfl rfl rfl (am_gf2 g14 e16) ?_
        refine ev_p (pc' := 72) (loc' := [.ref a0, .int i1, .int i2, .null, .null]) (st' := [.int i1, .ref b15]) 1 am_q189 rfl ?_
        obtain ⟨g17, g18, H⟩ := H
        refine ev_s (pc' := 73) (loc' := [.ref a0, .int i1, .int i2, .null, .null]) (st' := [.int (am_gi h5 b15 (Int32.toNatClampNeg i1))]) (h1 := h5) am_q189 rfl rfl rfl (am_xx g17 g18) ?_
        exact ev_r (v := some (.int (am_gi h5 b15 (Int32.toNatClampNeg i1)))) am_q189 rfl rfl rfl rfl H
      replace H := H.2
      by_cases k25 : i2 = (2 : Int32)
      · replace H := H.1 k25
        refine ev_s (pc' := 74) (loc' := [.ref a0, .int i1, .int i2, .null, .null]) (st' := []) (h1 := h5) am_q189 rfl rfl rfl (by rw [k25]; rfl) ?_
        refine ev_p (pc' := 75) (loc' := [.ref a0, .int i1, .int i2, .null, .null]) (st' := [.ref a0]) 1 am_q189 rfl ?_
        obtain ⟨g20, b21, e22, H⟩ := H
        refine ev_s (pc' := 78) (loc' := [.ref a0, .int i1, .int i2, .null, .null]) (st' := [.ref b21]) (h1 := h5) am_q189 rfl rfl rfl (am_gf2 g20 e22) ?_
        refine ev_p (pc' := 79) (loc' := [.ref a0, .int i1, .int i2, .null, .null]) (st' := [.int i1, .ref b21]) 1 am_q189 rfl ?_
        obtain ⟨g23, g24, H⟩ := H
        refine ev_s (pc' := 80) (loc' := [.ref a0, .int i1, .int i2, .null, .null]) (st' := [.int (am_gi h5 b21 (Int32.toNatClampNeg i1))]) (h1 := h5) am_q189 rfl rfl rfl (am_xx g23 g24) ?_
        exact ev_r (v := some (.int (am_gi h5 b21 (Int32.toNatClampNeg i1)))) am_q189 rfl rfl rfl rfl H
      replace H := H.2
      by_cases k31 : i2 = (3 : Int32)
      · replace H := H.1 k31
        refine ev_s (pc' := 81) (loc' := [.ref a0, .int i1, .int i2, .null, .null]) (st' := []) (h1 := h5) am_q189 rfl rfl rfl (by rw [k31]; rfl) ?_
        refine ev_p (pc' := 84) (loc' := [.ref a0, .int i1, .int i2, .null, .null]) (st' := [.ref a0, .int i1, .ref a0]) 3 am_q189 rfl ?_
        obtain ⟨g26, H⟩ := H
        refine ev_s (pc' := 87) (loc' := [.ref a0, .int i1, .int i2, .null, .null]) (st' := [.int (am_gi h5 a0 0), .int i1, .ref a0]) (h1 := h5) am_q189 rfl rfl rfl (if_pos (e := none) g26) ?_
        obtain ⟨g29, H⟩ := H
        refine ev_c (vs := [.ref a0, .int i1, .int (am_gi h5 a0 0)]) (rest := []) 173 am_q189 rfl rfl rfl rfl rfl rfl rfl rfl rfl rfl rfl rfl (Or.inr (congrArg some g29)) (Cl.mono H (Nat.le_refl _) (fun r28 h27 H => ?_))
        obtain ⟨x30, rfl, H⟩ := H
        refine ev_p (pc' := 91) (loc' := [.ref a0, .int i1, .int i2, .null, .null]) (st' := [.int (-1 : Int32), .int x30]) 1 am_q189 rfl ?_
        refine ev_jc (t := 98) am_q189 rfl rfl (fun hq => ?_) (fun hq => ?_)
        · replace H := H.1 hq
          refine ev_p (pc' := 99) (loc' := [.ref a0, .int i1, .int i2, .null, .null]) (st' := [.int (0 : Int32)]) 1 am_q189 rfl ?_
          exact ev_r (v := some (.int (0 : Int32))) am_q189 rfl rfl rfl rfl H
        · replace H := H.2 hq
          refine ev_p (pc' := 99) (loc' := [.ref a0, .int i1, .int i2, .null, .null]) (st' := [.int (1 : Int32)]) 2 am_q189 rfl ?_
          exact ev_r (v := some (.int (1 : Int32))) am_q189 rfl rfl rfl rfl H
      replace H := H.2
      by_cases k36 : i2 = (4 : Int32)
      · replace H := H.1 k36
        refine ev_s (pc' := 100) (loc' := [.ref a0, .int i1, .int i2, .null, .null]) (st' := []) (h1 := h5) am_q189 rfl rfl rfl (by rw [k36]; rfl) ?_
        refine ev_p (pc' := 102) (loc' := [.ref a0, .int i1, .int i2, .null, .null]) (st' := [.int i1, .ref a0]) 2 am_q189 rfl ?_
        obtain ⟨g34, H⟩ := H
        refine ev_c (vs := [.ref a0, .int i1]) (rest := []) 231 am_q189 rfl rfl rfl rfl rfl rfl rfl rfl rfl rfl rfl rfl (Or.inr (congrArg some g34)) (Cl.mono H (Nat.le_refl _) (fun r33 h32 H => ?_))
        obtain ⟨x35, rfl, H⟩ := H
        exact ev_r (v := some (.int x35)) am_q189 rfl rfl rfl rfl H
      replace H := H.2
      by_cases k42 : i2 = (5 : Int32)
      · replace H := H.1 k42
        refine ev_s (pc' := 106) (loc' := [.ref a0, .int i1, .int i2, .null, .null]) (st' := []) (h1 := h5) am_q189 rfl rfl rfl (by rw [k42]; rfl) ?_
        refine ev_p (pc' := 107) (loc' := [.ref a0, .int i1, .int i2, .null, .null]) (st' := [.ref a0]) 1 am_q189 rfl ?_
        obtain ⟨g37, b38, e39, H⟩ := H
        refine ev_s (pc' := 110) (loc' := [.ref a0, .int i1, .int i2, .null, .null]) (st' := [.ref b38]) (h1 := h5) am_q189 rfl rfl rfl (am_gf2 g37 e39) ?_
        refine ev_p (pc' := 111) (loc' := [.ref a0, .int i1, .int i2, .null, .null]) (st' := [.int i1, .ref b38]) 1 am_q189 rfl ?_
        obtain ⟨g40, g41, H⟩ := H
        refine ev_s (pc' := 112) (loc' := [.ref a0, .int i1, .int i2, .null, .null]) (st' := [.int (am_gi h5 b38 (Int32.toNatClampNeg i1))]) (h1 := h5) am_q189 rfl rfl rfl (am_xx g40 g41) ?_
        refine ev_jz (t := 119) am_q189 rfl rfl (fun hq => ?_) (fun hq => ?_)
        · replace H := H.1 hq
          refine ev_p (pc' := 120) (loc' := [.ref a0, .int i1, .int i2, .null, .null]) (st' := [.int (0 : Int32)]) 1 am_q189 rfl ?_
          exact ev_r (v := some (.int (0 : Int32))) am_q189 rfl rfl rfl rfl H
        · replace H := H.2 hq
          refine ev_p (pc' := 120) (loc' := [.ref a0, .int i1, .int i2, .null, .null]) (st' := [.int (1 : Int32)]) 2 am_q189 rfl ?_
          exact ev_r (v := some (.int (1 : Int32))) am_q189 rfl rfl rfl rfl H
      replace H := H.2
      replace H := H ⟨k13, k19, k25, k31, k36, k42⟩
      refine ev_s (pc' := 121) (loc' := [.ref a0, .int i1, .int i2, .null, .null]) (st' := []) (h1 := h5) am_q189 rfl rfl rfl (am_tso (x := (i2).toInt) (by have z0 : (i2).toInt ≠ 0 := am_tn k13 (by decide); have z1 : (i2).toInt ≠ 1 := am_tn k19 (by decide); have z2 : (i2).toInt ≠ 2 := am_tn k25 (by decide); have z3 : (i2).toInt ≠ 3 := am_tn k31 (by decide); have z4 : (i2).toInt ≠ 4 := am_tn k36 (by decide); have z5 : (i2).toInt ≠ 5 := am_tn k42 (by decide); omega)) ?_
      refine ev_p (pc' := 126) (loc' := [.ref a0, .int i1, .int i2, .int (0 : Int32), .int (0 : Int32)]) (st' := []) 4 am_q189 rfl ?_
      exact ev_m (loc' := [.ref a0, .int i1, .null, .int (0 : Int32), .int (0 : Int32)]) am_q189 rfl rfl H
    · replace H := H.2 hq
      refine ev_p (pc' := 20) (loc' := [.null, .null, .null, .null, .null]) (st' := [.int (-2 : Int32)]) 1 am_q189 rfl ?_
      exact ev_r (v := some (.int (-2 : Int32))) am_q189 rfl rfl rfl rfl H
set_option maxRecDepth 20000 in
set_option maxHeartbeats 2000000 in
theorem wp189_126 {d : Nat} (a0 : Nat) (i1 : Int32) (i3 : Int32) (i4 : Int32) {h : AH} {Q : Option Value → AH → Prop} (H : am_kd h a0 = 12 ∧ ((am_gi h a0 14) ≤ i4 → Q (some (.int i3)) h) ∧ (¬ (am_gi h a0 14) ≤ i4 → am_kd h a0 = 12 ∧ ∃ b3, am_gr h a0 15 = some b3 ∧ am_kd h b3 = 100 ∧ am_in i4 (am_ln h b3) ∧ ((¬ (am_gi h b3 (Int32.toNatClampNeg i4)) = (2 : Int32)) → Ev (d + 1) 189 126 [.ref a0, .int i1, .null, .int (i3 + (0 : Int32)), .int (i4 + (1 : Int32))] [] h Q) ∧ (¬ (¬ (am_gi h b3 (Int32.toNatClampNeg i4)) = (2 : Int32)) → am_kd h a0 = 12 ∧ ∃ b8, am_gr h a0 16 = some b8 ∧ am_kd h b8 = 100 ∧ am_in i4 (am_ln h b8) ∧ ((¬ (am_gi h b8 (Int32.toNatClampNeg i4)) = i1) → Ev (d + 1) 189 126 [.ref a0, .int i1, .null, .int (i3 + (0 : Int32)), .int (i4 + (1 : Int32))] [] h Q) ∧ (¬ (¬ (am_gi h b8 (Int32.toNatClampNeg i4)) = i1) → am_kd h a0 = 12 ∧ am_kd h a0 = 12 ∧ Cl d 171 [.ref a0, .int i4, .int (am_gi h a0 0)] h (fun r14 h13 => ∃ x16, r14 = some (.int x16) ∧ (x16 = (0 : Int32) → Ev (d + 1) 189 126 [.ref a0, .int i1, .null, .int (i3 + (0 : Int32)), .int (i4 + (1 : Int32))] [] h13 Q) ∧ (¬ x16 = (0 : Int32) → Ev (d + 1) 189 126 [.ref a0, .int i1, .null, .int (i3 + (1 : Int32)), .int (i4 + (1 : Int32))] [] h13 Q)))))) : Ev (d + 1) 189 126 [.ref a0, .int i1, .null, .int i3, .int i4] [] h Q := by
  refine ev_p (pc' := 129) (loc' := [.ref a0, .int i1, .null, .int i3, .int i4]) (st' := [.ref a0, .int i4]) 2 am_q189 rfl ?_
  obtain ⟨g1, H⟩ := H
  refine ev_s (pc' := 132) (loc' := [.ref a0, .int i1, .null, .int i3, .int i4]) (st' := [.int (am_gi h a0 14), .int i4]) (h1 := h) am_q189 rfl rfl rfl (if_pos (e := none) g1) ?_
  refine ev_jc (t := 184) am_q189 rfl rfl (fun hq => ?_) (fun hq => ?_)
  · replace H := H.1 hq
    refine ev_p (pc' := 185) (loc' := [.ref a0, .int i1, .null, .int i3, .int i4]) (st' := [.int i3]) 1 am_q189 rfl ?_
    exact ev_r (v := some (.int i3)) am_q189 rfl rfl rfl rfl H
  · replace H := H.2 hq
    refine ev_p (pc' := 137) (loc' := [.ref a0, .int i1, .null, .int i3, .int i4]) (st' := [.ref a0, .int i3]) 2 am_q189 rfl ?_
    obtain ⟨g2, b3, e4, H⟩ := H
    refine ev_s (pc' := 140) (loc' := [.ref a0, .int i1, .null, .int i3, .int i4]) (st' := [.ref b3, .int i3]) (h1 := h) am_q189 rfl rfl rfl (am_gf2 g2 e4) ?_
    refine ev_p (pc' := 142) (loc' := [.ref a0, .int i1, .null, .int i3, .int i4]) (st' := [.int i4, .ref b3, .int i3]) 1 am_q189 rfl ?_
    obtain ⟨g5, g6, H⟩ := H
    refine ev_s (pc' := 143) (loc' := [.ref a0, .int i1, .null, .int i3, .int i4]) (st' := [.int (am_gi h b3 (Int32.toNatClampNeg i4)), .int i3]) (h1 := h) am_q189 rfl rfl rfl (am_xx g5 g6) ?_
    refine ev_p (pc' := 144) (loc' := [.ref a0, .int i1, .null, .int i3, .int i4]) (st' := [.int (2 : Int32), .int (am_gi h b3 (Int32.toNatClampNeg i4)), .int i3]) 1 am_q189 rfl ?_
    refine ev_jc (t := 175) am_q189 rfl rfl (fun hq => ?_) (fun hq => ?_)
    · replace H := H.1 hq
      refine ev_p (pc' := 126) (loc' := [.ref a0, .int i1, .null, .int (i3 + (0 : Int32)), .int (i4 + (1 : Int32))]) (st' := []) 5 am_q189 rfl ?_
      exact ev_m (loc' := [.ref a0, .int i1, .null, .int (i3 + (0 : Int32)), .int (i4 + (1 : Int32))]) am_q189 rfl rfl H
    · replace H := H.2 hq
      refine ev_p (pc' := 148) (loc' := [.ref a0, .int i1, .null, .int i3, .int i4]) (st' := [.ref a0, .int i3]) 1 am_q189 rfl ?_
      obtain ⟨g7, b8, e9, H⟩ := H
      refine ev_s (pc' := 151) (loc' := [.ref a0, .int i1, .null, .int i3, .int i4]) (st' := [.ref b8, .int i3]) (h1 := h) am_q189 rfl rfl rfl (am_gf2 g7 e9) ?_
      refine ev_p (pc' := 153) (loc' := [.ref a0, .int i1, .null, .int i3, .int i4]) (st' := [.int i4, .ref b8, .int i3]) 1 am_q189 rfl ?_
      obtain ⟨g10, g11, H⟩ := H
      refine ev_s (pc' := 154) (loc' := [.ref a0, .int i1, .null, .int i3, .int i4]) (st' := [.int (am_gi h b8 (Int32.toNatClampNeg i4)), .int i3]) (h1 := h) am_q189 rfl rfl rfl (am_xx g10 g11) ?_
      refine ev_p (pc' := 155) (loc' := [.ref a0, .int i1, .null, .int i3, .int i4]) (st' := [.int i1, .int (am_gi h b8 (Int32.toNatClampNeg i4)), .int i3]) 1 am_q189 rfl ?_
      refine ev_jc (t := 175) am_q189 rfl rfl (fun hq => ?_) (fun hq => ?_)
      · replace H := H.1 hq
        refine ev_p (pc' := 126) (loc' := [.ref a0, .int i1, .null, .int (i3 + (0 : Int32)), .int (i4 + (1 : Int32))]) (st' := []) 5 am_q189 rfl ?_
        exact ev_m (loc' := [.ref a0, .int i1, .null, .int (i3 + (0 : Int32)), .int (i4 + (1 : Int32))]) am_q189 rfl rfl H
      · replace H := H.2 hq
        refine ev_p (pc' := 162) (loc' := [.ref a0, .int i1, .null, .int i3, .int i4]) (st' := [.ref a0, .int i4, .ref a0, .int i3]) 3 am_q189 rfl ?_
        obtain ⟨g12, H⟩ := H
        refine ev_s (pc' := 165) (loc' := [.ref a0, .int i1, .null, .int i3, .int i4]) (st' := [.int (am_gi h a0 0), .int i4, .ref a0, .int i3]) (h1 := h) am_q189 rfl rfl rfl (if_pos (e := none) g12) ?_
        obtain ⟨g15, H⟩ := H
        refine ev_c (vs := [.ref a0, .int i4, .int (am_gi h a0 0)]) (rest := [.int i3]) 171 am_q189 rfl rfl rfl rfl rfl rfl rfl rfl rfl rfl rfl rfl (Or.inr (congrArg some g15)) (Cl.mono H (Nat.le_refl _) (fun r14 h13 H => ?_))
        obtain ⟨x16, rfl, H⟩ := H
        refine ev_jz (t := 175) am_q189 rfl rfl (fun hq => ?_) (fun hq => ?_)
        · replace H := H.1 hq
          refine ev_p (pc' := 126) (loc' := [.ref a0, .int i1, .null, .int (i3 + (0 : Int32)), .int (i4 + (1 : Int32))]) (st' := []) 5 am_q189 rfl ?_
          exact ev_m (loc' := [.ref a0, .int i1, .null, .int (i3 + (0 : Int32)), .int (i4 + (1 : Int32))]) am_q189 rfl rfl H
        · replace H := H.2 hq
          refine ev_p (pc' := 126) (loc' := [.ref a0, .int i1, .null, .int (i3 + (1 : Int32)), .int (i4 + (1 : Int32))]) (st' := []) 6 am_q189 rfl ?_
          exact ev_m (loc' := [.ref a0, .int i1, .null, .int (i3 + (1 : Int32)), .int (i4 + (1 : Int32))]) am_q189 rfl rfl H
/-! 190: X12_bits -/
theorem am_q190 : (am_mt 190).2.2.2.2.2 = am_m190.2.2.2.2.2 := rfl
set_option maxRecDepth 20000 in
set_option maxHeartbeats 2000000 in
theorem wp190 {d : Nat} (i0 : Int32) {h : AH} {Q : Option Value → AH → Prop} (H : Ev d 190 4 [.int i0, .int (0 : Int32), .int (0 : Int32)] [] h Q) : Cl d 190 [.int i0] h Q := by
  show Ev d 190 0 [.int i0, .null, .null] [] h Q
  refine ev_p (pc' := 4) (loc' := [.int i0, .int (0 : Int32), .int (0 : Int32)]) (st' := []) 4 am_q190 rfl ?_
  exact ev_m (loc' := [.int i0, .int (0 : Int32), .int (0 : Int32)]) am_q190 rfl rfl H
set_option maxRecDepth 20000 in
set_option maxHeartbeats 2000000 in
theorem wp190_4 {d : Nat} (i0 : Int32) (i1 : Int32) (i2 : Int32) {h : AH} {Q : Option Value → AH → Prop} (H : ((31 : Int32) ≤ i2 → Q (some (.int i1)) h) ∧ (¬ (31 : Int32) ≤ i2 → Ev d 190 4 [.int i0, .int (i1 + ((i0 >>> (i2 &&& 31)) &&& (1 : Int32))), .int (i2 + (1 : Int32))] [] h Q)) : Ev d 190 4 [.int i0, .int i1, .int i2] [] h Q := by
  refine ev_p (pc' := 7) (loc' := [.int i0, .int i1, .int i2]) (st' := [.int (31 : Int32), .int i2]) 2 am_q190 rfl ?_
  refine ev_jc (t := 24) am_q190 rfl rfl (fun hq => ?_) (fun hq => ?_)
  · replace H := H.1 hq
    refine ev_p (pc' := 25) (loc' := [.int i0, .int i1, .int i2]) (st' := [.int i1]) 1 am_q190 rfl ?_
    exact ev_r (v := some (.int i1)) am_q190 rfl rfl rfl rfl H
  · replace H := H.2 hq
    refine ev_p (pc' := 4) (loc' := [.int i0, .int (i1 + ((i0 >>> (i2 &&& 31)) &&& (1 : Int32))), .int (i2 + (1 : Int32))]) (st' := []) 10 am_q190 rfl ?_
    exact ev_m (loc' := [.int i0, .int (i1 + ((i0 >>> (i2 &&& 31)) &&& (1 : Int32))), .int (i2 + (1 : Int32))]) am_q190 rfl rfl H
/-! 191: X12_memberTold -/
theorem am_q191 : (am_mt 191).2.2.2.2.2 = am_m191.2.2.2.2.2 := rfl
set_option maxRecDepth 20000 in
set_option maxHeartbeats 2000000 in
theorem wp191 {d : Nat} (a0 : Nat) (i1 : Int32) (i2 : Int32) {h : AH} {Q : Option Value → AH → Prop} (H : am_kd h a0 = 12 ∧ Cl d 169 [.ref a0, .int i1] h (fun r2 h1 => ∃ x4, r2 = some (.int x4) ∧ (x4 = (0 : Int32) → Q (some (.int (-2 : Int32))) h1) ∧ (¬ x4 = (0 : Int32) → Cl d 167 [.int i2, .int (0 : Int32), .int (6 : Int32)] h1 (fun r6 h5 => ∃ x7, r6 = some (.int x7) ∧ ((¬ x7 = (0 : Int32)) → (i2 = (0 : Int32) → am_kd h5 a0 = 12 ∧ ∃ b9, am_gr h5 a0 8 = some b9 ∧ am_kd h5 b9 = 100 ∧ am_in i1 (am_ln h5 b9) ∧ Q (some (.int (am_gi h5 b9 (Int32.toNatClampNeg i1)))) h5) ∧ (i2 = (1 : Int32) → am_kd h5 a0 = 12 ∧ ∃ b15, am_gr h5 a0 9 = some b15 ∧ am_kd h5 b15 = 100 ∧ am_in i1 (am_ln h5 b15) ∧ Q (some (.int (am_gi h5 b15 (Int32.toNatClampNeg i1)))) h5) ∧ (i2 = (2 : Int32) → am_kd h5 a0 = 12 ∧ ∃ b21, am_gr h5 a0 10 = some b21 ∧ am_kd h5 b21 = 100 ∧ am_in i1 (am_ln h5 b21) ∧ Q (some (.int (am_gi h5 b21 (Int32.toNatClampNeg i1)))) h5) ∧ (i2 = (3 : Int32) → am_kd h5 a0 = 12 ∧ ∃ b27, am_gr h5 a0 11 = some b27 ∧ am_kd h5 b27 = 100 ∧ am_in i1 (am_ln h5 b27) ∧ Q (some (.int (am_gi h5 b27 (Int32.toNatClampNeg i1)))) h5) ∧ (i2 = (4 : Int32) → am_kd h5 a0 = 12 ∧ am_kd h5 a0 = 12 ∧ Cl d 174 [.ref a0, .int i1, .int (am_gi h5 a0 0)] h5 (fun r34 h33 => ∃ x36, r34 = some (.int x36) ∧ ((¬ x36 = (-1 : Int32)) → am_kd h33 a0 = 12 ∧ ∃ b38, am_gr h33 a0 16 = some b38 ∧ am_kd h33 b38 = 100 ∧ am_in x36 (am_ln h33 b38) ∧ Q (some (.int (am_gi h33 b38 (Int32.toNatClampNeg x36)))) h33) ∧ (¬ (¬ x36 = (-1 : Int32)) → Q (some (.int (-1 : Int32))) h33))) ∧ (i2 = (5 : Int32) → am_kd h5 a0 = 12 ∧ ∃ b44, am_gr h5 a0 12 = some b44 ∧ am_kd h5 b44 = 100 ∧ am_in i1 (am_ln h5 b44) ∧ Cl d 190 [.int (am_gi h5 b44 (Int32.toNatClampNeg i1))] h5 (fun r49 h48 => ∃ x50, r49 = some (.int x50) ∧ Q (some (.int x50)) h48)) ∧ (¬ i2 = (0 : Int32) ∧ ¬ i2 = (1 : Int32) ∧ ¬ i2 = (2 : Int32) ∧ ¬ i2 = (3 : Int32) ∧ ¬ i2 = (4 : Int32) ∧ ¬ i2 = (5 : Int32) → am_kd h5 a0 = 12 ∧ Cl d 170 [.ref a0, .int i1] h5 (fun r53 h52 => ∃ x55, r53 = some (.int x55) ∧ (x55 = (0 : Int32) → Q (some (.int (0 : Int32))) h52) ∧ (¬ x55 = (0 : Int32) → Q (some (.int (1 : Int32))) h52)))) ∧ (¬ (¬ x7 = (0 : Int32)) → Q (some (.int (-2 : Int32))) h5))))) : Cl (d + 1) 191 [.ref a0, .int i1, .int i2] h Q := by
  show Ev (d + 1) 191 0 [.ref a0, .int i1, .int i2, .null] [] h Q
  refine ev_p (pc' := 2) (loc' := [.ref a0, .int i1, .int i2, .null]) (st' := [.int i1, .ref a0]) 2 am_q191 rfl ?_
  obtain ⟨g3, H⟩ := H
  refine ev_c (vs := [.ref a0, .int i1]) (rest := []) 169 am_q191 rfl rfl rfl rfl rfl rfl rfl rfl rfl rfl rfl rfl (Or.inr (congrArg some g3)) (Cl.mono H (Nat.le_refl _) (fun r2 h1 H => ?_))
  obtain ⟨x4, rfl, H⟩ := H
  refine ev_jz (t := 18) am_q191 rfl rfl (fun hq => ?_) (fun hq => ?_)
  · replace H := H.1 hq
    refine ev_p (pc' := 20) (loc' := [.null, .null, .null, .null]) (st' := [.int (-2 : Int32)]) 1 am_q191 rfl ?_
    exact ev_r (v := some (.int (-2 : Int32))) am_q191 rfl rfl rfl rfl H
  · replace H := H.2 hq
    refine ev_p (pc' := 12) (loc' := [.ref a0, .int i1, .int i2, .null]) (st' := [.int (6 : Int32), .int (0 : Int32), .int i2]) 3 am_q191 rfl ?_
    refine ev_c (vs := [.int i2, .int (0 : Int32), .int (6 : Int32)]) (rest := []) 167 am_q191 rfl rfl rfl rfl rfl rfl rfl rfl rfl rfl rfl rfl (Or.inl rfl) (Cl.mono H (Nat.le_refl _) (fun r6 h5 H => ?_))
    obtain ⟨x7, rfl, H⟩ := H
    refine ev_jz (t := 21) am_q191 rfl rfl (fun hq => ?_) (fun hq => ?_)
    · replace H := H.1 hq
      refine ev_p (pc' := 22) (loc' := [.ref a0, .int i1, .int i2, .null]) (st' := [.int i2]) 1 am_q191 rfl ?_
      by_cases k13 : i2 = (0 : Int32)
      · replace H := H.1 k13
        refine ev_s (pc' := 60) (loc' := [.ref a0, .int i1, .int i2, .null]) (st' := []) (h1 := h5) am_q191 rfl rfl rfl (by rw [k13]; rfl) ?_
        refine ev_p (pc' := 61) (loc' := [.ref a0, .int i1, .int i2, .null]) (st' := [.ref a0]) 1 am_q191 rfl ?_
        obtain ⟨g8, b9, e10, H⟩ := H
        refine ev_s (pc' := 64) (loc' := [.ref a0, .int i1, .int i2, .null]) (st' := [.ref b9]) (h1 := h5) am_q191 rfl rfl rfl (am_gf2 g8 e10) ?_
        refine ev_p (pc' := 65) (loc' := [.ref a0, .int i1, .int i2, .null]) (st' := [.int i1, .ref b9]) 1 am_q191 rfl ?_
        obtain ⟨g11, g12, H⟩ := H
        refine ev_s (pc' := 66) (loc' := [.ref a0, .int i1, .int i2, .null]) (st' := [.int (am_gi h5 b9 (Int32.toNatClampNeg i1))]) (h1 := h5) am_q191 rfl rfl rfl (am_xx g11 g12) ?_
        exact ev_r (v := some (.int (am_gi h5 b9 (Int32.toNatClampNeg i1)))) am_q191 rfl rfl rfl rfl H
      replace H := H.2
      by_cases k19 : i2 = (1 : Int32)
      · replace H := H.1 k19
        refine ev_s (pc' := 67) (loc' := [.ref a0, .int i1, .int i2, .null]) (st' := []) (h1 := h5) am_q191 rfl rfl rfl (by rw [k19]; rfl) ?_
        refine ev_p (pc' := 68) (loc' := [.ref a0, .int i1, .int i2, .null]) (st' := [.ref a0]) 1 am_q191 rfl ?_
        obtain ⟨g14, b15, e16, H⟩ := H
        refine ev_s (pc' := 71) (loc' := [.ref a0, .int i1, .int i2, .null]) (st' := [.ref b15]) (h1 := h5) am_q191 rfl rfl rfl (am_gf2 g14 e16) ?_
        refine ev_p (pc' := 72) (loc' := [.ref a0, .int i1, .int i2, .null]) (st' := [.int i1, .ref b15]) 1 am_q191 rfl ?_
        obtain ⟨g17, g18, H⟩ := H
        refine ev_s (pc' := 73) (loc' := [.ref a0, .int i1, .int i2, .null]) (st' := [.int (am_gi h5 b15 (Int32.toNatClampNeg i1))]) (h1 := h5) am_q191 rfl rfl rfl (am_xx g17 g18) ?_
        exact ev_r (v := some (.int (am_gi h5 b15 (Int32.toNatClampNeg i1)))) am_q191 rfl rfl rfl rfl H
      replace H := H.2
      by_cases k25 : i2 = (2 : Int32)
      · replace H := H.1 k25
        refine ev_s (pc' := 74) (loc' := [.ref a0, .int i1, .int i2, .null]) (st' := []) (h1 := h5) am_q191 rfl rfl rfl (by rw [k25]; rfl) ?_
        refine ev_p (pc' := 75) (loc' := [.ref a0, .int i1, .int i2, .null]) (st' := [.ref a0]) 1 am_q191 rfl ?_
        obtain ⟨g20, b21, e22, H⟩ := H
        refine ev_s (pc' := 78) (loc' := [.ref a0, .int i1, .int i2, .null]) (st' := [.ref b21]) (h1 := h5) am_q191 rfl rfl rfl (am_gf2 g20 e22) ?_
        refine ev_p (pc' := 79) (loc' := [.ref a0, .int i1, .int i2, .null]) (st' := [.int i1, .ref b21]) 1 am_q191 rfl ?_
        obtain ⟨g23, g24, H⟩ := H
        refine ev_s (pc' := 80) (loc' := [.ref a0, .int i1, .int i2, .null]) (st' := [.int (am_gi h5 b21 (Int32.toNatClampNeg i1))]) (h1 := h5) am_q191 rfl rfl rfl (am_xx g23 g24) ?_
        exact ev_r (v := some (.int (am_gi h5 b21 (Int32.toNatClampNeg i1)))) am_q191 rfl rfl rfl rfl H
      replace H := H.2
      by_cases k31 : i2 = (3 : Int32)
      · replace H := H.1 k31
        refine ev_s (pc' := 81) (loc' := [.ref a0, .int i1, .int i2, .null]) (st' := []) (h1 := h5) am_q191 rfl rfl rfl (by rw [k31]; rfl) ?_
        refine ev_p (pc' := 82) (loc' := [.ref a0, .int i1, .int i2, .null]) (st' := [.ref a0]) 1 am_q191 rfl ?_
        obtain ⟨g26, b27, e28, H⟩ := H
        refine ev_s (pc' := 85) (loc' := [.ref a0, .int i1, .int i2, .null]) (st' := [.ref b27]) (h1 := h5) am_q191 rfl rfl rfl (am_gf2 g26 e28) ?_
        refine ev_p (pc' := 86) (loc' := [.ref a0, .int i1, .int i2, .null]) (st' := [.int i1, .ref b27]) 1 am_q191 rfl ?_
        obtain ⟨g29, g30, H⟩ := H
        refine ev_s (pc' := 87) (loc' := [.ref a0, .int i1, .int i2, .null]) (st' := [.int (am_gi h5 b27 (Int32.toNatClampNeg i1))]) (h1 := h5) am_q191 rfl rfl rfl (am_xx g29 g30) ?_
        exact ev_r (v := some (.int (am_gi h5 b27 (Int32.toNatClampNeg i1)))) am_q191 rfl rfl rfl rfl H
      replace H := H.2
      by_cases k42 : i2 = (4 : Int32)
      · replace H := H.1 k42
        refine ev_s (pc' := 88) (loc' := [.ref a0, .int i1, .int i2, .null]) (st' := []) (h1 := h5) am_q191 rfl rfl rfl (by rw [k42]; rfl) ?_
        refine ev_p (pc' := 91) (loc' := [.ref a0, .int i1, .int i2, .null]) (st' := [.ref a0, .int i1, .ref a0]) 3 am_q191 rfl ?_
        obtain ⟨g32, H⟩ := H
        refine ev_s (pc' := 94) (loc' := [.ref a0, .int i1, .int i2, .null]) (st' := [.int (am_gi h5 a0 0), .int i1, .ref a0]) (h1 := h5) am_q191 rfl rfl rfl (if_pos (e := none) g32) ?_
        obtain ⟨g35, H⟩ := H
        refine ev_c (vs := [.ref a0, .int i1, .int (am_gi h5 a0 0)]) (rest := []) 174 am_q191 rfl rfl rfl rfl rfl rfl rfl rfl rfl rfl rfl rfl (Or.inr (congrArg some g35)) (Cl.mono H (Nat.le_refl _) (fun r34 h33 H => ?_))
        obtain ⟨x36, rfl, H⟩ := H
        refine ev_p (pc' := 100) (loc' := [.ref a0, .int i1, .int i2, .int x36]) (st' := [.int (-1 : Int32), .int x36]) 3 am_q191 rfl ?_
        refine ev_jc (t := 107) am_q191 rfl rfl (fun hq => ?_) (fun hq => ?_)
        · replace H := H.1 hq
          refine ev_p (pc' := 108) (loc' := [.ref a0, .int i1, .int i2, .int x36]) (st' := [.ref a0]) 1 am_q191 rfl ?_
          obtain ⟨g37, b38, e39, H⟩ := H
          refine ev_s (pc' := 111) (loc' := [.ref a0, .int i1, .int i2, .int x36]) (st' := [.ref b38]) (h1 := h33) am_q191 rfl rfl rfl (am_gf2 g37 e39) ?_
          refine ev_p (pc' := 112) (loc' := [.ref a0, .int i1, .int i2, .int x36]) (st' := [.int x36, .ref b38]) 1 am_q191 rfl ?_
          obtain ⟨g40, g41, H⟩ := H
          refine ev_s (pc' := 113) (loc' := [.ref a0, .int i1, .int i2, .int x36]) (st' := [.int (am_gi h33 b38 (Int32.toNatClampNeg x36))]) (h1 := h33) am_q191 rfl rfl rfl (am_xx g40 g41) ?_
          exact ev_r (v := some (.int (am_gi h33 b38 (Int32.toNatClampNeg x36)))) am_q191 rfl rfl rfl rfl H
        · replace H := H.2 hq
          refine ev_p (pc' := 113) (loc' := [.ref a0, .int i1, .int i2, .int x36]) (st' := [.int (-1 : Int32)]) 2 am_q191 rfl ?_
          exact ev_r (v := some (.int (-1 : Int32))) am_q191 rfl rfl rfl rfl H
      replace H := H.2
      by_cases k51 : i2 = (5 : Int32)
      · replace H := H.1 k51
        refine ev_s (pc' := 114) (loc' := [.ref a0, .int i1, .int i2, .null]) (st' := []) (h1 := h5) am_q191 rfl rfl rfl (by rw [k51]; rfl) ?_
        refine ev_p (pc' := 115) (loc' := [.ref a0, .int i1, .int i2, .null]) (st' := [.ref a0]) 1 am_q191 rfl ?_
        obtain ⟨g43, b44, e45, H⟩ := H
        refine ev_s (pc' := 118) (loc' := [.ref a0, .int i1, .int i2, .null]) (st' := [.ref b44]) (h1 := h5) am_q191 rfl rfl rfl (am_gf2 g43 e45) ?_
        refine ev_p (pc' := 119) (loc' := [.ref a0, .int i1, .int i2, .null]) (st' := [.int i1, .ref b44]) 1 am_q191 rfl ?_
        obtain ⟨g46, g47, H⟩ := H
        refine ev_s (pc' := 120) (loc' := [.ref a0, .int i1, .int i2, .null]) (st' := [.int (am_gi h5 b44 (Int32.toNatClampNeg i1))]) (h1 := h5) am_q191 rfl rfl rfl (am_xx g46 g47) ?_
        refine ev_c (vs := [.int (am_gi h5 b44 (Int32.toNatClampNeg i1))]) (rest := []) 190 am_q191 rfl rfl rfl rfl rfl rfl rfl rfl rfl rfl rfl rfl (Or.inl rfl) (Cl.mono H (Nat.le_refl _) (fun r49 h48 H => ?_))
        obtain ⟨x50, rfl, H⟩ := H
        exact ev_r (v := some (.int x50)) am_q191 rfl rfl rfl rfl H
      replace H := H.2
      replace H := H ⟨k13, k19, k25, k31, k42, k51⟩
      refine ev_s (pc' := 124) (loc' := [.ref a0, .int i1, .int i2, .null]) (st' := []) (h1 := h5) am_q191 rfl rfl rfl (am_tso (x := (i2).toInt) (by have z0 : (i2).toInt ≠ 0 := am_tn k13 (by decide); have z1 : (i2).toInt ≠ 1 := am_tn k19 (by decide); have z2 : (i2).toInt ≠ 2 := am_tn k25 (by decide); have z3 : (i2).toInt ≠ 3 := am_tn k31 (by decide); have z4 : (i2).toInt ≠ 4 := am_tn k42 (by decide); have z5 : (i2).toInt ≠ 5 := am_tn k51 (by decide); omega)) ?_
      refine ev_p (pc' := 126) (loc' := [.ref a0, .int i1, .int i2, .null]) (st' := [.int i1, .ref a0]) 2 am_q191 rfl ?_
      obtain ⟨g54, H⟩ := H
      refine ev_c (vs := [.ref a0, .int i1]) (rest := []) 170 am_q191 rfl rfl rfl rfl rfl rfl rfl rfl rfl rfl rfl rfl (Or.inr (congrArg some g54)) (Cl.mono H (Nat.le_refl _) (fun r53 h52 H => ?_))
      obtain ⟨x55, rfl, H⟩ := H
      refine ev_jz (t := 136) am_q191 rfl rfl (fun hq => ?_) (fun hq => ?_)
      · replace H := H.1 hq
        refine ev_p (pc' := 137) (loc' := [.ref a0, .int i1, .int i2, .null]) (st' := [.int (0 : Int32)]) 1 am_q191 rfl ?_
        exact ev_r (v := some (.int (0 : Int32))) am_q191 rfl rfl rfl rfl H
      · replace H := H.2 hq
        refine ev_p (pc' := 137) (loc' := [.ref a0, .int i1, .int i2, .null]) (st' := [.int (1 : Int32)]) 2 am_q191 rfl ?_
        exact ev_r (v := some (.int (1 : Int32))) am_q191 rfl rfl rfl rfl H
    · replace H := H.2 hq
      refine ev_p (pc' := 20) (loc' := [.null, .null, .null, .null]) (st' := [.int (-2 : Int32)]) 1 am_q191 rfl ?_
      exact ev_r (v := some (.int (-2 : Int32))) am_q191 rfl rfl rfl rfl H
/-! 192: X12_byteAt -/
theorem am_q192 : (am_mt 192).2.2.2.2.2 = am_m192.2.2.2.2.2 := rfl
set_option maxRecDepth 20000 in
set_option maxHeartbeats 2000000 in
theorem wp192 {d : Nat} (a0 : Nat) (i1 : Int32) {h : AH} {Q : Option Value → AH → Prop} (H : am_kd h a0 = 12 ∧ ∃ b2, am_gr h a0 24 = some b2 ∧ am_kd h a0 = 12 ∧ am_kd h b2 = 100 ∧ am_in (am_gi h a0 50) (am_ln h b2) ∧ ((am_gi h b2 (Int32.toNatClampNeg (am_gi h a0 50))) ≤ i1 → Q (some (.int (-1 : Int32))) h) ∧ (¬ (am_gi h b2 (Int32.toNatClampNeg (am_gi h a0 50))) ≤ i1 → am_kd h a0 = 12 ∧ ∃ b8, am_gr h a0 25 = some b8 ∧ am_kd h a0 = 12 ∧ am_kd h b8 = 100 ∧ am_in (((400 : Int32) * (am_gi h a0 50)) + i1) (am_ln h b8) ∧ Q (some (.int (am_gi h b8 (Int32.toNatClampNeg (((400 : Int32) * (am_gi h a0 50)) + i1))))) h)) : Cl d 192 [.ref a0, .int i1] h Q := by
  show Ev d 192 0 [.ref a0, .int i1] [] h Q
  refine ev_p (pc' := 2) (loc' := [.ref a0, .int i1]) (st' := [.ref a0, .int i1]) 2 am_q192 rfl ?_
  obtain ⟨g1, b2, e3, H⟩ := H
  refine ev_s (pc' := 5) (loc' := [.ref a0, .int i1]) (st' := [.ref b2, .int i1]) (h1 := h) am_q192 rfl rfl rfl (am_gf2 g1 e3) ?_
  refine ev_p (pc' := 6) (loc' := [.ref a0, .int i1]) (st' := [.ref a0, .ref b2, .int i1]) 1 am_q192 rfl ?_
  obtain ⟨g4, H⟩ := H
  refine ev_s (pc' := 9) (loc' := [.ref a0, .int i1]) (st' := [.int (am_gi h a0 50), .ref b2, .int i1]) (h1 := h) am_q192 rfl rfl rfl (if_pos (e := none) g4) ?_
  obtain ⟨g5, g6, H⟩ := H
  refine ev_s (pc' := 10) (loc' := [.ref a0, .int i1]) (st' := [.int (am_gi h b2 (Int32.toNatClampNeg (am_gi h a0 50))), .int i1]) (h1 := h) am_q192 rfl rfl rfl (am_xx g5 g6) ?_
  refine ev_jc (t := 31) am_q192 rfl rfl (fun hq => ?_) (fun hq => ?_)
  · replace H := H.1 hq
    refine ev_p (pc' := 32) (loc' := [.ref a0, .int i1]) (st' := [.int (-1 : Int32)]) 1 am_q192 rfl ?_
    exact ev_r (v := some (.int (-1 : Int32))) am_q192 rfl rfl rfl rfl H
  · replace H := H.2 hq
    refine ev_p (pc' := 14) (loc' := [.ref a0, .int i1]) (st' := [.ref a0]) 1 am_q192 rfl ?_
    obtain ⟨g7, b8, e9, H⟩ := H
    refine ev_s (pc' := 17) (loc' := [.ref a0, .int i1]) (st' := [.ref b8]) (h1 := h) am_q192 rfl rfl rfl (am_gf2 g7 e9) ?_
    refine ev_p (pc' := 21) (loc' := [.ref a0, .int i1]) (st' := [.ref a0, .int (400 : Int32), .ref b8]) 2 am_q192 rfl ?_
    obtain ⟨g10, H⟩ := H
    refine ev_s (pc' := 24) (loc' := [.ref a0, .int i1]) (st' := [.int (am_gi h a0 50), .int (400 : Int32), .ref b8]) (h1 := h) am_q192 rfl rfl rfl (if_pos (e := none) g10) ?_
    refine ev_p (pc' := 27) (loc' := [.ref a0, .int i1]) (st' := [.int (((400 : Int32) * (am_gi h a0 50)) + i1), .ref b8]) 3 am_q192 rfl ?_
    obtain ⟨g11, g12, H⟩ := H
    refine ev_s (pc' := 28) (loc' := [.ref a0, .int i1]) (st' := [.int (am_gi h b8 (Int32.toNatClampNeg (((400 : Int32) * (am_gi h a0 50)) + i1)))]) (h1 := h) am_q192 rfl rfl rfl (am_xx g11 g12) ?_
    refine ev_p (pc' := 32) (loc' := [.ref a0, .int i1]) (st' := [.int (am_gi h b8 (Int32.toNatClampNeg (((400 : Int32) * (am_gi h a0 50)) + i1)))]) 1 am_q192 rfl ?_
    exact ev_r (v := some (.int (am_gi h b8 (Int32.toNatClampNeg (((400 : Int32) * (am_gi h a0 50)) + i1))))) am_q192 rfl rfl rfl rfl H
/-! 193: X12_isLetter -/
theorem am_q193 : (am_mt 193).2.2.2.2.2 = am_m193.2.2.2.2.2 := rfl
set_option maxRecDepth 20000 in
set_option maxHeartbeats 2000000 in
theorem wp193 {d : Nat} (i0 : Int32) {h : AH} {Q : Option Value → AH → Prop} (H : (i0 < (97 : Int32) → Q (some (.int (0 : Int32))) h) ∧ (¬ i0 < (97 : Int32) → ((122 : Int32) < i0 → Q (some (.int (0 : Int32))) h) ∧ (¬ (122 : Int32) < i0 → Q (some (.int (1 : Int32))) h))) : Cl d 193 [.int i0] h Q := by
  show Ev d 193 0 [.int i0] [] h Q
  refine ev_p (pc' := 3) (loc' := [.int i0]) (st' := [.int (97 : Int32), .int i0]) 2 am_q193 rfl ?_
  refine ev_jc (t := 16) am_q193 rfl rfl (fun hq => ?_) (fun hq => ?_)
  · replace H := H.1 hq
    refine ev_p (pc' := 17) (loc' := [.null]) (st' := [.int (0 : Int32)]) 1 am_q193 rfl ?_
    exact ev_r (v := some (.int (0 : Int32))) am_q193 rfl rfl rfl rfl H
  · replace H := H.2 hq
    refine ev_p (pc' := 9) (loc' := [.int i0]) (st' := [.int (122 : Int32), .int i0]) 2 am_q193 rfl ?_
    refine ev_jc (t := 16) am_q193 rfl rfl (fun hq => ?_) (fun hq => ?_)
    · replace H := H.1 hq
      refine ev_p (pc' := 17) (loc' := [.null]) (st' := [.int (0 : Int32)]) 1 am_q193 rfl ?_
      exact ev_r (v := some (.int (0 : Int32))) am_q193 rfl rfl rfl rfl H
    · replace H := H.2 hq
      refine ev_p (pc' := 17) (loc' := [.int i0]) (st' := [.int (1 : Int32)]) 2 am_q193 rfl ?_
      exact ev_r (v := some (.int (1 : Int32))) am_q193 rfl rfl rfl rfl H
/-! 194: X12_isDigit -/
theorem am_q194 : (am_mt 194).2.2.2.2.2 = am_m194.2.2.2.2.2 := rfl
set_option maxRecDepth 20000 in
set_option maxHeartbeats 2000000 in
theorem wp194 {d : Nat} (i0 : Int32) {h : AH} {Q : Option Value → AH → Prop} (H : (i0 < (48 : Int32) → Q (some (.int (0 : Int32))) h) ∧ (¬ i0 < (48 : Int32) → ((57 : Int32) < i0 → Q (some (.int (0 : Int32))) h) ∧ (¬ (57 : Int32) < i0 → Q (some (.int (1 : Int32))) h))) : Cl d 194 [.int i0] h Q := by
  show Ev d 194 0 [.int i0] [] h Q
  refine ev_p (pc' := 3) (loc' := [.int i0]) (st' := [.int (48 : Int32), .int i0]) 2 am_q194 rfl ?_
  refine ev_jc (t := 16) am_q194 rfl rfl (fun hq => ?_) (fun hq => ?_)
  · replace H := H.1 hq
    refine ev_p (pc' := 17) (loc' := [.null]) (st' := [.int (0 : Int32)]) 1 am_q194 rfl ?_
    exact ev_r (v := some (.int (0 : Int32))) am_q194 rfl rfl rfl rfl H
  · replace H := H.2 hq
    refine ev_p (pc' := 9) (loc' := [.int i0]) (st' := [.int (57 : Int32), .int i0]) 2 am_q194 rfl ?_
    refine ev_jc (t := 16) am_q194 rfl rfl (fun hq => ?_) (fun hq => ?_)
    · replace H := H.1 hq
      refine ev_p (pc' := 17) (loc' := [.null]) (st' := [.int (0 : Int32)]) 1 am_q194 rfl ?_
      exact ev_r (v := some (.int (0 : Int32))) am_q194 rfl rfl rfl rfl H
    · replace H := H.2 hq
      refine ev_p (pc' := 17) (loc' := [.int i0]) (st' := [.int (1 : Int32)]) 2 am_q194 rfl ?_
      exact ev_r (v := some (.int (1 : Int32))) am_q194 rfl rfl rfl rfl H
/-! 195: X12_next -/
theorem am_q195 : (am_mt 195).2.2.2.2.2 = am_m195.2.2.2.2.2 := rfl
set_option maxRecDepth 20000 in
set_option maxHeartbeats 2000000 in
theorem wp195 {d : Nat} (a0 : Nat) {h : AH} {Q : Option Value → AH → Prop} (H : am_kd h a0 = 12 ∧ am_kd h a0 = 12 ∧ Cl d 192 [.ref a0, .int (am_gi h a0 51)] h (fun r3 h2 => ∃ x5, r3 = some (.int x5) ∧ (x5 = (32 : Int32) → am_kd h2 a0 = 12 ∧ am_kd h2 a0 = 12 ∧ ∀ h8, h8 = am_si h2 a0 51 ((am_gi h2 a0 51) + (1 : Int32)) → Ev (d + 1) 195 0 [.ref a0, .null, .null] [] h8 Q) ∧ (¬ x5 = (32 : Int32) → am_kd h2 a0 = 12 ∧ am_kd h2 a0 = 12 ∧ Cl d 192 [.ref a0, .int (am_gi h2 a0 51)] h2 (fun r11 h10 => ∃ x13, r11 = some (.int x13) ∧ ((¬ x13 = (10 : Int32)) → am_kd h10 a0 = 12 ∧ am_kd h10 a0 = 12 ∧ ∀ h16, h16 = am_si h10 a0 52 (am_gi h10 a0 51) → am_kd h16 a0 = 12 ∧ am_kd h16 a0 = 12 ∧ Cl d 192 [.ref a0, .int (am_gi h16 a0 51)] h16 (fun r19 h18 => ∃ x21, r19 = some (.int x21) ∧ ((¬ x21 = (-1 : Int32)) → Cl d 193 [.int x21] h18 (fun r23 h22 => ∃ x24, r23 = some (.int x24) ∧ (x24 = (0 : Int32) → Cl d 194 [.int x21] h22 (fun r26 h25 => ∃ x27, r26 = some (.int x27) ∧ (x27 = (0 : Int32) → (x21 = (40 : Int32) → Ev (d + 1) 195 150 [.ref a0, .int x21, .null] [.int (1 : Int32)] h25 Q) ∧ (¬ x21 = (40 : Int32) → (x21 = (41 : Int32) → Ev (d + 1) 195 150 [.ref a0, .int x21, .null] [.int (1 : Int32)] h25 Q) ∧ (¬ x21 = (41 : Int32) → (x21 = (59 : Int32) → Ev (d + 1) 195 150 [.ref a0, .int x21, .null] [.int (1 : Int32)] h25 Q) ∧ (¬ x21 = (59 : Int32) → (x21 = (43 : Int32) → Ev (d + 1) 195 150 [.ref a0, .int x21, .null] [.int (1 : Int32)] h25 Q) ∧ (¬ x21 = (43 : Int32) → (x21 = (45 : Int32) → Ev (d + 1) 195 150 [.ref a0, .int x21, .null] [.int (1 : Int32)] h25 Q) ∧ (¬ x21 = (45 : Int32) → (x21 = (42 : Int32) → Ev (d + 1) 195 150 [.ref a0, .int x21, .null] [.int (1 : Int32)] h25 Q) ∧ (¬ x21 = (42 : Int32) → (x21 = (60 : Int32) → Ev (d + 1) 195 150 [.ref a0, .int x21, .null] [.int (1 : Int32)] h25 Q) ∧ (¬ x21 = (60 : Int32) → ((¬ x21 = (61 : Int32)) → Ev (d + 1) 195 150 [.ref a0, .int x21, .null] [.int (0 : Int32)] h25 Q) ∧ (¬ (¬ x21 = (61 : Int32)) → Ev (d + 1) 195 150 [.ref a0, .int x21, .null] [.int (1 : Int32)] h25 Q))))))))) ∧ (¬ x27 = (0 : Int32) → am_kd h25 a0 = 12 ∧ Cl d 196 [.ref a0] h25 (fun r29 h28 => r29 = none ∧ Q none h28)))) ∧ (¬ x24 = (0 : Int32) → am_kd h22 a0 = 12 ∧ Cl d 197 [.ref a0] h22 (fun r32 h31 => r32 = none ∧ Q none h31)))) ∧ (¬ (¬ x21 = (-1 : Int32)) → am_kd h18 a0 = 12 ∧ ∀ h35, h35 = am_si h18 a0 53 (0 : Int32) → Q none h35))) ∧ (¬ (¬ x13 = (10 : Int32)) → am_kd h10 a0 = 12 ∧ am_kd h10 a0 = 12 ∧ ∀ h38, h38 = am_si h10 a0 51 ((am_gi h10 a0 51) + (1 : Int32)) → Ev (d + 1) 195 0 [.ref a0, .null, .null] [] h38 Q))))) : Cl (d + 1) 195 [.ref a0] h Q := by
  show Ev (d + 1) 195 0 [.ref a0, .null, .null] [] h Q
  refine ev_p (pc' := 2) (loc' := [.ref a0, .null, .null]) (st' := [.ref a0, .ref a0]) 2 am_q195 rfl ?_
  obtain ⟨g1, H⟩ := H
  refine ev_s (pc' := 5) (loc' := [.ref a0, .null, .null]) (st' := [.int (am_gi h a0 51), .ref a0]) (h1 := h) am_q195 rfl rfl rfl (if_pos (e := none) g1) ?_
  obtain ⟨g4, H⟩ := H
  refine ev_c (vs := [.ref a0, .int (am_gi h a0 51)]) (rest := []) 192 am_q195 rfl rfl rfl rfl rfl rfl rfl rfl rfl rfl rfl rfl (Or.inr (congrArg some g4)) (Cl.mono H (Nat.le_refl _) (fun r3 h2 H => ?_))
  obtain ⟨x5, rfl, H⟩ := H
  refine ev_p (pc' := 10) (loc' := [.ref a0, .null, .null]) (st' := [.int (32 : Int32), .int x5]) 1 am_q195 rfl ?_
  refine ev_jc (t := 26) am_q195 rfl rfl (fun hq => ?_) (fun hq => ?_)
  · replace H := H.1 hq
    refine ev_p (pc' := 28) (loc' := [.ref a0, .null, .null]) (st' := [.ref a0, .ref a0]) 2 am_q195 rfl ?_
    obtain ⟨g6, H⟩ := H
    refine ev_s (pc' := 31) (loc' := [.ref a0, .null, .null]) (st' := [.int (am_gi h2 a0 51), .ref a0]) (h1 := h2) am_q195 rfl rfl rfl (if_pos (e := none) g6) ?_
    refine ev_p (pc' := 33) (loc' := [.ref a0, .null, .null]) (st' := [.int ((am_gi h2 a0 51) + (1 : Int32)), .ref a0]) 2 am_q195 rfl ?_
    obtain ⟨g7, H⟩ := H
    refine ev_s (pc' := 36) (loc' := [.ref a0, .null, .null]) (st' := []) (h1 := am_si h2 a0 51 ((am_gi h2 a0 51) + (1 : Int32))) am_q195 rfl rfl rfl (if_pos (e := none) g7) ?_
    replace H := H _ rfl
    generalize am_si h2 a0 51 ((am_gi h2 a0 51) + (1 : Int32)) = h8 at H ⊢
    refine ev_p (pc' := 0) (loc' := [.ref a0, .null, .null]) (st' := []) 1 am_q195 rfl ?_
    exact ev_m (loc' := [.ref a0, .null, .null]) am_q195 rfl rfl H
  · replace H := H.2 hq
    refine ev_p (pc' := 15) (loc' := [.ref a0, .null, .null]) (st' := [.ref a0, .ref a0]) 2 am_q195 rfl ?_
    obtain ⟨g9, H⟩ := H
    refine ev_s (pc' := 18) (loc' := [.ref a0, .null, .null]) (st' := [.int (am_gi h2 a0 51), .ref a0]) (h1 := h2) am_q195 rfl rfl rfl (if_pos (e := none) g9) ?_
    obtain ⟨g12, H⟩ := H
    refine ev_c (vs := [.ref a0, .int (am_gi h2 a0 51)]) (rest := []) 192 am_q195 rfl rfl rfl rfl rfl rfl rfl rfl rfl rfl rfl rfl (Or.inr (congrArg some g12)) (Cl.mono H (Nat.le_refl _) (fun r11 h10 H => ?_))
    obtain ⟨x13, rfl, H⟩ := H
    refine ev_p (pc' := 23) (loc' := [.ref a0, .null, .null]) (st' := [.int (10 : Int32), .int x13]) 1 am_q195 rfl ?_
    refine ev_jc (t := 39) am_q195 rfl rfl (fun hq => ?_) (fun hq => ?_)
    · replace H := H.1 hq
      refine ev_p (pc' := 41) (loc' := [.ref a0, .null, .null]) (st' := [.ref a0, .ref a0]) 2 am_q195 rfl ?_
      obtain ⟨g14, H⟩ := H
      refine ev_s (pc' := 44) (loc' := [.ref a0, .null, .null]) (st' := [.int (am_gi h10 a0 51), .ref a0]) (h1 := h10) am_q195 rfl rfl rfl (if_pos (e := none) g14) ?_
      obtain ⟨g15, H⟩ := H
      refine ev_s (pc' := 47) (loc' := [.ref a0, .null, .null]) (st' := []) (h1 := am_si h10 a0 52 (am_gi h10 a0 51)) am_q195 rfl rfl rfl (if_pos (e := none) g15) ?_
      replace H := H _ rfl
      generalize am_si h10 a0 52 (am_gi h10 a0 51) = h16 at H ⊢
      refine ev_p (pc' := 49) (loc' := [.ref a0, .null, .null]) (st' := [.ref a0, .ref a0]) 2 am_q195 rfl ?_
      obtain ⟨g17, H⟩ := H
      refine ev_s (pc' := 52) (loc' := [.ref a0, .null, .null]) (st' := [.int (am_gi h16 a0 51), .ref a0]) (h1 := h16) am_q195 rfl rfl rfl (if_pos (e := none) g17) ?_
      obtain ⟨g20, H⟩ := H
      refine ev_c (vs := [.ref a0, .int (am_gi h16 a0 51)]) (rest := []) 192 am_q195 rfl rfl rfl rfl rfl rfl rfl rfl rfl rfl rfl rfl (Or.inr (congrArg some g20)) (Cl.mono H (Nat.le_refl _) (fun r19 h18 H => ?_))
      obtain ⟨x21, rfl, H⟩ := H
      refine ev_p (pc' := 58) (loc' := [.ref a0, .int x21, .null]) (st' := [.int (-1 : Int32), .int x21]) 3 am_q195 rfl ?_
      refine ev_jc (t := 69) am_q195 rfl rfl (fun hq => ?_) (fun hq => ?_)
      · replace H := H.1 hq
        refine ev_p (pc' := 70) (loc' := [.ref a0, .int x21, .null]) (st' := [.int x21]) 1 am_q195 rfl ?_
        refine ev_c (vs := [.int x21]) (rest := []) 193 am_q195 rfl rfl rfl rfl rfl rfl rfl rfl rfl rfl rfl rfl (Or.inl rfl) (Cl.mono H (Nat.le_refl _) (fun r23 h22 H => ?_))
        obtain ⟨x24, rfl, H⟩ := H
        refine ev_jz (t := 83) am_q195 rfl rfl (fun hq => ?_) (fun hq => ?_)
        · replace H := H.1 hq
          refine ev_p (pc' := 84) (loc' := [.ref a0, .int x21, .null]) (st' := [.int x21]) 1 am_q195 rfl ?_
          refine ev_c (vs := [.int x21]) (rest := []) 194 am_q195 rfl rfl rfl rfl rfl rfl rfl rfl rfl rfl rfl rfl (Or.inl rfl) (Cl.mono H (Nat.le_refl _) (fun r26 h25 H => ?_))
          obtain ⟨x27, rfl, H⟩ := H
          refine ev_jz (t := 97) am_q195 rfl rfl (fun hq => ?_) (fun hq => ?_)
          · replace H := H.1 hq
            refine ev_p (pc' := 100) (loc' := [.ref a0, .int x21, .null]) (st' := [.int (40 : Int32), .int x21]) 2 am_q195 rfl ?_
            refine ev_jc (t := 145) am_q195 rfl rfl (fun hq => ?_) (fun hq => ?_)
            · replace H := H.1 hq
              refine ev_p (pc' := 150) (loc' := [.ref a0, .int x21, .null]) (st' := [.int (1 : Int32)]) 2 am_q195 rfl ?_
              exact ev_m (loc' := [.ref a0, .int x21, .null]) am_q195 rfl rfl H
            · replace H := H.2 hq
              refine ev_p (pc' := 106) (loc' := [.ref a0, .int x21, .null]) (st' := [.int (41 : Int32), .int x21]) 2 am_q195 rfl ?_
              refine ev_jc (t := 145) am_q195 rfl rfl (fun hq => ?_) (fun hq => ?_)
              · replace H := H.1 hq
                refine ev_p (pc' := 150) (loc' := [.ref a0, .int x21, .null]) (st' := [.int (1 : Int32)]) 2 am_q195 rfl ?_
                exact ev_m (loc' := [.ref a0, .int x21, .null]) am_q195 rfl rfl H
              · replace H := H.2 hq
                refine ev_p (pc' := 112) (loc' := [.ref a0, .int x21, .null]) (st' := [.int (59 : Int32), .int x21]) 2 am_q195 rfl ?_
                refine ev_jc (t := 145) am_q195 rfl rfl (fun hq => ?_) (fun hq => ?_)
                · replace H := H.1 hq
                  refine ev_p (pc' := 150) (loc' := [.ref a0, .int x21, .null]) (st' := [.int (1 : Int32)]) 2 am_q195 rfl ?_
                  exact ev_m (loc' := [.ref a0, .int x21, .null]) am_q195 rfl rfl H
                · replace H := H.2 hq
                  refine ev_p (pc' := 118) (loc' := [.ref a0, .int x21, .null]) (st' := [.int (43 : Int32), .int x21]) 2 am_q195 rfl ?_
                  refine ev_jc (t := 145) am_q195 rfl rfl (fun hq => ?_) (fun hq => ?_)
                  · replace H := H.1 hq
                    refine ev_p (pc' := 150) (loc' := [.ref a0, .int x21, .null]) (st' := [.int (1 : Int32)]) 2 am_q195 rfl ?_
                    exact ev_m (loc' := [.ref a0, .int x21, .null]) am_q195 rfl rfl H
                  · replace H := H.2 hq
                    refine ev_p (pc' := 124) (loc' := [.ref a0, .int x21, .null]) (st' := [.int (45 : Int32), .int x21]) 2 am_q195 rfl ?_
                    refine ev_jc (t := 145) am_q195 rfl rfl (fun hq => ?_) (fun hq => ?_)
                    · replace H := H.1 hq
                      refine ev_p (pc' := 150) (loc' := [.ref a0, .int x21, .null]) (st' := [.int (1 : Int32)]) 2 am_q195 rfl ?_
                      exact ev_m (loc' := [.ref a0, .int x21, .null]) am_q195 rfl rfl H
                    · replace H := H.2 hq
                      refine ev_p (pc' := 130) (loc' := [.ref a0, .int x21, .null]) (st' := [.int (42 : Int32), .int x21]) 2 am_q195 rfl ?_
                      refine ev_jc (t := 145) am_q195 rfl rfl (fun hq => ?_) (fun hq => ?_)
                      · replace H := H.1 hq
                        refine ev_p (pc' := 150) (loc' := [.ref a0, .int x21, .null]) (st' := [.int (1 : Int32)]) 2 am_q195 rfl ?_
                        exact ev_m (loc' := [.ref a0, .int x21, .null]) am_q195 rfl rfl H
                      · replace H := H.2 hq
                        refine ev_p (pc' := 136) (loc' := [.ref a0, .int x21, .null]) (st' := [.int (60 : Int32), .int x21]) 2 am_q195 rfl ?_
                        refine ev_jc (t := 145) am_q195 rfl rfl (fun hq => ?_) (fun hq => ?_)
                        · replace H := H.1 hq
                          refine ev_p (pc' := 150) (loc' := [.ref a0, .int x21, .null]) (st' := [.int (1 : Int32)]) 2 am_q195 rfl ?_
                          exact ev_m (loc' := [.ref a0, .int x21, .null]) am_q195 rfl rfl H
                        · replace H := H.2 hq
                          refine ev_p (pc' := 142) (loc' := [.ref a0, .int x21, .null]) (st' := [.int (61 : Int32), .int x21]) 2 am_q195 rfl ?_
                          refine ev_jc (t := 149) am_q195 rfl rfl (fun hq => ?_) (fun hq => ?_)
                          · replace H := H.1 hq
                            refine ev_p (pc' := 150) (loc' := [.ref a0, .int x21, .null]) (st' := [.int (0 : Int32)]) 1 am_q195 rfl ?_
                            exact ev_m (loc' := [.ref a0, .int x21, .null]) am_q195 rfl rfl H
                          · replace H := H.2 hq
                            refine ev_p (pc' := 150) (loc' := [.ref a0, .int x21, .null]) (st' := [.int (1 : Int32)]) 2 am_q195 rfl ?_
                            exact ev_m (loc' := [.ref a0, .int x21, .null]) am_q195 rfl rfl H
          · replace H := H.2 hq
            refine ev_p (pc' := 91) (loc' := [.ref a0, .int x21, .null]) (st' := [.ref a0]) 1 am_q195 rfl ?_
            obtain ⟨g30, H⟩ := H
            refine ev_c (vs := [.ref a0]) (rest := []) 196 am_q195 rfl rfl rfl rfl rfl rfl rfl rfl rfl rfl rfl rfl (Or.inr (congrArg some g30)) (Cl.mono H (Nat.le_refl _) (fun r29 h28 H => ?_))
            obtain ⟨rfl, H⟩ := H
            refine ev_p (pc' := 174) (loc' := [.ref a0, .int x21, .null]) (st' := []) 1 am_q195 rfl ?_
            exact ev_r (v := none) am_q195 rfl rfl rfl rfl H
        · replace H := H.2 hq
          refine ev_p (pc' := 77) (loc' := [.ref a0, .int x21, .null]) (st' := [.ref a0]) 1 am_q195 rfl ?_
          obtain ⟨g33, H⟩ := H
          refine ev_c (vs := [.ref a0]) (rest := []) 197 am_q195 rfl rfl rfl rfl rfl rfl rfl rfl rfl rfl rfl rfl (Or.inr (congrArg some g33)) (Cl.mono H (Nat.le_refl _) (fun r32 h31 H => ?_))
          obtain ⟨rfl, H⟩ := H
          refine ev_p (pc' := 174) (loc' := [.ref a0, .int x21, .null]) (st' := []) 1 am_q195 rfl ?_
          exact ev_r (v := none) am_q195 rfl rfl rfl rfl H
      · replace H := H.2 hq
        refine ev_p (pc' := 63) (loc' := [.ref a0, .int x21, .null]) (st' := [.int (0 : Int32), .ref a0]) 2 am_q195 rfl ?_
        obtain ⟨g34, H⟩ := H
        refine ev_s (pc' := 66) (loc' := [.ref a0, .int x21, .null]) (st' := []) (h1 := am_si h18 a0 53 (0 : Int32)) am_q195 rfl rfl rfl (if_pos (e := none) g34) ?_
        replace H := H _ rfl
        generalize am_si h18 a0 53 (0 : Int32) = h35 at H ⊢
        refine ev_p (pc' := 174) (loc' := [.ref a0, .int x21, .null]) (st' := []) 1 am_q195 rfl ?_
        exact ev_r (v := none) am_q195 rfl rfl rfl rfl H
    · replace H := H.2 hq
      refine ev_p (pc' := 28) (loc' := [.ref a0, .null, .null]) (st' := [.ref a0, .ref a0]) 2 am_q195 rfl ?_
      obtain ⟨g36, H⟩ := H
      refine ev_s (pc' := 31) (loc' := [.ref a0, .null, .null]) (st' := [.int (am_gi h10 a0 51), .ref a0]) (h1 := h10) am_q195 rfl rfl rfl (if_pos (e := none) g36) ?_
      refine ev_p (pc' := 33) (loc' := [.ref a0, .null, .null]) (st' := [.int ((am_gi h10 a0 51) + (1 : Int32)), .ref a0]) 2 am_q195 rfl ?_
      obtain ⟨g37, H⟩ := H
      refine ev_s (pc' := 36) (loc' := [.ref a0, .null, .null]) (st' := []) (h1 := am_si h10 a0 51 ((am_gi h10 a0 51) + (1 : Int32))) am_q195 rfl rfl rfl (if_pos (e := none) g37) ?_
      replace H := H _ rfl
      generalize am_si h10 a0 51 ((am_gi h10 a0 51) + (1 : Int32)) = h38 at H ⊢
      refine ev_p (pc' := 0) (loc' := [.ref a0, .null, .null]) (st' := []) 1 am_q195 rfl ?_
      exact ev_m (loc' := [.ref a0, .null, .null]) am_q195 rfl rfl H
set_option maxRecDepth 20000 in
set_option maxHeartbeats 2000000 in
theorem wp195_150 {d : Nat} (a0 : Nat) (i1 : Int32) (s0 : Int32) {h : AH} {Q : Option Value → AH → Prop} (H : (s0 = (0 : Int32) → am_kd h a0 = 12 ∧ ∀ h2, h2 = am_si h a0 53 (2 : Int32) → am_kd h2 a0 = 12 ∧ am_kd h2 a0 = 12 ∧ ∀ h5, h5 = am_si h2 a0 51 ((am_gi h2 a0 51) + (1 : Int32)) → Q none h5) ∧ (¬ s0 = (0 : Int32) → am_kd h a0 = 12 ∧ ∀ h7, h7 = am_si h a0 53 i1 → am_kd h7 a0 = 12 ∧ am_kd h7 a0 = 12 ∧ ∀ h10, h10 = am_si h7 a0 51 ((am_gi h7 a0 51) + (1 : Int32)) → Q none h10)) : Ev (d + 1) 195 150 [.ref a0, .int i1, .null] [.int s0] h Q := by
  refine ev_p (pc' := 153) (loc' := [.ref a0, .int i1, .int s0]) (st' := [.int s0, .ref a0]) 3 am_q195 rfl ?_
  refine ev_jz (t := 160) am_q195 rfl rfl (fun hq => ?_) (fun hq => ?_)
  · replace H := H.1 hq
    refine ev_p (pc' := 161) (loc' := [.ref a0, .int i1, .int s0]) (st' := [.int (2 : Int32), .ref a0]) 1 am_q195 rfl ?_
    obtain ⟨g1, H⟩ := H
    refine ev_s (pc' := 164) (loc' := [.ref a0, .null, .null]) (st' := []) (h1 := am_si h a0 53 (2 : Int32)) am_q195 rfl rfl rfl (if_pos (e := none) g1) ?_
    replace H := H _ rfl
    generalize am_si h a0 53 (2 : Int32) = h2 at H ⊢
    refine ev_p (pc' := 166) (loc' := [.ref a0, .null, .null]) (st' := [.ref a0, .ref a0]) 2 am_q195 rfl ?_
    obtain ⟨g3, H⟩ := H
    refine ev_s (pc' := 169) (loc' := [.ref a0, .null, .null]) (st' := [.int (am_gi h2 a0 51), .ref a0]) (h1 := h2) am_q195 rfl rfl rfl (if_pos (e := none) g3) ?_
    refine ev_p (pc' := 171) (loc' := [.ref a0, .null, .null]) (st' := [.int ((am_gi h2 a0 51) + (1 : Int32)), .ref a0]) 2 am_q195 rfl ?_
    obtain ⟨g4, H⟩ := H
    refine ev_s (pc' := 174) (loc' := [.ref a0, .null, .null]) (st' := []) (h1 := am_si h2 a0 51 ((am_gi h2 a0 51) + (1 : Int32))) am_q195 rfl rfl rfl (if_pos (e := none) g4) ?_
    replace H := H _ rfl
    generalize am_si h2 a0 51 ((am_gi h2 a0 51) + (1 : Int32)) = h5 at H ⊢
    exact ev_r (v := none) am_q195 rfl rfl rfl rfl H
  · replace H := H.2 hq
    refine ev_p (pc' := 161) (loc' := [.ref a0, .int i1, .int s0]) (st' := [.int i1, .ref a0]) 2 am_q195 rfl ?_
    obtain ⟨g6, H⟩ := H
    refine ev_s (pc' := 164) (loc' := [.ref a0, .null, .null]) (st' := []) (h1 := am_si h a0 53 i1) am_q195 rfl rfl rfl (if_pos (e := none) g6) ?_
    replace H := H _ rfl
    generalize am_si h a0 53 i1 = h7 at H ⊢
    refine ev_p (pc' := 166) (loc' := [.ref a0, .null, .null]) (st' := [.ref a0, .ref a0]) 2 am_q195 rfl ?_
    obtain ⟨g8, H⟩ := H
    refine ev_s (pc' := 169) (loc' := [.ref a0, .null, .null]) (st' := [.int (am_gi h7 a0 51), .ref a0]) (h1 := h7) am_q195 rfl rfl rfl (if_pos (e := none) g8) ?_
    refine ev_p (pc' := 171) (loc' := [.ref a0, .null, .null]) (st' := [.int ((am_gi h7 a0 51) + (1 : Int32)), .ref a0]) 2 am_q195 rfl ?_
    obtain ⟨g9, H⟩ := H
    refine ev_s (pc' := 174) (loc' := [.ref a0, .null, .null]) (st' := []) (h1 := am_si h7 a0 51 ((am_gi h7 a0 51) + (1 : Int32))) am_q195 rfl rfl rfl (if_pos (e := none) g9) ?_
    replace H := H _ rfl
    generalize am_si h7 a0 51 ((am_gi h7 a0 51) + (1 : Int32)) = h10 at H ⊢
    exact ev_r (v := none) am_q195 rfl rfl rfl rfl H
/-! 196: X12_number -/
theorem am_q196 : (am_mt 196).2.2.2.2.2 = am_m196.2.2.2.2.2 := rfl
set_option maxRecDepth 20000 in
set_option maxHeartbeats 2000000 in
theorem wp196 {d : Nat} (a0 : Nat) {h : AH} {Q : Option Value → AH → Prop} (H : am_kd h a0 = 12 ∧ ∀ h2, h2 = am_si h a0 54 (0 : Int32) → Ev (d + 1) 196 5 [.ref a0] [] h2 Q) : Cl (d + 1) 196 [.ref a0] h Q := by
  show Ev (d + 1) 196 0 [.ref a0] [] h Q
  refine ev_p (pc' := 2) (loc' := [.ref a0]) (st' := [.int (0 : Int32), .ref a0]) 2 am_q196 rfl ?_
  obtain ⟨g1, H⟩ := H
  refine ev_s (pc' := 5) (loc' := [.ref a0]) (st' := []) (h1 := am_si h a0 54 (0 : Int32)) am_q196 rfl rfl rfl (if_pos (e := none) g1) ?_
  replace H := H _ rfl
  generalize am_si h a0 54 (0 : Int32) = h2 at H ⊢
  exact ev_m (loc' := [.ref a0]) am_q196 rfl rfl H
set_option maxRecDepth 20000 in
set_option maxHeartbeats 2000000 in
theorem wp196_5 {d : Nat} (a0 : Nat) {h : AH} {Q : Option Value → AH → Prop} (H : am_kd h a0 = 12 ∧ am_kd h a0 = 12 ∧ Cl d 192 [.ref a0, .int (am_gi h a0 51)] h (fun r3 h2 => ∃ x5, r3 = some (.int x5) ∧ Cl d 194 [.int x5] h2 (fun r7 h6 => ∃ x8, r7 = some (.int x8) ∧ (x8 = (0 : Int32) → am_kd h6 a0 = 12 ∧ am_kd h6 a0 = 12 ∧ (((am_gi h6 a0 51) - (am_gi h6 a0 52)) ≤ (6 : Int32) → am_kd h6 a0 = 12 ∧ ∀ h12, h12 = am_si h6 a0 53 (1 : Int32) → Q none h12) ∧ (¬ ((am_gi h6 a0 51) - (am_gi h6 a0 52)) ≤ (6 : Int32) → am_kd h6 a0 = 12 ∧ ∀ h14, h14 = am_si h6 a0 53 (2 : Int32) → Q none h14)) ∧ (¬ x8 = (0 : Int32) → am_kd h6 a0 = 12 ∧ am_kd h6 a0 = 12 ∧ ((6 : Int32) ≤ ((am_gi h6 a0 51) - (am_gi h6 a0 52)) → am_kd h6 a0 = 12 ∧ am_kd h6 a0 = 12 ∧ ∀ h19, h19 = am_si h6 a0 54 (am_gi h6 a0 54) → am_kd h19 a0 = 12 ∧ am_kd h19 a0 = 12 ∧ ∀ h22, h22 = am_si h19 a0 51 ((am_gi h19 a0 51) + (1 : Int32)) → Ev (d + 1) 196 5 [.ref a0] [] h22 Q) ∧ (¬ (6 : Int32) ≤ ((am_gi h6 a0 51) - (am_gi h6 a0 52)) → am_kd h6 a0 = 12 ∧ am_kd h6 a0 = 12 ∧ am_kd h6 a0 = 12 ∧ Cl d 192 [.ref a0, .int (am_gi h6 a0 51)] h6 (fun r26 h25 => ∃ x28, r26 = some (.int x28) ∧ am_kd h25 a0 = 12 ∧ ∀ h30, h30 = am_si h25 a0 54 ((((10 : Int32) * (am_gi h6 a0 54)) + x28) - (48 : Int32)) → am_kd h30 a0 = 12 ∧ am_kd h30 a0 = 12 ∧ ∀ h33, h33 = am_si h30 a0 51 ((am_gi h30 a0 51) + (1 : Int32)) → Ev (d + 1) 196 5 [.ref a0] [] h33 Q)))))) : Ev (d + 1) 196 5 [.ref a0] [] h Q := by
  refine ev_p (pc' := 7) (loc' := [.ref a0]) (st' := [.ref a0, .ref a0]) 2 am_q196 rfl ?_
  obtain ⟨g1, H⟩ := H
  refine ev_s (pc' := 10) (loc' := [.ref a0]) (st' := [.int (am_gi h a0 51), .ref a0]) (h1 := h) am_q196 rfl rfl rfl (if_pos (e := none) g1) ?_
  obtain ⟨g4, H⟩ := H
  refine ev_c (vs := [.ref a0, .int (am_gi h a0 51)]) (rest := []) 192 am_q196 rfl rfl rfl rfl rfl rfl rfl rfl rfl rfl rfl rfl (Or.inr (congrArg some g4)) (Cl.mono H (Nat.le_refl _) (fun r3 h2 H => ?_))
  obtain ⟨x5, rfl, H⟩ := H
  refine ev_c (vs := [.int x5]) (rest := []) 194 am_q196 rfl rfl rfl rfl rfl rfl rfl rfl rfl rfl rfl rfl (Or.inl rfl) (Cl.mono H (Nat.le_refl _) (fun r7 h6 H => ?_))
  obtain ⟨x8, rfl, H⟩ := H
  refine ev_jz (t := 76) am_q196 rfl rfl (fun hq => ?_) (fun hq => ?_)
  · replace H := H.1 hq
    refine ev_p (pc' := 78) (loc' := [.ref a0]) (st' := [.ref a0, .ref a0]) 2 am_q196 rfl ?_
    obtain ⟨g9, H⟩ := H
    refine ev_s (pc' := 81) (loc' := [.ref a0]) (st' := [.int (am_gi h6 a0 51), .ref a0]) (h1 := h6) am_q196 rfl rfl rfl (if_pos (e := none) g9) ?_
    refine ev_p (pc' := 82) (loc' := [.ref a0]) (st' := [.ref a0, .int (am_gi h6 a0 51), .ref a0]) 1 am_q196 rfl ?_
    obtain ⟨g10, H⟩ := H
    refine ev_s (pc' := 85) (loc' := [.ref a0]) (st' := [.int (am_gi h6 a0 52), .int (am_gi h6 a0 51), .ref a0]) (h1 := h6) am_q196 rfl rfl rfl (if_pos (e := none) g10) ?_
    refine ev_p (pc' := 88) (loc' := [.ref a0]) (st' := [.int (6 : Int32), .int ((am_gi h6 a0 51) - (am_gi h6 a0 52)), .ref a0]) 2 am_q196 rfl ?_
    refine ev_jc (t := 95) am_q196 rfl rfl (fun hq => ?_) (fun hq => ?_)
    · replace H := H.1 hq
      refine ev_p (pc' := 96) (loc' := [.ref a0]) (st' := [.int (1 : Int32), .ref a0]) 1 am_q196 rfl ?_
      obtain ⟨g11, H⟩ := H
      refine ev_s (pc' := 99) (loc' := [.null]) (st' := []) (h1 := am_si h6 a0 53 (1 : Int32)) am_q196 rfl rfl rfl (if_pos (e := none) g11) ?_
      replace H := H _ rfl
      generalize am_si h6 a0 53 (1 : Int32) = h12 at H ⊢
      exact ev_r (v := none) am_q196 rfl rfl rfl rfl H
    · replace H := H.2 hq
      refine ev_p (pc' := 96) (loc' := [.ref a0]) (st' := [.int (2 : Int32), .ref a0]) 2 am_q196 rfl ?_
      obtain ⟨g13, H⟩ := H
      refine ev_s (pc' := 99) (loc' := [.null]) (st' := []) (h1 := am_si h6 a0 53 (2 : Int32)) am_q196 rfl rfl rfl (if_pos (e := none) g13) ?_
      replace H := H _ rfl
      generalize am_si h6 a0 53 (2 : Int32) = h14 at H ⊢
      exact ev_r (v := none) am_q196 rfl rfl rfl rfl H
  · replace H := H.2 hq
    refine ev_p (pc' := 21) (loc' := [.ref a0]) (st' := [.ref a0, .ref a0]) 2 am_q196 rfl ?_
    obtain ⟨g15, H⟩ := H
    refine ev_s (pc' := 24) (loc' := [.ref a0]) (st' := [.int (am_gi h6 a0 51), .ref a0]) (h1 := h6) am_q196 rfl rfl rfl (if_pos (e := none) g15) ?_
    refine ev_p (pc' := 25) (loc' := [.ref a0]) (st' := [.ref a0, .int (am_gi h6 a0 51), .ref a0]) 1 am_q196 rfl ?_
    obtain ⟨g16, H⟩ := H
    refine ev_s (pc' := 28) (loc' := [.ref a0]) (st' := [.int (am_gi h6 a0 52), .int (am_gi h6 a0 51), .ref a0]) (h1 := h6) am_q196 rfl rfl rfl (if_pos (e := none) g16) ?_
    refine ev_p (pc' := 31) (loc' := [.ref a0]) (st' := [.int (6 : Int32), .int ((am_gi h6 a0 51) - (am_gi h6 a0 52)), .ref a0]) 2 am_q196 rfl ?_
    refine ev_jc (t := 56) am_q196 rfl rfl (fun hq => ?_) (fun hq => ?_)
    · replace H := H.1 hq
      refine ev_p (pc' := 57) (loc' := [.ref a0]) (st' := [.ref a0, .ref a0]) 1 am_q196 rfl ?_
      obtain ⟨g17, H⟩ := H
      refine ev_s (pc' := 60) (loc' := [.ref a0]) (st' := [.int (am_gi h6 a0 54), .ref a0]) (h1 := h6) am_q196 rfl rfl rfl (if_pos (e := none) g17) ?_
      obtain ⟨g18, H⟩ := H
      refine ev_s (pc' := 63) (loc' := [.ref a0]) (st' := []) (h1 := am_si h6 a0 54 (am_gi h6 a0 54)) am_q196 rfl rfl rfl (if_pos (e := none) g18) ?_
      replace H := H _ rfl
      generalize am_si h6 a0 54 (am_gi h6 a0 54) = h19 at H ⊢
      refine ev_p (pc' := 65) (loc' := [.ref a0]) (st' := [.ref a0, .ref a0]) 2 am_q196 rfl ?_
      obtain ⟨g20, H⟩ := H
      refine ev_s (pc' := 68) (loc' := [.ref a0]) (st' := [.int (am_gi h19 a0 51), .ref a0]) (h1 := h19) am_q196 rfl rfl rfl (if_pos (e := none) g20) ?_
      refine ev_p (pc' := 70) (loc' := [.ref a0]) (st' := [.int ((am_gi h19 a0 51) + (1 : Int32)), .ref a0]) 2 am_q196 rfl ?_
      obtain ⟨g21, H⟩ := H
      refine ev_s (pc' := 73) (loc' := [.ref a0]) (st' := []) (h1 := am_si h19 a0 51 ((am_gi h19 a0 51) + (1 : Int32))) am_q196 rfl rfl rfl (if_pos (e := none) g21) ?_
      replace H := H _ rfl
      generalize am_si h19 a0 51 ((am_gi h19 a0 51) + (1 : Int32)) = h22 at H ⊢
      refine ev_p (pc' := 5) (loc' := [.ref a0]) (st' := []) 1 am_q196 rfl ?_
      exact ev_m (loc' := [.ref a0]) am_q196 rfl rfl H
    · replace H := H.2 hq
      refine ev_p (pc' := 37) (loc' := [.ref a0]) (st' := [.ref a0, .int (10 : Int32), .ref a0]) 2 am_q196 rfl ?_
      obtain ⟨g23, H⟩ := H
      refine ev_s (pc' := 40) (loc' := [.ref a0]) (st' := [.int (am_gi h6 a0 54), .int (10 : Int32), .ref a0]) (h1 := h6) am_q196 rfl rfl rfl (if_pos (e := none) g23) ?_
      refine ev_p (pc' := 43) (loc' := [.ref a0]) (st' := [.ref a0, .ref a0, .int ((10 : Int32) * (am_gi h6 a0 54)), .ref a0]) 3 am_q196 rfl ?_
      obtain ⟨g24, H⟩ := H
      refine ev_s (pc' := 46) (loc' := [.ref a0]) (st' := [.int (am_gi h6 a0 51), .ref a0, .int ((10 : Int32) * (am_gi h6 a0 54)), .ref a0]) (h1 := h6) am_q196 rfl rfl rfl (if_pos (e := none) g24) ?_
      obtain ⟨g27, H⟩ := H
      refine ev_c (vs := [.ref a0, .int (am_gi h6 a0 51)]) (rest := [.int ((10 : Int32) * (am_gi h6 a0 54)), .ref a0]) 192 am_q196 rfl rfl rfl rfl rfl rfl rfl rfl rfl rfl rfl rfl (Or.inr (congrArg some g27)) (Cl.mono H (Nat.le_refl _) (fun r26 h25 H => ?_))
      obtain ⟨x28, rfl, H⟩ := H
      refine ev_p (pc' := 60) (loc' := [.ref a0]) (st' := [.int ((((10 : Int32) * (am_gi h6 a0 54)) + x28) - (48 : Int32)), .ref a0]) 4 am_q196 rfl ?_
      obtain ⟨g29, H⟩ := H
      refine ev_s (pc' := 63) (loc' := [.ref a0]) (st' := []) (h1 := am_si h25 a0 54 ((((10 : Int32) * (am_gi h6 a0 54)) + x28) - (48 : Int32))) am_q196 rfl rfl rfl (if_pos (e := none) g29) ?_
      replace H := H _ rfl
      generalize am_si h25 a0 54 ((((10 : Int32) * (am_gi h6 a0 54)) + x28) - (48 : Int32)) = h30 at H ⊢
      refine ev_p (pc' := 65) (loc' := [.ref a0]) (st' := [.ref a0, .ref a0]) 2 am_q196 rfl ?_
      obtain ⟨g31, H⟩ := H
      refine ev_s (pc' := 68) (loc' := [.ref a0]) (st' := [.int (am_gi h30 a0 51), .ref a0]) (h1 := h30) am_q196 rfl rfl rfl (if_pos (e := none) g31) ?_
      refine ev_p (pc' := 70) (loc' := [.ref a0]) (st' := [.int ((am_gi h30 a0 51) + (1 : Int32)), .ref a0]) 2 am_q196 rfl ?_
      obtain ⟨g32, H⟩ := H
      refine ev_s (pc' := 73) (loc' := [.ref a0]) (st' := []) (h1 := am_si h30 a0 51 ((am_gi h30 a0 51) + (1 : Int32))) am_q196 rfl rfl rfl (if_pos (e := none) g32) ?_
      replace H := H _ rfl
      generalize am_si h30 a0 51 ((am_gi h30 a0 51) + (1 : Int32)) = h33 at H ⊢
      refine ev_p (pc' := 5) (loc' := [.ref a0]) (st' := []) 1 am_q196 rfl ?_
      exact ev_m (loc' := [.ref a0]) am_q196 rfl rfl H
/-! 197: X12_word -/
theorem am_q197 : (am_mt 197).2.2.2.2.2 = am_m197.2.2.2.2.2 := rfl
set_option maxRecDepth 20000 in
set_option maxHeartbeats 2000000 in
theorem wp197 {d : Nat} (a0 : Nat) {h : AH} {Q : Option Value → AH → Prop} (H : am_kd h a0 = 12 ∧ am_kd h a0 = 12 ∧ Cl d 192 [.ref a0, .int (am_gi h a0 51)] h (fun r3 h2 => ∃ x5, r3 = some (.int x5) ∧ Cl d 193 [.int x5] h2 (fun r7 h6 => ∃ x8, r7 = some (.int x8) ∧ (x8 = (0 : Int32) → am_kd h6 a0 = 12 ∧ ∀ h10, h10 = am_si h6 a0 53 (2 : Int32) → Ev (d + 1) 197 41 [.ref a0, .int (0 : Int32), .int (0 : Int32), .int (1 : Int32), .int (0 : Int32)] [] h10 Q) ∧ (¬ x8 = (0 : Int32) → am_kd h6 a0 = 12 ∧ am_kd h6 a0 = 12 ∧ ∀ h13, h13 = am_si h6 a0 51 ((am_gi h6 a0 51) + (1 : Int32)) → Ev (d + 1) 197 0 [.ref a0, .null, .null, .null, .null] [] h13 Q)))) : Cl (d + 1) 197 [.ref a0] h Q := by
  show Ev (d + 1) 197 0 [.ref a0, .null, .null, .null, .null] [] h Q
  refine ev_p (pc' := 2) (loc' := [.ref a0, .null, .null, .null, .null]) (st' := [.ref a0, .ref a0]) 2 am_q197 rfl ?_
  obtain ⟨g1, H⟩ := H
  refine ev_s (pc' := 5) (loc' := [.ref a0, .null, .null, .null, .null]) (st' := [.int (am_gi h a0 51), .ref a0]) (h1 := h) am_q197 rfl rfl rfl (if_pos (e := none) g1) ?_
  obtain ⟨g4, H⟩ := H
  refine ev_c (vs := [.ref a0, .int (am_gi h a0 51)]) (rest := []) 192 am_q197 rfl rfl rfl rfl rfl rfl rfl rfl rfl rfl rfl rfl (Or.inr (congrArg some g4)) (Cl.mono H (Nat.le_refl _) (fun r3 h2 H => ?_))
  obtain ⟨x5, rfl, H⟩ := H
  refine ev_c (vs := [.int x5]) (rest := []) 193 am_q197 rfl rfl rfl rfl rfl rfl rfl rfl rfl rfl rfl rfl (Or.inl rfl) (Cl.mono H (Nat.le_refl _) (fun r7 h6 H => ?_))
  obtain ⟨x8, rfl, H⟩ := H
  refine ev_jz (t := 27) am_q197 rfl rfl (fun hq => ?_) (fun hq => ?_)
  · replace H := H.1 hq
    refine ev_p (pc' := 35) (loc' := [.ref a0, .int (0 : Int32), .int (0 : Int32), .int (1 : Int32), .null]) (st' := [.int (2 : Int32), .ref a0]) 8 am_q197 rfl ?_
    obtain ⟨g9, H⟩ := H
    refine ev_s (pc' := 38) (loc' := [.ref a0, .int (0 : Int32), .int (0 : Int32), .int (1 : Int32), .null]) (st' := []) (h1 := am_si h6 a0 53 (2 : Int32)) am_q197 rfl rfl rfl (if_pos (e := none) g9) ?_
    replace H := H _ rfl
    generalize am_si h6 a0 53 (2 : Int32) = h10 at H ⊢
    refine ev_p (pc' := 41) (loc' := [.ref a0, .int (0 : Int32), .int (0 : Int32), .int (1 : Int32), .int (0 : Int32)]) (st' := []) 2 am_q197 rfl ?_
    exact ev_m (loc' := [.ref a0, .int (0 : Int32), .int (0 : Int32), .int (1 : Int32), .int (0 : Int32)]) am_q197 rfl rfl H
  · replace H := H.2 hq
    refine ev_p (pc' := 16) (loc' := [.ref a0, .null, .null, .null, .null]) (st' := [.ref a0, .ref a0]) 2 am_q197 rfl ?_
    obtain ⟨g11, H⟩ := H
    refine ev_s (pc' := 19) (loc' := [.ref a0, .null, .null, .null, .null]) (st' := [.int (am_gi h6 a0 51), .ref a0]) (h1 := h6) am_q197 rfl rfl rfl (if_pos (e := none) g11) ?_
    refine ev_p (pc' := 21) (loc' := [.ref a0, .null, .null, .null, .null]) (st' := [.int ((am_gi h6 a0 51) + (1 : Int32)), .ref a0]) 2 am_q197 rfl ?_
    obtain ⟨g12, H⟩ := H
    refine ev_s (pc' := 24) (loc' := [.ref a0, .null, .null, .null, .null]) (st' := []) (h1 := am_si h6 a0 51 ((am_gi h6 a0 51) + (1 : Int32))) am_q197 rfl rfl rfl (if_pos (e := none) g12) ?_
    replace H := H _ rfl
    generalize am_si h6 a0 51 ((am_gi h6 a0 51) + (1 : Int32)) = h13 at H ⊢
    refine ev_p (pc' := 0) (loc' := [.ref a0, .null, .null, .null, .null]) (st' := []) 1 am_q197 rfl ?_
    exact ev_m (loc' := [.ref a0, .null, .null, .null, .null]) am_q197 rfl rfl H
set_option maxRecDepth 20000 in
set_option maxHeartbeats 2000000 in
theorem wp197_41 {d : Nat} (a0 : Nat) (i1 : Int32) (i2 : Int32) (i3 : Int32) (i4 : Int32) {h : AH} {Q : Option Value → AH → Prop} (H : am_kd h a0 = 12 ∧ ∃ b2, am_gr h a0 49 = some b2 ∧ (100 ≤ am_kd h b2 ∧ am_kd h b2 ≤ 109) ∧ ((Int32.ofNat (am_ln h b2)) ≤ i4 → Q none h) ∧ (¬ (Int32.ofNat (am_ln h b2)) ≤ i4 → am_kd h a0 = 12 ∧ ∃ b6, am_gr h a0 49 = some b6 ∧ am_kd h b6 = 100 ∧ am_in i4 (am_ln h b6) ∧ ((¬ (am_gi h b6 (Int32.toNatClampNeg i4)) = (0 : Int32)) → (i3 = (0 : Int32) → Ev (d + 1) 197 41 [.ref a0, .int i1, .int (i2 + (1 : Int32)), .int (0 : Int32), .int (i4 + (1 : Int32))] [] h Q) ∧ (¬ i3 = (0 : Int32) → am_kd h a0 = 12 ∧ am_kd h a0 = 12 ∧ Cl d 192 [.ref a0, .int ((am_gi h a0 52) + i2)] h (fun r12 h11 => ∃ x14, r12 = some (.int x14) ∧ am_kd h11 a0 = 12 ∧ ∃ b16, am_gr h11 a0 49 = some b16 ∧ am_kd h11 b16 = 100 ∧ am_in i4 (am_ln h11 b16) ∧ ((¬ x14 = (am_gi h11 b16 (Int32.toNatClampNeg i4))) → Ev (d + 1) 197 41 [.ref a0, .int i1, .int (i2 + (1 : Int32)), .int (0 : Int32), .int (i4 + (1 : Int32))] [] h11 Q) ∧ (¬ (¬ x14 = (am_gi h11 b16 (Int32.toNatClampNeg i4))) → am_kd h11 a0 = 12 ∧ am_kd h11 a0 = 12 ∧ (((am_gi h11 a0 51) - (am_gi h11 a0 52)) ≤ i2 → Ev (d + 1) 197 41 [.ref a0, .int i1, .int (i2 + (1 : Int32)), .int (0 : Int32), .int (i4 + (1 : Int32))] [] h11 Q) ∧ (¬ ((am_gi h11 a0 51) - (am_gi h11 a0 52)) ≤ i2 → Ev (d + 1) 197 41 [.ref a0, .int i1, .int (i2 + (1 : Int32)), .int (1 : Int32), .int (i4 + (1 : Int32))] [] h11 Q))))) ∧ (¬ (¬ (am_gi h b6 (Int32.toNatClampNeg i4)) = (0 : Int32)) → (i3 = (0 : Int32) → Ev (d + 1) 197 105 [.ref a0, .int i1, .null, .null, .int i4] [] h Q) ∧ (¬ i3 = (0 : Int32) → am_kd h a0 = 12 ∧ am_kd h a0 = 12 ∧ ((¬ i2 = ((am_gi h a0 51) - (am_gi h a0 52))) → Ev (d + 1) 197 105 [.ref a0, .int i1, .null, .null, .int i4] [] h Q) ∧ (¬ (¬ i2 = ((am_gi h a0 51) - (am_gi h a0 52))) → ((8 : Int32) ≤ i1 → am_kd h a0 = 12 ∧ ∀ h25, h25 = am_si h a0 53 (((300 : Int32) + i1) - (8 : Int32)) → am_kd h25 a0 = 12 ∧ ∀ h27, h27 = am_si h25 a0 54 i1 → Ev (d + 1) 197 105 [.ref a0, .int i1, .null, .null, .int i4] [] h27 Q) ∧ (¬ (8 : Int32) ≤ i1 → am_kd h a0 = 12 ∧ ∀ h29, h29 = am_si h a0 53 (3 : Int32) → am_kd h29 a0 = 12 ∧ ∀ h31, h31 = am_si h29 a0 54 i1 → Ev (d + 1) 197 105 [.ref a0, .int i1, .null, .null, .int i4] [] h31 Q)))))) : Ev (d + 1) 197 41 [.ref a0, .int i1, .int i2, .int i3, .int i4] [] h Q := by
  refine ev_p (pc' := 44) (loc' := [.ref a0, .int i1, .int i2, .int i3, .int i4]) (st' := [.ref a0, .int i4]) 2 am_q197 rfl ?_
  obtain ⟨g1, b2, e3, H⟩ := H
  refine ev_s (pc' := 47) (loc' := [.ref a0, .int i1, .int i2, .int i3, .int i4]) (st' := [.ref b2, .int i4]) (h1 := h) am_q197 rfl rfl rfl (am_gf2 g1 e3) ?_
  obtain ⟨g4, H⟩ := H
  refine ev_s (pc' := 48) (loc' := [.ref a0, .int i1, .int i2, .int i3, .int i4]) (st' := [.int (Int32.ofNat (am_ln h b2)), .int i4]) (h1 := h) am_q197 rfl rfl rfl (if_pos (e := none) g4) ?_
  refine ev_jc (t := 167) am_q197 rfl rfl (fun hq => ?_) (fun hq => ?_)
  · replace H := H.1 hq
    exact ev_r (v := none) am_q197 rfl rfl rfl rfl H
  · replace H := H.2 hq
    refine ev_p (pc' := 52) (loc' := [.ref a0, .int i1, .int i2, .int i3, .int i4]) (st' := [.ref a0]) 1 am_q197 rfl ?_
    obtain ⟨g5, b6, e7, H⟩ := H
    refine ev_s (pc' := 55) (loc' := [.ref a0, .int i1, .int i2, .int i3, .int i4]) (st' := [.ref b6]) (h1 := h) am_q197 rfl rfl rfl (am_gf2 g5 e7) ?_
    refine ev_p (pc' := 57) (loc' := [.ref a0, .int i1, .int i2, .int i3, .int i4]) (st' := [.int i4, .ref b6]) 1 am_q197 rfl ?_
    obtain ⟨g8, g9, H⟩ := H
    refine ev_s (pc' := 58) (loc' := [.ref a0, .int i1, .int i2, .int i3, .int i4]) (st' := [.int (am_gi h b6 (Int32.toNatClampNeg i4))]) (h1 := h) am_q197 rfl rfl rfl (am_xx g8 g9) ?_
    refine ev_jz (t := 115) am_q197 rfl rfl (fun hq => ?_) (fun hq => ?_)
    · replace H := H.1 hq
      refine ev_p (pc' := 116) (loc' := [.ref a0, .int i1, .int i2, .int i3, .int i4]) (st' := [.int i3]) 1 am_q197 rfl ?_
      refine ev_jz (t := 156) am_q197 rfl rfl (fun hq => ?_) (fun hq => ?_)
      · replace H := H.1 hq
        refine ev_p (pc' := 41) (loc' := [.ref a0, .int i1, .int (i2 + (1 : Int32)), .int (0 : Int32), .int (i4 + (1 : Int32))]) (st' := []) 5 am_q197 rfl ?_
        exact ev_m (loc' := [.ref a0, .int i1, .int (i2 + (1 : Int32)), .int (0 : Int32), .int (i4 + (1 : Int32))]) am_q197 rfl rfl H
      · replace H := H.2 hq
        refine ev_p (pc' := 121) (loc' := [.ref a0, .int i1, .int i2, .int i3, .int i4]) (st' := [.ref a0, .ref a0]) 2 am_q197 rfl ?_
        obtain ⟨g10, H⟩ := H
        refine ev_s (pc' := 124) (loc' := [.ref a0, .int i1, .int i2, .int i3, .int i4]) (st' := [.int (am_gi h a0 52), .ref a0]) (h1 := h) am_q197 rfl rfl rfl (if_pos (e := none) g10) ?_
        refine ev_p (pc' := 126) (loc' := [.ref a0, .int i1, .int i2, .int i3, .int i4]) (st' := [.int ((am_gi h a0 52) + i2), .ref a0]) 2 am_q197 rfl ?_
        obtain ⟨g13, H⟩ := H
        refine ev_c (vs := [.ref a0, .int ((am_gi h a0 52) + i2)]) (rest := []) 192 am_q197 rfl rfl rfl rfl rfl rfl rfl rfl rfl rfl rfl rfl (Or.inr (congrArg some g13)) (Cl.mono H (Nat.le_refl _) (fun r12 h11 H => ?_))
        obtain ⟨x14, rfl, H⟩ := H
        refine ev_p (pc' := 130) (loc' := [.ref a0, .int i1, .int i2, .int i3, .int i4]) (st' := [.ref a0, .int x14]) 1 am_q197 rfl ?_
        obtain ⟨g15, b16, e17, H⟩ := H
        refine ev_s (pc' := 133) (loc' := [.ref a0, .int i1, .int i2, .int i3, .int i4]) (st' := [.ref b16, .int x14]) (h1 := h11) am_q197 rfl rfl rfl (am_gf2 g15 e17) ?_
        refine ev_p (pc' := 135) (loc' := [.ref a0, .int i1, .int i2, .int i3, .int i4]) (st' := [.int i4, .ref b16, .int x14]) 1 am_q197 rfl ?_
        obtain ⟨g18, g19, H⟩ := H
        refine ev_s (pc' := 136) (loc' := [.ref a0, .int i1, .int i2, .int i3, .int i4]) (st' := [.int (am_gi h11 b16 (Int32.toNatClampNeg i4)), .int x14]) (h1 := h11) am_q197 rfl rfl rfl (am_xx g18 g19) ?_
        refine ev_jc (t := 156) am_q197 rfl rfl (fun hq => ?_) (fun hq => ?_)
        · replace H := H.1 hq
          refine ev_p (pc' := 41) (loc' := [.ref a0, .int i1, .int (i2 + (1 : Int32)), .int (0 : Int32), .int (i4 + (1 : Int32))]) (st' := []) 5 am_q197 rfl ?_
          exact ev_m (loc' := [.ref a0, .int i1, .int (i2 + (1 : Int32)), .int (0 : Int32), .int (i4 + (1 : Int32))]) am_q197 rfl rfl H
        · replace H := H.2 hq
          refine ev_p (pc' := 141) (loc' := [.ref a0, .int i1, .int i2, .int i3, .int i4]) (st' := [.ref a0, .int i2]) 2 am_q197 rfl ?_
          obtain ⟨g20, H⟩ := H
          refine ev_s (pc' := 144) (loc' := [.ref a0, .int i1, .int i2, .int i3, .int i4]) (st' := [.int (am_gi h11 a0 51), .int i2]) (h1 := h11) am_q197 rfl rfl rfl (if_pos (e := none) g20) ?_
          refine ev_p (pc' := 145) (loc' := [.ref a0, .int i1, .int i2, .int i3, .int i4]) (st' := [.ref a0, .int (am_gi h11 a0 51), .int i2]) 1 am_q197 rfl ?_
          obtain ⟨g21, H⟩ := H
          refine ev_s (pc' := 148) (loc' := [.ref a0, .int i1, .int i2, .int i3, .int i4]) (st' := [.int (am_gi h11 a0 52), .int (am_gi h11 a0 51), .int i2]) (h1 := h11) am_q197 rfl rfl rfl (if_pos (e := none) g21) ?_
          refine ev_p (pc' := 149) (loc' := [.ref a0, .int i1, .int i2, .int i3, .int i4]) (st' := [.int ((am_gi h11 a0 51) - (am_gi h11 a0 52)), .int i2]) 1 am_q197 rfl ?_
          refine ev_jc (t := 156) am_q197 rfl rfl (fun hq => ?_) (fun hq => ?_)
          · replace H := H.1 hq
            refine ev_p (pc' := 41) (loc' := [.ref a0, .int i1, .int (i2 + (1 : Int32)), .int (0 : Int32), .int (i4 + (1 : Int32))]) (st' := []) 5 am_q197 rfl ?_
            exact ev_m (loc' := [.ref a0, .int i1, .int (i2 + (1 : Int32)), .int (0 : Int32), .int (i4 + (1 : Int32))]) am_q197 rfl rfl H
          · replace H := H.2 hq
            refine ev_p (pc' := 41) (loc' := [.ref a0, .int i1, .int (i2 + (1 : Int32)), .int (1 : Int32), .int (i4 + (1 : Int32))]) (st' := []) 6 am_q197 rfl ?_
            exact ev_m (loc' := [.ref a0, .int i1, .int (i2 + (1 : Int32)), .int (1 : Int32), .int (i4 + (1 : Int32))]) am_q197 rfl rfl H
    · replace H := H.2 hq
      refine ev_p (pc' := 62) (loc' := [.ref a0, .int i1, .int i2, .int i3, .int i4]) (st' := [.int i3]) 1 am_q197 rfl ?_
      refine ev_jz (t := 105) am_q197 rfl rfl (fun hq => ?_) (fun hq => ?_)
      · replace H := H.1 hq
        exact ev_m (loc' := [.ref a0, .int i1, .null, .null, .int i4]) am_q197 rfl rfl H
      · replace H := H.2 hq
        refine ev_p (pc' := 67) (loc' := [.ref a0, .int i1, .int i2, .int i3, .int i4]) (st' := [.ref a0, .int i2]) 2 am_q197 rfl ?_
        obtain ⟨g22, H⟩ := H
        refine ev_s (pc' := 70) (loc' := [.ref a0, .int i1, .int i2, .int i3, .int i4]) (st' := [.int (am_gi h a0 51), .int i2]) (h1 := h) am_q197 rfl rfl rfl (if_pos (e := none) g22) ?_
        refine ev_p (pc' := 71) (loc' := [.ref a0, .int i1, .int i2, .int i3, .int i4]) (st' := [.ref a0, .int (am_gi h a0 51), .int i2]) 1 am_q197 rfl ?_
        obtain ⟨g23, H⟩ := H
        refine ev_s (pc' := 74) (loc' := [.ref a0, .int i1, .int i2, .int i3, .int i4]) (st' := [.int (am_gi h a0 52), .int (am_gi h a0 51), .int i2]) (h1 := h) am_q197 rfl rfl rfl (if_pos (e := none) g23) ?_
        refine ev_p (pc' := 75) (loc' := [.ref a0, .int i1, .int i2, .int i3, .int i4]) (st' := [.int ((am_gi h a0 51) - (am_gi h a0 52)), .int i2]) 1 am_q197 rfl ?_
        refine ev_jc (t := 105) am_q197 rfl rfl (fun hq => ?_) (fun hq => ?_)
        · replace H := H.1 hq
          exact ev_m (loc' := [.ref a0, .int i1, .null, .null, .int i4]) am_q197 rfl rfl H
        · replace H := H.2 hq
          refine ev_p (pc' := 82) (loc' := [.ref a0, .int i1, .int i2, .int i3, .int i4]) (st' := [.int (8 : Int32), .int i1, .ref a0]) 3 am_q197 rfl ?_
          refine ev_jc (t := 89) am_q197 rfl rfl (fun hq => ?_) (fun hq => ?_)
          · replace H := H.1 hq
            refine ev_p (pc' := 97) (loc' := [.ref a0, .int i1, .int i2, .int i3, .int i4]) (st' := [.int (((300 : Int32) + i1) - (8 : Int32)), .ref a0]) 5 am_q197 rfl ?_
            obtain ⟨g24, H⟩ := H
            refine ev_s (pc' := 100) (loc' := [.ref a0, .int i1, .null, .null, .int i4]) (st' := []) (h1 := am_si h a0 53 (((300 : Int32) + i1) - (8 : Int32))) am_q197 rfl rfl rfl (if_pos (e := none) g24) ?_
            replace H := H _ rfl
            generalize am_si h a0 53 (((300 : Int32) + i1) - (8 : Int32)) = h25 at H ⊢
            refine ev_p (pc' := 102) (loc' := [.ref a0, .int i1, .null, .null, .int i4]) (st' := [.int i1, .ref a0]) 2 am_q197 rfl ?_
            obtain ⟨g26, H⟩ := H
            refine ev_s (pc' := 105) (loc' := [.ref a0, .int i1, .null, .null, .int i4]) (st' := []) (h1 := am_si h25 a0 54 i1) am_q197 rfl rfl rfl (if_pos (e := none) g26) ?_
            replace H := H _ rfl
            generalize am_si h25 a0 54 i1 = h27 at H ⊢
            exact ev_m (loc' := [.ref a0, .int i1, .null, .null, .int i4]) am_q197 rfl rfl H
          · replace H := H.2 hq
            refine ev_p (pc' := 97) (loc' := [.ref a0, .int i1, .int i2, .int i3, .int i4]) (st' := [.int (3 : Int32), .ref a0]) 2 am_q197 rfl ?_
            obtain ⟨g28, H⟩ := H
            refine ev_s (pc' := 100) (loc' := [.ref a0, .int i1, .null, .null, .int i4]) (st' := []) (h1 := am_si h a0 53 (3 : Int32)) am_q197 rfl rfl rfl (if_pos (e := none) g28) ?_
            replace H := H _ rfl
            generalize am_si h a0 53 (3 : Int32) = h29 at H ⊢
            refine ev_p (pc' := 102) (loc' := [.ref a0, .int i1, .null, .null, .int i4]) (st' := [.int i1, .ref a0]) 2 am_q197 rfl ?_
            obtain ⟨g30, H⟩ := H
            refine ev_s (pc' := 105) (loc' := [.ref a0, .int i1, .null, .null, .int i4]) (st' := []) (h1 := am_si h29 a0 54 i1) am_q197 rfl rfl rfl (if_pos (e := none) g30) ?_
            replace H := H _ rfl
            generalize am_si h29 a0 54 i1 = h31 at H ⊢
            exact ev_m (loc' := [.ref a0, .int i1, .null, .null, .int i4]) am_q197 rfl rfl H
set_option maxRecDepth 20000 in
set_option maxHeartbeats 2000000 in
theorem wp197_105 {d : Nat} (a0 : Nat) (i1 : Int32) (i4 : Int32) {h : AH} {Q : Option Value → AH → Prop} (H : Ev (d + 1) 197 41 [.ref a0, .int (i1 + (1 : Int32)), .int (0 : Int32), .int (1 : Int32), .int (i4 + (1 : Int32))] [] h Q) : Ev (d + 1) 197 105 [.ref a0, .int i1, .null, .null, .int i4] [] h Q := by
  refine ev_p (pc' := 41) (loc' := [.ref a0, .int (i1 + (1 : Int32)), .int (0 : Int32), .int (1 : Int32), .int (i4 + (1 : Int32))]) (st' := []) 8 am_q197 rfl ?_
  exact ev_m (loc' := [.ref a0, .int (i1 + (1 : Int32)), .int (0 : Int32), .int (1 : Int32), .int (i4 + (1 : Int32))]) am_q197 rfl rfl H
/-! 198: X12_isWrong -/
theorem am_q198 : (am_mt 198).2.2.2.2.2 = am_m198.2.2.2.2.2 := rfl
set_option maxRecDepth 20000 in
set_option maxHeartbeats 2000000 in
theorem wp198 {d : Nat} (a0 : Nat) {h : AH} {Q : Option Value → AH → Prop} (H : am_kd h a0 = 12 ∧ ((am_gi h a0 55) = (-1 : Int32) → Q (some (.int (0 : Int32))) h) ∧ (¬ (am_gi h a0 55) = (-1 : Int32) → Q (some (.int (1 : Int32))) h)) : Cl d 198 [.ref a0] h Q := by
  show Ev d 198 0 [.ref a0] [] h Q
  refine ev_p (pc' := 1) (loc' := [.ref a0]) (st' := [.ref a0]) 1 am_q198 rfl ?_
  obtain ⟨g1, H⟩ := H
  refine ev_s (pc' := 4) (loc' := [.ref a0]) (st' := [.int (am_gi h a0 55)]) (h1 := h) am_q198 rfl rfl rfl (if_pos (e := none) g1) ?_
  refine ev_p (pc' := 5) (loc' := [.ref a0]) (st' := [.int (-1 : Int32), .int (am_gi h a0 55)]) 1 am_q198 rfl ?_
  refine ev_jc (t := 12) am_q198 rfl rfl (fun hq => ?_) (fun hq => ?_)
  · replace H := H.1 hq
    refine ev_p (pc' := 13) (loc' := [.ref a0]) (st' := [.int (0 : Int32)]) 1 am_q198 rfl ?_
    exact ev_r (v := some (.int (0 : Int32))) am_q198 rfl rfl rfl rfl H
  · replace H := H.2 hq
    refine ev_p (pc' := 13) (loc' := [.ref a0]) (st' := [.int (1 : Int32)]) 2 am_q198 rfl ?_
    exact ev_r (v := some (.int (1 : Int32))) am_q198 rfl rfl rfl rfl H
/-! 199: X12_cannot -/
theorem am_q199 : (am_mt 199).2.2.2.2.2 = am_m199.2.2.2.2.2 := rfl
set_option maxRecDepth 20000 in
set_option maxHeartbeats 2000000 in
theorem wp199 {d : Nat} (a0 : Nat) {h : AH} {Q : Option Value → AH → Prop} (H : am_kd h a0 = 12 ∧ ((¬ (am_gi h a0 55) = (-1 : Int32)) → am_kd h a0 = 12 ∧ am_kd h a0 = 12 ∧ ∀ h4, h4 = am_si h a0 55 (am_gi h a0 55) → Q none h4) ∧ (¬ (¬ (am_gi h a0 55) = (-1 : Int32)) → am_kd h a0 = 12 ∧ am_kd h a0 = 12 ∧ ∀ h7, h7 = am_si h a0 55 (am_gi h a0 52) → Q none h7)) : Cl d 199 [.ref a0] h Q := by
  show Ev d 199 0 [.ref a0] [] h Q
  refine ev_p (pc' := 2) (loc' := [.ref a0]) (st' := [.ref a0, .ref a0]) 2 am_q199 rfl ?_
  obtain ⟨g1, H⟩ := H
  refine ev_s (pc' := 5) (loc' := [.ref a0]) (st' := [.int (am_gi h a0 55), .ref a0]) (h1 := h) am_q199 rfl rfl rfl (if_pos (e := none) g1) ?_
  refine ev_p (pc' := 6) (loc' := [.ref a0]) (st' := [.int (-1 : Int32), .int (am_gi h a0 55), .ref a0]) 1 am_q199 rfl ?_
  refine ev_jc (t := 16) am_q199 rfl rfl (fun hq => ?_) (fun hq => ?_)
  · replace H := H.1 hq
    refine ev_p (pc' := 17) (loc' := [.ref a0]) (st' := [.ref a0, .ref a0]) 1 am_q199 rfl ?_
    obtain ⟨g2, H⟩ := H
    refine ev_s (pc' := 20) (loc' := [.ref a0]) (st' := [.int (am_gi h a0 55), .ref a0]) (h1 := h) am_q199 rfl rfl rfl (if_pos (e := none) g2) ?_
    obtain ⟨g3, H⟩ := H
    refine ev_s (pc' := 23) (loc' := [.null]) (st' := []) (h1 := am_si h a0 55 (am_gi h a0 55)) am_q199 rfl rfl rfl (if_pos (e := none) g3) ?_
    replace H := H _ rfl
    generalize am_si h a0 55 (am_gi h a0 55) = h4 at H ⊢
    exact ev_r (v := none) am_q199 rfl rfl rfl rfl H
  · replace H := H.2 hq
    refine ev_p (pc' := 10) (loc' := [.ref a0]) (st' := [.ref a0, .ref a0]) 1 am_q199 rfl ?_
    obtain ⟨g5, H⟩ := H
    refine ev_s (pc' := 13) (loc' := [.ref a0]) (st' := [.int (am_gi h a0 52), .ref a0]) (h1 := h) am_q199 rfl rfl rfl (if_pos (e := none) g5) ?_
    refine ev_p (pc' := 20) (loc' := [.ref a0]) (st' := [.int (am_gi h a0 52), .ref a0]) 1 am_q199 rfl ?_
    obtain ⟨g6, H⟩ := H
    refine ev_s (pc' := 23) (loc' := [.null]) (st' := []) (h1 := am_si h a0 55 (am_gi h a0 52)) am_q199 rfl rfl rfl (if_pos (e := none) g6) ?_
    replace H := H _ rfl
    generalize am_si h a0 55 (am_gi h a0 52) = h7 at H ⊢
    exact ev_r (v := none) am_q199 rfl rfl rfl rfl H
/-! 200: X12_need -/
theorem am_q200 : (am_mt 200).2.2.2.2.2 = am_m200.2.2.2.2.2 := rfl
set_option maxRecDepth 20000 in
set_option maxHeartbeats 2000000 in
theorem wp200 {d : Nat} (a0 : Nat) (i1 : Int32) {h : AH} {Q : Option Value → AH → Prop} (H : am_kd h a0 = 12 ∧ Cl d 198 [.ref a0] h (fun r2 h1 => ∃ x4, r2 = some (.int x4) ∧ (x4 = (0 : Int32) → am_kd h1 a0 = 12 ∧ ((am_gi h1 a0 53) = i1 → am_kd h1 a0 = 12 ∧ Cl d 195 [.ref a0] h1 (fun r7 h6 => r7 = none ∧ Q none h6)) ∧ (¬ (am_gi h1 a0 53) = i1 → am_kd h1 a0 = 12 ∧ Cl d 199 [.ref a0] h1 (fun r10 h9 => r10 = none ∧ Q none h9))) ∧ (¬ x4 = (0 : Int32) → Q none h1))) : Cl (d + 1) 200 [.ref a0, .int i1] h Q := by
  show Ev (d + 1) 200 0 [.ref a0, .int i1] [] h Q
  refine ev_p (pc' := 1) (loc' := [.ref a0, .int i1]) (st' := [.ref a0]) 1 am_q200 rfl ?_
  obtain ⟨g3, H⟩ := H
  refine ev_c (vs := [.ref a0]) (rest := []) 198 am_q200 rfl rfl rfl rfl rfl rfl rfl rfl rfl rfl rfl rfl (Or.inr (congrArg some g3)) (Cl.mono H (Nat.le_refl _) (fun r2 h1 H => ?_))
  obtain ⟨x4, rfl, H⟩ := H
  refine ev_jz (t := 8) am_q200 rfl rfl (fun hq => ?_) (fun hq => ?_)
  · replace H := H.1 hq
    refine ev_p (pc' := 9) (loc' := [.ref a0, .int i1]) (st' := [.ref a0]) 1 am_q200 rfl ?_
    obtain ⟨g5, H⟩ := H
    refine ev_s (pc' := 12) (loc' := [.ref a0, .int i1]) (st' := [.int (am_gi h1 a0 53)]) (h1 := h1) am_q200 rfl rfl rfl (if_pos (e := none) g5) ?_
    refine ev_p (pc' := 13) (loc' := [.ref a0, .int i1]) (st' := [.int i1, .int (am_gi h1 a0 53)]) 1 am_q200 rfl ?_
    refine ev_jc (t := 23) am_q200 rfl rfl (fun hq => ?_) (fun hq => ?_)
    · replace H := H.1 hq
      refine ev_p (pc' := 24) (loc' := [.ref a0, .int i1]) (st' := [.ref a0]) 1 am_q200 rfl ?_
      obtain ⟨g8, H⟩ := H
      refine ev_c (vs := [.ref a0]) (rest := []) 195 am_q200 rfl rfl rfl rfl rfl rfl rfl rfl rfl rfl rfl rfl (Or.inr (congrArg some g8)) (Cl.mono H (Nat.le_refl _) (fun r7 h6 H => ?_))
      obtain ⟨rfl, H⟩ := H
      exact ev_r (v := none) am_q200 rfl rfl rfl rfl H
    · replace H := H.2 hq
      refine ev_p (pc' := 17) (loc' := [.ref a0, .int i1]) (st' := [.ref a0]) 1 am_q200 rfl ?_
      obtain ⟨g11, H⟩ := H
      refine ev_c (vs := [.ref a0]) (rest := []) 199 am_q200 rfl rfl rfl rfl rfl rfl rfl rfl rfl rfl rfl rfl (Or.inr (congrArg some g11)) (Cl.mono H (Nat.le_refl _) (fun r10 h9 H => ?_))
      obtain ⟨rfl, H⟩ := H
      refine ev_p (pc' := 27) (loc' := [.ref a0, .int i1]) (st' := []) 1 am_q200 rfl ?_
      exact ev_r (v := none) am_q200 rfl rfl rfl rfl H
  · replace H := H.2 hq
    exact ev_r (v := none) am_q200 rfl rfl rfl rfl H
/-! 201: X12_opens -/
theorem am_q201 : (am_mt 201).2.2.2.2.2 = am_m201.2.2.2.2.2 := rfl
set_option maxRecDepth 20000 in
set_option maxHeartbeats 2000000 in
theorem wp201 {d : Nat} (a0 : Nat) {h : AH} {Q : Option Value → AH → Prop} (H : am_kd h a0 = 12 ∧ ((¬ (am_gi h a0 57) = (8 : Int32)) → am_kd h a0 = 12 ∧ am_kd h a0 = 12 ∧ ∀ h4, h4 = am_si h a0 57 ((am_gi h a0 57) + (1 : Int32)) → am_kd h4 a0 = 12 ∧ Cl d 198 [.ref a0] h4 (fun r6 h5 => ∃ x8, r6 = some (.int x8) ∧ ((¬ x8 = (0 : Int32)) → Q none h5) ∧ (¬ (¬ x8 = (0 : Int32)) → am_kd h5 a0 = 12 ∧ Cl d 195 [.ref a0] h5 (fun r10 h9 => r10 = none ∧ Q none h9)))) ∧ (¬ (¬ (am_gi h a0 57) = (8 : Int32)) → am_kd h a0 = 12 ∧ Cl d 199 [.ref a0] h (fun r13 h12 => r13 = none ∧ am_kd h12 a0 = 12 ∧ am_kd h12 a0 = 12 ∧ ∀ h17, h17 = am_si h12 a0 57 ((am_gi h12 a0 57) + (1 : Int32)) → am_kd h17 a0 = 12 ∧ Cl d 198 [.ref a0] h17 (fun r19 h18 => ∃ x21, r19 = some (.int x21) ∧ ((¬ x21 = (0 : Int32)) → Q none h18) ∧ (¬ (¬ x21 = (0 : Int32)) → am_kd h18 a0 = 12 ∧ Cl d 195 [.ref a0] h18 (fun r23 h22 => r23 = none ∧ Q none h22)))))) : Cl (d + 1) 201 [.ref a0] h Q := by
  show Ev (d + 1) 201 0 [.ref a0] [] h Q
  refine ev_p (pc' := 1) (loc' := [.ref a0]) (st' := [.ref a0]) 1 am_q201 rfl ?_
  obtain ⟨g1, H⟩ := H
  refine ev_s (pc' := 4) (loc' := [.ref a0]) (st' := [.int (am_gi h a0 57)]) (h1 := h) am_q201 rfl rfl rfl (if_pos (e := none) g1) ?_
  refine ev_p (pc' := 6) (loc' := [.ref a0]) (st' := [.int (8 : Int32), .int (am_gi h a0 57)]) 1 am_q201 rfl ?_
  refine ev_jc (t := 13) am_q201 rfl rfl (fun hq => ?_) (fun hq => ?_)
  · replace H := H.1 hq
    refine ev_p (pc' := 15) (loc' := [.ref a0]) (st' := [.ref a0, .ref a0]) 2 am_q201 rfl ?_
    obtain ⟨g2, H⟩ := H
    refine ev_s (pc' := 18) (loc' := [.ref a0]) (st' := [.int (am_gi h a0 57), .ref a0]) (h1 := h) am_q201 rfl rfl rfl (if_pos (e := none) g2) ?_
    refine ev_p (pc' := 20) (loc' := [.ref a0]) (st' := [.int ((am_gi h a0 57) + (1 : Int32)), .ref a0]) 2 am_q201 rfl ?_
    obtain ⟨g3, H⟩ := H
    refine ev_s (pc' := 23) (loc' := [.ref a0]) (st' := []) (h1 := am_si h a0 57 ((am_gi h a0 57) + (1 : Int32))) am_q201 rfl rfl rfl (if_pos (e := none) g3) ?_
    replace H := H _ rfl
    generalize am_si h a0 57 ((am_gi h a0 57) + (1 : Int32)) = h4 at H ⊢
    refine ev_p (pc' := 24) (loc' := [.ref a0]) (st' := [.ref a0]) 1 am_q201 rfl ?_
    obtain ⟨g7, H⟩ := H
    refine ev_c (vs := [.ref a0]) (rest := []) 198 am_q201 rfl rfl rfl rfl rfl rfl rfl rfl rfl rfl rfl rfl (Or.inr (congrArg some g7)) (Cl.mono H (Nat.le_refl _) (fun r6 h5 H => ?_))
    obtain ⟨x8, rfl, H⟩ := H
    refine ev_jz (t := 34) am_q201 rfl rfl (fun hq => ?_) (fun hq => ?_)
    · replace H := H.1 hq
      exact ev_r (v := none) am_q201 rfl rfl rfl rfl H
    · replace H := H.2 hq
      refine ev_p (pc' := 31) (loc' := [.ref a0]) (st' := [.ref a0]) 1 am_q201 rfl ?_
      obtain ⟨g11, H⟩ := H
      refine ev_c (vs := [.ref a0]) (rest := []) 195 am_q201 rfl rfl rfl rfl rfl rfl rfl rfl rfl rfl rfl rfl (Or.inr (congrArg some g11)) (Cl.mono H (Nat.le_refl _) (fun r10 h9 H => ?_))
      obtain ⟨rfl, H⟩ := H
      exact ev_r (v := none) am_q201 rfl rfl rfl rfl H
  · replace H := H.2 hq
    refine ev_p (pc' := 10) (loc' := [.ref a0]) (st' := [.ref a0]) 1 am_q201 rfl ?_
    obtain ⟨g14, H⟩ := H
    refine ev_c (vs := [.ref a0]) (rest := []) 199 am_q201 rfl rfl rfl rfl rfl rfl rfl rfl rfl rfl rfl rfl (Or.inr (congrArg some g14)) (Cl.mono H (Nat.le_refl _) (fun r13 h12 H => ?_))
    obtain ⟨rfl, H⟩ := H
    refine ev_p (pc' := 15) (loc' := [.ref a0]) (st' := [.ref a0, .ref a0]) 2 am_q201 rfl ?_
    obtain ⟨g15, H⟩ := H
    refine ev_s (pc' := 18) (loc' := [.ref a0]) (st' := [.int (am_gi h12 a0 57), .ref a0]) (h1 := h12) am_q201 rfl rfl rfl (if_pos (e := none) g15) ?_
    refine ev_p (pc' := 20) (loc' := [.ref a0]) (st' := [.int ((am_gi h12 a0 57) + (1 : Int32)), .ref a0]) 2 am_q201 rfl ?_
    obtain ⟨g16, H⟩ := H
    refine ev_s (pc' := 23) (loc' := [.ref a0]) (st' := []) (h1 := am_si h12 a0 57 ((am_gi h12 a0 57) + (1 : Int32))) am_q201 rfl rfl rfl (if_pos (e := none) g16) ?_
    replace H := H _ rfl
    generalize am_si h12 a0 57 ((am_gi h12 a0 57) + (1 : Int32)) = h17 at H ⊢
    refine ev_p (pc' := 24) (loc' := [.ref a0]) (st' := [.ref a0]) 1 am_q201 rfl ?_
    obtain ⟨g20, H⟩ := H
    refine ev_c (vs := [.ref a0]) (rest := []) 198 am_q201 rfl rfl rfl rfl rfl rfl rfl rfl rfl rfl rfl rfl (Or.inr (congrArg some g20)) (Cl.mono H (Nat.le_refl _) (fun r19 h18 H => ?_))
    obtain ⟨x21, rfl, H⟩ := H
    refine ev_jz (t := 34) am_q201 rfl rfl (fun hq => ?_) (fun hq => ?_)
    · replace H := H.1 hq
      exact ev_r (v := none) am_q201 rfl rfl rfl rfl H
    · replace H := H.2 hq
      refine ev_p (pc' := 31) (loc' := [.ref a0]) (st' := [.ref a0]) 1 am_q201 rfl ?_
      obtain ⟨g24, H⟩ := H
      refine ev_c (vs := [.ref a0]) (rest := []) 195 am_q201 rfl rfl rfl rfl rfl rfl rfl rfl rfl rfl rfl rfl (Or.inr (congrArg some g24)) (Cl.mono H (Nat.le_refl _) (fun r23 h22 H => ?_))
      obtain ⟨rfl, H⟩ := H
      exact ev_r (v := none) am_q201 rfl rfl rfl rfl H
/-! 202: X12_emit -/
theorem am_q202 : (am_mt 202).2.2.2.2.2 = am_m202.2.2.2.2.2 := rfl
set_option maxRecDepth 20000 in
set_option maxHeartbeats 2000000 in
theorem wp202 {d : Nat} (a0 : Nat) (i1 : Int32) (i2 : Int32) {h : AH} {Q : Option Value → AH → Prop} (H : am_kd h a0 = 12 ∧ ∃ b2, am_gr h a0 26 = some b2 ∧ am_kd h a0 = 12 ∧ am_kd h a0 = 12 ∧ (am_kd h b2 = 100 ∧ 6 ≤ b2) ∧ am_in (((400 : Int32) * (am_gi h a0 50)) + (am_gi h a0 58)) (am_ln h b2) ∧ ∀ h8, h8 = am_si h b2 (Int32.toNatClampNeg (((400 : Int32) * (am_gi h a0 50)) + (am_gi h a0 58))) i1 → am_kd h8 a0 = 12 ∧ ∃ b10, am_gr h8 a0 27 = some b10 ∧ am_kd h8 a0 = 12 ∧ am_kd h8 a0 = 12 ∧ (am_kd h8 b10 = 100 ∧ 6 ≤ b10) ∧ am_in (((400 : Int32) * (am_gi h8 a0 50)) + (am_gi h8 a0 58)) (am_ln h8 b10) ∧ ∀ h16, h16 = am_si h8 b10 (Int32.toNatClampNeg (((400 : Int32) * (am_gi h8 a0 50)) + (am_gi h8 a0 58))) i2 → am_kd h16 a0 = 12 ∧ am_kd h16 a0 = 12 ∧ ∀ h19, h19 = am_si h16 a0 58 ((am_gi h16 a0 58) + (1 : Int32)) → Q none h19) : Cl d 202 [.ref a0, .int i1, .int i2] h Q := by
  show Ev d 202 0 [.ref a0, .int i1, .int i2] [] h Q
  refine ev_p (pc' := 1) (loc' := [.ref a0, .int i1, .int i2]) (st' := [.ref a0]) 1 am_q202 rfl ?_
  obtain ⟨g1, b2, e3, H⟩ := H
  refine ev_s (pc' := 4) (loc' := [.ref a0, .int i1, .int i2]) (st' := [.ref b2]) (h1 := h) am_q202 rfl rfl rfl (am_gf2 g1 e3) ?_
  refine ev_p (pc' := 8) (loc' := [.ref a0, .int i1, .int i2]) (st' := [.ref a0, .int (400 : Int32), .ref b2]) 2 am_q202 rfl ?_
  obtain ⟨g4, H⟩ := H
  refine ev_s (pc' := 11) (loc' := [.ref a0, .int i1, .int i2]) (st' := [.int (am_gi h a0 50), .int (400 : Int32), .ref b2]) (h1 := h) am_q202 rfl rfl rfl (if_pos (e := none) g4) ?_
  refine ev_p (pc' := 13) (loc' := [.ref a0, .int i1, .int i2]) (st' := [.ref a0, .int ((400 : Int32) * (am_gi h a0 50)), .ref b2]) 2 am_q202 rfl ?_
  obtain ⟨g5, H⟩ := H
  refine ev_s (pc' := 16) (loc' := [.ref a0, .int i1, .int i2]) (st' := [.int (am_gi h a0 58), .int ((400 : Int32) * (am_gi h a0 50)), .ref b2]) (h1 := h) am_q202 rfl rfl rfl (if_pos (e := none) g5) ?_
  refine ev_p (pc' := 18) (loc' := [.ref a0, .int i1, .int i2]) (st' := [.int i1, .int (((400 : Int32) * (am_gi h a0 50)) + (am_gi h a0 58)), .ref b2]) 2 am_q202 rfl ?_
  obtain ⟨g6, g7, H⟩ := H
  refine ev_s (pc' := 19) (loc' := [.ref a0, .int i1, .int i2]) (st' := []) (h1 := am_si h b2 (Int32.toNatClampNeg (((400 : Int32) * (am_gi h a0 50)) + (am_gi h a0 58))) i1) am_q202 rfl rfl rfl (am_xx g6 g7) ?_
  replace H := H _ rfl
  generalize am_si h b2 (Int32.toNatClampNeg (((400 : Int32) * (am_gi h a0 50)) + (am_gi h a0 58))) i1 = h8 at H ⊢
  refine ev_p (pc' := 20) (loc' := [.ref a0, .int i1, .int i2]) (st' := [.ref a0]) 1 am_q202 rfl ?_
  obtain ⟨g9, b10, e11, H⟩ := H
  refine ev_s (pc' := 23) (loc' := [.ref a0, .int i1, .int i2]) (st' := [.ref b10]) (h1 := h8) am_q202 rfl rfl rfl (am_gf2 g9 e11) ?_
  refine ev_p (pc' := 27) (loc' := [.ref a0, .int i1, .int i2]) (st' := [.ref a0, .int (400 : Int32), .ref b10]) 2 am_q202 rfl ?_
  obtain ⟨g12, H⟩ := H
  refine ev_s (pc' := 30) (loc' := [.ref a0, .int i1, .int i2]) (st' := [.int (am_gi h8 a0 50), .int (400 : Int32), .ref b10]) (h1 := h8) am_q202 rfl rfl rfl (if_pos (e := none) g12) ?_
  refine ev_p (pc' := 32) (loc' := [.ref a0, .int i1, .int i2]) (st' := [.ref a0, .int ((400 : Int32) * (am_gi h8 a0 50)), .ref b10]) 2 am_q202 rfl ?_
  obtain ⟨g13, H⟩ := H
  refine ev_s (pc' := 35) (loc' := [.ref a0, .int i1, .int i2]) (st' := [.int (am_gi h8 a0 58), .int ((400 : Int32) * (am_gi h8 a0 50)), .ref b10]) (h1 := h8) am_q202 rfl rfl rfl (if_pos (e := none) g13) ?_
  refine ev_p (pc' := 37) (loc' := [.ref a0, .int i1, .int i2]) (st' := [.int i2, .int (((400 : Int32) * (am_gi h8 a0 50)) + (am_gi h8 a0 58)), .ref b10]) 2 am_q202 rfl ?_
  obtain ⟨g14, g15, H⟩ := H
  refine ev_s (pc' := 38) (loc' := [.ref a0, .int i1, .int i2]) (st' := []) (h1 := am_si h8 b10 (Int32.toNatClampNeg (((400 : Int32) * (am_gi h8 a0 50)) + (am_gi h8 a0 58))) i2) am_q202 rfl rfl rfl (am_xx g14 g15) ?_
  replace H := H _ rfl
  generalize am_si h8 b10 (Int32.toNatClampNeg (((400 : Int32) * (am_gi h8 a0 50)) + (am_gi h8 a0 58))) i2 = h16 at H ⊢
  refine ev_p (pc' := 40) (loc' := [.ref a0, .int i1, .int i2]) (st' := [.ref a0, .ref a0]) 2 am_q202 rfl ?_
  obtain ⟨g17, H⟩ := H
  refine ev_s (pc' := 43) (loc' := [.ref a0, .int i1, .int i2]) (st' := [.int (am_gi h16 a0 58), .ref a0]) (h1 := h16) am_q202 rfl rfl rfl (if_pos (e := none) g17) ?_
  refine ev_p (pc' := 45) (loc' := [.ref a0, .int i1, .int i2]) (st' := [.int ((am_gi h16 a0 58) + (1 : Int32)), .ref a0]) 2 am_q202 rfl ?_
  obtain ⟨g18, H⟩ := H
  refine ev_s (pc' := 48) (loc' := [.ref a0, .int i1, .int i2]) (st' := []) (h1 := am_si h16 a0 58 ((am_gi h16 a0 58) + (1 : Int32))) am_q202 rfl rfl rfl (if_pos (e := none) g18) ?_
  replace H := H _ rfl
  generalize am_si h16 a0 58 ((am_gi h16 a0 58) + (1 : Int32)) = h19 at H ⊢
  exact ev_r (v := none) am_q202 rfl rfl rfl rfl H
/-! 203: X12_reads -/
theorem am_q203 : (am_mt 203).2.2.2.2.2 = am_m203.2.2.2.2.2 := rfl
set_option maxRecDepth 20000 in
set_option maxHeartbeats 2000000 in
theorem wp203 {d : Nat} (a0 : Nat) (i1 : Int32) {h : AH} {Q : Option Value → AH → Prop} (H : am_kd h a0 = 12 ∧ ∀ h2, h2 = am_si h a0 50 i1 → am_kd h2 a0 = 12 ∧ ∀ h4, h4 = am_si h2 a0 51 (0 : Int32) → am_kd h4 a0 = 12 ∧ ∀ h6, h6 = am_si h4 a0 55 (-1 : Int32) → am_kd h6 a0 = 12 ∧ ∀ h8, h8 = am_si h6 a0 56 (-1 : Int32) → am_kd h8 a0 = 12 ∧ ∀ h10, h10 = am_si h8 a0 57 (0 : Int32) → am_kd h10 a0 = 12 ∧ ∀ h12, h12 = am_si h10 a0 58 (0 : Int32) → am_kd h12 a0 = 12 ∧ Cl d 195 [.ref a0] h12 (fun r14 h13 => r14 = none ∧ Ev (d + 1) 203 36 [.ref a0, .int i1, .int (0 : Int32)] [] h13 Q)) : Cl (d + 1) 203 [.ref a0, .int i1] h Q := by
  show Ev (d + 1) 203 0 [.ref a0, .int i1, .null] [] h Q
  refine ev_p (pc' := 2) (loc' := [.ref a0, .int i1, .null]) (st' := [.int i1, .ref a0]) 2 am_q203 rfl ?_
  obtain ⟨g1, H⟩ := H
  refine ev_s (pc' := 5) (loc' := [.ref a0, .int i1, .null]) (st' := []) (h1 := am_si h a0 50 i1) am_q203 rfl rfl rfl (if_pos (e := none) g1) ?_
  replace H := H _ rfl
  generalize am_si h a0 50 i1 = h2 at H ⊢
  refine ev_p (pc' := 7) (loc' := [.ref a0, .int i1, .null]) (st' := [.int (0 : Int32), .ref a0]) 2 am_q203 rfl ?_
  obtain ⟨g3, H⟩ := H
  refine ev_s (pc' := 10) (loc' := [.ref a0, .int i1, .null]) (st' := []) (h1 := am_si h2 a0 51 (0 : Int32)) am_q203 rfl rfl rfl (if_pos (e := none) g3) ?_
  replace H := H _ rfl
  generalize am_si h2 a0 51 (0 : Int32) = h4 at H ⊢
  refine ev_p (pc' := 12) (loc' := [.ref a0, .int i1, .null]) (st' := [.int (-1 : Int32), .ref a0]) 2 am_q203 rfl ?_
  obtain ⟨g5, H⟩ := H
  refine ev_s (pc' := 15) (loc' := [.ref a0, .int i1, .null]) (st' := []) (h1 := am_si h4 a0 55 (-1 : Int32)) am_q203 rfl rfl rfl (if_pos (e := none) g5) ?_
  replace H := H _ rfl
  generalize am_si h4 a0 55 (-1 : Int32) = h6 at H ⊢
  refine ev_p (pc' := 17) (loc' := [.ref a0, .int i1, .null]) (st' := [.int (-1 : Int32), .ref a0]) 2 am_q203 rfl ?_
  obtain ⟨g7, H⟩ := H
  refine ev_s (pc' := 20) (loc' := [.ref a0, .int i1, .null]) (st' := []) (h1 := am_si h6 a0 56 (-1 : Int32)) am_q203 rfl rfl rfl (if_pos (e := none) g7) ?_
  replace H := H _ rfl
  generalize am_si h6 a0 56 (-1 : Int32) = h8 at H ⊢
  refine ev_p (pc' := 22) (loc' := [.ref a0, .int i1, .null]) (st' := [.int (0 : Int32), .ref a0]) 2 am_q203 rfl ?_
  obtain ⟨g9, H⟩ := H
  refine ev_s (pc' := 25) (loc' := [.ref a0, .int i1, .null]) (st' := []) (h1 := am_si h8 a0 57 (0 : Int32)) am_q203 rfl rfl rfl (if_pos (e := none) g9) ?_
  replace H := H _ rfl
  generalize am_si h8 a0 57 (0 : Int32) = h10 at H ⊢
  refine ev_p (pc' := 27) (loc' := [.ref a0, .int i1, .null]) (st' := [.int (0 : Int32), .ref a0]) 2 am_q203 rfl ?_
  obtain ⟨g11, H⟩ := H
  refine ev_s (pc' := 30) (loc' := [.ref a0, .int i1, .null]) (st' := []) (h1 := am_si h10 a0 58 (0 : Int32)) am_q203 rfl rfl rfl (if_pos (e := none) g11) ?_
  replace H := H _ rfl
  generalize am_si h10 a0 58 (0 : Int32) = h12 at H ⊢
  refine ev_p (pc' := 31) (loc' := [.ref a0, .int i1, .null]) (st' := [.ref a0]) 1 am_q203 rfl ?_
  obtain ⟨g15, H⟩ := H
  refine ev_c (vs := [.ref a0]) (rest := []) 195 am_q203 rfl rfl rfl rfl rfl rfl rfl rfl rfl rfl rfl rfl (Or.inr (congrArg some g15)) (Cl.mono H (Nat.le_refl _) (fun r14 h13 H => ?_))
  obtain ⟨rfl, H⟩ := H
  refine ev_p (pc' := 36) (loc' := [.ref a0, .int i1, .int (0 : Int32)]) (st' := []) 2 am_q203 rfl ?_
  exact ev_m (loc' := [.ref a0, .int i1, .int (0 : Int32)]) am_q203 rfl rfl H
set_option maxRecDepth 20000 in
set_option maxHeartbeats 2000000 in
theorem wp203_36 {d : Nat} (a0 : Nat) (i1 : Int32) (i2 : Int32) {h : AH} {Q : Option Value → AH → Prop} (H : ((4 : Int32) ≤ i2 → am_kd h a0 = 12 ∧ ∃ b2, am_gr h a0 28 = some b2 ∧ am_kd h a0 = 12 ∧ (am_kd h b2 = 100 ∧ 6 ≤ b2) ∧ am_in (((5 : Int32) * i1) + (4 : Int32)) (am_ln h b2) ∧ ∀ h7, h7 = am_si h b2 (Int32.toNatClampNeg (((5 : Int32) * i1) + (4 : Int32))) (am_gi h a0 58) → am_kd h7 a0 = 12 ∧ Cl d 200 [.ref a0, .int (0 : Int32)] h7 (fun r9 h8 => r9 = none ∧ Q none h8)) ∧ (¬ (4 : Int32) ≤ i2 → am_kd h a0 = 12 ∧ ∃ b12, am_gr h a0 28 = some b12 ∧ am_kd h a0 = 12 ∧ (am_kd h b12 = 100 ∧ 6 ≤ b12) ∧ am_in (((5 : Int32) * i1) + i2) (am_ln h b12) ∧ ∀ h17, h17 = am_si h b12 (Int32.toNatClampNeg (((5 : Int32) * i1) + i2)) (am_gi h a0 58) → am_kd h17 a0 = 12 ∧ ∀ h19, h19 = am_si h17 a0 59 i2 → am_kd h19 a0 = 12 ∧ Cl d 200 [.ref a0, .int ((300 : Int32) + i2)] h19 (fun r21 h20 => r21 = none ∧ am_kd h20 a0 = 12 ∧ Cl d 204 [.ref a0] h20 (fun r24 h23 => r24 = none ∧ am_kd h23 a0 = 12 ∧ Cl d 200 [.ref a0, .int (59 : Int32)] h23 (fun r27 h26 => r27 = none ∧ Ev (d + 1) 203 36 [.ref a0, .int i1, .int (i2 + (1 : Int32))] [] h26 Q))))) : Ev (d + 1) 203 36 [.ref a0, .int i1, .int i2] [] h Q := by
  refine ev_p (pc' := 38) (loc' := [.ref a0, .int i1, .int i2]) (st' := [.int (4 : Int32), .int i2]) 2 am_q203 rfl ?_
  refine ev_jc (t := 85) am_q203 rfl rfl (fun hq => ?_) (fun hq => ?_)
  · replace H := H.1 hq
    refine ev_p (pc' := 86) (loc' := [.ref a0, .int i1, .int i2]) (st' := [.ref a0]) 1 am_q203 rfl ?_
    obtain ⟨g1, b2, e3, H⟩ := H
    refine ev_s (pc' := 89) (loc' := [.ref a0, .int i1, .int i2]) (st' := [.ref b2]) (h1 := h) am_q203 rfl rfl rfl (am_gf2 g1 e3) ?_
    refine ev_p (pc' := 95) (loc' := [.ref a0, .int i1, .int i2]) (st' := [.ref a0, .int (((5 : Int32) * i1) + (4 : Int32)), .ref b2]) 6 am_q203 rfl ?_
    obtain ⟨g4, H⟩ := H
    refine ev_s (pc' := 98) (loc' := [.ref a0, .int i1, .int i2]) (st' := [.int (am_gi h a0 58), .int (((5 : Int32) * i1) + (4 : Int32)), .ref b2]) (h1 := h) am_q203 rfl rfl rfl (if_pos (e := none) g4) ?_
    obtain ⟨g5, g6, H⟩ := H
    refine ev_s (pc' := 99) (loc' := [.ref a0, .int i1, .int i2]) (st' := []) (h1 := am_si h b2 (Int32.toNatClampNeg (((5 : Int32) * i1) + (4 : Int32))) (am_gi h a0 58)) am_q203 rfl rfl rfl (am_xx g5 g6) ?_
    replace H := H _ rfl
    generalize am_si h b2 (Int32.toNatClampNeg (((5 : Int32) * i1) + (4 : Int32))) (am_gi h a0 58) = h7 at H ⊢
    refine ev_p (pc' := 101) (loc' := [.ref a0, .int i1, .int i2]) (st' := [.int (0 : Int32), .ref a0]) 2 am_q203 rfl ?_
    obtain ⟨g10, H⟩ := H
    refine ev_c (vs := [.ref a0, .int (0 : Int32)]) (rest := []) 200 am_q203 rfl rfl rfl rfl rfl rfl rfl rfl rfl rfl rfl rfl (Or.inr (congrArg some g10)) (Cl.mono H (Nat.le_refl _) (fun r9 h8 H => ?_))
    obtain ⟨rfl, H⟩ := H
    exact ev_r (v := none) am_q203 rfl rfl rfl rfl H
  · replace H := H.2 hq
    refine ev_p (pc' := 42) (loc' := [.ref a0, .int i1, .int i2]) (st' := [.ref a0]) 1 am_q203 rfl ?_
    obtain ⟨g11, b12, e13, H⟩ := H
    refine ev_s (pc' := 45) (loc' := [.ref a0, .int i1, .int i2]) (st' := [.ref b12]) (h1 := h) am_q203 rfl rfl rfl (am_gf2 g11 e13) ?_
    refine ev_p (pc' := 51) (loc' := [.ref a0, .int i1, .int i2]) (st' := [.ref a0, .int (((5 : Int32) * i1) + i2), .ref b12]) 6 am_q203 rfl ?_
    obtain ⟨g14, H⟩ := H
    refine ev_s (pc' := 54) (loc' := [.ref a0, .int i1, .int i2]) (st' := [.int (am_gi h a0 58), .int (((5 : Int32) * i1) + i2), .ref b12]) (h1 := h) am_q203 rfl rfl rfl (if_pos (e := none) g14) ?_
    obtain ⟨g15, g16, H⟩ := H
    refine ev_s (pc' := 55) (loc' := [.ref a0, .int i1, .int i2]) (st' := []) (h1 := am_si h b12 (Int32.toNatClampNeg (((5 : Int32) * i1) + i2)) (am_gi h a0 58)) am_q203 rfl rfl rfl (am_xx g15 g16) ?_
    replace H := H _ rfl
    generalize am_si h b12 (Int32.toNatClampNeg (((5 : Int32) * i1) + i2)) (am_gi h a0 58) = h17 at H ⊢
    refine ev_p (pc' := 57) (loc' := [.ref a0, .int i1, .int i2]) (st' := [.int i2, .ref a0]) 2 am_q203 rfl ?_
    obtain ⟨g18, H⟩ := H
    refine ev_s (pc' := 60) (loc' := [.ref a0, .int i1, .int i2]) (st' := []) (h1 := am_si h17 a0 59 i2) am_q203 rfl rfl rfl (if_pos (e := none) g18) ?_
    replace H := H _ rfl
    generalize am_si h17 a0 59 i2 = h19 at H ⊢
    refine ev_p (pc' := 66) (loc' := [.ref a0, .int i1, .int i2]) (st' := [.int ((300 : Int32) + i2), .ref a0]) 4 am_q203 rfl ?_
    obtain ⟨g22, H⟩ := H
    refine ev_c (vs := [.ref a0, .int ((300 : Int32) + i2)]) (rest := []) 200 am_q203 rfl rfl rfl rfl rfl rfl rfl rfl rfl rfl rfl rfl (Or.inr (congrArg some g22)) (Cl.mono H (Nat.le_refl _) (fun r21 h20 H => ?_))
    obtain ⟨rfl, H⟩ := H
    refine ev_p (pc' := 70) (loc' := [.ref a0, .int i1, .int i2]) (st' := [.ref a0]) 1 am_q203 rfl ?_
    obtain ⟨g25, H⟩ := H
    refine ev_c (vs := [.ref a0]) (rest := []) 204 am_q203 rfl rfl rfl rfl rfl rfl rfl rfl rfl rfl rfl rfl (Or.inr (congrArg some g25)) (Cl.mono H (Nat.le_refl _) (fun r24 h23 H => ?_))
    obtain ⟨rfl, H⟩ := H
    refine ev_p (pc' := 76) (loc' := [.ref a0, .int i1, .int i2]) (st' := [.int (59 : Int32), .ref a0]) 2 am_q203 rfl ?_
    obtain ⟨g28, H⟩ := H
    refine ev_c (vs := [.ref a0, .int (59 : Int32)]) (rest := []) 200 am_q203 rfl rfl rfl rfl rfl rfl rfl rfl rfl rfl rfl rfl (Or.inr (congrArg some g28)) (Cl.mono H (Nat.le_refl _) (fun r27 h26 H => ?_))
    obtain ⟨rfl, H⟩ := H
    refine ev_p (pc' := 36) (loc' := [.ref a0, .int i1, .int (i2 + (1 : Int32))]) (st' := []) 2 am_q203 rfl ?_
    exact ev_m (loc' := [.ref a0, .int i1, .int (i2 + (1 : Int32))]) am_q203 rfl rfl H
/-! 204: X12_either -/
theorem am_q204 : (am_mt 204).2.2.2.2.2 = am_m204.2.2.2.2.2 := rfl
set_option maxRecDepth 20000 in
set_option maxHeartbeats 2000000 in
theorem wp204 {d : Nat} (a0 : Nat) {h : AH} {Q : Option Value → AH → Prop} (H : am_kd h a0 = 12 ∧ Cl d 205 [.ref a0] h (fun r2 h1 => r2 = none ∧ Ev (d + 1) 204 4 [.ref a0] [] h1 Q)) : Cl (d + 1) 204 [.ref a0] h Q := by
  show Ev (d + 1) 204 0 [.ref a0] [] h Q
  refine ev_p (pc' := 1) (loc' := [.ref a0]) (st' := [.ref a0]) 1 am_q204 rfl ?_
  obtain ⟨g3, H⟩ := H
  refine ev_c (vs := [.ref a0]) (rest := []) 205 am_q204 rfl rfl rfl rfl rfl rfl rfl rfl rfl rfl rfl rfl (Or.inr (congrArg some g3)) (Cl.mono H (Nat.le_refl _) (fun r2 h1 H => ?_))
  obtain ⟨rfl, H⟩ := H
  exact ev_m (loc' := [.ref a0]) am_q204 rfl rfl H
set_option maxRecDepth 20000 in
set_option maxHeartbeats 2000000 in
theorem wp204_4 {d : Nat} (a0 : Nat) {h : AH} {Q : Option Value → AH → Prop} (H : am_kd h a0 = 12 ∧ Cl d 198 [.ref a0] h (fun r2 h1 => ∃ x4, r2 = some (.int x4) ∧ ((¬ x4 = (0 : Int32)) → Q none h1) ∧ (¬ (¬ x4 = (0 : Int32)) → am_kd h1 a0 = 12 ∧ ((¬ (am_gi h1 a0 53) = (304 : Int32)) → Q none h1) ∧ (¬ (¬ (am_gi h1 a0 53) = (304 : Int32)) → am_kd h1 a0 = 12 ∧ Cl d 195 [.ref a0] h1 (fun r7 h6 => r7 = none ∧ am_kd h6 a0 = 12 ∧ Cl d 205 [.ref a0] h6 (fun r10 h9 => r10 = none ∧ am_kd h9 a0 = 12 ∧ Cl d 202 [.ref a0, .int (2 : Int32), .int (0 : Int32)] h9 (fun r13 h12 => r13 = none ∧ Ev (d + 1) 204 4 [.ref a0] [] h12 Q))))))) : Ev (d + 1) 204 4 [.ref a0] [] h Q := by
  refine ev_p (pc' := 5) (loc' := [.ref a0]) (st' := [.ref a0]) 1 am_q204 rfl ?_
  obtain ⟨g3, H⟩ := H
  refine ev_c (vs := [.ref a0]) (rest := []) 198 am_q204 rfl rfl rfl rfl rfl rfl rfl rfl rfl rfl rfl rfl (Or.inr (congrArg some g3)) (Cl.mono H (Nat.le_refl _) (fun r2 h1 H => ?_))
  obtain ⟨x4, rfl, H⟩ := H
  refine ev_jz (t := 38) am_q204 rfl rfl (fun hq => ?_) (fun hq => ?_)
  · replace H := H.1 hq
    exact ev_r (v := none) am_q204 rfl rfl rfl rfl H
  · replace H := H.2 hq
    refine ev_p (pc' := 12) (loc' := [.ref a0]) (st' := [.ref a0]) 1 am_q204 rfl ?_
    obtain ⟨g5, H⟩ := H
    refine ev_s (pc' := 15) (loc' := [.ref a0]) (st' := [.int (am_gi h1 a0 53)]) (h1 := h1) am_q204 rfl rfl rfl (if_pos (e := none) g5) ?_
    refine ev_p (pc' := 18) (loc' := [.ref a0]) (st' := [.int (304 : Int32), .int (am_gi h1 a0 53)]) 1 am_q204 rfl ?_
    refine ev_jc (t := 38) am_q204 rfl rfl (fun hq => ?_) (fun hq => ?_)
    · replace H := H.1 hq
      exact ev_r (v := none) am_q204 rfl rfl rfl rfl H
    · replace H := H.2 hq
      refine ev_p (pc' := 22) (loc' := [.ref a0]) (st' := [.ref a0]) 1 am_q204 rfl ?_
      obtain ⟨g8, H⟩ := H
      refine ev_c (vs := [.ref a0]) (rest := []) 195 am_q204 rfl rfl rfl rfl rfl rfl rfl rfl rfl rfl rfl rfl (Or.inr (congrArg some g8)) (Cl.mono H (Nat.le_refl _) (fun r7 h6 H => ?_))
      obtain ⟨rfl, H⟩ := H
      refine ev_p (pc' := 26) (loc' := [.ref a0]) (st' := [.ref a0]) 1 am_q204 rfl ?_
      obtain ⟨g11, H⟩ := H
      refine ev_c (vs := [.ref a0]) (rest := []) 205 am_q204 rfl rfl rfl rfl rfl rfl rfl rfl rfl rfl rfl rfl (Or.inr (congrArg some g11)) (Cl.mono H (Nat.le_refl _) (fun r10 h9 H => ?_))
      obtain ⟨rfl, H⟩ := H
      refine ev_p (pc' := 32) (loc' := [.ref a0]) (st' := [.int (0 : Int32), .int (2 : Int32), .ref a0]) 3 am_q204 rfl ?_
      obtain ⟨g14, H⟩ := H
      refine ev_c (vs := [.ref a0, .int (2 : Int32), .int (0 : Int32)]) (rest := []) 202 am_q204 rfl rfl rfl rfl rfl rfl rfl rfl rfl rfl rfl rfl (Or.inr (congrArg some g14)) (Cl.mono H (Nat.le_refl _) (fun r13 h12 H => ?_))
      obtain ⟨rfl, H⟩ := H
      refine ev_p (pc' := 4) (loc' := [.ref a0]) (st' := []) 1 am_q204 rfl ?_
      exact ev_m (loc' := [.ref a0]) am_q204 rfl rfl H
/-! 205: X12_both -/
theorem am_q205 : (am_mt 205).2.2.2.2.2 = am_m205.2.2.2.2.2 := rfl
set_option maxRecDepth 20000 in
set_option maxHeartbeats 2000000 in
theorem wp205 {d : Nat} (a0 : Nat) {h : AH} {Q : Option Value → AH → Prop} (H : am_kd h a0 = 12 ∧ Cl d 206 [.ref a0] h (fun r2 h1 => r2 = none ∧ Ev (d + 1) 205 4 [.ref a0] [] h1 Q)) : Cl (d + 1) 205 [.ref a0] h Q := by
  show Ev (d + 1) 205 0 [.ref a0] [] h Q
  refine ev_p (pc' := 1) (loc' := [.ref a0]) (st' := [.ref a0]) 1 am_q205 rfl ?_
  obtain ⟨g3, H⟩ := H
  refine ev_c (vs := [.ref a0]) (rest := []) 206 am_q205 rfl rfl rfl rfl rfl rfl rfl rfl rfl rfl rfl rfl (Or.inr (congrArg some g3)) (Cl.mono H (Nat.le_refl _) (fun r2 h1 H => ?_))
  obtain ⟨rfl, H⟩ := H
  exact ev_m (loc' := [.ref a0]) am_q205 rfl rfl H
set_option maxRecDepth 20000 in
set_option maxHeartbeats 2000000 in
theorem wp205_4 {d : Nat} (a0 : Nat) {h : AH} {Q : Option Value → AH → Prop} (H : am_kd h a0 = 12 ∧ Cl d 198 [.ref a0] h (fun r2 h1 => ∃ x4, r2 = some (.int x4) ∧ ((¬ x4 = (0 : Int32)) → Q none h1) ∧ (¬ (¬ x4 = (0 : Int32)) → am_kd h1 a0 = 12 ∧ ((¬ (am_gi h1 a0 53) = (305 : Int32)) → Q none h1) ∧ (¬ (¬ (am_gi h1 a0 53) = (305 : Int32)) → am_kd h1 a0 = 12 ∧ Cl d 195 [.ref a0] h1 (fun r7 h6 => r7 = none ∧ am_kd h6 a0 = 12 ∧ Cl d 206 [.ref a0] h6 (fun r10 h9 => r10 = none ∧ am_kd h9 a0 = 12 ∧ Cl d 202 [.ref a0, .int (3 : Int32), .int (0 : Int32)] h9 (fun r13 h12 => r13 = none ∧ Ev (d + 1) 205 4 [.ref a0] [] h12 Q))))))) : Ev (d + 1) 205 4 [.ref a0] [] h Q := by
  refine ev_p (pc' := 5) (loc' := [.ref a0]) (st' := [.ref a0]) 1 am_q205 rfl ?_
  obtain ⟨g3, H⟩ := H
  refine ev_c (vs := [.ref a0]) (rest := []) 198 am_q205 rfl rfl rfl rfl rfl rfl rfl rfl rfl rfl rfl rfl (Or.inr (congrArg some g3)) (Cl.mono H (Nat.le_refl _) (fun r2 h1 H => ?_))
  obtain ⟨x4, rfl, H⟩ := H
  refine ev_jz (t := 38) am_q205 rfl rfl (fun hq => ?_) (fun hq => ?_)
  · replace H := H.1 hq
    exact ev_r (v := none) am_q205 rfl rfl rfl rfl H
  · replace H := H.2 hq
    refine ev_p (pc' := 12) (loc' := [.ref a0]) (st' := [.ref a0]) 1 am_q205 rfl ?_
    obtain ⟨g5, H⟩ := H
    refine ev_s (pc' := 15) (loc' := [.ref a0]) (st' := [.int (am_gi h1 a0 53)]) (h1 := h1) am_q205 rfl rfl rfl (if_pos (e := none) g5) ?_
    refine ev_p (pc' := 18) (loc' := [.ref a0]) (st' := [.int (305 : Int32), .int (am_gi h1 a0 53)]) 1 am_q205 rfl ?_
    refine ev_jc (t := 38) am_q205 rfl rfl (fun hq => ?_) (fun hq => ?_)
    · replace H := H.1 hq
      exact ev_r (v := none) am_q205 rfl rfl rfl rfl H
    · replace H := H.2 hq
      refine ev_p (pc' := 22) (loc' := [.ref a0]) (st' := [.ref a0]) 1 am_q205 rfl ?_
      obtain ⟨g8, H⟩ := H
      refine ev_c (vs := [.ref a0]) (rest := []) 195 am_q205 rfl rfl rfl rfl rfl rfl rfl rfl rfl rfl rfl rfl (Or.inr (congrArg some g8)) (Cl.mono H (Nat.le_refl _) (fun r7 h6 H => ?_))
      obtain ⟨rfl, H⟩ := H
      refine ev_p (pc' := 26) (loc' := [.ref a0]) (st' := [.ref a0]) 1 am_q205 rfl ?_
      obtain ⟨g11, H⟩ := H
      refine ev_c (vs := [.ref a0]) (rest := []) 206 am_q205 rfl rfl rfl rfl rfl rfl rfl rfl rfl rfl rfl rfl (Or.inr (congrArg some g11)) (Cl.mono H (Nat.le_refl _) (fun r10 h9 H => ?_))
      obtain ⟨rfl, H⟩ := H
      refine ev_p (pc' := 32) (loc' := [.ref a0]) (st' := [.int (0 : Int32), .int (3 : Int32), .ref a0]) 3 am_q205 rfl ?_
      obtain ⟨g14, H⟩ := H
      refine ev_c (vs := [.ref a0, .int (3 : Int32), .int (0 : Int32)]) (rest := []) 202 am_q205 rfl rfl rfl rfl rfl rfl rfl rfl rfl rfl rfl rfl (Or.inr (congrArg some g14)) (Cl.mono H (Nat.le_refl _) (fun r13 h12 H => ?_))
      obtain ⟨rfl, H⟩ := H
      refine ev_p (pc' := 4) (loc' := [.ref a0]) (st' := []) 1 am_q205 rfl ?_
      exact ev_m (loc' := [.ref a0]) am_q205 rfl rfl H
/-! 206: X12_not -/
theorem am_q206 : (am_mt 206).2.2.2.2.2 = am_m206.2.2.2.2.2 := rfl
set_option maxRecDepth 20000 in
set_option maxHeartbeats 2000000 in
theorem wp206 {d : Nat} (a0 : Nat) {h : AH} {Q : Option Value → AH → Prop} (H : am_kd h a0 = 12 ∧ Cl d 198 [.ref a0] h (fun r2 h1 => ∃ x4, r2 = some (.int x4) ∧ (x4 = (0 : Int32) → am_kd h1 a0 = 12 ∧ ((¬ (am_gi h1 a0 53) = (306 : Int32)) → am_kd h1 a0 = 12 ∧ Cl d 207 [.ref a0] h1 (fun r7 h6 => r7 = none ∧ am_kd h6 a0 = 12 ∧ Cl d 198 [.ref a0] h6 (fun r10 h9 => ∃ x12, r10 = some (.int x12) ∧ ((¬ x12 = (0 : Int32)) → Q none h9) ∧ (¬ (¬ x12 = (0 : Int32)) → am_kd h9 a0 = 12 ∧ ((am_gi h9 a0 53) = (60 : Int32) → Ev (d + 1) 206 72 [.ref a0, .null] [] h9 Q) ∧ (¬ (am_gi h9 a0 53) = (60 : Int32) → am_kd h9 a0 = 12 ∧ ((¬ (am_gi h9 a0 53) = (61 : Int32)) → Q none h9) ∧ (¬ (¬ (am_gi h9 a0 53) = (61 : Int32)) → Ev (d + 1) 206 72 [.ref a0, .null] [] h9 Q)))))) ∧ (¬ (¬ (am_gi h1 a0 53) = (306 : Int32)) → am_kd h1 a0 = 12 ∧ Cl d 201 [.ref a0] h1 (fun r16 h15 => r16 = none ∧ am_kd h15 a0 = 12 ∧ Cl d 206 [.ref a0] h15 (fun r19 h18 => r19 = none ∧ am_kd h18 a0 = 12 ∧ am_kd h18 a0 = 12 ∧ ∀ h23, h23 = am_si h18 a0 57 ((am_gi h18 a0 57) - (1 : Int32)) → am_kd h23 a0 = 12 ∧ Cl d 202 [.ref a0, .int (4 : Int32), .int (0 : Int32)] h23 (fun r25 h24 => r25 = none ∧ Q none h24))))) ∧ (¬ x4 = (0 : Int32) → Q none h1))) : Cl (d + 1) 206 [.ref a0] h Q := by
  show Ev (d + 1) 206 0 [.ref a0, .null] [] h Q
  refine ev_p (pc' := 1) (loc' := [.ref a0, .null]) (st' := [.ref a0]) 1 am_q206 rfl ?_
  obtain ⟨g3, H⟩ := H
  refine ev_c (vs := [.ref a0]) (rest := []) 198 am_q206 rfl rfl rfl rfl rfl rfl rfl rfl rfl rfl rfl rfl (Or.inr (congrArg some g3)) (Cl.mono H (Nat.le_refl _) (fun r2 h1 H => ?_))
  obtain ⟨x4, rfl, H⟩ := H
  refine ev_jz (t := 8) am_q206 rfl rfl (fun hq => ?_) (fun hq => ?_)
  · replace H := H.1 hq
    refine ev_p (pc' := 9) (loc' := [.ref a0, .null]) (st' := [.ref a0]) 1 am_q206 rfl ?_
    obtain ⟨g5, H⟩ := H
    refine ev_s (pc' := 12) (loc' := [.ref a0, .null]) (st' := [.int (am_gi h1 a0 53)]) (h1 := h1) am_q206 rfl rfl rfl (if_pos (e := none) g5) ?_
    refine ev_p (pc' := 15) (loc' := [.ref a0, .null]) (st' := [.int (306 : Int32), .int (am_gi h1 a0 53)]) 1 am_q206 rfl ?_
    refine ev_jc (t := 43) am_q206 rfl rfl (fun hq => ?_) (fun hq => ?_)
    · replace H := H.1 hq
      refine ev_p (pc' := 44) (loc' := [.ref a0, .null]) (st' := [.ref a0]) 1 am_q206 rfl ?_
      obtain ⟨g8, H⟩ := H
      refine ev_c (vs := [.ref a0]) (rest := []) 207 am_q206 rfl rfl rfl rfl rfl rfl rfl rfl rfl rfl rfl rfl (Or.inr (congrArg some g8)) (Cl.mono H (Nat.le_refl _) (fun r7 h6 H => ?_))
      obtain ⟨rfl, H⟩ := H
      refine ev_p (pc' := 48) (loc' := [.ref a0, .null]) (st' := [.ref a0]) 1 am_q206 rfl ?_
      obtain ⟨g11, H⟩ := H
      refine ev_c (vs := [.ref a0]) (rest := []) 198 am_q206 rfl rfl rfl rfl rfl rfl rfl rfl rfl rfl rfl rfl (Or.inr (congrArg some g11)) (Cl.mono H (Nat.le_refl _) (fun r10 h9 H => ?_))
      obtain ⟨x12, rfl, H⟩ := H
      refine ev_jz (t := 102) am_q206 rfl rfl (fun hq => ?_) (fun hq => ?_)
      · replace H := H.1 hq
        exact ev_r (v := none) am_q206 rfl rfl rfl rfl H
      · replace H := H.2 hq
        refine ev_p (pc' := 55) (loc' := [.ref a0, .null]) (st' := [.ref a0]) 1 am_q206 rfl ?_
        obtain ⟨g13, H⟩ := H
        refine ev_s (pc' := 58) (loc' := [.ref a0, .null]) (st' := [.int (am_gi h9 a0 53)]) (h1 := h9) am_q206 rfl rfl rfl (if_pos (e := none) g13) ?_
        refine ev_p (pc' := 60) (loc' := [.ref a0, .null]) (st' := [.int (60 : Int32), .int (am_gi h9 a0 53)]) 1 am_q206 rfl ?_
        refine ev_jc (t := 72) am_q206 rfl rfl (fun hq => ?_) (fun hq => ?_)
        · replace H := H.1 hq
          exact ev_m (loc' := [.ref a0, .null]) am_q206 rfl rfl H
        · replace H := H.2 hq
          refine ev_p (pc' := 64) (loc' := [.ref a0, .null]) (st' := [.ref a0]) 1 am_q206 rfl ?_
          obtain ⟨g14, H⟩ := H
          refine ev_s (pc' := 67) (loc' := [.ref a0, .null]) (st' := [.int (am_gi h9 a0 53)]) (h1 := h9) am_q206 rfl rfl rfl (if_pos (e := none) g14) ?_
          refine ev_p (pc' := 69) (loc' := [.ref a0, .null]) (st' := [.int (61 : Int32), .int (am_gi h9 a0 53)]) 1 am_q206 rfl ?_
          refine ev_jc (t := 102) am_q206 rfl rfl (fun hq => ?_) (fun hq => ?_)
          · replace H := H.1 hq
            exact ev_r (v := none) am_q206 rfl rfl rfl rfl H
          · replace H := H.2 hq
            exact ev_m (loc' := [.ref a0, .null]) am_q206 rfl rfl H
    · replace H := H.2 hq
      refine ev_p (pc' := 19) (loc' := [.ref a0, .null]) (st' := [.ref a0]) 1 am_q206 rfl ?_
      obtain ⟨g17, H⟩ := H
      refine ev_c (vs := [.ref a0]) (rest := []) 201 am_q206 rfl rfl rfl rfl rfl rfl rfl rfl rfl rfl rfl rfl (Or.inr (congrArg some g17)) (Cl.mono H (Nat.le_refl _) (fun r16 h15 H => ?_))
      obtain ⟨rfl, H⟩ := H
      refine ev_p (pc' := 23) (loc' := [.ref a0, .null]) (st' := [.ref a0]) 1 am_q206 rfl ?_
      obtain ⟨g20, H⟩ := H
      refine ev_c (vs := [.ref a0]) (rest := []) 206 am_q206 rfl rfl rfl rfl rfl rfl rfl rfl rfl rfl rfl rfl (Or.inr (congrArg some g20)) (Cl.mono H (Nat.le_refl _) (fun r19 h18 H => ?_))
      obtain ⟨rfl, H⟩ := H
      refine ev_p (pc' := 28) (loc' := [.ref a0, .null]) (st' := [.ref a0, .ref a0]) 2 am_q206 rfl ?_
      obtain ⟨g21, H⟩ := H
      refine ev_s (pc' := 31) (loc' := [.ref a0, .null]) (st' := [.int (am_gi h18 a0 57), .ref a0]) (h1 := h18) am_q206 rfl rfl rfl (if_pos (e := none) g21) ?_
      refine ev_p (pc' := 33) (loc' := [.ref a0, .null]) (st' := [.int ((am_gi h18 a0 57) - (1 : Int32)), .ref a0]) 2 am_q206 rfl ?_
      obtain ⟨g22, H⟩ := H
      refine ev_s (pc' := 36) (loc' := [.ref a0, .null]) (st' := []) (h1 := am_si h18 a0 57 ((am_gi h18 a0 57) - (1 : Int32))) am_q206 rfl rfl rfl (if_pos (e := none) g22) ?_
      replace H := H _ rfl
      generalize am_si h18 a0 57 ((am_gi h18 a0 57) - (1 : Int32)) = h23 at H ⊢
      refine ev_p (pc' := 39) (loc' := [.ref a0, .null]) (st' := [.int (0 : Int32), .int (4 : Int32), .ref a0]) 3 am_q206 rfl ?_
      obtain ⟨g26, H⟩ := H
      refine ev_c (vs := [.ref a0, .int (4 : Int32), .int (0 : Int32)]) (rest := []) 202 am_q206 rfl rfl rfl rfl rfl rfl rfl rfl rfl rfl rfl rfl (Or.inr (congrArg some g26)) (Cl.mono H (Nat.le_refl _) (fun r25 h24 H => ?_))
      obtain ⟨rfl, H⟩ := H
      exact ev_r (v := none) am_q206 rfl rfl rfl rfl H
  · replace H := H.2 hq
    exact ev_r (v := none) am_q206 rfl rfl rfl rfl H
set_option maxRecDepth 20000 in
set_option maxHeartbeats 2000000 in
theorem wp206_72 {d : Nat} (a0 : Nat) {h : AH} {Q : Option Value → AH → Prop} (H : am_kd h a0 = 12 ∧ ((¬ (am_gi h a0 53) = (60 : Int32)) → am_kd h a0 = 12 ∧ Cl d 195 [.ref a0] h (fun r3 h2 => r3 = none ∧ am_kd h2 a0 = 12 ∧ Cl d 207 [.ref a0] h2 (fun r6 h5 => r6 = none ∧ am_kd h5 a0 = 12 ∧ Cl d 202 [.ref a0, .int (6 : Int32), .int (0 : Int32)] h5 (fun r9 h8 => r9 = none ∧ Q none h8)))) ∧ (¬ (¬ (am_gi h a0 53) = (60 : Int32)) → am_kd h a0 = 12 ∧ Cl d 195 [.ref a0] h (fun r12 h11 => r12 = none ∧ am_kd h11 a0 = 12 ∧ Cl d 207 [.ref a0] h11 (fun r15 h14 => r15 = none ∧ am_kd h14 a0 = 12 ∧ Cl d 202 [.ref a0, .int (5 : Int32), .int (0 : Int32)] h14 (fun r18 h17 => r18 = none ∧ Q none h17))))) : Ev (d + 1) 206 72 [.ref a0, .null] [] h Q := by
  refine ev_p (pc' := 73) (loc' := [.ref a0, .null]) (st' := [.ref a0]) 1 am_q206 rfl ?_
  obtain ⟨g1, H⟩ := H
  refine ev_s (pc' := 76) (loc' := [.ref a0, .null]) (st' := [.int (am_gi h a0 53)]) (h1 := h) am_q206 rfl rfl rfl (if_pos (e := none) g1) ?_
  refine ev_p (pc' := 78) (loc' := [.ref a0, .null]) (st' := [.int (60 : Int32), .int (am_gi h a0 53)]) 1 am_q206 rfl ?_
  refine ev_jc (t := 85) am_q206 rfl rfl (fun hq => ?_) (fun hq => ?_)
  · replace H := H.1 hq
    refine ev_p (pc' := 89) (loc' := [.ref a0, .int (6 : Int32)]) (st' := [.ref a0]) 3 am_q206 rfl ?_
    obtain ⟨g4, H⟩ := H
    refine ev_c (vs := [.ref a0]) (rest := []) 195 am_q206 rfl rfl rfl rfl rfl rfl rfl rfl rfl rfl rfl rfl (Or.inr (congrArg some g4)) (Cl.mono H (Nat.le_refl _) (fun r3 h2 H => ?_))
    obtain ⟨rfl, H⟩ := H
    refine ev_p (pc' := 93) (loc' := [.ref a0, .int (6 : Int32)]) (st' := [.ref a0]) 1 am_q206 rfl ?_
    obtain ⟨g7, H⟩ := H
    refine ev_c (vs := [.ref a0]) (rest := []) 207 am_q206 rfl rfl rfl rfl rfl rfl rfl rfl rfl rfl rfl rfl (Or.inr (congrArg some g7)) (Cl.mono H (Nat.le_refl _) (fun r6 h5 H => ?_))
    obtain ⟨rfl, H⟩ := H
    refine ev_p (pc' := 99) (loc' := [.ref a0, .int (6 : Int32)]) (st' := [.int (0 : Int32), .int (6 : Int32), .ref a0]) 3 am_q206 rfl ?_
    obtain ⟨g10, H⟩ := H
    refine ev_c (vs := [.ref a0, .int (6 : Int32), .int (0 : Int32)]) (rest := []) 202 am_q206 rfl rfl rfl rfl rfl rfl rfl rfl rfl rfl rfl rfl (Or.inr (congrArg some g10)) (Cl.mono H (Nat.le_refl _) (fun r9 h8 H => ?_))
    obtain ⟨rfl, H⟩ := H
    exact ev_r (v := none) am_q206 rfl rfl rfl rfl H
  · replace H := H.2 hq
    refine ev_p (pc' := 89) (loc' := [.ref a0, .int (5 : Int32)]) (st' := [.ref a0]) 4 am_q206 rfl ?_
    obtain ⟨g13, H⟩ := H
    refine ev_c (vs := [.ref a0]) (rest := []) 195 am_q206 rfl rfl rfl rfl rfl rfl rfl rfl rfl rfl rfl rfl (Or.inr (congrArg some g13)) (Cl.mono H (Nat.le_refl _) (fun r12 h11 H => ?_))
    obtain ⟨rfl, H⟩ := H
    refine ev_p (pc' := 93) (loc' := [.ref a0, .int (5 : Int32)]) (st' := [.ref a0]) 1 am_q206 rfl ?_
    obtain ⟨g16, H⟩ := H
    refine ev_c (vs := [.ref a0]) (rest := []) 207 am_q206 rfl rfl rfl rfl rfl rfl rfl rfl rfl rfl rfl rfl (Or.inr (congrArg some g16)) (Cl.mono H (Nat.le_refl _) (fun r15 h14 H => ?_))
    obtain ⟨rfl, H⟩ := H
    refine ev_p (pc' := 99) (loc' := [.ref a0, .int (5 : Int32)]) (st' := [.int (0 : Int32), .int (5 : Int32), .ref a0]) 3 am_q206 rfl ?_
    obtain ⟨g19, H⟩ := H
    refine ev_c (vs := [.ref a0, .int (5 : Int32), .int (0 : Int32)]) (rest := []) 202 am_q206 rfl rfl rfl rfl rfl rfl rfl rfl rfl rfl rfl rfl (Or.inr (congrArg some g19)) (Cl.mono H (Nat.le_refl _) (fun r18 h17 H => ?_))
    obtain ⟨rfl, H⟩ := H
    exact ev_r (v := none) am_q206 rfl rfl rfl rfl H
/-! 207: X12_sum -/
theorem am_q207 : (am_mt 207).2.2.2.2.2 = am_m207.2.2.2.2.2 := rfl
set_option maxRecDepth 20000 in
set_option maxHeartbeats 2000000 in
theorem wp207 {d : Nat} (a0 : Nat) {h : AH} {Q : Option Value → AH → Prop} (H : am_kd h a0 = 12 ∧ Cl d 208 [.ref a0] h (fun r2 h1 => r2 = none ∧ Ev (d + 1) 207 4 [.ref a0, .null] [] h1 Q)) : Cl (d + 1) 207 [.ref a0] h Q := by
  show Ev (d + 1) 207 0 [.ref a0, .null] [] h Q
  refine ev_p (pc' := 1) (loc' := [.ref a0, .null]) (st' := [.ref a0]) 1 am_q207 rfl ?_
  obtain ⟨g3, H⟩ := H
  refine ev_c (vs := [.ref a0]) (rest := []) 208 am_q207 rfl rfl rfl rfl rfl rfl rfl rfl rfl rfl rfl rfl (Or.inr (congrArg some g3)) (Cl.mono H (Nat.le_refl _) (fun r2 h1 H => ?_))
  obtain ⟨rfl, H⟩ := H
  exact ev_m (loc' := [.ref a0, .null]) am_q207 rfl rfl H
set_option maxRecDepth 20000 in
set_option maxHeartbeats 2000000 in
theorem wp207_4 {d : Nat} (a0 : Nat) {h : AH} {Q : Option Value → AH → Prop} (H : am_kd h a0 = 12 ∧ Cl d 198 [.ref a0] h (fun r2 h1 => ∃ x4, r2 = some (.int x4) ∧ ((¬ x4 = (0 : Int32)) → Q none h1) ∧ (¬ (¬ x4 = (0 : Int32)) → am_kd h1 a0 = 12 ∧ ((am_gi h1 a0 53) = (43 : Int32) → Ev (d + 1) 207 29 [.ref a0, .null] [] h1 Q) ∧ (¬ (am_gi h1 a0 53) = (43 : Int32) → am_kd h1 a0 = 12 ∧ ((¬ (am_gi h1 a0 53) = (45 : Int32)) → Q none h1) ∧ (¬ (¬ (am_gi h1 a0 53) = (45 : Int32)) → Ev (d + 1) 207 29 [.ref a0, .null] [] h1 Q))))) : Ev (d + 1) 207 4 [.ref a0, .null] [] h Q := by
  refine ev_p (pc' := 5) (loc' := [.ref a0, .null]) (st' := [.ref a0]) 1 am_q207 rfl ?_
  obtain ⟨g3, H⟩ := H
  refine ev_c (vs := [.ref a0]) (rest := []) 198 am_q207 rfl rfl rfl rfl rfl rfl rfl rfl rfl rfl rfl rfl (Or.inr (congrArg some g3)) (Cl.mono H (Nat.le_refl _) (fun r2 h1 H => ?_))
  obtain ⟨x4, rfl, H⟩ := H
  refine ev_jz (t := 63) am_q207 rfl rfl (fun hq => ?_) (fun hq => ?_)
  · replace H := H.1 hq
    exact ev_r (v := none) am_q207 rfl rfl rfl rfl H
  · replace H := H.2 hq
    refine ev_p (pc' := 12) (loc' := [.ref a0, .null]) (st' := [.ref a0]) 1 am_q207 rfl ?_
    obtain ⟨g5, H⟩ := H
    refine ev_s (pc' := 15) (loc' := [.ref a0, .null]) (st' := [.int (am_gi h1 a0 53)]) (h1 := h1) am_q207 rfl rfl rfl (if_pos (e := none) g5) ?_
    refine ev_p (pc' := 17) (loc' := [.ref a0, .null]) (st' := [.int (43 : Int32), .int (am_gi h1 a0 53)]) 1 am_q207 rfl ?_
    refine ev_jc (t := 29) am_q207 rfl rfl (fun hq => ?_) (fun hq => ?_)
    · replace H := H.1 hq
      exact ev_m (loc' := [.ref a0, .null]) am_q207 rfl rfl H
    · replace H := H.2 hq
      refine ev_p (pc' := 21) (loc' := [.ref a0, .null]) (st' := [.ref a0]) 1 am_q207 rfl ?_
      obtain ⟨g6, H⟩ := H
      refine ev_s (pc' := 24) (loc' := [.ref a0, .null]) (st' := [.int (am_gi h1 a0 53)]) (h1 := h1) am_q207 rfl rfl rfl (if_pos (e := none) g6) ?_
      refine ev_p (pc' := 26) (loc' := [.ref a0, .null]) (st' := [.int (45 : Int32), .int (am_gi h1 a0 53)]) 1 am_q207 rfl ?_
      refine ev_jc (t := 63) am_q207 rfl rfl (fun hq => ?_) (fun hq => ?_)
      · replace H := H.1 hq
        exact ev_r (v := none) am_q207 rfl rfl rfl rfl H
      · replace H := H.2 hq
        exact ev_m (loc' := [.ref a0, .null]) am_q207 rfl rfl H
set_option maxRecDepth 20000 in
set_option maxHeartbeats 2000000 in
theorem wp207_29 {d : Nat} (a0 : Nat) {h : AH} {Q : Option Value → AH → Prop} (H : am_kd h a0 = 12 ∧ ((¬ (am_gi h a0 53) = (43 : Int32)) → am_kd h a0 = 12 ∧ Cl d 195 [.ref a0] h (fun r3 h2 => r3 = none ∧ am_kd h2 a0 = 12 ∧ Cl d 208 [.ref a0] h2 (fun r6 h5 => r6 = none ∧ am_kd h5 a0 = 12 ∧ Cl d 202 [.ref a0, .int (8 : Int32), .int (0 : Int32)] h5 (fun r9 h8 => r9 = none ∧ Ev (d + 1) 207 4 [.ref a0, .null] [] h8 Q)))) ∧ (¬ (¬ (am_gi h a0 53) = (43 : Int32)) → am_kd h a0 = 12 ∧ Cl d 195 [.ref a0] h (fun r12 h11 => r12 = none ∧ am_kd h11 a0 = 12 ∧ Cl d 208 [.ref a0] h11 (fun r15 h14 => r15 = none ∧ am_kd h14 a0 = 12 ∧ Cl d 202 [.ref a0, .int (7 : Int32), .int (0 : Int32)] h14 (fun r18 h17 => r18 = none ∧ Ev (d + 1) 207 4 [.ref a0, .null] [] h17 Q))))) : Ev (d + 1) 207 29 [.ref a0, .null] [] h Q := by
  refine ev_p (pc' := 30) (loc' := [.ref a0, .null]) (st' := [.ref a0]) 1 am_q207 rfl ?_
  obtain ⟨g1, H⟩ := H
  refine ev_s (pc' := 33) (loc' := [.ref a0, .null]) (st' := [.int (am_gi h a0 53)]) (h1 := h) am_q207 rfl rfl rfl (if_pos (e := none) g1) ?_
  refine ev_p (pc' := 35) (loc' := [.ref a0, .null]) (st' := [.int (43 : Int32), .int (am_gi h a0 53)]) 1 am_q207 rfl ?_
  refine ev_jc (t := 43) am_q207 rfl rfl (fun hq => ?_) (fun hq => ?_)
  · replace H := H.1 hq
    refine ev_p (pc' := 47) (loc' := [.ref a0, .int (8 : Int32)]) (st' := [.ref a0]) 3 am_q207 rfl ?_
    obtain ⟨g4, H⟩ := H
    refine ev_c (vs := [.ref a0]) (rest := []) 195 am_q207 rfl rfl rfl rfl rfl rfl rfl rfl rfl rfl rfl rfl (Or.inr (congrArg some g4)) (Cl.mono H (Nat.le_refl _) (fun r3 h2 H => ?_))
    obtain ⟨rfl, H⟩ := H
    refine ev_p (pc' := 51) (loc' := [.ref a0, .int (8 : Int32)]) (st' := [.ref a0]) 1 am_q207 rfl ?_
    obtain ⟨g7, H⟩ := H
    refine ev_c (vs := [.ref a0]) (rest := []) 208 am_q207 rfl rfl rfl rfl rfl rfl rfl rfl rfl rfl rfl rfl (Or.inr (congrArg some g7)) (Cl.mono H (Nat.le_refl _) (fun r6 h5 H => ?_))
    obtain ⟨rfl, H⟩ := H
    refine ev_p (pc' := 57) (loc' := [.ref a0, .int (8 : Int32)]) (st' := [.int (0 : Int32), .int (8 : Int32), .ref a0]) 3 am_q207 rfl ?_
    obtain ⟨g10, H⟩ := H
    refine ev_c (vs := [.ref a0, .int (8 : Int32), .int (0 : Int32)]) (rest := []) 202 am_q207 rfl rfl rfl rfl rfl rfl rfl rfl rfl rfl rfl rfl (Or.inr (congrArg some g10)) (Cl.mono H (Nat.le_refl _) (fun r9 h8 H => ?_))
    obtain ⟨rfl, H⟩ := H
    refine ev_p (pc' := 4) (loc' := [.ref a0, .int (8 : Int32)]) (st' := []) 1 am_q207 rfl ?_
    exact ev_m (loc' := [.ref a0, .null]) am_q207 rfl rfl H
  · replace H := H.2 hq
    refine ev_p (pc' := 47) (loc' := [.ref a0, .int (7 : Int32)]) (st' := [.ref a0]) 4 am_q207 rfl ?_
    obtain ⟨g13, H⟩ := H
    refine ev_c (vs := [.ref a0]) (rest := []) 195 am_q207 rfl rfl rfl rfl rfl rfl rfl rfl rfl rfl rfl rfl (Or.inr (congrArg some g13)) (Cl.mono H (Nat.le_refl _) (fun r12 h11 H => ?_))
    obtain ⟨rfl, H⟩ := H
    refine ev_p (pc' := 51) (loc' := [.ref a0, .int (7 : Int32)]) (st' := [.ref a0]) 1 am_q207 rfl ?_
    obtain ⟨g16, H⟩ := H
    refine ev_c (vs := [.ref a0]) (rest := []) 208 am_q207 rfl rfl rfl rfl rfl rfl rfl rfl rfl rfl rfl rfl (Or.inr (congrArg some g16)) (Cl.mono H (Nat.le_refl _) (fun r15 h14 H => ?_))
    obtain ⟨rfl, H⟩ := H
    refine ev_p (pc' := 57) (loc' := [.ref a0, .int (7 : Int32)]) (st' := [.int (0 : Int32), .int (7 : Int32), .ref a0]) 3 am_q207 rfl ?_
    obtain ⟨g19, H⟩ := H
    refine ev_c (vs := [.ref a0, .int (7 : Int32), .int (0 : Int32)]) (rest := []) 202 am_q207 rfl rfl rfl rfl rfl rfl rfl rfl rfl rfl rfl rfl (Or.inr (congrArg some g19)) (Cl.mono H (Nat.le_refl _) (fun r18 h17 H => ?_))
    obtain ⟨rfl, H⟩ := H
    refine ev_p (pc' := 4) (loc' := [.ref a0, .int (7 : Int32)]) (st' := []) 1 am_q207 rfl ?_
    exact ev_m (loc' := [.ref a0, .null]) am_q207 rfl rfl H
/-! 208: X12_term -/
theorem am_q208 : (am_mt 208).2.2.2.2.2 = am_m208.2.2.2.2.2 := rfl
set_option maxRecDepth 20000 in
set_option maxHeartbeats 2000000 in
theorem wp208 {d : Nat} (a0 : Nat) {h : AH} {Q : Option Value → AH → Prop} (H : am_kd h a0 = 12 ∧ Cl d 210 [.ref a0] h (fun r2 h1 => r2 = none ∧ Ev (d + 1) 208 4 [.ref a0] [] h1 Q)) : Cl (d + 1) 208 [.ref a0] h Q := by
  show Ev (d + 1) 208 0 [.ref a0] [] h Q
  refine ev_p (pc' := 1) (loc' := [.ref a0]) (st' := [.ref a0]) 1 am_q208 rfl ?_
  obtain ⟨g3, H⟩ := H
  refine ev_c (vs := [.ref a0]) (rest := []) 210 am_q208 rfl rfl rfl rfl rfl rfl rfl rfl rfl rfl rfl rfl (Or.inr (congrArg some g3)) (Cl.mono H (Nat.le_refl _) (fun r2 h1 H => ?_))
  obtain ⟨rfl, H⟩ := H
  exact ev_m (loc' := [.ref a0]) am_q208 rfl rfl H
set_option maxRecDepth 20000 in
set_option maxHeartbeats 2000000 in
theorem wp208_4 {d : Nat} (a0 : Nat) {h : AH} {Q : Option Value → AH → Prop} (H : am_kd h a0 = 12 ∧ Cl d 198 [.ref a0] h (fun r2 h1 => ∃ x4, r2 = some (.int x4) ∧ ((¬ x4 = (0 : Int32)) → Q none h1) ∧ (¬ (¬ x4 = (0 : Int32)) → am_kd h1 a0 = 12 ∧ ((¬ (am_gi h1 a0 53) = (42 : Int32)) → Q none h1) ∧ (¬ (¬ (am_gi h1 a0 53) = (42 : Int32)) → am_kd h1 a0 = 12 ∧ Cl d 195 [.ref a0] h1 (fun r7 h6 => r7 = none ∧ am_kd h6 a0 = 12 ∧ Cl d 210 [.ref a0] h6 (fun r10 h9 => r10 = none ∧ am_kd h9 a0 = 12 ∧ Cl d 202 [.ref a0, .int (9 : Int32), .int (0 : Int32)] h9 (fun r13 h12 => r13 = none ∧ Ev (d + 1) 208 4 [.ref a0] [] h12 Q))))))) : Ev (d + 1) 208 4 [.ref a0] [] h Q := by
  refine ev_p (pc' := 5) (loc' := [.ref a0]) (st' := [.ref a0]) 1 am_q208 rfl ?_
  obtain ⟨g3, H⟩ := H
  refine ev_c (vs := [.ref a0]) (rest := []) 198 am_q208 rfl rfl rfl rfl rfl rfl rfl rfl rfl rfl rfl rfl (Or.inr (congrArg some g3)) (Cl.mono H (Nat.le_refl _) (fun r2 h1 H => ?_))
  obtain ⟨x4, rfl, H⟩ := H
  refine ev_jz (t := 38) am_q208 rfl rfl (fun hq => ?_) (fun hq => ?_)
  · replace H := H.1 hq
    exact ev_r (v := none) am_q208 rfl rfl rfl rfl H
  · replace H := H.2 hq
    refine ev_p (pc' := 12) (loc' := [.ref a0]) (st' := [.ref a0]) 1 am_q208 rfl ?_
    obtain ⟨g5, H⟩ := H
    refine ev_s (pc' := 15) (loc' := [.ref a0]) (st' := [.int (am_gi h1 a0 53)]) (h1 := h1) am_q208 rfl rfl rfl (if_pos (e := none) g5) ?_
    refine ev_p (pc' := 17) (loc' := [.ref a0]) (st' := [.int (42 : Int32), .int (am_gi h1 a0 53)]) 1 am_q208 rfl ?_
    refine ev_jc (t := 38) am_q208 rfl rfl (fun hq => ?_) (fun hq => ?_)
    · replace H := H.1 hq
      exact ev_r (v := none) am_q208 rfl rfl rfl rfl H
    · replace H := H.2 hq
      refine ev_p (pc' := 21) (loc' := [.ref a0]) (st' := [.ref a0]) 1 am_q208 rfl ?_
      obtain ⟨g8, H⟩ := H
      refine ev_c (vs := [.ref a0]) (rest := []) 195 am_q208 rfl rfl rfl rfl rfl rfl rfl rfl rfl rfl rfl rfl (Or.inr (congrArg some g8)) (Cl.mono H (Nat.le_refl _) (fun r7 h6 H => ?_))
      obtain ⟨rfl, H⟩ := H
      refine ev_p (pc' := 25) (loc' := [.ref a0]) (st' := [.ref a0]) 1 am_q208 rfl ?_
      obtain ⟨g11, H⟩ := H
      refine ev_c (vs := [.ref a0]) (rest := []) 210 am_q208 rfl rfl rfl rfl rfl rfl rfl rfl rfl rfl rfl rfl (Or.inr (congrArg some g11)) (Cl.mono H (Nat.le_refl _) (fun r10 h9 H => ?_))
      obtain ⟨rfl, H⟩ := H
      refine ev_p (pc' := 32) (loc' := [.ref a0]) (st' := [.int (0 : Int32), .int (9 : Int32), .ref a0]) 3 am_q208 rfl ?_
      obtain ⟨g14, H⟩ := H
      refine ev_c (vs := [.ref a0, .int (9 : Int32), .int (0 : Int32)]) (rest := []) 202 am_q208 rfl rfl rfl rfl rfl rfl rfl rfl rfl rfl rfl rfl (Or.inr (congrArg some g14)) (Cl.mono H (Nat.le_refl _) (fun r13 h12 H => ?_))
      obtain ⟨rfl, H⟩ := H
      refine ev_p (pc' := 4) (loc' := [.ref a0]) (st' := []) 1 am_q208 rfl ?_
      exact ev_m (loc' := [.ref a0]) am_q208 rfl rfl H
/-! 209: X12_mayHave -/
theorem am_q209 : (am_mt 209).2.2.2.2.2 = am_m209.2.2.2.2.2 := rfl
set_option maxRecDepth 20000 in
set_option maxHeartbeats 2000000 in
theorem wp209 {d : Nat} (a0 : Nat) (i1 : Int32) {h : AH} {Q : Option Value → AH → Prop} (H : am_kd h a0 = 12 ∧ ((2 : Int32) ≤ (am_gi h a0 59) → am_kd h a0 = 12 ∧ ((¬ (am_gi h a0 59) = (2 : Int32)) → (i1 = (1 : Int32) → Q (some (.int (1 : Int32))) h) ∧ (¬ i1 = (1 : Int32) → (i1 = (2 : Int32) → Q (some (.int (1 : Int32))) h) ∧ (¬ i1 = (2 : Int32) → (i1 = (5 : Int32) → Q (some (.int (1 : Int32))) h) ∧ (¬ i1 = (5 : Int32) → ((¬ i1 = (6 : Int32)) → Q (some (.int (0 : Int32))) h) ∧ (¬ (¬ i1 = (6 : Int32)) → Q (some (.int (1 : Int32))) h))))) ∧ (¬ (¬ (am_gi h a0 59) = (2 : Int32)) → ((¬ i1 = (7 : Int32)) → Q (some (.int (0 : Int32))) h) ∧ (¬ (¬ i1 = (7 : Int32)) → Q (some (.int (1 : Int32))) h))) ∧ (¬ (2 : Int32) ≤ (am_gi h a0 59) → (i1 = (7 : Int32) → Q (some (.int (0 : Int32))) h) ∧ (¬ i1 = (7 : Int32) → Q (some (.int (1 : Int32))) h))) : Cl d 209 [.ref a0, .int i1] h Q := by
  show Ev d 209 0 [.ref a0, .int i1] [] h Q
  refine ev_p (pc' := 1) (loc' := [.ref a0, .int i1]) (st' := [.ref a0]) 1 am_q209 rfl ?_
  obtain ⟨g1, H⟩ := H
  refine ev_s (pc' := 4) (loc' := [.ref a0, .int i1]) (st' := [.int (am_gi h a0 59)]) (h1 := h) am_q209 rfl rfl rfl (if_pos (e := none) g1) ?_
  refine ev_p (pc' := 5) (loc' := [.ref a0, .int i1]) (st' := [.int (2 : Int32), .int (am_gi h a0 59)]) 1 am_q209 rfl ?_
  refine ev_jc (t := 20) am_q209 rfl rfl (fun hq => ?_) (fun hq => ?_)
  · replace H := H.1 hq
    refine ev_p (pc' := 21) (loc' := [.ref a0, .int i1]) (st' := [.ref a0]) 1 am_q209 rfl ?_
    obtain ⟨g2, H⟩ := H
    refine ev_s (pc' := 24) (loc' := [.ref a0, .int i1]) (st' := [.int (am_gi h a0 59)]) (h1 := h) am_q209 rfl rfl rfl (if_pos (e := none) g2) ?_
    refine ev_p (pc' := 25) (loc' := [.ref a0, .int i1]) (st' := [.int (2 : Int32), .int (am_gi h a0 59)]) 1 am_q209 rfl ?_
    refine ev_jc (t := 42) am_q209 rfl rfl (fun hq => ?_) (fun hq => ?_)
    · replace H := H.1 hq
      refine ev_p (pc' := 44) (loc' := [.ref a0, .int i1]) (st' := [.int (1 : Int32), .int i1]) 2 am_q209 rfl ?_
      refine ev_jc (t := 63) am_q209 rfl rfl (fun hq => ?_) (fun hq => ?_)
      · replace H := H.1 hq
        refine ev_p (pc' := 68) (loc' := [.null, .null]) (st' := [.int (1 : Int32)]) 2 am_q209 rfl ?_
        exact ev_r (v := some (.int (1 : Int32))) am_q209 rfl rfl rfl rfl H
      · replace H := H.2 hq
        refine ev_p (pc' := 49) (loc' := [.ref a0, .int i1]) (st' := [.int (2 : Int32), .int i1]) 2 am_q209 rfl ?_
        refine ev_jc (t := 63) am_q209 rfl rfl (fun hq => ?_) (fun hq => ?_)
        · replace H := H.1 hq
          refine ev_p (pc' := 68) (loc' := [.null, .null]) (st' := [.int (1 : Int32)]) 2 am_q209 rfl ?_
          exact ev_r (v := some (.int (1 : Int32))) am_q209 rfl rfl rfl rfl H
        · replace H := H.2 hq
          refine ev_p (pc' := 54) (loc' := [.ref a0, .int i1]) (st' := [.int (5 : Int32), .int i1]) 2 am_q209 rfl ?_
          refine ev_jc (t := 63) am_q209 rfl rfl (fun hq => ?_) (fun hq => ?_)
          · replace H := H.1 hq
            refine ev_p (pc' := 68) (loc' := [.null, .null]) (st' := [.int (1 : Int32)]) 2 am_q209 rfl ?_
            exact ev_r (v := some (.int (1 : Int32))) am_q209 rfl rfl rfl rfl H
          · replace H := H.2 hq
            refine ev_p (pc' := 60) (loc' := [.ref a0, .int i1]) (st' := [.int (6 : Int32), .int i1]) 2 am_q209 rfl ?_
            refine ev_jc (t := 67) am_q209 rfl rfl (fun hq => ?_) (fun hq => ?_)
            · replace H := H.1 hq
              refine ev_p (pc' := 68) (loc' := [.ref a0, .int i1]) (st' := [.int (0 : Int32)]) 1 am_q209 rfl ?_
              exact ev_r (v := some (.int (0 : Int32))) am_q209 rfl rfl rfl rfl H
            · replace H := H.2 hq
              refine ev_p (pc' := 68) (loc' := [.null, .null]) (st' := [.int (1 : Int32)]) 2 am_q209 rfl ?_
              exact ev_r (v := some (.int (1 : Int32))) am_q209 rfl rfl rfl rfl H
    · replace H := H.2 hq
      refine ev_p (pc' := 31) (loc' := [.ref a0, .int i1]) (st' := [.int (7 : Int32), .int i1]) 2 am_q209 rfl ?_
      refine ev_jc (t := 38) am_q209 rfl rfl (fun hq => ?_) (fun hq => ?_)
      · replace H := H.1 hq
        refine ev_p (pc' := 68) (loc' := [.ref a0, .int i1]) (st' := [.int (0 : Int32)]) 2 am_q209 rfl ?_
        exact ev_r (v := some (.int (0 : Int32))) am_q209 rfl rfl rfl rfl H
      · replace H := H.2 hq
        refine ev_p (pc' := 68) (loc' := [.ref a0, .int i1]) (st' := [.int (1 : Int32)]) 2 am_q209 rfl ?_
        exact ev_r (v := some (.int (1 : Int32))) am_q209 rfl rfl rfl rfl H
  · replace H := H.2 hq
    refine ev_p (pc' := 11) (loc' := [.ref a0, .int i1]) (st' := [.int (7 : Int32), .int i1]) 2 am_q209 rfl ?_
    refine ev_jc (t := 18) am_q209 rfl rfl (fun hq => ?_) (fun hq => ?_)
    · replace H := H.1 hq
      refine ev_p (pc' := 19) (loc' := [.ref a0, .int i1]) (st' := [.int (0 : Int32)]) 1 am_q209 rfl ?_
      exact ev_r (v := some (.int (0 : Int32))) am_q209 rfl rfl rfl rfl H
    · replace H := H.2 hq
      refine ev_p (pc' := 19) (loc' := [.ref a0, .int i1]) (st' := [.int (1 : Int32)]) 2 am_q209 rfl ?_
      exact ev_r (v := some (.int (1 : Int32))) am_q209 rfl rfl rfl rfl H
/-! 210: X12_one -/
theorem am_q210 : (am_mt 210).2.2.2.2.2 = am_m210.2.2.2.2.2 := rfl
set_option maxRecDepth 20000 in
set_option maxHeartbeats 2000000 in
theorem wp210 {d : Nat} (a0 : Nat) {h : AH} {Q : Option Value → AH → Prop} (H : am_kd h a0 = 12 ∧ Cl d 198 [.ref a0] h (fun r2 h1 => ∃ x4, r2 = some (.int x4) ∧ (x4 = (0 : Int32) → am_kd h1 a0 = 12 ∧ ((¬ (am_gi h1 a0 53) = (1 : Int32)) → am_kd h1 a0 = 12 ∧ ((¬ (am_gi h1 a0 53) = (3 : Int32)) → am_kd h1 a0 = 12 ∧ ((¬ (am_gi h1 a0 53) = (45 : Int32)) → am_kd h1 a0 = 12 ∧ ((¬ (am_gi h1 a0 53) = (40 : Int32)) → am_kd h1 a0 = 12 ∧ Cl d 199 [.ref a0] h1 (fun r10 h9 => r10 = none ∧ Q none h9)) ∧ (¬ (¬ (am_gi h1 a0 53) = (40 : Int32)) → am_kd h1 a0 = 12 ∧ Cl d 201 [.ref a0] h1 (fun r13 h12 => r13 = none ∧ am_kd h12 a0 = 12 ∧ Cl d 204 [.ref a0] h12 (fun r16 h15 => r16 = none ∧ am_kd h15 a0 = 12 ∧ Cl d 200 [.ref a0, .int (41 : Int32)] h15 (fun r19 h18 => r19 = none ∧ am_kd h18 a0 = 12 ∧ am_kd h18 a0 = 12 ∧ ∀ h23, h23 = am_si h18 a0 57 ((am_gi h18 a0 57) - (1 : Int32)) → Q none h23))))) ∧ (¬ (¬ (am_gi h1 a0 53) = (45 : Int32)) → am_kd h1 a0 = 12 ∧ Cl d 201 [.ref a0] h1 (fun r25 h24 => r25 = none ∧ am_kd h24 a0 = 12 ∧ Cl d 210 [.ref a0] h24 (fun r28 h27 => r28 = none ∧ am_kd h27 a0 = 12 ∧ am_kd h27 a0 = 12 ∧ ∀ h32, h32 = am_si h27 a0 57 ((am_gi h27 a0 57) - (1 : Int32)) → am_kd h32 a0 = 12 ∧ Cl d 202 [.ref a0, .int (10 : Int32), .int (0 : Int32)] h32 (fun r34 h33 => r34 = none ∧ Q none h33))))) ∧ (¬ (¬ (am_gi h1 a0 53) = (3 : Int32)) → am_kd h1 a0 = 12 ∧ ((¬ (am_gi h1 a0 56) = (-1 : Int32)) → am_kd h1 a0 = 12 ∧ am_kd h1 a0 = 12 ∧ ∀ h39, h39 = am_si h1 a0 56 (am_gi h1 a0 56) → am_kd h39 a0 = 12 ∧ am_kd h39 a0 = 12 ∧ Cl d 202 [.ref a0, .int (1 : Int32), .int (am_gi h39 a0 54)] h39 (fun r42 h41 => r42 = none ∧ am_kd h41 a0 = 12 ∧ Cl d 195 [.ref a0] h41 (fun r45 h44 => r45 = none ∧ Q none h44))) ∧ (¬ (¬ (am_gi h1 a0 56) = (-1 : Int32)) → am_kd h1 a0 = 12 ∧ am_kd h1 a0 = 12 ∧ Cl d 209 [.ref a0, .int (am_gi h1 a0 54)] h1 (fun r49 h48 => ∃ x51, r49 = some (.int x51) ∧ ((¬ x51 = (0 : Int32)) → am_kd h48 a0 = 12 ∧ am_kd h48 a0 = 12 ∧ ∀ h54, h54 = am_si h48 a0 56 (am_gi h48 a0 56) → am_kd h54 a0 = 12 ∧ am_kd h54 a0 = 12 ∧ Cl d 202 [.ref a0, .int (1 : Int32), .int (am_gi h54 a0 54)] h54 (fun r57 h56 => r57 = none ∧ am_kd h56 a0 = 12 ∧ Cl d 195 [.ref a0] h56 (fun r60 h59 => r60 = none ∧ Q none h59))) ∧ (¬ (¬ x51 = (0 : Int32)) → am_kd h48 a0 = 12 ∧ am_kd h48 a0 = 12 ∧ ∀ h64, h64 = am_si h48 a0 56 (am_gi h48 a0 52) → am_kd h64 a0 = 12 ∧ am_kd h64 a0 = 12 ∧ Cl d 202 [.ref a0, .int (1 : Int32), .int (am_gi h64 a0 54)] h64 (fun r67 h66 => r67 = none ∧ am_kd h66 a0 = 12 ∧ Cl d 195 [.ref a0] h66 (fun r70 h69 => r70 = none ∧ Q none h69))))))) ∧ (¬ (¬ (am_gi h1 a0 53) = (1 : Int32)) → am_kd h1 a0 = 12 ∧ am_kd h1 a0 = 12 ∧ Cl d 202 [.ref a0, .int (0 : Int32), .int (am_gi h1 a0 54)] h1 (fun r74 h73 => r74 = none ∧ am_kd h73 a0 = 12 ∧ Cl d 195 [.ref a0] h73 (fun r77 h76 => r77 = none ∧ Q none h76)))) ∧ (¬ x4 = (0 : Int32) → Q none h1))) : Cl (d + 1) 210 [.ref a0] h Q := by
  show Ev (d + 1) 210 0 [.ref a0] [] h Q
  refine ev_p (pc' := 1) (loc' := [.ref a0]) (st' := [.ref a0]) 1 am_q210 rfl ?_
  obtain ⟨g3, H⟩ := H
  refine ev_c (vs := [.ref a0]) (rest := []) 198 am_q210 rfl rfl rfl rfl rfl rfl rfl rfl rfl rfl rfl rfl (Or.inr (congrArg some g3)) (Cl.mono H (Nat.le_refl _) (fun r2 h1 H => ?_))
  obtain ⟨x4, rfl, H⟩ := H
  refine ev_jz (t := 8) am_q210 rfl rfl (fun hq => ?_) (fun hq => ?_)
  · replace H := H.1 hq
    refine ev_p (pc' := 9) (loc' := [.ref a0]) (st' := [.ref a0]) 1 am_q210 rfl ?_
    obtain ⟨g5, H⟩ := H
    refine ev_s (pc' := 12) (loc' := [.ref a0]) (st' := [.int (am_gi h1 a0 53)]) (h1 := h1) am_q210 rfl rfl rfl (if_pos (e := none) g5) ?_
    refine ev_p (pc' := 13) (loc' := [.ref a0]) (st' := [.int (1 : Int32), .int (am_gi h1 a0 53)]) 1 am_q210 rfl ?_
    refine ev_jc (t := 32) am_q210 rfl rfl (fun hq => ?_) (fun hq => ?_)
    · replace H := H.1 hq
      refine ev_p (pc' := 33) (loc' := [.ref a0]) (st' := [.ref a0]) 1 am_q210 rfl ?_
      obtain ⟨g6, H⟩ := H
      refine ev_s (pc' := 36) (loc' := [.ref a0]) (st' := [.int (am_gi h1 a0 53)]) (h1 := h1) am_q210 rfl rfl rfl (if_pos (e := none) g6) ?_
      refine ev_p (pc' := 37) (loc' := [.ref a0]) (st' := [.int (3 : Int32), .int (am_gi h1 a0 53)]) 1 am_q210 rfl ?_
      refine ev_jc (t := 90) am_q210 rfl rfl (fun hq => ?_) (fun hq => ?_)
      · replace H := H.1 hq
        refine ev_p (pc' := 91) (loc' := [.ref a0]) (st' := [.ref a0]) 1 am_q210 rfl ?_
        obtain ⟨g7, H⟩ := H
        refine ev_s (pc' := 94) (loc' := [.ref a0]) (st' := [.int (am_gi h1 a0 53)]) (h1 := h1) am_q210 rfl rfl rfl (if_pos (e := none) g7) ?_
        refine ev_p (pc' := 96) (loc' := [.ref a0]) (st' := [.int (45 : Int32), .int (am_gi h1 a0 53)]) 1 am_q210 rfl ?_
        refine ev_jc (t := 127) am_q210 rfl rfl (fun hq => ?_) (fun hq => ?_)
        · replace H := H.1 hq
          refine ev_p (pc' := 128) (loc' := [.ref a0]) (st' := [.ref a0]) 1 am_q210 rfl ?_
          obtain ⟨g8, H⟩ := H
          refine ev_s (pc' := 131) (loc' := [.ref a0]) (st' := [.int (am_gi h1 a0 53)]) (h1 := h1) am_q210 rfl rfl rfl (if_pos (e := none) g8) ?_
          refine ev_p (pc' := 133) (loc' := [.ref a0]) (st' := [.int (40 : Int32), .int (am_gi h1 a0 53)]) 1 am_q210 rfl ?_
          refine ev_jc (t := 163) am_q210 rfl rfl (fun hq => ?_) (fun hq => ?_)
          · replace H := H.1 hq
            refine ev_p (pc' := 164) (loc' := [.ref a0]) (st' := [.ref a0]) 1 am_q210 rfl ?_
            obtain ⟨g11, H⟩ := H
            refine ev_c (vs := [.ref a0]) (rest := []) 199 am_q210 rfl rfl rfl rfl rfl rfl rfl rfl rfl rfl rfl rfl (Or.inr (congrArg some g11)) (Cl.mono H (Nat.le_refl _) (fun r10 h9 H => ?_))
            obtain ⟨rfl, H⟩ := H
            exact ev_r (v := none) am_q210 rfl rfl rfl rfl H
          · replace H := H.2 hq
            refine ev_p (pc' := 137) (loc' := [.ref a0]) (st' := [.ref a0]) 1 am_q210 rfl ?_
            obtain ⟨g14, H⟩ := H
            refine ev_c (vs := [.ref a0]) (rest := []) 201 am_q210 rfl rfl rfl rfl rfl rfl rfl rfl rfl rfl rfl rfl (Or.inr (congrArg some g14)) (Cl.mono H (Nat.le_refl _) (fun r13 h12 H => ?_))
            obtain ⟨rfl, H⟩ := H
            refine ev_p (pc' := 141) (loc' := [.ref a0]) (st' := [.ref a0]) 1 am_q210 rfl ?_
            obtain ⟨g17, H⟩ := H
            refine ev_c (vs := [.ref a0]) (rest := []) 204 am_q210 rfl rfl rfl rfl rfl rfl rfl rfl rfl rfl rfl rfl (Or.inr (congrArg some g17)) (Cl.mono H (Nat.le_refl _) (fun r16 h15 H => ?_))
            obtain ⟨rfl, H⟩ := H
            refine ev_p (pc' := 147) (loc' := [.ref a0]) (st' := [.int (41 : Int32), .ref a0]) 2 am_q210 rfl ?_
            obtain ⟨g20, H⟩ := H
            refine ev_c (vs := [.ref a0, .int (41 : Int32)]) (rest := []) 200 am_q210 rfl rfl rfl rfl rfl rfl rfl rfl rfl rfl rfl rfl (Or.inr (congrArg some g20)) (Cl.mono H (Nat.le_refl _) (fun r19 h18 H => ?_))
            obtain ⟨rfl, H⟩ := H
            refine ev_p (pc' := 152) (loc' := [.ref a0]) (st' := [.ref a0, .ref a0]) 2 am_q210 rfl ?_
            obtain ⟨g21, H⟩ := H
            refine ev_s (pc' := 155) (loc' := [.ref a0]) (st' := [.int (am_gi h18 a0 57), .ref a0]) (h1 := h18) am_q210 rfl rfl rfl (if_pos (e := none) g21) ?_
            refine ev_p (pc' := 157) (loc' := [.ref a0]) (st' := [.int ((am_gi h18 a0 57) - (1 : Int32)), .ref a0]) 2 am_q210 rfl ?_
            obtain ⟨g22, H⟩ := H
            refine ev_s (pc' := 160) (loc' := [.ref a0]) (st' := []) (h1 := am_si h18 a0 57 ((am_gi h18 a0 57) - (1 : Int32))) am_q210 rfl rfl rfl (if_pos (e := none) g22) ?_
            replace H := H _ rfl
            generalize am_si h18 a0 57 ((am_gi h18 a0 57) - (1 : Int32)) = h23 at H ⊢
            refine ev_p (pc' := 167) (loc' := [.ref a0]) (st' := []) 1 am_q210 rfl ?_
            exact ev_r (v := none) am_q210 rfl rfl rfl rfl H
        · replace H := H.2 hq
          refine ev_p (pc' := 100) (loc' := [.ref a0]) (st' := [.ref a0]) 1 am_q210 rfl ?_
          obtain ⟨g26, H⟩ := H
          refine ev_c (vs := [.ref a0]) (rest := []) 201 am_q210 rfl rfl rfl rfl rfl rfl rfl rfl rfl rfl rfl rfl (Or.inr (congrArg some g26)) (Cl.mono H (Nat.le_refl _) (fun r25 h24 H => ?_))
          obtain ⟨rfl, H⟩ := H
          refine ev_p (pc' := 104) (loc' := [.ref a0]) (st' := [.ref a0]) 1 am_q210 rfl ?_
          obtain ⟨g29, H⟩ := H
          refine ev_c (vs := [.ref a0]) (rest := []) 210 am_q210 rfl rfl rfl rfl rfl rfl rfl rfl rfl rfl rfl rfl (Or.inr (congrArg some g29)) (Cl.mono H (Nat.le_refl _) (fun r28 h27 H => ?_))
          obtain ⟨rfl, H⟩ := H
          refine ev_p (pc' := 109) (loc' := [.ref a0]) (st' := [.ref a0, .ref a0]) 2 am_q210 rfl ?_
          obtain ⟨g30, H⟩ := H
          refine ev_s (pc' := 112) (loc' := [.ref a0]) (st' := [.int (am_gi h27 a0 57), .ref a0]) (h1 := h27) am_q210 rfl rfl rfl (if_pos (e := none) g30) ?_
          refine ev_p (pc' := 114) (loc' := [.ref a0]) (st' := [.int ((am_gi h27 a0 57) - (1 : Int32)), .ref a0]) 2 am_q210 rfl ?_
          obtain ⟨g31, H⟩ := H
          refine ev_s (pc' := 117) (loc' := [.ref a0]) (st' := []) (h1 := am_si h27 a0 57 ((am_gi h27 a0 57) - (1 : Int32))) am_q210 rfl rfl rfl (if_pos (e := none) g31) ?_
          replace H := H _ rfl
          generalize am_si h27 a0 57 ((am_gi h27 a0 57) - (1 : Int32)) = h32 at H ⊢
          refine ev_p (pc' := 121) (loc' := [.ref a0]) (st' := [.int (0 : Int32), .int (10 : Int32), .ref a0]) 3 am_q210 rfl ?_
          obtain ⟨g35, H⟩ := H
          refine ev_c (vs := [.ref a0, .int (10 : Int32), .int (0 : Int32)]) (rest := []) 202 am_q210 rfl rfl rfl rfl rfl rfl rfl rfl rfl rfl rfl rfl (Or.inr (congrArg some g35)) (Cl.mono H (Nat.le_refl _) (fun r34 h33 H => ?_))
          obtain ⟨rfl, H⟩ := H
          refine ev_p (pc' := 167) (loc' := [.ref a0]) (st' := []) 1 am_q210 rfl ?_
          exact ev_r (v := none) am_q210 rfl rfl rfl rfl H
      · replace H := H.2 hq
        refine ev_p (pc' := 42) (loc' := [.ref a0]) (st' := [.ref a0, .ref a0]) 2 am_q210 rfl ?_
        obtain ⟨g36, H⟩ := H
        refine ev_s (pc' := 45) (loc' := [.ref a0]) (st' := [.int (am_gi h1 a0 56), .ref a0]) (h1 := h1) am_q210 rfl rfl rfl (if_pos (e := none) g36) ?_
        refine ev_p (pc' := 46) (loc' := [.ref a0]) (st' := [.int (-1 : Int32), .int (am_gi h1 a0 56), .ref a0]) 1 am_q210 rfl ?_
        refine ev_jc (t := 67) am_q210 rfl rfl (fun hq => ?_) (fun hq => ?_)
        · replace H := H.1 hq
          refine ev_p (pc' := 68) (loc' := [.ref a0]) (st' := [.ref a0, .ref a0]) 1 am_q210 rfl ?_
          obtain ⟨g37, H⟩ := H
          refine ev_s (pc' := 71) (loc' := [.ref a0]) (st' := [.int (am_gi h1 a0 56), .ref a0]) (h1 := h1) am_q210 rfl rfl rfl (if_pos (e := none) g37) ?_
          obtain ⟨g38, H⟩ := H
          refine ev_s (pc' := 74) (loc' := [.ref a0]) (st' := []) (h1 := am_si h1 a0 56 (am_gi h1 a0 56)) am_q210 rfl rfl rfl (if_pos (e := none) g38) ?_
          replace H := H _ rfl
          generalize am_si h1 a0 56 (am_gi h1 a0 56) = h39 at H ⊢
          refine ev_p (pc' := 77) (loc' := [.ref a0]) (st' := [.ref a0, .int (1 : Int32), .ref a0]) 3 am_q210 rfl ?_
          obtain ⟨g40, H⟩ := H
          refine ev_s (pc' := 80) (loc' := [.ref a0]) (st' := [.int (am_gi h39 a0 54), .int (1 : Int32), .ref a0]) (h1 := h39) am_q210 rfl rfl rfl (if_pos (e := none) g40) ?_
          obtain ⟨g43, H⟩ := H
          refine ev_c (vs := [.ref a0, .int (1 : Int32), .int (am_gi h39 a0 54)]) (rest := []) 202 am_q210 rfl rfl rfl rfl rfl rfl rfl rfl rfl rfl rfl rfl (Or.inr (congrArg some g43)) (Cl.mono H (Nat.le_refl _) (fun r42 h41 H => ?_))
          obtain ⟨rfl, H⟩ := H
          refine ev_p (pc' := 84) (loc' := [.ref a0]) (st' := [.ref a0]) 1 am_q210 rfl ?_
          obtain ⟨g46, H⟩ := H
          refine ev_c (vs := [.ref a0]) (rest := []) 195 am_q210 rfl rfl rfl rfl rfl rfl rfl rfl rfl rfl rfl rfl (Or.inr (congrArg some g46)) (Cl.mono H (Nat.le_refl _) (fun r45 h44 H => ?_))
          obtain ⟨rfl, H⟩ := H
          refine ev_p (pc' := 167) (loc' := [.ref a0]) (st' := []) 1 am_q210 rfl ?_
          exact ev_r (v := none) am_q210 rfl rfl rfl rfl H
        · replace H := H.2 hq
          refine ev_p (pc' := 51) (loc' := [.ref a0]) (st' := [.ref a0, .ref a0, .ref a0]) 2 am_q210 rfl ?_
          obtain ⟨g47, H⟩ := H
          refine ev_s (pc' := 54) (loc' := [.ref a0]) (st' := [.int (am_gi h1 a0 54), .ref a0, .ref a0]) (h1 := h1) am_q210 rfl rfl rfl (if_pos (e := none) g47) ?_
          obtain ⟨g50, H⟩ := H
          refine ev_c (vs := [.ref a0, .int (am_gi h1 a0 54)]) (rest := [.ref a0]) 209 am_q210 rfl rfl rfl rfl rfl rfl rfl rfl rfl rfl rfl rfl (Or.inr (congrArg some g50)) (Cl.mono H (Nat.le_refl _) (fun r49 h48 H => ?_))
          obtain ⟨x51, rfl, H⟩ := H
          refine ev_jz (t := 67) am_q210 rfl rfl (fun hq => ?_) (fun hq => ?_)
          · replace H := H.1 hq
            refine ev_p (pc' := 68) (loc' := [.ref a0]) (st' := [.ref a0, .ref a0]) 1 am_q210 rfl ?_
            obtain ⟨g52, H⟩ := H
            refine ev_s (pc' := 71) (loc' := [.ref a0]) (st' := [.int (am_gi h48 a0 56), .ref a0]) (h1 := h48) am_q210 rfl rfl rfl (if_pos (e := none) g52) ?_
            obtain ⟨g53, H⟩ := H
            refine ev_s (pc' := 74) (loc' := [.ref a0]) (st' := []) (h1 := am_si h48 a0 56 (am_gi h48 a0 56)) am_q210 rfl rfl rfl (if_pos (e := none) g53) ?_
            replace H := H _ rfl
            generalize am_si h48 a0 56 (am_gi h48 a0 56) = h54 at H ⊢
            refine ev_p (pc' := 77) (loc' := [.ref a0]) (st' := [.ref a0, .int (1 : Int32), .ref a0]) 3 am_q210 rfl ?_
            obtain ⟨g55, H⟩ := H
            refine ev_s (pc' := 80) (loc' := [.ref a0]) (st' := [.int (am_gi h54 a0 54), .int (1 : Int32), .ref a0]) (h1 := h54) am_q210 rfl rfl rfl (if_pos (e := none) g55) ?_
            obtain ⟨g58, H⟩ := H
            refine ev_c (vs := [.ref a0, .int (1 : Int32), .int (am_gi h54 a0 54)]) (rest := []) 202 am_q210 rfl rfl rfl rfl rfl rfl rfl rfl rfl rfl rfl rfl (Or.inr (congrArg some g58)) (Cl.mono H (Nat.le_refl _) (fun r57 h56 H => ?_))
            obtain ⟨rfl, H⟩ := H
            refine ev_p (pc' := 84) (loc' := [.ref a0]) (st' := [.ref a0]) 1 am_q210 rfl ?_
            obtain ⟨g61, H⟩ := H
            refine ev_c (vs := [.ref a0]) (rest := []) 195 am_q210 rfl rfl rfl rfl rfl rfl rfl rfl rfl rfl rfl rfl (Or.inr (congrArg some g61)) (Cl.mono H (Nat.le_refl _) (fun r60 h59 H => ?_))
            obtain ⟨rfl, H⟩ := H
            refine ev_p (pc' := 167) (loc' := [.ref a0]) (st' := []) 1 am_q210 rfl ?_
            exact ev_r (v := none) am_q210 rfl rfl rfl rfl H
          · replace H := H.2 hq
            refine ev_p (pc' := 61) (loc' := [.ref a0]) (st' := [.ref a0, .ref a0]) 1 am_q210 rfl ?_
            obtain ⟨g62, H⟩ := H
            refine ev_s (pc' := 64) (loc' := [.ref a0]) (st' := [.int (am_gi h48 a0 52), .ref a0]) (h1 := h48) am_q210 rfl rfl rfl (if_pos (e := none) g62) ?_
            refine ev_p (pc' := 71) (loc' := [.ref a0]) (st' := [.int (am_gi h48 a0 52), .ref a0]) 1 am_q210 rfl ?_
            obtain ⟨g63, H⟩ := H
            refine ev_s (pc' := 74) (loc' := [.ref a0]) (st' := []) (h1 := am_si h48 a0 56 (am_gi h48 a0 52)) am_q210 rfl rfl rfl (if_pos (e := none) g63) ?_
            replace H := H _ rfl
            generalize am_si h48 a0 56 (am_gi h48 a0 52) = h64 at H ⊢
            refine ev_p (pc' := 77) (loc' := [.ref a0]) (st' := [.ref a0, .int (1 : Int32), .ref a0]) 3 am_q210 rfl ?_
            obtain ⟨g65, H⟩ := H
            refine ev_s (pc' := 80) (loc' := [.ref a0]) (st' := [.int (am_gi h64 a0 54), .int (1 : Int32), .ref a0]) (h1 := h64) am_q210 rfl rfl rfl (if_pos (e := none) g65) ?_
            obtain ⟨g68, H⟩ := H
            refine ev_c (vs := [.ref a0, .int (1 : Int32), .int (am_gi h64 a0 54)]) (rest := []) 202 am_q210 rfl rfl rfl rfl rfl rfl rfl rfl rfl rfl rfl rfl (Or.inr (congrArg some g68)) (Cl.mono H (Nat.le_refl _) (fun r67 h66 H => ?_))
            obtain ⟨rfl, H⟩ := H
            refine ev_p (pc' := 84) (loc' := [.ref a0]) (st' := [.ref a0]) 1 am_q210 rfl ?_
            obtain ⟨g71, H⟩ := H
            refine ev_c (vs := [.ref a0]) (rest := []) 195 am_q210 rfl rfl rfl rfl rfl rfl rfl rfl rfl rfl rfl rfl (Or.inr (congrArg some g71)) (Cl.mono H (Nat.le_refl _) (fun r70 h69 H => ?_))
            obtain ⟨rfl, H⟩ := H
            refine ev_p (pc' := 167) (loc' := [.ref a0]) (st' := []) 1 am_q210 rfl ?_
            exact ev_r (v := none) am_q210 rfl rfl rfl rfl H
    · replace H := H.2 hq
      refine ev_p (pc' := 19) (loc' := [.ref a0]) (st' := [.ref a0, .int (0 : Int32), .ref a0]) 3 am_q210 rfl ?_
      obtain ⟨g72, H⟩ := H
      refine ev_s (pc' := 22) (loc' := [.ref a0]) (st' := [.int (am_gi h1 a0 54), .int (0 : Int32), .ref a0]) (h1 := h1) am_q210 rfl rfl rfl (if_pos (e := none) g72) ?_
      obtain ⟨g75, H⟩ := H
      refine ev_c (vs := [.ref a0, .int (0 : Int32), .int (am_gi h1 a0 54)]) (rest := []) 202 am_q210 rfl rfl rfl rfl rfl rfl rfl rfl rfl rfl rfl rfl (Or.inr (congrArg some g75)) (Cl.mono H (Nat.le_refl _) (fun r74 h73 H => ?_))
      obtain ⟨rfl, H⟩ := H
      refine ev_p (pc' := 26) (loc' := [.ref a0]) (st' := [.ref a0]) 1 am_q210 rfl ?_
      obtain ⟨g78, H⟩ := H
      refine ev_c (vs := [.ref a0]) (rest := []) 195 am_q210 rfl rfl rfl rfl rfl rfl rfl rfl rfl rfl rfl rfl (Or.inr (congrArg some g78)) (Cl.mono H (Nat.le_refl _) (fun r77 h76 H => ?_))
      obtain ⟨rfl, H⟩ := H
      refine ev_p (pc' := 167) (loc' := [.ref a0]) (st' := []) 1 am_q210 rfl ?_
      exact ev_r (v := none) am_q210 rfl rfl rfl rfl H
  · replace H := H.2 hq
    exact ev_r (v := none) am_q210 rfl rfl rfl rfl H
/-! 211: X12_named -/
theorem am_q211 : (am_mt 211).2.2.2.2.2 = am_m211.2.2.2.2.2 := rfl
set_option maxRecDepth 20000 in
set_option maxHeartbeats 2000000 in
theorem wp211 {d : Nat} (a0 : Nat) (i1 : Int32) (i2 : Int32) (i3 : Int32) {h : AH} {Q : Option Value → AH → Prop} (H : (i1 = (0 : Int32) → am_kd h a0 = 12 ∧ ∃ b2, am_gr h a0 11 = some b2 ∧ am_kd h b2 = 100 ∧ am_in i2 (am_ln h b2) ∧ ((¬ (am_gi h b2 (Int32.toNatClampNeg i2)) = (-1 : Int32)) → am_kd h a0 = 12 ∧ am_kd h a0 = 12 ∧ ∃ b8, am_gr h a0 11 = some b8 ∧ am_kd h b8 = 100 ∧ am_in i2 (am_ln h b8) ∧ Q (some (.long (Int32.toInt64 ((am_gi h a0 0) - (am_gi h b8 (Int32.toNatClampNeg i2)))))) h) ∧ (¬ (¬ (am_gi h b2 (Int32.toNatClampNeg i2)) = (-1 : Int32)) → Q (some (.long (0 : Int64))) h)) ∧ (i1 = (1 : Int32) → ((¬ i2 = (-1 : Int32)) → am_kd h a0 = 12 ∧ ∃ b14, am_gr h a0 8 = some b14 ∧ am_kd h b14 = 100 ∧ am_in i2 (am_ln h b14) ∧ Q (some (.long (Int32.toInt64 (am_gi h b14 (Int32.toNatClampNeg i2))))) h) ∧ (¬ (¬ i2 = (-1 : Int32)) → Q (some (.long (0 : Int64))) h)) ∧ (i1 = (2 : Int32) → am_kd h a0 = 12 ∧ ∃ b20, am_gr h a0 3 = some b20 ∧ am_kd h b20 = 100 ∧ am_in i3 (am_ln h b20) ∧ Q (some (.long (Int32.toInt64 (am_gi h b20 (Int32.toNatClampNeg i3))))) h) ∧ (i1 = (3 : Int32) → am_kd h a0 = 12 ∧ am_kd h a0 = 12 ∧ ∃ b27, am_gr h a0 9 = some b27 ∧ am_kd h b27 = 100 ∧ am_in i2 (am_ln h b27) ∧ Q (some (.long (Int32.toInt64 ((am_gi h a0 0) - (am_gi h b27 (Int32.toNatClampNeg i2)))))) h) ∧ (i1 = (4 : Int32) → am_kd h a0 = 12 ∧ ∃ b33, am_gr h a0 13 = some b33 ∧ am_kd h b33 = 101 ∧ am_in i2 (am_ln h b33) ∧ Q (some (.long (am_gl h b33 (Int32.toNatClampNeg i2)))) h) ∧ (i1 = (5 : Int32) → am_kd h a0 = 12 ∧ ∃ b39, am_gr h a0 2 = some b39 ∧ am_kd h b39 = 100 ∧ am_in i3 (am_ln h b39) ∧ Q (some (.long (Int32.toInt64 (am_gi h b39 (Int32.toNatClampNeg i3))))) h) ∧ (i1 = (6 : Int32) → am_kd h a0 = 12 ∧ ∃ b45, am_gr h a0 4 = some b45 ∧ am_kd h b45 = 100 ∧ am_in i3 (am_ln h b45) ∧ Q (some (.long (Int32.toInt64 (am_gi h b45 (Int32.toNatClampNeg i3))))) h) ∧ (¬ i1 = (0 : Int32) ∧ ¬ i1 = (1 : Int32) ∧ ¬ i1 = (2 : Int32) ∧ ¬ i1 = (3 : Int32) ∧ ¬ i1 = (4 : Int32) ∧ ¬ i1 = (5 : Int32) ∧ ¬ i1 = (6 : Int32) → am_kd h a0 = 12 ∧ Cl d 214 [.ref a0] h (fun r51 h50 => ∃ x53, r51 = some (.int x53) ∧ Q (some (.long (Int32.toInt64 x53))) h50))) : Cl (d + 1) 211 [.ref a0, .int i1, .int i2, .int i3] h Q := by
  show Ev (d + 1) 211 0 [.ref a0, .int i1, .int i2, .int i3] [] h Q
  refine ev_p (pc' := 1) (loc' := [.ref a0, .int i1, .int i2, .int i3]) (st' := [.int i1]) 1 am_q211 rfl ?_
  by_cases k12 : i1 = (0 : Int32)
  · replace H := H.1 k12
    refine ev_s (pc' := 44) (loc' := [.ref a0, .int i1, .int i2, .int i3]) (st' := []) (h1 := h) am_q211 rfl rfl rfl (by rw [k12]; rfl) ?_
    refine ev_p (pc' := 45) (loc' := [.ref a0, .int i1, .int i2, .int i3]) (st' := [.ref a0]) 1 am_q211 rfl ?_
    obtain ⟨g1, b2, e3, H⟩ := H
    refine ev_s (pc' := 48) (loc' := [.ref a0, .int i1, .int i2, .int i3]) (st' := [.ref b2]) (h1 := h) am_q211 rfl rfl rfl (am_gf2 g1 e3) ?_
    refine ev_p (pc' := 49) (loc' := [.ref a0, .int i1, .int i2, .int i3]) (st' := [.int i2, .ref b2]) 1 am_q211 rfl ?_
    obtain ⟨g4, g5, H⟩ := H
    refine ev_s (pc' := 50) (loc' := [.ref a0, .int i1, .int i2, .int i3]) (st' := [.int (am_gi h b2 (Int32.toNatClampNeg i2))]) (h1 := h) am_q211 rfl rfl rfl (am_xx g4 g5) ?_
    refine ev_p (pc' := 51) (loc' := [.ref a0, .int i1, .int i2, .int i3]) (st' := [.int (-1 : Int32), .int (am_gi h b2 (Int32.toNatClampNeg i2))]) 1 am_q211 rfl ?_
    refine ev_jc (t := 58) am_q211 rfl rfl (fun hq => ?_) (fun hq => ?_)
    · replace H := H.1 hq
      refine ev_p (pc' := 59) (loc' := [.ref a0, .int i1, .int i2, .int i3]) (st' := [.ref a0]) 1 am_q211 rfl ?_
      obtain ⟨g6, H⟩ := H
      refine ev_s (pc' := 62) (loc' := [.ref a0, .int i1, .int i2, .int i3]) (st' := [.int (am_gi h a0 0)]) (h1 := h) am_q211 rfl rfl rfl (if_pos (e := none) g6) ?_
      refine ev_p (pc' := 63) (loc' := [.ref a0, .int i1, .int i2, .int i3]) (st' := [.ref a0, .int (am_gi h a0 0)]) 1 am_q211 rfl ?_
      obtain ⟨g7, b8, e9, H⟩ := H
      refine ev_s (pc' := 66) (loc' := [.ref a0, .int i1, .int i2, .int i3]) (st' := [.ref b8, .int (am_gi h a0 0)]) (h1 := h) am_q211 rfl rfl rfl (am_gf2 g7 e9) ?_
      refine ev_p (pc' := 67) (loc' := [.ref a0, .int i1, .int i2, .int i3]) (st' := [.int i2, .ref b8, .int (am_gi h a0 0)]) 1 am_q211 rfl ?_
      obtain ⟨g10, g11, H⟩ := H
      refine ev_s (pc' := 68) (loc' := [.ref a0, .int i1, .int i2, .int i3]) (st' := [.int (am_gi h b8 (Int32.toNatClampNeg i2)), .int (am_gi h a0 0)]) (h1 := h) am_q211 rfl rfl rfl (am_xx g10 g11) ?_
      refine ev_p (pc' := 70) (loc' := [.ref a0, .int i1, .int i2, .int i3]) (st' := [.long (Int32.toInt64 ((am_gi h a0 0) - (am_gi h b8 (Int32.toNatClampNeg i2))))]) 2 am_q211 rfl ?_
      exact ev_r (v := some (.long (Int32.toInt64 ((am_gi h a0 0) - (am_gi h b8 (Int32.toNatClampNeg i2)))))) am_q211 rfl rfl rfl rfl H
    · replace H := H.2 hq
      refine ev_p (pc' := 70) (loc' := [.ref a0, .int i1, .int i2, .int i3]) (st' := [.long (0 : Int64)]) 2 am_q211 rfl ?_
      exact ev_r (v := some (.long (0 : Int64))) am_q211 rfl rfl rfl rfl H
  replace H := H.2
  by_cases k18 : i1 = (1 : Int32)
  · replace H := H.1 k18
    refine ev_s (pc' := 71) (loc' := [.ref a0, .int i1, .int i2, .int i3]) (st' := []) (h1 := h) am_q211 rfl rfl rfl (by rw [k18]; rfl) ?_
    refine ev_p (pc' := 73) (loc' := [.ref a0, .int i1, .int i2, .int i3]) (st' := [.int (-1 : Int32), .int i2]) 2 am_q211 rfl ?_
    refine ev_jc (t := 80) am_q211 rfl rfl (fun hq => ?_) (fun hq => ?_)
    · replace H := H.1 hq
      refine ev_p (pc' := 81) (loc' := [.ref a0, .int i1, .int i2, .int i3]) (st' := [.ref a0]) 1 am_q211 rfl ?_
      obtain ⟨g13, b14, e15, H⟩ := H
      refine ev_s (pc' := 84) (loc' := [.ref a0, .int i1, .int i2, .int i3]) (st' := [.ref b14]) (h1 := h) am_q211 rfl rfl rfl (am_gf2 g13 e15) ?_
      refine ev_p (pc' := 85) (loc' := [.ref a0, .int i1, .int i2, .int i3]) (st' := [.int i2, .ref b14]) 1 am_q211 rfl ?_
      obtain ⟨g16, g17, H⟩ := H
      refine ev_s (pc' := 86) (loc' := [.ref a0, .int i1, .int i2, .int i3]) (st' := [.int (am_gi h b14 (Int32.toNatClampNeg i2))]) (h1 := h) am_q211 rfl rfl rfl (am_xx g16 g17) ?_
      refine ev_p (pc' := 87) (loc' := [.ref a0, .int i1, .int i2, .int i3]) (st' := [.long (Int32.toInt64 (am_gi h b14 (Int32.toNatClampNeg i2)))]) 1 am_q211 rfl ?_
      exact ev_r (v := some (.long (Int32.toInt64 (am_gi h b14 (Int32.toNatClampNeg i2))))) am_q211 rfl rfl rfl rfl H
    · replace H := H.2 hq
      refine ev_p (pc' := 87) (loc' := [.ref a0, .int i1, .int i2, .int i3]) (st' := [.long (0 : Int64)]) 2 am_q211 rfl ?_
      exact ev_r (v := some (.long (0 : Int64))) am_q211 rfl rfl rfl rfl H
  replace H := H.2
  by_cases k24 : i1 = (2 : Int32)
  · replace H := H.1 k24
    refine ev_s (pc' := 88) (loc' := [.ref a0, .int i1, .int i2, .int i3]) (st' := []) (h1 := h) am_q211 rfl rfl rfl (by rw [k24]; rfl) ?_
    refine ev_p (pc' := 89) (loc' := [.ref a0, .int i1, .int i2, .int i3]) (st' := [.ref a0]) 1 am_q211 rfl ?_
    obtain ⟨g19, b20, e21, H⟩ := H
    refine ev_s (pc' := 92) (loc' := [.ref a0, .int i1, .int i2, .int i3]) (st' := [.ref b20]) (h1 := h) am_q211 rfl rfl rfl (am_gf2 g19 e21) ?_
    refine ev_p (pc' := 93) (loc' := [.ref a0, .int i1, .int i2, .int i3]) (st' := [.int i3, .ref b20]) 1 am_q211 rfl ?_
    obtain ⟨g22, g23, H⟩ := H
    refine ev_s (pc' := 94) (loc' := [.ref a0, .int i1, .int i2, .int i3]) (st' := [.int (am_gi h b20 (Int32.toNatClampNeg i3))]) (h1 := h) am_q211 rfl rfl rfl (am_xx g22 g23) ?_
    refine ev_p (pc' := 95) (loc' := [.ref a0, .int i1, .int i2, .int i3]) (st' := [.long (Int32.toInt64 (am_gi h b20 (Int32.toNatClampNeg i3)))]) 1 am_q211 rfl ?_
    exact ev_r (v := some (.long (Int32.toInt64 (am_gi h b20 (Int32.toNatClampNeg i3))))) am_q211 rfl rfl rfl rfl H
  replace H := H.2
  by_cases k31 : i1 = (3 : Int32)
  · replace H := H.1 k31
    refine ev_s (pc' := 96) (loc' := [.ref a0, .int i1, .int i2, .int i3]) (st' := []) (h1 := h) am_q211 rfl rfl rfl (by rw [k31]; rfl) ?_
    refine ev_p (pc' := 97) (loc' := [.ref a0, .int i1, .int i2, .int i3]) (st' := [.ref a0]) 1 am_q211 rfl ?_
    obtain ⟨g25, H⟩ := H
    refine ev_s (pc' := 100) (loc' := [.ref a0, .int i1, .int i2, .int i3]) (st' := [.int (am_gi h a0 0)]) (h1 := h) am_q211 rfl rfl rfl (if_pos (e := none) g25) ?_
    refine ev_p (pc' := 101) (loc' := [.ref a0, .int i1, .int i2, .int i3]) (st' := [.ref a0, .int (am_gi h a0 0)]) 1 am_q211 rfl ?_
    obtain ⟨g26, b27, e28, H⟩ := H
    refine ev_s (pc' := 104) (loc' := [.ref a0, .int i1, .int i2, .int i3]) (st' := [.ref b27, .int (am_gi h a0 0)]) (h1 := h) am_q211 rfl rfl rfl (am_gf2 g26 e28) ?_
    refine ev_p (pc' := 105) (loc' := [.ref a0, .int i1, .int i2, .int i3]) (st' := [.int i2, .ref b27, .int (am_gi h a0 0)]) 1 am_q211 rfl ?_
    obtain ⟨g29, g30, H⟩ := H
    refine ev_s (pc' := 106) (loc' := [.ref a0, .int i1, .int i2, .int i3]) (st' := [.int (am_gi h b27 (Int32.toNatClampNeg i2)), .int (am_gi h a0 0)]) (h1 := h) am_q211 rfl rfl rfl (am_xx g29 g30) ?_
    refine ev_p (pc' := 108) (loc' := [.ref a0, .int i1, .int i2, .int i3]) (st' := [.long (Int32.toInt64 ((am_gi h a0 0) - (am_gi h b27 (Int32.toNatClampNeg i2))))]) 2 am_q211 rfl ?_
    exact ev_r (v := some (.long (Int32.toInt64 ((am_gi h a0 0) - (am_gi h b27 (Int32.toNatClampNeg i2)))))) am_q211 rfl rfl rfl rfl H
  replace H := H.2
  by_cases k37 : i1 = (4 : Int32)
  · replace H := H.1 k37
    refine ev_s (pc' := 109) (loc' := [.ref a0, .int i1, .int i2, .int i3]) (st' := []) (h1 := h) am_q211 rfl rfl rfl (by rw [k37]; rfl) ?_
    refine ev_p (pc' := 110) (loc' := [.ref a0, .int i1, .int i2, .int i3]) (st' := [.ref a0]) 1 am_q211 rfl ?_
    obtain ⟨g32, b33, e34, H⟩ := H
    refine ev_s (pc' := 113) (loc' := [.ref a0, .int i1, .int i2, .int i3]) (st' := [.ref b33]) (h1 := h) am_q211 rfl rfl rfl (am_gf2 g32 e34) ?_
    refine ev_p (pc' := 114) (loc' := [.ref a0, .int i1, .int i2, .int i3]) (st' := [.int i2, .ref b33]) 1 am_q211 rfl ?_
    obtain ⟨g35, g36, H⟩ := H
    refine ev_s (pc' := 115) (loc' := [.ref a0, .int i1, .int i2, .int i3]) (st' := [.long (am_gl h b33 (Int32.toNatClampNeg i2))]) (h1 := h) am_q211 rfl rfl rfl (am_xx g35 g36) ?_
    exact ev_r (v := some (.long (am_gl h b33 (Int32.toNatClampNeg i2)))) am_q211 rfl rfl rfl rfl H
  replace H := H.2
  by_cases k43 : i1 = (5 : Int32)
  · replace H := H.1 k43
    refine ev_s (pc' := 116) (loc' := [.ref a0, .int i1, .int i2, .int i3]) (st' := []) (h1 := h) am_q211 rfl rfl rfl (by rw [k43]; rfl) ?_
    refine ev_p (pc' := 117) (loc' := [.ref a0, .int i1, .int i2, .int i3]) (st' := [.ref a0]) 1 am_q211 rfl ?_
    obtain ⟨g38, b39, e40, H⟩ := H
    refine ev_s (pc' := 120) (loc' := [.ref a0, .int i1, .int i2, .int i3]) (st' := [.ref b39]) (h1 := h) am_q211 rfl rfl rfl (am_gf2 g38 e40) ?_
    refine ev_p (pc' := 121) (loc' := [.ref a0, .int i1, .int i2, .int i3]) (st' := [.int i3, .ref b39]) 1 am_q211 rfl ?_
    obtain ⟨g41, g42, H⟩ := H
    refine ev_s (pc' := 122) (loc' := [.ref a0, .int i1, .int i2, .int i3]) (st' := [.int (am_gi h b39 (Int32.toNatClampNeg i3))]) (h1 := h) am_q211 rfl rfl rfl (am_xx g41 g42) ?_
    refine ev_p (pc' := 123) (loc' := [.ref a0, .int i1, .int i2, .int i3]) (st' := [.long (Int32.toInt64 (am_gi h b39 (Int32.toNatClampNeg i3)))]) 1 am_q211 rfl ?_
    exact ev_r (v := some (.long (Int32.toInt64 (am_gi h b39 (Int32.toNatClampNeg i3))))) am_q211 rfl rfl rfl rfl H
  replace H := H.2
  by_cases k49 : i1 = (6 : Int32)
  · replace H := H.1 k49
    refine ev_s (pc' := 124) (loc' := [.ref a0, .int i1, .int i2, .int i3]) (st' := []) (h1 := h) am_q211 rfl rfl rfl (by rw [k49]; rfl) ?_
    refine ev_p (pc' := 125) (loc' := [.ref a0, .int i1, .int i2, .int i3]) (st' := [.ref a0]) 1 am_q211 rfl ?_
    obtain ⟨g44, b45, e46, H⟩ := H
    refine ev_s (pc' := 128) (loc' := [.ref a0, .int i1, .int i2, .int i3]) (st' := [.ref b45]) (h1 := h) am_q211 rfl rfl rfl (am_gf2 g44 e46) ?_
    refine ev_p (pc' := 129) (loc' := [.ref a0, .int i1, .int i2, .int i3]) (st' := [.int i3, .ref b45]) 1 am_q211 rfl ?_
    obtain ⟨g47, g48, H⟩ := H
    refine ev_s (pc' := 130) (loc' := [.ref a0, .int i1, .int i2, .int i3]) (st' := [.int (am_gi h b45 (Int32.toNatClampNeg i3))]) (h1 := h) am_q211 rfl rfl rfl (am_xx g47 g48) ?_
    refine ev_p (pc' := 131) (loc' := [.ref a0, .int i1, .int i2, .int i3]) (st' := [.long (Int32.toInt64 (am_gi h b45 (Int32.toNatClampNeg i3)))]) 1 am_q211 rfl ?_
    exact ev_r (v := some (.long (Int32.toInt64 (am_gi h b45 (Int32.toNatClampNeg i3))))) am_q211 rfl rfl rfl rfl H
  replace H := H.2
  replace H := H ⟨k12, k18, k24, k31, k37, k43, k49⟩
  refine ev_s (pc' := 132) (loc' := [.ref a0, .int i1, .int i2, .int i3]) (st' := []) (h1 := h) am_q211 rfl rfl rfl (am_tso (x := (i1).toInt) (by have z0 : (i1).toInt ≠ 0 := am_tn k12 (by decide); have z1 : (i1).toInt ≠ 1 := am_tn k18 (by decide); have z2 : (i1).toInt ≠ 2 := am_tn k24 (by decide); have z3 : (i1).toInt ≠ 3 := am_tn k31 (by decide); have z4 : (i1).toInt ≠ 4 := am_tn k37 (by decide); have z5 : (i1).toInt ≠ 5 := am_tn k43 (by decide); have z6 : (i1).toInt ≠ 6 := am_tn k49 (by decide); omega)) ?_
  refine ev_p (pc' := 133) (loc' := [.ref a0, .int i1, .int i2, .int i3]) (st' := [.ref a0]) 1 am_q211 rfl ?_
  obtain ⟨g52, H⟩ := H
  refine ev_c (vs := [.ref a0]) (rest := []) 214 am_q211 rfl rfl rfl rfl rfl rfl rfl rfl rfl rfl rfl rfl (Or.inr (congrArg some g52)) (Cl.mono H (Nat.le_refl _) (fun r51 h50 H => ?_))
  obtain ⟨x53, rfl, H⟩ := H
  refine ev_p (pc' := 137) (loc' := [.ref a0, .int i1, .int i2, .int i3]) (st' := [.long (Int32.toInt64 x53)]) 1 am_q211 rfl ?_
  exact ev_r (v := some (.long (Int32.toInt64 x53))) am_q211 rfl rfl rfl rfl H
/-! 212: X12_two -/
theorem am_q212 : (am_mt 212).2.2.2.2.2 = am_m212.2.2.2.2.2 := rfl
set_option maxRecDepth 20000 in
set_option maxHeartbeats 2000000 in
theorem wp212 {d : Nat} (i0 : Int32) (l1 : Int64) (l3 : Int64) {h : AH} {Q : Option Value → AH → Prop} (H : (i0 = (2 : Int32) → ((¬ (lg_cmp l1 (0 : Int64)) = (0 : Int32)) → Q (some (.long (1 : Int64))) h) ∧ (¬ (¬ (lg_cmp l1 (0 : Int64)) = (0 : Int32)) → ((lg_cmp l3 (0 : Int64)) = (0 : Int32) → Q (some (.long (0 : Int64))) h) ∧ (¬ (lg_cmp l3 (0 : Int64)) = (0 : Int32) → Q (some (.long (1 : Int64))) h))) ∧ (i0 = (3 : Int32) → ((lg_cmp l1 (0 : Int64)) = (0 : Int32) → Q (some (.long (0 : Int64))) h) ∧ (¬ (lg_cmp l1 (0 : Int64)) = (0 : Int32) → ((lg_cmp l3 (0 : Int64)) = (0 : Int32) → Q (some (.long (0 : Int64))) h) ∧ (¬ (lg_cmp l3 (0 : Int64)) = (0 : Int32) → Q (some (.long (1 : Int64))) h))) ∧ (i0 = (4 : Int32) → Q (some (.long (l1 * l3))) h) ∧ (i0 = (5 : Int32) → ((0 : Int32) ≤ (lg_cmp l1 l3) → Q (some (.long (0 : Int64))) h) ∧ (¬ (0 : Int32) ≤ (lg_cmp l1 l3) → Q (some (.long (1 : Int64))) h)) ∧ (i0 = (6 : Int32) → ((¬ (lg_cmp l1 l3) = (0 : Int32)) → Q (some (.long (0 : Int64))) h) ∧ (¬ (¬ (lg_cmp l1 l3) = (0 : Int32)) → Q (some (.long (1 : Int64))) h)) ∧ (i0 = (7 : Int32) → Q (some (.long (l1 + l3))) h) ∧ (i0 = (8 : Int32) → Q (some (.long (l1 - l3))) h) ∧ (¬ i0 = (2 : Int32) ∧ ¬ i0 = (3 : Int32) ∧ ¬ i0 = (4 : Int32) ∧ ¬ i0 = (5 : Int32) ∧ ¬ i0 = (6 : Int32) ∧ ¬ i0 = (7 : Int32) ∧ ¬ i0 = (8 : Int32) → Q (some (.long (l1 * l3))) h)) : Cl d 212 [.int i0, .long l1, .long l3] h Q := by
  show Ev d 212 0 [.int i0, .long l1, .null, .long l3, .null] [] h Q
  refine ev_p (pc' := 1) (loc' := [.int i0, .long l1, .null, .long l3, .null]) (st' := [.int i0]) 1 am_q212 rfl ?_
  by_cases k1 : i0 = (2 : Int32)
  · replace H := H.1 k1
    refine ev_s (pc' := 44) (loc' := [.int i0, .long l1, .null, .long l3, .null]) (st' := []) (h1 := h) am_q212 rfl rfl rfl (by rw [k1]; rfl) ?_
    refine ev_p (pc' := 47) (loc' := [.int i0, .long l1, .null, .long l3, .null]) (st' := [.int (lg_cmp l1 (0 : Int64))]) 3 am_q212 rfl ?_
    refine ev_jz (t := 56) am_q212 rfl rfl (fun hq => ?_) (fun hq => ?_)
    · replace H := H.1 hq
      refine ev_p (pc' := 61) (loc' := [.null, .null, .null, .null, .null]) (st' := [.long (1 : Int64)]) 2 am_q212 rfl ?_
      exact ev_r (v := some (.long (1 : Int64))) am_q212 rfl rfl rfl rfl H
    · replace H := H.2 hq
      refine ev_p (pc' := 53) (loc' := [.int i0, .long l1, .null, .long l3, .null]) (st' := [.int (lg_cmp l3 (0 : Int64))]) 3 am_q212 rfl ?_
      refine ev_jz (t := 60) am_q212 rfl rfl (fun hq => ?_) (fun hq => ?_)
      · replace H := H.1 hq
        refine ev_p (pc' := 61) (loc' := [.int i0, .long l1, .null, .long l3, .null]) (st' := [.long (0 : Int64)]) 1 am_q212 rfl ?_
        exact ev_r (v := some (.long (0 : Int64))) am_q212 rfl rfl rfl rfl H
      · replace H := H.2 hq
        refine ev_p (pc' := 61) (loc' := [.null, .null, .null, .null, .null]) (st' := [.long (1 : Int64)]) 2 am_q212 rfl ?_
        exact ev_r (v := some (.long (1 : Int64))) am_q212 rfl rfl rfl rfl H
  replace H := H.2
  by_cases k2 : i0 = (3 : Int32)
  · replace H := H.1 k2
    refine ev_s (pc' := 62) (loc' := [.int i0, .long l1, .null, .long l3, .null]) (st' := []) (h1 := h) am_q212 rfl rfl rfl (by rw [k2]; rfl) ?_
    refine ev_p (pc' := 65) (loc' := [.int i0, .long l1, .null, .long l3, .null]) (st' := [.int (lg_cmp l1 (0 : Int64))]) 3 am_q212 rfl ?_
    refine ev_jz (t := 78) am_q212 rfl rfl (fun hq => ?_) (fun hq => ?_)
    · replace H := H.1 hq
      refine ev_p (pc' := 79) (loc' := [.null, .null, .null, .null, .null]) (st' := [.long (0 : Int64)]) 1 am_q212 rfl ?_
      exact ev_r (v := some (.long (0 : Int64))) am_q212 rfl rfl rfl rfl H
    · replace H := H.2 hq
      refine ev_p (pc' := 71) (loc' := [.int i0, .long l1, .null, .long l3, .null]) (st' := [.int (lg_cmp l3 (0 : Int64))]) 3 am_q212 rfl ?_
      refine ev_jz (t := 78) am_q212 rfl rfl (fun hq => ?_) (fun hq => ?_)
      · replace H := H.1 hq
        refine ev_p (pc' := 79) (loc' := [.null, .null, .null, .null, .null]) (st' := [.long (0 : Int64)]) 1 am_q212 rfl ?_
        exact ev_r (v := some (.long (0 : Int64))) am_q212 rfl rfl rfl rfl H
      · replace H := H.2 hq
        refine ev_p (pc' := 79) (loc' := [.int i0, .long l1, .null, .long l3, .null]) (st' := [.long (1 : Int64)]) 2 am_q212 rfl ?_
        exact ev_r (v := some (.long (1 : Int64))) am_q212 rfl rfl rfl rfl H
  replace H := H.2
  by_cases k3 : i0 = (4 : Int32)
  · replace H := H.1 k3
    refine ev_s (pc' := 112) (loc' := [.int i0, .long l1, .null, .long l3, .null]) (st' := []) (h1 := h) am_q212 rfl rfl rfl (by rw [k3]; rfl) ?_
    refine ev_p (pc' := 115) (loc' := [.int i0, .long l1, .null, .long l3, .null]) (st' := [.long (l1 * l3)]) 3 am_q212 rfl ?_
    exact ev_r (v := some (.long (l1 * l3))) am_q212 rfl rfl rfl rfl H
  replace H := H.2
  by_cases k4 : i0 = (5 : Int32)
  · replace H := H.1 k4
    refine ev_s (pc' := 80) (loc' := [.int i0, .long l1, .null, .long l3, .null]) (st' := []) (h1 := h) am_q212 rfl rfl rfl (by rw [k4]; rfl) ?_
    refine ev_p (pc' := 83) (loc' := [.int i0, .long l1, .null, .long l3, .null]) (st' := [.int (lg_cmp l1 l3)]) 3 am_q212 rfl ?_
    refine ev_jz (t := 90) am_q212 rfl rfl (fun hq => ?_) (fun hq => ?_)
    · replace H := H.1 hq
      refine ev_p (pc' := 91) (loc' := [.int i0, .long l1, .null, .long l3, .null]) (st' := [.long (0 : Int64)]) 1 am_q212 rfl ?_
      exact ev_r (v := some (.long (0 : Int64))) am_q212 rfl rfl rfl rfl H
    · replace H := H.2 hq
      refine ev_p (pc' := 91) (loc' := [.int i0, .long l1, .null, .long l3, .null]) (st' := [.long (1 : Int64)]) 2 am_q212 rfl ?_
      exact ev_r (v := some (.long (1 : Int64))) am_q212 rfl rfl rfl rfl H
  replace H := H.2
  by_cases k5 : i0 = (6 : Int32)
  · replace H := H.1 k5
    refine ev_s (pc' := 92) (loc' := [.int i0, .long l1, .null, .long l3, .null]) (st' := []) (h1 := h) am_q212 rfl rfl rfl (by rw [k5]; rfl) ?_
    refine ev_p (pc' := 95) (loc' := [.int i0, .long l1, .null, .long l3, .null]) (st' := [.int (lg_cmp l1 l3)]) 3 am_q212 rfl ?_
    refine ev_jz (t := 102) am_q212 rfl rfl (fun hq => ?_) (fun hq => ?_)
    · replace H := H.1 hq
      refine ev_p (pc' := 103) (loc' := [.int i0, .long l1, .null, .long l3, .null]) (st' := [.long (0 : Int64)]) 1 am_q212 rfl ?_
      exact ev_r (v := some (.long (0 : Int64))) am_q212 rfl rfl rfl rfl H
    · replace H := H.2 hq
      refine ev_p (pc' := 103) (loc' := [.int i0, .long l1, .null, .long l3, .null]) (st' := [.long (1 : Int64)]) 2 am_q212 rfl ?_
      exact ev_r (v := some (.long (1 : Int64))) am_q212 rfl rfl rfl rfl H
  replace H := H.2
  by_cases k6 : i0 = (7 : Int32)
  · replace H := H.1 k6
    refine ev_s (pc' := 104) (loc' := [.int i0, .long l1, .null, .long l3, .null]) (st' := []) (h1 := h) am_q212 rfl rfl rfl (by rw [k6]; rfl) ?_
    refine ev_p (pc' := 107) (loc' := [.int i0, .long l1, .null, .long l3, .null]) (st' := [.long (l1 + l3)]) 3 am_q212 rfl ?_
    exact ev_r (v := some (.long (l1 + l3))) am_q212 rfl rfl rfl rfl H
  replace H := H.2
  by_cases k7 : i0 = (8 : Int32)
  · replace H := H.1 k7
    refine ev_s (pc' := 108) (loc' := [.int i0, .long l1, .null, .long l3, .null]) (st' := []) (h1 := h) am_q212 rfl rfl rfl (by rw [k7]; rfl) ?_
    refine ev_p (pc' := 111) (loc' := [.int i0, .long l1, .null, .long l3, .null]) (st' := [.long (l1 - l3)]) 3 am_q212 rfl ?_
    exact ev_r (v := some (.long (l1 - l3))) am_q212 rfl rfl rfl rfl H
  replace H := H.2
  replace H := H ⟨k1, k2, k3, k4, k5, k6, k7⟩
  refine ev_s (pc' := 112) (loc' := [.int i0, .long l1, .null, .long l3, .null]) (st' := []) (h1 := h) am_q212 rfl rfl rfl (am_tso (x := (i0).toInt) (by have z0 : (i0).toInt ≠ 2 := am_tn k1 (by decide); have z1 : (i0).toInt ≠ 3 := am_tn k2 (by decide); have z2 : (i0).toInt ≠ 4 := am_tn k3 (by decide); have z3 : (i0).toInt ≠ 5 := am_tn k4 (by decide); have z4 : (i0).toInt ≠ 6 := am_tn k5 (by decide); have z5 : (i0).toInt ≠ 7 := am_tn k6 (by decide); have z6 : (i0).toInt ≠ 8 := am_tn k7 (by decide); omega)) ?_
  refine ev_p (pc' := 115) (loc' := [.int i0, .long l1, .null, .long l3, .null]) (st' := [.long (l1 * l3)]) 3 am_q212 rfl ?_
  exact ev_r (v := some (.long (l1 * l3))) am_q212 rfl rfl rfl rfl H
/-! 213: X12_worthOf -/
theorem am_q213 : (am_mt 213).2.2.2.2.2 = am_m213.2.2.2.2.2 := rfl
set_option maxRecDepth 20000 in
set_option maxHeartbeats 2000000 in
theorem wp213 {d : Nat} (a0 : Nat) (i1 : Int32) (i2 : Int32) (i3 : Int32) {h : AH} {Q : Option Value → AH → Prop} (H : am_kd h a0 = 12 ∧ am_kd h a0 = 12 ∧ Cl d 215 [.ref a0, .int (am_gi h a0 0)] h (fun r3 h2 => ∃ x5, r3 = some (.int x5) ∧ am_kd h2 a0 = 12 ∧ ∃ b7, am_gr h2 a0 28 = some b7 ∧ am_kd h2 b7 = 100 ∧ am_in (((5 : Int32) * x5) + i1) (am_ln h2 b7) ∧ Ev (d + 1) 213 26 [.ref a0, .int i1, .int i2, .int i3, .int x5, .int (0 : Int32), .int (am_gi h2 b7 (Int32.toNatClampNeg (((5 : Int32) * x5) + i1))), .null, .null] [] h2 Q)) : Cl (d + 1) 213 [.ref a0, .int i1, .int i2, .int i3] h Q := by
  show Ev (d + 1) 213 0 [.ref a0, .int i1, .int i2, .int i3, .null, .null, .null, .null, .null] [] h Q
  refine ev_p (pc' := 2) (loc' := [.ref a0, .int i1, .int i2, .int i3, .null, .null, .null, .null, .null]) (st' := [.ref a0, .ref a0]) 2 am_q213 rfl ?_
  obtain ⟨g1, H⟩ := H
  refine ev_s (pc' := 5) (loc' := [.ref a0, .int i1, .int i2, .int i3, .null, .null, .null, .null, .null]) (st' := [.int (am_gi h a0 0), .ref a0]) (h1 := h) am_q213 rfl rfl rfl (if_pos (e := none) g1) ?_
  obtain ⟨g4, H⟩ := H
  refine ev_c (vs := [.ref a0, .int (am_gi h a0 0)]) (rest := []) 215 am_q213 rfl rfl rfl rfl rfl rfl rfl rfl rfl rfl rfl rfl (Or.inr (congrArg some g4)) (Cl.mono H (Nat.le_refl _) (fun r3 h2 H => ?_))
  obtain ⟨x5, rfl, H⟩ := H
  refine ev_p (pc' := 14) (loc' := [.ref a0, .int i1, .int i2, .int i3, .int x5, .int (0 : Int32), .null, .null, .null]) (st' := [.ref a0]) 4 am_q213 rfl ?_
  obtain ⟨g6, b7, e8, H⟩ := H
  refine ev_s (pc' := 17) (loc' := [.ref a0, .int i1, .int i2, .int i3, .int x5, .int (0 : Int32), .null, .null, .null]) (st' := [.ref b7]) (h1 := h2) am_q213 rfl rfl rfl (am_gf2 g6 e8) ?_
  refine ev_p (pc' := 23) (loc' := [.ref a0, .int i1, .int i2, .int i3, .int x5, .int (0 : Int32), .null, .null, .null]) (st' := [.int (((5 : Int32) * x5) + i1), .ref b7]) 5 am_q213 rfl ?_
  obtain ⟨g9, g10, H⟩ := H
  refine ev_s (pc' := 24) (loc' := [.ref a0, .int i1, .int i2, .int i3, .int x5, .int (0 : Int32), .null, .null, .null]) (st' := [.int (am_gi h2 b7 (Int32.toNatClampNeg (((5 : Int32) * x5) + i1)))]) (h1 := h2) am_q213 rfl rfl rfl (am_xx g9 g10) ?_
  refine ev_p (pc' := 26) (loc' := [.ref a0, .int i1, .int i2, .int i3, .int x5, .int (0 : Int32), .int (am_gi h2 b7 (Int32.toNatClampNeg (((5 : Int32) * x5) + i1))), .null, .null]) (st' := []) 1 am_q213 rfl ?_
  exact ev_m (loc' := [.ref a0, .int i1, .int i2, .int i3, .int x5, .int (0 : Int32), .int (am_gi h2 b7 (Int32.toNatClampNeg (((5 : Int32) * x5) + i1))), .null, .null]) am_q213 rfl rfl H
set_option maxRecDepth 20000 in
set_option maxHeartbeats 2000000 in
theorem wp213_26 {d : Nat} (a0 : Nat) (i1 : Int32) (i2 : Int32) (i3 : Int32) (i4 : Int32) (i5 : Int32) (i6 : Int32) {h : AH} {Q : Option Value → AH → Prop} (H : am_kd h a0 = 12 ∧ ∃ b2, am_gr h a0 28 = some b2 ∧ am_kd h b2 = 100 ∧ am_in ((((5 : Int32) * i4) + i1) + (1 : Int32)) (am_ln h b2) ∧ ((am_gi h b2 (Int32.toNatClampNeg ((((5 : Int32) * i4) + i1) + (1 : Int32)))) ≤ i6 → am_kd h a0 = 12 ∧ ∃ b7, am_gr h a0 60 = some b7 ∧ am_kd h b7 = 101 ∧ am_in (0 : Int32) (am_ln h b7) ∧ Q (some (.long (am_gl h b7 (Int32.toNatClampNeg (0 : Int32))))) h) ∧ (¬ (am_gi h b2 (Int32.toNatClampNeg ((((5 : Int32) * i4) + i1) + (1 : Int32)))) ≤ i6 → am_kd h a0 = 12 ∧ ∃ b12, am_gr h a0 26 = some b12 ∧ am_kd h b12 = 100 ∧ am_in (((400 : Int32) * i4) + i6) (am_ln h b12) ∧ am_kd h a0 = 12 ∧ ∃ b17, am_gr h a0 27 = some b17 ∧ am_kd h b17 = 100 ∧ am_in (((400 : Int32) * i4) + i6) (am_ln h b17) ∧ ((am_gi h b12 (Int32.toNatClampNeg (((400 : Int32) * i4) + i6))) = (0 : Int32) → Ev (d + 1) 213 87 [.ref a0, .int i1, .int i2, .int i3, .int i4, .int i5, .int i6, .int (am_gi h b12 (Int32.toNatClampNeg (((400 : Int32) * i4) + i6))), .int (am_gi h b17 (Int32.toNatClampNeg (((400 : Int32) * i4) + i6)))] [] h Q) ∧ (¬ (am_gi h b12 (Int32.toNatClampNeg (((400 : Int32) * i4) + i6))) = (0 : Int32) → ((¬ (am_gi h b12 (Int32.toNatClampNeg (((400 : Int32) * i4) + i6))) = (1 : Int32)) → ((¬ (am_gi h b12 (Int32.toNatClampNeg (((400 : Int32) * i4) + i6))) = (4 : Int32)) → ((¬ (am_gi h b12 (Int32.toNatClampNeg (((400 : Int32) * i4) + i6))) = (10 : Int32)) → am_kd h a0 = 12 ∧ ∃ b22, am_gr h a0 60 = some b22 ∧ am_kd h a0 = 12 ∧ ∃ b25, am_gr h a0 60 = some b25 ∧ am_kd h b25 = 101 ∧ am_in ((i5 + (-1 : Int32)) - (1 : Int32)) (am_ln h b25) ∧ am_kd h a0 = 12 ∧ ∃ b30, am_gr h a0 60 = some b30 ∧ am_kd h b30 = 101 ∧ am_in (i5 + (-1 : Int32)) (am_ln h b30) ∧ Cl d 212 [.int (am_gi h b12 (Int32.toNatClampNeg (((400 : Int32) * i4) + i6))), .long (am_gl h b25 (Int32.toNatClampNeg ((i5 + (-1 : Int32)) - (1 : Int32)))), .long (am_gl h b30 (Int32.toNatClampNeg (i5 + (-1 : Int32))))] h (fun r35 h34 => ∃ y36, r35 = some (.long y36) ∧ am_kd h34 b22 = 101 ∧ am_in ((i5 + (-1 : Int32)) - (1 : Int32)) (am_ln h34 b22) ∧ ∀ h39, h39 = am_sl h34 b22 (Int32.toNatClampNeg ((i5 + (-1 : Int32)) - (1 : Int32))) y36 → Ev (d + 1) 213 26 [.ref a0, .int i1, .int i2, .int i3, .int i4, .int (i5 + (-1 : Int32)), .int (i6 + (1 : Int32)), .null, .null] [] h39 Q)) ∧ (¬ (¬ (am_gi h b12 (Int32.toNatClampNeg (((400 : Int32) * i4) + i6))) = (10 : Int32)) → am_kd h a0 = 12 ∧ ∃ b41, am_gr h a0 60 = some b41 ∧ am_kd h a0 = 12 ∧ ∃ b44, am_gr h a0 60 = some b44 ∧ am_kd h b44 = 101 ∧ am_in (i5 - (1 : Int32)) (am_ln h b44) ∧ am_kd h b41 = 101 ∧ am_in (i5 - (1 : Int32)) (am_ln h b41) ∧ ∀ h50, h50 = am_sl h b41 (Int32.toNatClampNeg (i5 - (1 : Int32))) (-(am_gl h b44 (Int32.toNatClampNeg (i5 - (1 : Int32))))) → Ev (d + 1) 213 26 [.ref a0, .int i1, .int i2, .int i3, .int i4, .int i5, .int (i6 + (1 : Int32)), .null, .null] [] h50 Q)) ∧ (¬ (¬ (am_gi h b12 (Int32.toNatClampNeg (((400 : Int32) * i4) + i6))) = (4 : Int32)) → am_kd h a0 = 12 ∧ ∃ b52, am_gr h a0 60 = some b52 ∧ am_kd h a0 = 12 ∧ ∃ b55, am_gr h a0 60 = some b55 ∧ am_kd h b55 = 101 ∧ am_in (i5 - (1 : Int32)) (am_ln h b55) ∧ ((¬ (lg_cmp (am_gl h b55 (Int32.toNatClampNeg (i5 - (1 : Int32)))) (0 : Int64)) = (0 : Int32)) → am_kd h b52 = 101 ∧ am_in (i5 - (1 : Int32)) (am_ln h b52) ∧ ∀ h61, h61 = am_sl h b52 (Int32.toNatClampNeg (i5 - (1 : Int32))) (0 : Int64) → Ev (d + 1) 213 26 [.ref a0, .int i1, .int i2, .int i3, .int i4, .int i5, .int (i6 + (1 : Int32)), .null, .null] [] h61 Q) ∧ (¬ (¬ (lg_cmp (am_gl h b55 (Int32.toNatClampNeg (i5 - (1 : Int32)))) (0 : Int64)) = (0 : Int32)) → am_kd h b52 = 101 ∧ am_in (i5 - (1 : Int32)) (am_ln h b52) ∧ ∀ h64, h64 = am_sl h b52 (Int32.toNatClampNeg (i5 - (1 : Int32))) (1 : Int64) → Ev (d + 1) 213 26 [.ref a0, .int i1, .int i2, .int i3, .int i4, .int i5, .int (i6 + (1 : Int32)), .null, .null] [] h64 Q))) ∧ (¬ (¬ (am_gi h b12 (Int32.toNatClampNeg (((400 : Int32) * i4) + i6))) = (1 : Int32)) → Ev (d + 1) 213 87 [.ref a0, .int i1, .int i2, .int i3, .int i4, .int i5, .int i6, .int (am_gi h b12 (Int32.toNatClampNeg (((400 : Int32) * i4) + i6))), .int (am_gi h b17 (Int32.toNatClampNeg (((400 : Int32) * i4) + i6)))] [] h Q)))) : Ev (d + 1) 213 26 [.ref a0, .int i1, .int i2, .int i3, .int i4, .int i5, .int i6, .null, .null] [] h Q := by
  refine ev_p (pc' := 29) (loc' := [.ref a0, .int i1, .int i2, .int i3, .int i4, .int i5, .int i6, .null, .null]) (st' := [.ref a0, .int i6]) 2 am_q213 rfl ?_
  obtain ⟨g1, b2, e3, H⟩ := H
  refine ev_s (pc' := 32) (loc' := [.ref a0, .int i1, .int i2, .int i3, .int i4, .int i5, .int i6, .null, .null]) (st' := [.ref b2, .int i6]) (h1 := h) am_q213 rfl rfl rfl (am_gf2 g1 e3) ?_
  refine ev_p (pc' := 40) (loc' := [.ref a0, .int i1, .int i2, .int i3, .int i4, .int i5, .int i6, .null, .null]) (st' := [.int ((((5 : Int32) * i4) + i1) + (1 : Int32)), .ref b2, .int i6]) 7 am_q213 rfl ?_
  obtain ⟨g4, g5, H⟩ := H
  refine ev_s (pc' := 41) (loc' := [.ref a0, .int i1, .int i2, .int i3, .int i4, .int i5, .int i6, .null, .null]) (st' := [.int (am_gi h b2 (Int32.toNatClampNeg ((((5 : Int32) * i4) + i1) + (1 : Int32)))), .int i6]) (h1 := h) am_q213 rfl rfl rfl (am_xx g4 g5) ?_
  refine ev_jc (t := 224) am_q213 rfl rfl (fun hq => ?_) (fun hq => ?_)
  · replace H := H.1 hq
    refine ev_p (pc' := 225) (loc' := [.ref a0, .int i1, .int i2, .int i3, .int i4, .int i5, .int i6, .null, .null]) (st' := [.ref a0]) 1 am_q213 rfl ?_
    obtain ⟨g6, b7, e8, H⟩ := H
    refine ev_s (pc' := 228) (loc' := [.ref a0, .int i1, .int i2, .int i3, .int i4, .int i5, .int i6, .null, .null]) (st' := [.ref b7]) (h1 := h) am_q213 rfl rfl rfl (am_gf2 g6 e8) ?_
    refine ev_p (pc' := 229) (loc' := [.ref a0, .int i1, .int i2, .int i3, .int i4, .int i5, .int i6, .null, .null]) (st' := [.int (0 : Int32), .ref b7]) 1 am_q213 rfl ?_
    obtain ⟨g9, g10, H⟩ := H
    refine ev_s (pc' := 230) (loc' := [.ref a0, .int i1, .int i2, .int i3, .int i4, .int i5, .int i6, .null, .null]) (st' := [.long (am_gl h b7 (Int32.toNatClampNeg (0 : Int32)))]) (h1 := h) am_q213 rfl rfl rfl (am_xx g9 g10) ?_
    exact ev_r (v := some (.long (am_gl h b7 (Int32.toNatClampNeg (0 : Int32))))) am_q213 rfl rfl rfl rfl H
  · replace H := H.2 hq
    refine ev_p (pc' := 45) (loc' := [.ref a0, .int i1, .int i2, .int i3, .int i4, .int i5, .int i6, .null, .null]) (st' := [.ref a0]) 1 am_q213 rfl ?_
    obtain ⟨g11, b12, e13, H⟩ := H
    refine ev_s (pc' := 48) (loc' := [.ref a0, .int i1, .int i2, .int i3, .int i4, .int i5, .int i6, .null, .null]) (st' := [.ref b12]) (h1 := h) am_q213 rfl rfl rfl (am_gf2 g11 e13) ?_
    refine ev_p (pc' := 57) (loc' := [.ref a0, .int i1, .int i2, .int i3, .int i4, .int i5, .int i6, .null, .null]) (st' := [.int (((400 : Int32) * i4) + i6), .ref b12]) 5 am_q213 rfl ?_
    obtain ⟨g14, g15, H⟩ := H
    refine ev_s (pc' := 58) (loc' := [.ref a0, .int i1, .int i2, .int i3, .int i4, .int i5, .int i6, .null, .null]) (st' := [.int (am_gi h b12 (Int32.toNatClampNeg (((400 : Int32) * i4) + i6)))]) (h1 := h) am_q213 rfl rfl rfl (am_xx g14 g15) ?_
    refine ev_p (pc' := 61) (loc' := [.ref a0, .int i1, .int i2, .int i3, .int i4, .int i5, .int i6, .int (am_gi h b12 (Int32.toNatClampNeg (((400 : Int32) * i4) + i6))), .null]) (st' := [.ref a0]) 2 am_q213 rfl ?_
    obtain ⟨g16, b17, e18, H⟩ := H
    refine ev_s (pc' := 64) (loc' := [.ref a0, .int i1, .int i2, .int i3, .int i4, .int i5, .int i6, .int (am_gi h b12 (Int32.toNatClampNeg (((400 : Int32) * i4) + i6))), .null]) (st' := [.ref b17]) (h1 := h) am_q213 rfl rfl rfl (am_gf2 g16 e18) ?_
    refine ev_p (pc' := 73) (loc' := [.ref a0, .int i1, .int i2, .int i3, .int i4, .int i5, .int i6, .int (am_gi h b12 (Int32.toNatClampNeg (((400 : Int32) * i4) + i6))), .null]) (st' := [.int (((400 : Int32) * i4) + i6), .ref b17]) 5 am_q213 rfl ?_
    obtain ⟨g19, g20, H⟩ := H
    refine ev_s (pc' := 74) (loc' := [.ref a0, .int i1, .int i2, .int i3, .int i4, .int i5, .int i6, .int (am_gi h b12 (Int32.toNatClampNeg (((400 : Int32) * i4) + i6))), .null]) (st' := [.int (am_gi h b17 (Int32.toNatClampNeg (((400 : Int32) * i4) + i6)))]) (h1 := h) am_q213 rfl rfl rfl (am_xx g19 g20) ?_
    refine ev_p (pc' := 78) (loc' := [.ref a0, .int i1, .int i2, .int i3, .int i4, .int i5, .int i6, .int (am_gi h b12 (Int32.toNatClampNeg (((400 : Int32) * i4) + i6))), .int (am_gi h b17 (Int32.toNatClampNeg (((400 : Int32) * i4) + i6)))]) (st' := [.int (am_gi h b12 (Int32.toNatClampNeg (((400 : Int32) * i4) + i6)))]) 2 am_q213 rfl ?_
    refine ev_jz (t := 87) am_q213 rfl rfl (fun hq => ?_) (fun hq => ?_)
    · replace H := H.1 hq
      exact ev_m (loc' := [.ref a0, .int i1, .int i2, .int i3, .int i4, .int i5, .int i6, .int (am_gi h b12 (Int32.toNatClampNeg (((400 : Int32) * i4) + i6))), .int (am_gi h b17 (Int32.toNatClampNeg (((400 : Int32) * i4) + i6)))]) am_q213 rfl rfl H
    · replace H := H.2 hq
      refine ev_p (pc' := 84) (loc' := [.ref a0, .int i1, .int i2, .int i3, .int i4, .int i5, .int i6, .int (am_gi h b12 (Int32.toNatClampNeg (((400 : Int32) * i4) + i6))), .int (am_gi h b17 (Int32.toNatClampNeg (((400 : Int32) * i4) + i6)))]) (st' := [.int (1 : Int32), .int (am_gi h b12 (Int32.toNatClampNeg (((400 : Int32) * i4) + i6)))]) 2 am_q213 rfl ?_
      refine ev_jc (t := 119) am_q213 rfl rfl (fun hq => ?_) (fun hq => ?_)
      · replace H := H.1 hq
        refine ev_p (pc' := 122) (loc' := [.ref a0, .int i1, .int i2, .int i3, .int i4, .int i5, .int i6, .int (am_gi h b12 (Int32.toNatClampNeg (((400 : Int32) * i4) + i6))), .int (am_gi h b17 (Int32.toNatClampNeg (((400 : Int32) * i4) + i6)))]) (st' := [.int (4 : Int32), .int (am_gi h b12 (Int32.toNatClampNeg (((400 : Int32) * i4) + i6)))]) 2 am_q213 rfl ?_
        refine ev_jc (t := 156) am_q213 rfl rfl (fun hq => ?_) (fun hq => ?_)
        · replace H := H.1 hq
          refine ev_p (pc' := 160) (loc' := [.ref a0, .int i1, .int i2, .int i3, .int i4, .int i5, .int i6, .int (am_gi h b12 (Int32.toNatClampNeg (((400 : Int32) * i4) + i6))), .int (am_gi h b17 (Int32.toNatClampNeg (((400 : Int32) * i4) + i6)))]) (st' := [.int (10 : Int32), .int (am_gi h b12 (Int32.toNatClampNeg (((400 : Int32) * i4) + i6)))]) 2 am_q213 rfl ?_
          refine ev_jc (t := 185) am_q213 rfl rfl (fun hq => ?_) (fun hq => ?_)
          · replace H := H.1 hq
            refine ev_p (pc' := 189) (loc' := [.ref a0, .int i1, .int i2, .int i3, .int i4, .int (i5 + (-1 : Int32)), .int i6, .int (am_gi h b12 (Int32.toNatClampNeg (((400 : Int32) * i4) + i6))), .int (am_gi h b17 (Int32.toNatClampNeg (((400 : Int32) * i4) + i6)))]) (st' := [.ref a0]) 2 am_q213 rfl ?_
            obtain ⟨g21, b22, e23, H⟩ := H
            refine ev_s (pc' := 192) (loc' := [.ref a0, .int i1, .int i2, .int i3, .int i4, .int (i5 + (-1 : Int32)), .int i6, .int (am_gi h b12 (Int32.toNatClampNeg (((400 : Int32) * i4) + i6))), .int (am_gi h b17 (Int32.toNatClampNeg (((400 : Int32) * i4) + i6)))]) (st' := [.ref b22]) (h1 := h) am_q213 rfl rfl rfl (am_gf2 g21 e23) ?_
            refine ev_p (pc' := 199) (loc' := [.ref a0, .int i1, .int i2, .int i3, .int i4, .int (i5 + (-1 : Int32)), .int i6, .int (am_gi h b12 (Int32.toNatClampNeg (((400 : Int32) * i4) + i6))), .int (am_gi h b17 (Int32.toNatClampNeg (((400 : Int32) * i4) + i6)))]) (st' := [.ref a0, .int (am_gi h b12 (Int32.toNatClampNeg (((400 : Int32) * i4) + i6))), .int ((i5 + (-1 : Int32)) - (1 : Int32)), .ref b22]) 5 am_q213 rfl ?_
            obtain ⟨g24, b25, e26, H⟩ := H
            refine ev_s (pc' := 202) (loc' := [.ref a0, .int i1, .int i2, .int i3, .int i4, .int (i5 + (-1 : Int32)), .int i6, .int (am_gi h b12 (Int32.toNatClampNeg (((400 : Int32) * i4) + i6))), .int (am_gi h b17 (Int32.toNatClampNeg (((400 : Int32) * i4) + i6)))]) (st' := [.ref b25, .int (am_gi h b12 (Int32.toNatClampNeg (((400 : Int32) * i4) + i6))), .int ((i5 + (-1 : Int32)) - (1 : Int32)), .ref b22]) (h1 := h) am_q213 rfl rfl rfl (am_gf2 g24 e26) ?_
            refine ev_p (pc' := 206) (loc' := [.ref a0, .int i1, .int i2, .int i3, .int i4, .int (i5 + (-1 : Int32)), .int i6, .int (am_gi h b12 (Int32.toNatClampNeg (((400 : Int32) * i4) + i6))), .int (am_gi h b17 (Int32.toNatClampNeg (((400 : Int32) * i4) + i6)))]) (st' := [.int ((i5 + (-1 : Int32)) - (1 : Int32)), .ref b25, .int (am_gi h b12 (Int32.toNatClampNeg (((400 : Int32) * i4) + i6))), .int ((i5 + (-1 : Int32)) - (1 : Int32)), .ref b22]) 3 am_q213 rfl ?_
            obtain ⟨g27, g28, H⟩ := H
            refine ev_s (pc' := 207) (loc' := [.ref a0, .int i1, .int i2, .int i3, .int i4, .int (i5 + (-1 : Int32)), .int i6, .int (am_gi h b12 (Int32.toNatClampNeg (((400 : Int32) * i4) + i6))), .int (am_gi h b17 (Int32.toNatClampNeg (((400 : Int32) * i4) + i6)))]) (st' := [.long (am_gl h b25 (Int32.toNatClampNeg ((i5 + (-1 : Int32)) - (1 : Int32)))), .int (am_gi h b12 (Int32.toNatClampNeg (((400 : Int32) * i4) + i6))), .int ((i5 + (-1 : Int32)) - (1 : Int32)), .ref b22]) (h1 := h) am_q213 rfl rfl rfl (am_xx g27 g28) ?_
            refine ev_p (pc' := 208) (loc' := [.ref a0, .int i1, .int i2, .int i3, .int i4, .int (i5 + (-1 : Int32)), .int i6, .int (am_gi h b12 (Int32.toNatClampNeg (((400 : Int32) * i4) + i6))), .int (am_gi h b17 (Int32.toNatClampNeg (((400 : Int32) * i4) + i6)))]) (st' := [.ref a0, .long (am_gl h b25 (Int32.toNatClampNeg ((i5 + (-1 : Int32)) - (1 : Int32)))), .int (am_gi h b12 (Int32.toNatClampNeg (((400 : Int32) * i4) + i6))), .int ((i5 + (-1 : Int32)) - (1 : Int32)), .ref b22]) 1 am_q213 rfl ?_
            obtain ⟨g29, b30, e31, H⟩ := H
            refine ev_s (pc' := 211) (loc' := [.ref a0, .int i1, .int i2, .int i3, .int i4, .int (i5 + (-1 : Int32)), .int i6, .int (am_gi h b12 (Int32.toNatClampNeg (((400 : Int32) * i4) + i6))), .int (am_gi h b17 (Int32.toNatClampNeg (((400 : Int32) * i4) + i6)))]) (st' := [.ref b30, .long (am_gl h b25 (Int32.toNatClampNeg ((i5 + (-1 : Int32)) - (1 : Int32)))), .int (am_gi h b12 (Int32.toNatClampNeg (((400 : Int32) * i4) + i6))), .int ((i5 + (-1 : Int32)) - (1 : Int32)), .ref b22]) (h1 := h) am_q213 rfl rfl rfl (am_gf2 g29 e31) ?_
            refine ev_p (pc' := 213) (loc' := [.ref a0, .int i1, .int i2, .int i3, .int i4, .int (i5 + (-1 : Int32)), .int i6, .int (am_gi h b12 (Int32.toNatClampNeg (((400 : Int32) * i4) + i6))), .int (am_gi h b17 (Int32.toNatClampNeg (((400 : Int32) * i4) + i6)))]) (st' := [.int (i5 + (-1 : Int32)), .ref b30, .long (am_gl h b25 (Int32.toNatClampNeg ((i5 + (-1 : Int32)) - (1 : Int32)))), .int (am_gi h b12 (Int32.toNatClampNeg (((400 : Int32) * i4) + i6))), .int ((i5 + (-1 : Int32)) - (1 : Int32)), .ref b22]) 1 am_q213 rfl ?_
            obtain ⟨g32, g33, H⟩ := H
            refine ev_s (pc' := 214) (loc' := [.ref a0, .int i1, .int i2, .int i3, .int i4, .int (i5 + (-1 : Int32)), .int i6, .int (am_gi h b12 (Int32.toNatClampNeg (((400 : Int32) * i4) + i6))), .int (am_gi h b17 (Int32.toNatClampNeg (((400 : Int32) * i4) + i6)))]) (st' := [.long (am_gl h b30 (Int32.toNatClampNeg (i5 + (-1 : Int32)))), .long (am_gl h b25 (Int32.toNatClampNeg ((i5 + (-1 : Int32)) - (1 : Int32)))), .int (am_gi h b12 (Int32.toNatClampNeg (((400 : Int32) * i4) + i6))), .int ((i5 + (-1 : Int32)) - (1 : Int32)), .ref b22]) (h1 := h) am_q213 rfl rfl rfl (am_xx g32 g33) ?_
            refine ev_c (vs := [.int (am_gi h b12 (Int32.toNatClampNeg (((400 : Int32) * i4) + i6))), .long (am_gl h b25 (Int32.toNatClampNeg ((i5 + (-1 : Int32)) - (1 : Int32)))), .long (am_gl h b30 (Int32.toNatClampNeg (i5 + (-1 : Int32))))]) (rest := [.int ((i5 + (-1 : Int32)) - (1 : Int32)), .ref b22]) 212 am_q213 rfl rfl rfl rfl rfl rfl rfl rfl rfl rfl rfl rfl (Or.inl rfl) (Cl.mono H (Nat.le_refl _) (fun r35 h34 H => ?_))
            obtain ⟨y36, rfl, H⟩ := H
            obtain ⟨g37, g38, H⟩ := H
            refine ev_s (pc' := 218) (loc' := [.ref a0, .int i1, .int i2, .int i3, .int i4, .int (i5 + (-1 : Int32)), .int i6, .int (am_gi h b12 (Int32.toNatClampNeg (((400 : Int32) * i4) + i6))), .int (am_gi h b17 (Int32.toNatClampNeg (((400 : Int32) * i4) + i6)))]) (st' := []) (h1 := am_sl h34 b22 (Int32.toNatClampNeg ((i5 + (-1 : Int32)) - (1 : Int32))) y36) am_q213 rfl rfl rfl (am_xx g37 g38) ?_
            replace H := H _ rfl
            generalize am_sl h34 b22 (Int32.toNatClampNeg ((i5 + (-1 : Int32)) - (1 : Int32))) y36 = h39 at H ⊢
            refine ev_p (pc' := 26) (loc' := [.ref a0, .int i1, .int i2, .int i3, .int i4, .int (i5 + (-1 : Int32)), .int (i6 + (1 : Int32)), .null, .null]) (st' := []) 2 am_q213 rfl ?_
            exact ev_m (loc' := [.ref a0, .int i1, .int i2, .int i3, .int i4, .int (i5 + (-1 : Int32)), .int (i6 + (1 : Int32)), .null, .null]) am_q213 rfl rfl H
          · replace H := H.2 hq
            refine ev_p (pc' := 164) (loc' := [.ref a0, .int i1, .int i2, .int i3, .int i4, .int i5, .int i6, .int (am_gi h b12 (Int32.toNatClampNeg (((400 : Int32) * i4) + i6))), .int (am_gi h b17 (Int32.toNatClampNeg (((400 : Int32) * i4) + i6)))]) (st' := [.ref a0]) 1 am_q213 rfl ?_
            obtain ⟨g40, b41, e42, H⟩ := H
            refine ev_s (pc' := 167) (loc' := [.ref a0, .int i1, .int i2, .int i3, .int i4, .int i5, .int i6, .int (am_gi h b12 (Int32.toNatClampNeg (((400 : Int32) * i4) + i6))), .int (am_gi h b17 (Int32.toNatClampNeg (((400 : Int32) * i4) + i6)))]) (st' := [.ref b41]) (h1 := h) am_q213 rfl rfl rfl (am_gf2 g40 e42) ?_
            refine ev_p (pc' := 172) (loc' := [.ref a0, .int i1, .int i2, .int i3, .int i4, .int i5, .int i6, .int (am_gi h b12 (Int32.toNatClampNeg (((400 : Int32) * i4) + i6))), .int (am_gi h b17 (Int32.toNatClampNeg (((400 : Int32) * i4) + i6)))]) (st' := [.ref a0, .int (i5 - (1 : Int32)), .ref b41]) 4 am_q213 rfl ?_
            obtain ⟨g43, b44, e45, H⟩ := H
            refine ev_s (pc' := 175) (loc' := [.ref a0, .int i1, .int i2, .int i3, .int i4, .int i5, .int i6, .int (am_gi h b12 (Int32.toNatClampNeg (((400 : Int32) * i4) + i6))), .int (am_gi h b17 (Int32.toNatClampNeg (((400 : Int32) * i4) + i6)))]) (st' := [.ref b44, .int (i5 - (1 : Int32)), .ref b41]) (h1 := h) am_q213 rfl rfl rfl (am_gf2 g43 e45) ?_
            refine ev_p (pc' := 179) (loc' := [.ref a0, .int i1, .int i2, .int i3, .int i4, .int i5, .int i6, .int (am_gi h b12 (Int32.toNatClampNeg (((400 : Int32) * i4) + i6))), .int (am_gi h b17 (Int32.toNatClampNeg (((400 : Int32) * i4) + i6)))]) (st' := [.int (i5 - (1 : Int32)), .ref b44, .int (i5 - (1 : Int32)), .ref b41]) 3 am_q213 rfl ?_
            obtain ⟨g46, g47, H⟩ := H
            refine ev_s (pc' := 180) (loc' := [.ref a0, .int i1, .int i2, .int i3, .int i4, .int i5, .int i6, .int (am_gi h b12 (Int32.toNatClampNeg (((400 : Int32) * i4) + i6))), .int (am_gi h b17 (Int32.toNatClampNeg (((400 : Int32) * i4) + i6)))]) (st' := [.long (am_gl h b44 (Int32.toNatClampNeg (i5 - (1 : Int32)))), .int (i5 - (1 : Int32)), .ref b41]) (h1 := h) am_q213 rfl rfl rfl (am_xx g46 g47) ?_
            refine ev_p (pc' := 181) (loc' := [.ref a0, .int i1, .int i2, .int i3, .int i4, .int i5, .int i6, .int (am_gi h b12 (Int32.toNatClampNeg (((400 : Int32) * i4) + i6))), .int (am_gi h b17 (Int32.toNatClampNeg (((400 : Int32) * i4) + i6)))]) (st' := [.long (-(am_gl h b44 (Int32.toNatClampNeg (i5 - (1 : Int32))))), .int (i5 - (1 : Int32)), .ref b41]) 1 am_q213 rfl ?_
            obtain ⟨g48, g49, H⟩ := H
            refine ev_s (pc' := 182) (loc' := [.ref a0, .int i1, .int i2, .int i3, .int i4, .int i5, .int i6, .int (am_gi h b12 (Int32.toNatClampNeg (((400 : Int32) * i4) + i6))), .int (am_gi h b17 (Int32.toNatClampNeg (((400 : Int32) * i4) + i6)))]) (st' := []) (h1 := am_sl h b41 (Int32.toNatClampNeg (i5 - (1 : Int32))) (-(am_gl h b44 (Int32.toNatClampNeg (i5 - (1 : Int32)))))) am_q213 rfl rfl rfl (am_xx g48 g49) ?_
            replace H := H _ rfl
            generalize am_sl h b41 (Int32.toNatClampNeg (i5 - (1 : Int32))) (-(am_gl h b44 (Int32.toNatClampNeg (i5 - (1 : Int32))))) = h50 at H ⊢
            refine ev_p (pc' := 26) (loc' := [.ref a0, .int i1, .int i2, .int i3, .int i4, .int i5, .int (i6 + (1 : Int32)), .null, .null]) (st' := []) 3 am_q213 rfl ?_
            exact ev_m (loc' := [.ref a0, .int i1, .int i2, .int i3, .int i4, .int i5, .int (i6 + (1 : Int32)), .null, .null]) am_q213 rfl rfl H
        · replace H := H.2 hq
          refine ev_p (pc' := 126) (loc' := [.ref a0, .int i1, .int i2, .int i3, .int i4, .int i5, .int i6, .int (am_gi h b12 (Int32.toNatClampNeg (((400 : Int32) * i4) + i6))), .int (am_gi h b17 (Int32.toNatClampNeg (((400 : Int32) * i4) + i6)))]) (st' := [.ref a0]) 1 am_q213 rfl ?_
          obtain ⟨g51, b52, e53, H⟩ := H
          refine ev_s (pc' := 129) (loc' := [.ref a0, .int i1, .int i2, .int i3, .int i4, .int i5, .int i6, .int (am_gi h b12 (Int32.toNatClampNeg (((400 : Int32) * i4) + i6))), .int (am_gi h b17 (Int32.toNatClampNeg (((400 : Int32) * i4) + i6)))]) (st' := [.ref b52]) (h1 := h) am_q213 rfl rfl rfl (am_gf2 g51 e53) ?_
          refine ev_p (pc' := 134) (loc' := [.ref a0, .int i1, .int i2, .int i3, .int i4, .int i5, .int i6, .int (am_gi h b12 (Int32.toNatClampNeg (((400 : Int32) * i4) + i6))), .int (am_gi h b17 (Int32.toNatClampNeg (((400 : Int32) * i4) + i6)))]) (st' := [.ref a0, .int (i5 - (1 : Int32)), .ref b52]) 4 am_q213 rfl ?_
          obtain ⟨g54, b55, e56, H⟩ := H
          refine ev_s (pc' := 137) (loc' := [.ref a0, .int i1, .int i2, .int i3, .int i4, .int i5, .int i6, .int (am_gi h b12 (Int32.toNatClampNeg (((400 : Int32) * i4) + i6))), .int (am_gi h b17 (Int32.toNatClampNeg (((400 : Int32) * i4) + i6)))]) (st' := [.ref b55, .int (i5 - (1 : Int32)), .ref b52]) (h1 := h) am_q213 rfl rfl rfl (am_gf2 g54 e56) ?_
          refine ev_p (pc' := 141) (loc' := [.ref a0, .int i1, .int i2, .int i3, .int i4, .int i5, .int i6, .int (am_gi h b12 (Int32.toNatClampNeg (((400 : Int32) * i4) + i6))), .int (am_gi h b17 (Int32.toNatClampNeg (((400 : Int32) * i4) + i6)))]) (st' := [.int (i5 - (1 : Int32)), .ref b55, .int (i5 - (1 : Int32)), .ref b52]) 3 am_q213 rfl ?_
          obtain ⟨g57, g58, H⟩ := H
          refine ev_s (pc' := 142) (loc' := [.ref a0, .int i1, .int i2, .int i3, .int i4, .int i5, .int i6, .int (am_gi h b12 (Int32.toNatClampNeg (((400 : Int32) * i4) + i6))), .int (am_gi h b17 (Int32.toNatClampNeg (((400 : Int32) * i4) + i6)))]) (st' := [.long (am_gl h b55 (Int32.toNatClampNeg (i5 - (1 : Int32)))), .int (i5 - (1 : Int32)), .ref b52]) (h1 := h) am_q213 rfl rfl rfl (am_xx g57 g58) ?_
          refine ev_p (pc' := 144) (loc' := [.ref a0, .int i1, .int i2, .int i3, .int i4, .int i5, .int i6, .int (am_gi h b12 (Int32.toNatClampNeg (((400 : Int32) * i4) + i6))), .int (am_gi h b17 (Int32.toNatClampNeg (((400 : Int32) * i4) + i6)))]) (st' := [.int (lg_cmp (am_gl h b55 (Int32.toNatClampNeg (i5 - (1 : Int32)))) (0 : Int64)), .int (i5 - (1 : Int32)), .ref b52]) 2 am_q213 rfl ?_
          refine ev_jz (t := 151) am_q213 rfl rfl (fun hq => ?_) (fun hq => ?_)
          · replace H := H.1 hq
            refine ev_p (pc' := 152) (loc' := [.ref a0, .int i1, .int i2, .int i3, .int i4, .int i5, .int i6, .int (am_gi h b12 (Int32.toNatClampNeg (((400 : Int32) * i4) + i6))), .int (am_gi h b17 (Int32.toNatClampNeg (((400 : Int32) * i4) + i6)))]) (st' := [.long (0 : Int64), .int (i5 - (1 : Int32)), .ref b52]) 1 am_q213 rfl ?_
            obtain ⟨g59, g60, H⟩ := H
            refine ev_s (pc' := 153) (loc' := [.ref a0, .int i1, .int i2, .int i3, .int i4, .int i5, .int i6, .null, .null]) (st' := []) (h1 := am_sl h b52 (Int32.toNatClampNeg (i5 - (1 : Int32))) (0 : Int64)) am_q213 rfl rfl rfl (am_xx g59 g60) ?_
            replace H := H _ rfl
            generalize am_sl h b52 (Int32.toNatClampNeg (i5 - (1 : Int32))) (0 : Int64) = h61 at H ⊢
            refine ev_p (pc' := 26) (loc' := [.ref a0, .int i1, .int i2, .int i3, .int i4, .int i5, .int (i6 + (1 : Int32)), .null, .null]) (st' := []) 3 am_q213 rfl ?_
            exact ev_m (loc' := [.ref a0, .int i1, .int i2, .int i3, .int i4, .int i5, .int (i6 + (1 : Int32)), .null, .null]) am_q213 rfl rfl H
          · replace H := H.2 hq
            refine ev_p (pc' := 152) (loc' := [.ref a0, .int i1, .int i2, .int i3, .int i4, .int i5, .int i6, .int (am_gi h b12 (Int32.toNatClampNeg (((400 : Int32) * i4) + i6))), .int (am_gi h b17 (Int32.toNatClampNeg (((400 : Int32) * i4) + i6)))]) (st' := [.long (1 : Int64), .int (i5 - (1 : Int32)), .ref b52]) 2 am_q213 rfl ?_
            obtain ⟨g62, g63, H⟩ := H
            refine ev_s (pc' := 153) (loc' := [.ref a0, .int i1, .int i2, .int i3, .int i4, .int i5, .int i6, .null, .null]) (st' := []) (h1 := am_sl h b52 (Int32.toNatClampNeg (i5 - (1 : Int32))) (1 : Int64)) am_q213 rfl rfl rfl (am_xx g62 g63) ?_
            replace H := H _ rfl
            generalize am_sl h b52 (Int32.toNatClampNeg (i5 - (1 : Int32))) (1 : Int64) = h64 at H ⊢
            refine ev_p (pc' := 26) (loc' := [.ref a0, .int i1, .int i2, .int i3, .int i4, .int i5, .int (i6 + (1 : Int32)), .null, .null]) (st' := []) 3 am_q213 rfl ?_
            exact ev_m (loc' := [.ref a0, .int i1, .int i2, .int i3, .int i4, .int i5, .int (i6 + (1 : Int32)), .null, .null]) am_q213 rfl rfl H
      · replace H := H.2 hq
        exact ev_m (loc' := [.ref a0, .int i1, .int i2, .int i3, .int i4, .int i5, .int i6, .int (am_gi h b12 (Int32.toNatClampNeg (((400 : Int32) * i4) + i6))), .int (am_gi h b17 (Int32.toNatClampNeg (((400 : Int32) * i4) + i6)))]) am_q213 rfl rfl H
set_option maxRecDepth 20000 in
set_option maxHeartbeats 2000000 in
theorem wp213_87 {d : Nat} (a0 : Nat) (i1 : Int32) (i2 : Int32) (i3 : Int32) (i4 : Int32) (i5 : Int32) (i6 : Int32) (i7 : Int32) (i8 : Int32) {h : AH} {Q : Option Value → AH → Prop} (H : am_kd h a0 = 12 ∧ ∃ b2, am_gr h a0 60 = some b2 ∧ ((¬ i7 = (0 : Int32)) → am_kd h a0 = 12 ∧ Cl d 211 [.ref a0, .int i8, .int i2, .int i3] h (fun r5 h4 => ∃ y7, r5 = some (.long y7) ∧ am_kd h4 b2 = 101 ∧ am_in i5 (am_ln h4 b2) ∧ ∀ h10, h10 = am_sl h4 b2 (Int32.toNatClampNeg i5) y7 → Ev (d + 1) 213 26 [.ref a0, .int i1, .int i2, .int i3, .int i4, .int (i5 + (1 : Int32)), .int (i6 + (1 : Int32)), .null, .null] [] h10 Q)) ∧ (¬ (¬ i7 = (0 : Int32)) → am_kd h b2 = 101 ∧ am_in i5 (am_ln h b2) ∧ ∀ h13, h13 = am_sl h b2 (Int32.toNatClampNeg i5) (Int32.toInt64 i8) → Ev (d + 1) 213 26 [.ref a0, .int i1, .int i2, .int i3, .int i4, .int (i5 + (1 : Int32)), .int (i6 + (1 : Int32)), .null, .null] [] h13 Q)) : Ev (d + 1) 213 87 [.ref a0, .int i1, .int i2, .int i3, .int i4, .int i5, .int i6, .int i7, .int i8] [] h Q := by
  refine ev_p (pc' := 88) (loc' := [.ref a0, .int i1, .int i2, .int i3, .int i4, .int i5, .int i6, .int i7, .int i8]) (st' := [.ref a0]) 1 am_q213 rfl ?_
  obtain ⟨g1, b2, e3, H⟩ := H
  refine ev_s (pc' := 91) (loc' := [.ref a0, .int i1, .int i2, .int i3, .int i4, .int i5, .int i6, .int i7, .int i8]) (st' := [.ref b2]) (h1 := h) am_q213 rfl rfl rfl (am_gf2 g1 e3) ?_
  refine ev_p (pc' := 95) (loc' := [.ref a0, .int i1, .int i2, .int i3, .int i4, .int i5, .int i6, .int i7, .int i8]) (st' := [.int i7, .int i5, .ref b2]) 2 am_q213 rfl ?_
  refine ev_jz (t := 104) am_q213 rfl rfl (fun hq => ?_) (fun hq => ?_)
  · replace H := H.1 hq
    refine ev_p (pc' := 109) (loc' := [.ref a0, .int i1, .int i2, .int i3, .int i4, .int i5, .int i6, .int i7, .int i8]) (st' := [.int i3, .int i2, .int i8, .ref a0, .int i5, .ref b2]) 4 am_q213 rfl ?_
    obtain ⟨g6, H⟩ := H
    refine ev_c (vs := [.ref a0, .int i8, .int i2, .int i3]) (rest := [.int i5, .ref b2]) 211 am_q213 rfl rfl rfl rfl rfl rfl rfl rfl rfl rfl rfl rfl (Or.inr (congrArg some g6)) (Cl.mono H (Nat.le_refl _) (fun r5 h4 H => ?_))
    obtain ⟨y7, rfl, H⟩ := H
    obtain ⟨g8, g9, H⟩ := H
    refine ev_s (pc' := 113) (loc' := [.ref a0, .int i1, .int i2, .int i3, .int i4, .int i5, .int i6, .null, .null]) (st' := []) (h1 := am_sl h4 b2 (Int32.toNatClampNeg i5) y7) am_q213 rfl rfl rfl (am_xx g8 g9) ?_
    replace H := H _ rfl
    generalize am_sl h4 b2 (Int32.toNatClampNeg i5) y7 = h10 at H ⊢
    refine ev_p (pc' := 26) (loc' := [.ref a0, .int i1, .int i2, .int i3, .int i4, .int (i5 + (1 : Int32)), .int (i6 + (1 : Int32)), .null, .null]) (st' := []) 4 am_q213 rfl ?_
    exact ev_m (loc' := [.ref a0, .int i1, .int i2, .int i3, .int i4, .int (i5 + (1 : Int32)), .int (i6 + (1 : Int32)), .null, .null]) am_q213 rfl rfl H
  · replace H := H.2 hq
    refine ev_p (pc' := 112) (loc' := [.ref a0, .int i1, .int i2, .int i3, .int i4, .int i5, .int i6, .int i7, .int i8]) (st' := [.long (Int32.toInt64 i8), .int i5, .ref b2]) 3 am_q213 rfl ?_
    obtain ⟨g11, g12, H⟩ := H
    refine ev_s (pc' := 113) (loc' := [.ref a0, .int i1, .int i2, .int i3, .int i4, .int i5, .int i6, .null, .null]) (st' := []) (h1 := am_sl h b2 (Int32.toNatClampNeg i5) (Int32.toInt64 i8)) am_q213 rfl rfl rfl (am_xx g11 g12) ?_
    replace H := H _ rfl
    generalize am_sl h b2 (Int32.toNatClampNeg i5) (Int32.toInt64 i8) = h13 at H ⊢
    refine ev_p (pc' := 26) (loc' := [.ref a0, .int i1, .int i2, .int i3, .int i4, .int (i5 + (1 : Int32)), .int (i6 + (1 : Int32)), .null, .null]) (st' := []) 4 am_q213 rfl ?_
    exact ev_m (loc' := [.ref a0, .int i1, .int i2, .int i3, .int i4, .int (i5 + (1 : Int32)), .int (i6 + (1 : Int32)), .null, .null]) am_q213 rfl rfl H
/-! 214: X12_here -/
theorem am_q214 : (am_mt 214).2.2.2.2.2 = am_m214.2.2.2.2.2 := rfl
set_option maxRecDepth 20000 in
set_option maxHeartbeats 2000000 in
theorem wp214 {d : Nat} (a0 : Nat) {h : AH} {Q : Option Value → AH → Prop} (H : Ev (d + 1) 214 4 [.ref a0, .int (0 : Int32), .int (0 : Int32)] [] h Q) : Cl (d + 1) 214 [.ref a0] h Q := by
  show Ev (d + 1) 214 0 [.ref a0, .null, .null] [] h Q
  refine ev_p (pc' := 4) (loc' := [.ref a0, .int (0 : Int32), .int (0 : Int32)]) (st' := []) 4 am_q214 rfl ?_
  exact ev_m (loc' := [.ref a0, .int (0 : Int32), .int (0 : Int32)]) am_q214 rfl rfl H
set_option maxRecDepth 20000 in
set_option maxHeartbeats 2000000 in
theorem wp214_4 {d : Nat} (a0 : Nat) (i1 : Int32) (i2 : Int32) {h : AH} {Q : Option Value → AH → Prop} (H : am_kd h a0 = 12 ∧ ((am_gi h a0 7) ≤ i2 → Q (some (.int i1)) h) ∧ (¬ (am_gi h a0 7) ≤ i2 → am_kd h a0 = 12 ∧ Cl d 170 [.ref a0, .int i2] h (fun r3 h2 => ∃ x5, r3 = some (.int x5) ∧ (x5 = (0 : Int32) → Ev (d + 1) 214 4 [.ref a0, .int (i1 + (0 : Int32)), .int (i2 + (1 : Int32))] [] h2 Q) ∧ (¬ x5 = (0 : Int32) → Ev (d + 1) 214 4 [.ref a0, .int (i1 + (1 : Int32)), .int (i2 + (1 : Int32))] [] h2 Q)))) : Ev (d + 1) 214 4 [.ref a0, .int i1, .int i2] [] h Q := by
  refine ev_p (pc' := 6) (loc' := [.ref a0, .int i1, .int i2]) (st' := [.ref a0, .int i2]) 2 am_q214 rfl ?_
  obtain ⟨g1, H⟩ := H
  refine ev_s (pc' := 9) (loc' := [.ref a0, .int i1, .int i2]) (st' := [.int (am_gi h a0 7), .int i2]) (h1 := h) am_q214 rfl rfl rfl (if_pos (e := none) g1) ?_
  refine ev_jc (t := 34) am_q214 rfl rfl (fun hq => ?_) (fun hq => ?_)
  · replace H := H.1 hq
    refine ev_p (pc' := 35) (loc' := [.ref a0, .int i1, .int i2]) (st' := [.int i1]) 1 am_q214 rfl ?_
    exact ev_r (v := some (.int i1)) am_q214 rfl rfl rfl rfl H
  · replace H := H.2 hq
    refine ev_p (pc' := 15) (loc' := [.ref a0, .int i1, .int i2]) (st' := [.int i2, .ref a0, .int i1]) 3 am_q214 rfl ?_
    obtain ⟨g4, H⟩ := H
    refine ev_c (vs := [.ref a0, .int i2]) (rest := [.int i1]) 170 am_q214 rfl rfl rfl rfl rfl rfl rfl rfl rfl rfl rfl rfl (Or.inr (congrArg some g4)) (Cl.mono H (Nat.le_refl _) (fun r3 h2 H => ?_))
    obtain ⟨x5, rfl, H⟩ := H
    refine ev_jz (t := 25) am_q214 rfl rfl (fun hq => ?_) (fun hq => ?_)
    · replace H := H.1 hq
      refine ev_p (pc' := 4) (loc' := [.ref a0, .int (i1 + (0 : Int32)), .int (i2 + (1 : Int32))]) (st' := []) 5 am_q214 rfl ?_
      exact ev_m (loc' := [.ref a0, .int (i1 + (0 : Int32)), .int (i2 + (1 : Int32))]) am_q214 rfl rfl H
    · replace H := H.2 hq
      refine ev_p (pc' := 4) (loc' := [.ref a0, .int (i1 + (1 : Int32)), .int (i2 + (1 : Int32))]) (st' := []) 6 am_q214 rfl ?_
      exact ev_m (loc' := [.ref a0, .int (i1 + (1 : Int32)), .int (i2 + (1 : Int32))]) am_q214 rfl rfl H
/-! 215: X12_textOn -/
theorem am_q215 : (am_mt 215).2.2.2.2.2 = am_m215.2.2.2.2.2 := rfl
set_option maxRecDepth 20000 in
set_option maxHeartbeats 2000000 in
theorem wp215 {d : Nat} (a0 : Nat) (i1 : Int32) {h : AH} {Q : Option Value → AH → Prop} (H : Ev d 215 4 [.ref a0, .int i1, .int (0 : Int32), .int (0 : Int32)] [] h Q) : Cl d 215 [.ref a0, .int i1] h Q := by
  show Ev d 215 0 [.ref a0, .int i1, .null, .null] [] h Q
  refine ev_p (pc' := 4) (loc' := [.ref a0, .int i1, .int (0 : Int32), .int (0 : Int32)]) (st' := []) 4 am_q215 rfl ?_
  exact ev_m (loc' := [.ref a0, .int i1, .int (0 : Int32), .int (0 : Int32)]) am_q215 rfl rfl H
set_option maxRecDepth 20000 in
set_option maxHeartbeats 2000000 in
theorem wp215_4 {d : Nat} (a0 : Nat) (i1 : Int32) (i2 : Int32) (i3 : Int32) {h : AH} {Q : Option Value → AH → Prop} (H : am_kd h a0 = 12 ∧ ((am_gi h a0 23) ≤ i3 → Q (some (.int i2)) h) ∧ (¬ (am_gi h a0 23) ≤ i3 → am_kd h a0 = 12 ∧ ∃ b3, am_gr h a0 29 = some b3 ∧ (am_kd h b3 = 102 ∨ am_kd h b3 = 103) ∧ am_in i3 (am_ln h b3) ∧ ((am_gi h b3 (Int32.toNatClampNeg i3)) = (0 : Int32) → Ev d 215 4 [.ref a0, .int i1, .int i2, .int (i3 + (1 : Int32))] [] h Q) ∧ (¬ (am_gi h b3 (Int32.toNatClampNeg i3)) = (0 : Int32) → am_kd h a0 = 12 ∧ ∃ b8, am_gr h a0 30 = some b8 ∧ (am_kd h b8 = 102 ∨ am_kd h b8 = 103) ∧ am_in i3 (am_ln h b8) ∧ ((¬ (am_gi h b8 (Int32.toNatClampNeg i3)) = (0 : Int32)) → Ev d 215 4 [.ref a0, .int i1, .int i2, .int (i3 + (1 : Int32))] [] h Q) ∧ (¬ (¬ (am_gi h b8 (Int32.toNatClampNeg i3)) = (0 : Int32)) → am_kd h a0 = 12 ∧ ∃ b13, am_gr h a0 31 = some b13 ∧ am_kd h b13 = 100 ∧ am_in i3 (am_ln h b13) ∧ (i1 < (am_gi h b13 (Int32.toNatClampNeg i3)) → Ev d 215 4 [.ref a0, .int i1, .int i2, .int (i3 + (1 : Int32))] [] h Q) ∧ (¬ i1 < (am_gi h b13 (Int32.toNatClampNeg i3)) → am_kd h a0 = 12 ∧ ∃ b18, am_gr h a0 32 = some b18 ∧ am_kd h b18 = 100 ∧ am_in i3 (am_ln h b18) ∧ am_kd h a0 = 12 ∧ ∃ b23, am_gr h a0 32 = some b23 ∧ am_kd h b23 = 100 ∧ am_in i2 (am_ln h b23) ∧ ((am_gi h b18 (Int32.toNatClampNeg i3)) ≤ (am_gi h b23 (Int32.toNatClampNeg i2)) → Ev d 215 4 [.ref a0, .int i1, .int i2, .int (i3 + (1 : Int32))] [] h Q) ∧ (¬ (am_gi h b18 (Int32.toNatClampNeg i3)) ≤ (am_gi h b23 (Int32.toNatClampNeg i2)) → Ev d 215 4 [.ref a0, .int i1, .int i3, .int (i3 + (1 : Int32))] [] h Q)))))) : Ev d 215 4 [.ref a0, .int i1, .int i2, .int i3] [] h Q := by
  refine ev_p (pc' := 6) (loc' := [.ref a0, .int i1, .int i2, .int i3]) (st' := [.ref a0, .int i3]) 2 am_q215 rfl ?_
  obtain ⟨g1, H⟩ := H
  refine ev_s (pc' := 9) (loc' := [.ref a0, .int i1, .int i2, .int i3]) (st' := [.int (am_gi h a0 23), .int i3]) (h1 := h) am_q215 rfl rfl rfl (if_pos (e := none) g1) ?_
  refine ev_jc (t := 67) am_q215 rfl rfl (fun hq => ?_) (fun hq => ?_)
  · replace H := H.1 hq
    refine ev_p (pc' := 68) (loc' := [.ref a0, .int i1, .int i2, .int i3]) (st' := [.int i2]) 1 am_q215 rfl ?_
    exact ev_r (v := some (.int i2)) am_q215 rfl rfl rfl rfl H
  · replace H := H.2 hq
    refine ev_p (pc' := 13) (loc' := [.ref a0, .int i1, .int i2, .int i3]) (st' := [.ref a0]) 1 am_q215 rfl ?_
    obtain ⟨g2, b3, e4, H⟩ := H
    refine ev_s (pc' := 16) (loc' := [.ref a0, .int i1, .int i2, .int i3]) (st' := [.ref b3]) (h1 := h) am_q215 rfl rfl rfl (am_gf2 g2 e4) ?_
    refine ev_p (pc' := 17) (loc' := [.ref a0, .int i1, .int i2, .int i3]) (st' := [.int i3, .ref b3]) 1 am_q215 rfl ?_
    obtain ⟨g5, g6, H⟩ := H
    refine ev_s (pc' := 18) (loc' := [.ref a0, .int i1, .int i2, .int i3]) (st' := [.int (am_gi h b3 (Int32.toNatClampNeg i3))]) (h1 := h) am_q215 rfl rfl rfl (am_xx g5 g6) ?_
    refine ev_jz (t := 59) am_q215 rfl rfl (fun hq => ?_) (fun hq => ?_)
    · replace H := H.1 hq
      refine ev_p (pc' := 4) (loc' := [.ref a0, .int i1, .int i2, .int (i3 + (1 : Int32))]) (st' := []) 4 am_q215 rfl ?_
      exact ev_m (loc' := [.ref a0, .int i1, .int i2, .int (i3 + (1 : Int32))]) am_q215 rfl rfl H
    · replace H := H.2 hq
      refine ev_p (pc' := 22) (loc' := [.ref a0, .int i1, .int i2, .int i3]) (st' := [.ref a0]) 1 am_q215 rfl ?_
      obtain ⟨g7, b8, e9, H⟩ := H
      refine ev_s (pc' := 25) (loc' := [.ref a0, .int i1, .int i2, .int i3]) (st' := [.ref b8]) (h1 := h) am_q215 rfl rfl rfl (am_gf2 g7 e9) ?_
      refine ev_p (pc' := 26) (loc' := [.ref a0, .int i1, .int i2, .int i3]) (st' := [.int i3, .ref b8]) 1 am_q215 rfl ?_
      obtain ⟨g10, g11, H⟩ := H
      refine ev_s (pc' := 27) (loc' := [.ref a0, .int i1, .int i2, .int i3]) (st' := [.int (am_gi h b8 (Int32.toNatClampNeg i3))]) (h1 := h) am_q215 rfl rfl rfl (am_xx g10 g11) ?_
      refine ev_jz (t := 59) am_q215 rfl rfl (fun hq => ?_) (fun hq => ?_)
      · replace H := H.1 hq
        refine ev_p (pc' := 4) (loc' := [.ref a0, .int i1, .int i2, .int (i3 + (1 : Int32))]) (st' := []) 4 am_q215 rfl ?_
        exact ev_m (loc' := [.ref a0, .int i1, .int i2, .int (i3 + (1 : Int32))]) am_q215 rfl rfl H
      · replace H := H.2 hq
        refine ev_p (pc' := 31) (loc' := [.ref a0, .int i1, .int i2, .int i3]) (st' := [.ref a0]) 1 am_q215 rfl ?_
        obtain ⟨g12, b13, e14, H⟩ := H
        refine ev_s (pc' := 34) (loc' := [.ref a0, .int i1, .int i2, .int i3]) (st' := [.ref b13]) (h1 := h) am_q215 rfl rfl rfl (am_gf2 g12 e14) ?_
        refine ev_p (pc' := 35) (loc' := [.ref a0, .int i1, .int i2, .int i3]) (st' := [.int i3, .ref b13]) 1 am_q215 rfl ?_
        obtain ⟨g15, g16, H⟩ := H
        refine ev_s (pc' := 36) (loc' := [.ref a0, .int i1, .int i2, .int i3]) (st' := [.int (am_gi h b13 (Int32.toNatClampNeg i3))]) (h1 := h) am_q215 rfl rfl rfl (am_xx g15 g16) ?_
        refine ev_p (pc' := 37) (loc' := [.ref a0, .int i1, .int i2, .int i3]) (st' := [.int i1, .int (am_gi h b13 (Int32.toNatClampNeg i3))]) 1 am_q215 rfl ?_
        refine ev_jc (t := 59) am_q215 rfl rfl (fun hq => ?_) (fun hq => ?_)
        · replace H := H.1 hq
          refine ev_p (pc' := 4) (loc' := [.ref a0, .int i1, .int i2, .int (i3 + (1 : Int32))]) (st' := []) 4 am_q215 rfl ?_
          exact ev_m (loc' := [.ref a0, .int i1, .int i2, .int (i3 + (1 : Int32))]) am_q215 rfl rfl H
        · replace H := H.2 hq
          refine ev_p (pc' := 41) (loc' := [.ref a0, .int i1, .int i2, .int i3]) (st' := [.ref a0]) 1 am_q215 rfl ?_
          obtain ⟨g17, b18, e19, H⟩ := H
          refine ev_s (pc' := 44) (loc' := [.ref a0, .int i1, .int i2, .int i3]) (st' := [.ref b18]) (h1 := h) am_q215 rfl rfl rfl (am_gf2 g17 e19) ?_
          refine ev_p (pc' := 45) (loc' := [.ref a0, .int i1, .int i2, .int i3]) (st' := [.int i3, .ref b18]) 1 am_q215 rfl ?_
          obtain ⟨g20, g21, H⟩ := H
          refine ev_s (pc' := 46) (loc' := [.ref a0, .int i1, .int i2, .int i3]) (st' := [.int (am_gi h b18 (Int32.toNatClampNeg i3))]) (h1 := h) am_q215 rfl rfl rfl (am_xx g20 g21) ?_
          refine ev_p (pc' := 47) (loc' := [.ref a0, .int i1, .int i2, .int i3]) (st' := [.ref a0, .int (am_gi h b18 (Int32.toNatClampNeg i3))]) 1 am_q215 rfl ?_
          obtain ⟨g22, b23, e24, H⟩ := H
          refine ev_s (pc' := 50) (loc' := [.ref a0, .int i1, .int i2, .int i3]) (st' := [.ref b23, .int (am_gi h b18 (Int32.toNatClampNeg i3))]) (h1 := h) am_q215 rfl rfl rfl (am_gf2 g22 e24) ?_
          refine ev_p (pc' := 51) (loc' := [.ref a0, .int i1, .int i2, .int i3]) (st' := [.int i2, .ref b23, .int (am_gi h b18 (Int32.toNatClampNeg i3))]) 1 am_q215 rfl ?_
          obtain ⟨g25, g26, H⟩ := H
          refine ev_s (pc' := 52) (loc' := [.ref a0, .int i1, .int i2, .int i3]) (st' := [.int (am_gi h b23 (Int32.toNatClampNeg i2)), .int (am_gi h b18 (Int32.toNatClampNeg i3))]) (h1 := h) am_q215 rfl rfl rfl (am_xx g25 g26) ?_
          refine ev_jc (t := 59) am_q215 rfl rfl (fun hq => ?_) (fun hq => ?_)
          · replace H := H.1 hq
            refine ev_p (pc' := 4) (loc' := [.ref a0, .int i1, .int i2, .int (i3 + (1 : Int32))]) (st' := []) 4 am_q215 rfl ?_
            exact ev_m (loc' := [.ref a0, .int i1, .int i2, .int (i3 + (1 : Int32))]) am_q215 rfl rfl H
          · replace H := H.2 hq
            refine ev_p (pc' := 4) (loc' := [.ref a0, .int i1, .int i3, .int (i3 + (1 : Int32))]) (st' := []) 5 am_q215 rfl ?_
            exact ev_m (loc' := [.ref a0, .int i1, .int i3, .int (i3 + (1 : Int32))]) am_q215 rfl rfl H
