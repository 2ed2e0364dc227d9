/-! 97: X11_day -/
set_option maxRecDepth 20000 in
set_option maxHeartbeats 2000000 in
theorem ws97 {d : Nat}  (i1 : Int32) {h : AH} {Q : Option Value → AH → Prop} (Ly : Lay h) (H : (i1 < (0 : Int32) → Q (some (.int (-2 : Int32))) h) ∧ (¬ i1 < (0 : Int32) → (i1 ≤ (10000 : Int32) → (((am_gi h 6 0) + i1) ≤ (1000000 : Int32) → ∀ h1, h1 = am_si h 6 0 ((am_gi h 6 0) + i1) → Q (some (.int (am_gi h1 6 0))) h1) ∧ (¬ ((am_gi h 6 0) + i1) ≤ (1000000 : Int32) → Q (some (.int (-4 : Int32))) h)) ∧ (¬ i1 ≤ (10000 : Int32) → Q (some (.int (-2 : Int32))) h))) : Cl d 97 [.ref 6, .int i1] h Q := by
  show Ev d 97 0 [.ref 6, .int i1] [] h Q
  refine ev_p (pc' := 1) (loc' := [.ref 6, .int i1]) (st' := [.int i1]) 1 am_q97 rfl ?_
  refine ev_jz (t := 11) am_q97 rfl rfl (fun hq => ?_) (fun hq => ?_)
  · replace H := H.1 hq
    refine ev_p (pc' := 13) (loc' := [.null, .null]) (st' := [.int (-2 : Int32)]) 1 am_q97 rfl ?_
    exact ev_r (v := some (.int (-2 : Int32))) am_q97 rfl rfl rfl rfl H
  · replace H := H.2 hq
    refine ev_p (pc' := 8) (loc' := [.ref 6, .int i1]) (st' := [.int (10000 : Int32), .int i1]) 2 am_q97 rfl ?_
    refine ev_jc (t := 14) am_q97 rfl rfl (fun hq => ?_) (fun hq => ?_)
    · replace H := H.1 hq
      refine ev_p (pc' := 15) (loc' := [.ref 6, .int i1]) (st' := [.ref 6]) 1 am_q97 rfl ?_
      refine ev_s (pc' := 18) (loc' := [.ref 6, .int i1]) (st' := [.int (am_gi h 6 0)]) (h1 := h) am_q97 rfl rfl rfl (if_pos (e := none) (lk6 Ly)) ?_
      refine ev_p (pc' := 22) (loc' := [.ref 6, .int i1]) (st' := [.int (1000000 : Int32), .int ((am_gi h 6 0) + i1)]) 3 am_q97 rfl ?_
      refine ev_jc (t := 28) am_q97 rfl rfl (fun hq => ?_) (fun hq => ?_)
      · replace H := H.1 hq
        refine ev_p (pc' := 30) (loc' := [.ref 6, .int i1]) (st' := [.ref 6, .ref 6]) 2 am_q97 rfl ?_
        refine ev_s (pc' := 33) (loc' := [.ref 6, .int i1]) (st' := [.int (am_gi h 6 0), .ref 6]) (h1 := h) am_q97 rfl rfl rfl (if_pos (e := none) (lk6 Ly)) ?_
        refine ev_p (pc' := 35) (loc' := [.ref 6, .int i1]) (st' := [.int ((am_gi h 6 0) + i1), .ref 6]) 2 am_q97 rfl ?_
        refine ev_s (pc' := 38) (loc' := [.ref 6, .int i1]) (st' := []) (h1 := am_si h 6 0 ((am_gi h 6 0) + i1)) am_q97 rfl rfl rfl (if_pos (e := none) (lk6 Ly)) ?_
        replace H := H _ rfl
        replace Ly : Lay (am_si h 6 0 ((am_gi h 6 0) + i1)) := Ly.si _ _ _
        generalize am_si h 6 0 ((am_gi h 6 0) + i1) = h1 at H Ly ⊢
        refine ev_p (pc' := 39) (loc' := [.ref 6, .int i1]) (st' := [.ref 6]) 1 am_q97 rfl ?_
        refine ev_s (pc' := 42) (loc' := [.ref 6, .int i1]) (st' := [.int (am_gi h1 6 0)]) (h1 := h1) am_q97 rfl rfl rfl (if_pos (e := none) (lk6 Ly)) ?_
        exact ev_r (v := some (.int (am_gi h1 6 0))) am_q97 rfl rfl rfl rfl H
      · replace H := H.2 hq
        refine ev_p (pc' := 27) (loc' := [.ref 6, .int i1]) (st' := [.int (-4 : Int32)]) 1 am_q97 rfl ?_
        exact ev_r (v := some (.int (-4 : Int32))) am_q97 rfl rfl rfl rfl H
    · replace H := H.2 hq
      refine ev_p (pc' := 13) (loc' := [.null, .null]) (st' := [.int (-2 : Int32)]) 1 am_q97 rfl ?_
      exact ev_r (v := some (.int (-2 : Int32))) am_q97 rfl rfl rfl rfl H
/-! 98: X11_home -/
set_option maxRecDepth 20000 in
set_option maxHeartbeats 2000000 in
theorem ws98 {d : Nat}  (i1 : Int32) (i2 : Int32) (i3 : Int32) {h : AH} {Q : Option Value → AH → Prop} (Ly : Lay h) (H : (i1 < (0 : Int32) → Q (some (.int (-2 : Int32))) h) ∧ (¬ i1 < (0 : Int32) → ((3 : Int32) < i1 → Q (some (.int (-2 : Int32))) h) ∧ (¬ (3 : Int32) < i1 → (i2 < (1 : Int32) → Q (some (.int (-2 : Int32))) h) ∧ (¬ i2 < (1 : Int32) → ((6 : Int32) < i2 → Q (some (.int (-2 : Int32))) h) ∧ (¬ (6 : Int32) < i2 → (i3 < (1 : Int32) → Q (some (.int (-2 : Int32))) h) ∧ (¬ i3 < (1 : Int32) → (i3 ≤ (100 : Int32) → ((am_gi h 6 2) < (12 : Int32) → am_in (am_gi h 6 2) 12 ∧ Cl d 18 [.ref (112 + (Int32.toNatClampNeg (am_gi h 6 2))), .int i1, .int i2, .int i3] h (fun r3 h2 => r3 = none ∧ Lay h2 ∧ ∀ h4, h4 = am_si h2 6 2 ((am_gi h2 6 2) + (1 : Int32)) → Q (some (.int ((am_gi h4 6 2) - (1 : Int32)))) h4)) ∧ (¬ (am_gi h 6 2) < (12 : Int32) → Q (some (.int (-4 : Int32))) h)) ∧ (¬ i3 ≤ (100 : Int32) → Q (some (.int (-2 : Int32))) h))))))) : Cl (d + 1) 98 [.ref 6, .int i1, .int i2, .int i3] h Q := by
  show Ev (d + 1) 98 0 [.ref 6, .int i1, .int i2, .int i3] [] h Q
  refine ev_p (pc' := 1) (loc' := [.ref 6, .int i1, .int i2, .int i3]) (st' := [.int i1]) 1 am_q98 rfl ?_
  refine ev_jz (t := 31) am_q98 rfl rfl (fun hq => ?_) (fun hq => ?_)
  · replace H := H.1 hq
    refine ev_p (pc' := 33) (loc' := [.null, .null, .null, .null]) (st' := [.int (-2 : Int32)]) 1 am_q98 rfl ?_
    exact ev_r (v := some (.int (-2 : Int32))) am_q98 rfl rfl rfl rfl H
  · replace H := H.2 hq
    refine ev_p (pc' := 6) (loc' := [.ref 6, .int i1, .int i2, .int i3]) (st' := [.int (3 : Int32), .int i1]) 2 am_q98 rfl ?_
    refine ev_jc (t := 31) am_q98 rfl rfl (fun hq => ?_) (fun hq => ?_)
    · replace H := H.1 hq
      refine ev_p (pc' := 33) (loc' := [.null, .null, .null, .null]) (st' := [.int (-2 : Int32)]) 1 am_q98 rfl ?_
      exact ev_r (v := some (.int (-2 : Int32))) am_q98 rfl rfl rfl rfl H
    · replace H := H.2 hq
      refine ev_p (pc' := 11) (loc' := [.ref 6, .int i1, .int i2, .int i3]) (st' := [.int (1 : Int32), .int i2]) 2 am_q98 rfl ?_
      refine ev_jc (t := 31) am_q98 rfl rfl (fun hq => ?_) (fun hq => ?_)
      · replace H := H.1 hq
        refine ev_p (pc' := 33) (loc' := [.null, .null, .null, .null]) (st' := [.int (-2 : Int32)]) 1 am_q98 rfl ?_
        exact ev_r (v := some (.int (-2 : Int32))) am_q98 rfl rfl rfl rfl H
      · replace H := H.2 hq
        refine ev_p (pc' := 17) (loc' := [.ref 6, .int i1, .int i2, .int i3]) (st' := [.int (6 : Int32), .int i2]) 2 am_q98 rfl ?_
        refine ev_jc (t := 31) am_q98 rfl rfl (fun hq => ?_) (fun hq => ?_)
        · replace H := H.1 hq
          refine ev_p (pc' := 33) (loc' := [.null, .null, .null, .null]) (st' := [.int (-2 : Int32)]) 1 am_q98 rfl ?_
          exact ev_r (v := some (.int (-2 : Int32))) am_q98 rfl rfl rfl rfl H
        · replace H := H.2 hq
          refine ev_p (pc' := 22) (loc' := [.ref 6, .int i1, .int i2, .int i3]) (st' := [.int (1 : Int32), .int i3]) 2 am_q98 rfl ?_
          refine ev_jc (t := 31) am_q98 rfl rfl (fun hq => ?_) (fun hq => ?_)
          · replace H := H.1 hq
            refine ev_p (pc' := 33) (loc' := [.null, .null, .null, .null]) (st' := [.int (-2 : Int32)]) 1 am_q98 rfl ?_
            exact ev_r (v := some (.int (-2 : Int32))) am_q98 rfl rfl rfl rfl H
          · replace H := H.2 hq
            refine ev_p (pc' := 28) (loc' := [.ref 6, .int i1, .int i2, .int i3]) (st' := [.int (100 : Int32), .int i3]) 2 am_q98 rfl ?_
            refine ev_jc (t := 34) am_q98 rfl rfl (fun hq => ?_) (fun hq => ?_)
            · replace H := H.1 hq
              refine ev_p (pc' := 35) (loc' := [.ref 6, .int i1, .int i2, .int i3]) (st' := [.ref 6]) 1 am_q98 rfl ?_
              refine ev_s (pc' := 38) (loc' := [.ref 6, .int i1, .int i2, .int i3]) (st' := [.int (am_gi h 6 2)]) (h1 := h) am_q98 rfl rfl rfl (if_pos (e := none) (lk6 Ly)) ?_
              refine ev_p (pc' := 40) (loc' := [.ref 6, .int i1, .int i2, .int i3]) (st' := [.int (12 : Int32), .int (am_gi h 6 2)]) 1 am_q98 rfl ?_
              refine ev_jc (t := 46) am_q98 rfl rfl (fun hq => ?_) (fun hq => ?_)
              · replace H := H.1 hq
                refine ev_p (pc' := 47) (loc' := [.ref 6, .int i1, .int i2, .int i3]) (st' := [.ref 6]) 1 am_q98 rfl ?_
                refine ev_s (pc' := 50) (loc' := [.ref 6, .int i1, .int i2, .int i3]) (st' := [.ref 7]) (h1 := h) am_q98 rfl rfl rfl (am_gf2 (lk6 Ly) (lr6_1 Ly)) ?_
                refine ev_p (pc' := 51) (loc' := [.ref 6, .int i1, .int i2, .int i3]) (st' := [.ref 6, .ref 7]) 1 am_q98 rfl ?_
                refine ev_s (pc' := 54) (loc' := [.ref 6, .int i1, .int i2, .int i3]) (st' := [.int (am_gi h 6 2), .ref 7]) (h1 := h) am_q98 rfl rfl rfl (if_pos (e := none) (lk6 Ly)) ?_
                obtain ⟨g1, H⟩ := H
                refine ev_s (pc' := 55) (loc' := [.ref 6, .int i1, .int i2, .int i3]) (st' := [.ref (112 + (Int32.toNatClampNeg (am_gi h 6 2)))]) (h1 := h) am_q98 rfl rfl rfl (am_xa (am_rng (lk7 Ly) (by decide)) (am_inl (ln7 Ly) g1) (lr_home Ly (am_in_lt2 g1))) ?_
                refine ev_p (pc' := 58) (loc' := [.ref 6, .int i1, .int i2, .int i3]) (st' := [.int i3, .int i2, .int i1, .ref (112 + (Int32.toNatClampNeg (am_gi h 6 2)))]) 3 am_q98 rfl ?_
                refine ev_c (vs := [.ref (112 + (Int32.toNatClampNeg (am_gi h 6 2))), .int i1, .int i2, .int i3]) (rest := []) 18 am_q98 rfl rfl rfl rfl rfl rfl rfl rfl rfl rfl rfl rfl (Or.inr (congrArg some (lk_home Ly (am_in_lt2 g1)))) (Cl.mono H (Nat.le_refl _) (fun r3 h2 H => ?_))
                obtain ⟨rfl, Ly, H⟩ := H
                refine ev_p (pc' := 63) (loc' := [.ref 6, .int i1, .int i2, .int i3]) (st' := [.ref 6, .ref 6]) 2 am_q98 rfl ?_
                refine ev_s (pc' := 66) (loc' := [.ref 6, .int i1, .int i2, .int i3]) (st' := [.int (am_gi h2 6 2), .ref 6]) (h1 := h2) am_q98 rfl rfl rfl (if_pos (e := none) (lk6 Ly)) ?_
                refine ev_p (pc' := 68) (loc' := [.ref 6, .int i1, .int i2, .int i3]) (st' := [.int ((am_gi h2 6 2) + (1 : Int32)), .ref 6]) 2 am_q98 rfl ?_
                refine ev_s (pc' := 71) (loc' := [.ref 6, .int i1, .int i2, .int i3]) (st' := []) (h1 := am_si h2 6 2 ((am_gi h2 6 2) + (1 : Int32))) am_q98 rfl rfl rfl (if_pos (e := none) (lk6 Ly)) ?_
                replace H := H _ rfl
                replace Ly : Lay (am_si h2 6 2 ((am_gi h2 6 2) + (1 : Int32))) := Ly.si _ _ _
                generalize am_si h2 6 2 ((am_gi h2 6 2) + (1 : Int32)) = h4 at H Ly ⊢
                refine ev_p (pc' := 72) (loc' := [.ref 6, .int i1, .int i2, .int i3]) (st' := [.ref 6]) 1 am_q98 rfl ?_
                refine ev_s (pc' := 75) (loc' := [.ref 6, .int i1, .int i2, .int i3]) (st' := [.int (am_gi h4 6 2)]) (h1 := h4) am_q98 rfl rfl rfl (if_pos (e := none) (lk6 Ly)) ?_
                refine ev_p (pc' := 77) (loc' := [.ref 6, .int i1, .int i2, .int i3]) (st' := [.int ((am_gi h4 6 2) - (1 : Int32))]) 2 am_q98 rfl ?_
                exact ev_r (v := some (.int ((am_gi h4 6 2) - (1 : Int32)))) am_q98 rfl rfl rfl rfl H
              · replace H := H.2 hq
                refine ev_p (pc' := 45) (loc' := [.ref 6, .int i1, .int i2, .int i3]) (st' := [.int (-4 : Int32)]) 1 am_q98 rfl ?_
                exact ev_r (v := some (.int (-4 : Int32))) am_q98 rfl rfl rfl rfl H
            · replace H := H.2 hq
              refine ev_p (pc' := 33) (loc' := [.null, .null, .null, .null]) (st' := [.int (-2 : Int32)]) 1 am_q98 rfl ?_
              exact ev_r (v := some (.int (-2 : Int32))) am_q98 rfl rfl rfl rfl H
/-! 99: X11_member -/
set_option maxRecDepth 20000 in
set_option maxHeartbeats 2000000 in
theorem ws99 {d : Nat}  (i1 : Int32) {h : AH} {Q : Option Value → AH → Prop} (Ly : Lay h) (H : Cl d 142 [.int i1] h (fun r2 h1 => ∃ x3, r2 = some (.int x3) ∧ Lay h1 ∧ ((¬ x3 = (0 : Int32)) → ((am_gi h1 6 4) < (24 : Int32) → am_in (am_gi h1 6 4) 24 ∧ Cl d 20 [.ref (124 + (Int32.toNatClampNeg (am_gi h1 6 4))), .int i1, .int (am_gi h1 6 0)] h1 (fun r6 h5 => r6 = none ∧ Lay h5 ∧ ∀ h7, h7 = am_si h5 6 4 ((am_gi h5 6 4) + (1 : Int32)) → Q (some (.int ((am_gi h7 6 4) - (1 : Int32)))) h7)) ∧ (¬ (am_gi h1 6 4) < (24 : Int32) → Q (some (.int (-4 : Int32))) h1)) ∧ (¬ (¬ x3 = (0 : Int32)) → Q (some (.int (-2 : Int32))) h1))) : Cl (d + 1) 99 [.ref 6, .int i1] h Q := by
  show Ev (d + 1) 99 0 [.ref 6, .int i1] [] h Q
  refine ev_p (pc' := 1) (loc' := [.ref 6, .int i1]) (st' := [.int i1]) 1 am_q99 rfl ?_
  refine ev_c (vs := [.int i1]) (rest := []) 142 am_q99 rfl rfl rfl rfl rfl rfl rfl rfl rfl rfl rfl rfl (Or.inl rfl) (Cl.mono H (Nat.le_refl _) (fun r2 h1 H => ?_))
  obtain ⟨x3, rfl, Ly, H⟩ := H
  refine ev_jz (t := 10) am_q99 rfl rfl (fun hq => ?_) (fun hq => ?_)
  · replace H := H.1 hq
    refine ev_p (pc' := 11) (loc' := [.ref 6, .int i1]) (st' := [.ref 6]) 1 am_q99 rfl ?_
    refine ev_s (pc' := 14) (loc' := [.ref 6, .int i1]) (st' := [.int (am_gi h1 6 4)]) (h1 := h1) am_q99 rfl rfl rfl (if_pos (e := none) (lk6 Ly)) ?_
    refine ev_p (pc' := 16) (loc' := [.ref 6, .int i1]) (st' := [.int (24 : Int32), .int (am_gi h1 6 4)]) 1 am_q99 rfl ?_
    refine ev_jc (t := 22) am_q99 rfl rfl (fun hq => ?_) (fun hq => ?_)
    · replace H := H.1 hq
      refine ev_p (pc' := 23) (loc' := [.ref 6, .int i1]) (st' := [.ref 6]) 1 am_q99 rfl ?_
      refine ev_s (pc' := 26) (loc' := [.ref 6, .int i1]) (st' := [.ref 8]) (h1 := h1) am_q99 rfl rfl rfl (am_gf2 (lk6 Ly) (lr6_3 Ly)) ?_
      refine ev_p (pc' := 27) (loc' := [.ref 6, .int i1]) (st' := [.ref 6, .ref 8]) 1 am_q99 rfl ?_
      refine ev_s (pc' := 30) (loc' := [.ref 6, .int i1]) (st' := [.int (am_gi h1 6 4), .ref 8]) (h1 := h1) am_q99 rfl rfl rfl (if_pos (e := none) (lk6 Ly)) ?_
      obtain ⟨g4, H⟩ := H
      refine ev_s (pc' := 31) (loc' := [.ref 6, .int i1]) (st' := [.ref (124 + (Int32.toNatClampNeg (am_gi h1 6 4)))]) (h1 := h1) am_q99 rfl rfl rfl (am_xa (am_rng (lk8 Ly) (by decide)) (am_inl (ln8 Ly) g4) (lr_member Ly (am_in_lt2 g4))) ?_
      refine ev_p (pc' := 33) (loc' := [.ref 6, .int i1]) (st' := [.ref 6, .int i1, .ref (124 + (Int32.toNatClampNeg (am_gi h1 6 4)))]) 2 am_q99 rfl ?_
      refine ev_s (pc' := 36) (loc' := [.ref 6, .int i1]) (st' := [.int (am_gi h1 6 0), .int i1, .ref (124 + (Int32.toNatClampNeg (am_gi h1 6 4)))]) (h1 := h1) am_q99 rfl rfl rfl (if_pos (e := none) (lk6 Ly)) ?_
      refine ev_c (vs := [.ref (124 + (Int32.toNatClampNeg (am_gi h1 6 4))), .int i1, .int (am_gi h1 6 0)]) (rest := []) 20 am_q99 rfl rfl rfl rfl rfl rfl rfl rfl rfl rfl rfl rfl (Or.inr (congrArg some (lk_member Ly (am_in_lt2 g4)))) (Cl.mono H (Nat.le_refl _) (fun r6 h5 H => ?_))
      obtain ⟨rfl, Ly, H⟩ := H
      refine ev_p (pc' := 41) (loc' := [.ref 6, .int i1]) (st' := [.ref 6, .ref 6]) 2 am_q99 rfl ?_
      refine ev_s (pc' := 44) (loc' := [.ref 6, .int i1]) (st' := [.int (am_gi h5 6 4), .ref 6]) (h1 := h5) am_q99 rfl rfl rfl (if_pos (e := none) (lk6 Ly)) ?_
      refine ev_p (pc' := 46) (loc' := [.ref 6, .int i1]) (st' := [.int ((am_gi h5 6 4) + (1 : Int32)), .ref 6]) 2 am_q99 rfl ?_
      refine ev_s (pc' := 49) (loc' := [.ref 6, .int i1]) (st' := []) (h1 := am_si h5 6 4 ((am_gi h5 6 4) + (1 : Int32))) am_q99 rfl rfl rfl (if_pos (e := none) (lk6 Ly)) ?_
      replace H := H _ rfl
      replace Ly : Lay (am_si h5 6 4 ((am_gi h5 6 4) + (1 : Int32))) := Ly.si _ _ _
      generalize am_si h5 6 4 ((am_gi h5 6 4) + (1 : Int32)) = h7 at H Ly ⊢
      refine ev_p (pc' := 50) (loc' := [.ref 6, .int i1]) (st' := [.ref 6]) 1 am_q99 rfl ?_
      refine ev_s (pc' := 53) (loc' := [.ref 6, .int i1]) (st' := [.int (am_gi h7 6 4)]) (h1 := h7) am_q99 rfl rfl rfl (if_pos (e := none) (lk6 Ly)) ?_
      refine ev_p (pc' := 55) (loc' := [.ref 6, .int i1]) (st' := [.int ((am_gi h7 6 4) - (1 : Int32))]) 2 am_q99 rfl ?_
      exact ev_r (v := some (.int ((am_gi h7 6 4) - (1 : Int32)))) am_q99 rfl rfl rfl rfl H
    · replace H := H.2 hq
      refine ev_p (pc' := 21) (loc' := [.ref 6, .int i1]) (st' := [.int (-4 : Int32)]) 1 am_q99 rfl ?_
      exact ev_r (v := some (.int (-4 : Int32))) am_q99 rfl rfl rfl rfl H
  · replace H := H.2 hq
    refine ev_p (pc' := 9) (loc' := [.ref 6, .int i1]) (st' := [.int (-2 : Int32)]) 1 am_q99 rfl ?_
    exact ev_r (v := some (.int (-2 : Int32))) am_q99 rfl rfl rfl rfl H
/-! 100: X11_family -/
set_option maxRecDepth 20000 in
set_option maxHeartbeats 2000000 in
theorem ws100 {d : Nat}  (i1 : Int32) (i2 : Int32) {h : AH} {Q : Option Value → AH → Prop} (Ly : Lay h) (H : Cl d 139 [.ref 6, .int i1] h (fun r2 h1 => ∃ x3, r2 = some (.int x3) ∧ Lay h1 ∧ (x3 = (0 : Int32) → Q (some (.int (-2 : Int32))) h1) ∧ (¬ x3 = (0 : Int32) → Cl d 142 [.int i2] h1 (fun r5 h4 => ∃ x6, r5 = some (.int x6) ∧ Lay h4 ∧ ((¬ x6 = (0 : Int32)) → Cl d 146 [.ref 6, .int i1] h4 (fun r8 h7 => ∃ x9, r8 = some (.int x9) ∧ Lay h7 ∧ ((¬ x9 = (0 : Int32)) → am_in i1 24 ∧ am_in i1 24 ∧ ∀ h12, h12 = am_si h7 (124 + (Int32.toNatClampNeg i1)) 0 i2 → Q (some (.int (am_gi h7 (124 + (Int32.toNatClampNeg i1)) 0))) h12) ∧ (¬ (¬ x9 = (0 : Int32)) → Q (some (.int (-3 : Int32))) h7))) ∧ (¬ (¬ x6 = (0 : Int32)) → Q (some (.int (-2 : Int32))) h4))))) : Cl (d + 1) 100 [.ref 6, .int i1, .int i2] h Q := by
  show Ev (d + 1) 100 0 [.ref 6, .int i1, .int i2, .null] [] h Q
  refine ev_p (pc' := 2) (loc' := [.ref 6, .int i1, .int i2, .null]) (st' := [.int i1, .ref 6]) 2 am_q100 rfl ?_
  refine ev_c (vs := [.ref 6, .int i1]) (rest := []) 139 am_q100 rfl rfl rfl rfl rfl rfl rfl rfl rfl rfl rfl rfl (Or.inr (congrArg some (lk6 Ly))) (Cl.mono H (Nat.le_refl _) (fun r2 h1 H => ?_))
  obtain ⟨x3, rfl, Ly, H⟩ := H
  refine ev_jz (t := 15) am_q100 rfl rfl (fun hq => ?_) (fun hq => ?_)
  · replace H := H.1 hq
    refine ev_p (pc' := 17) (loc' := [.null, .null, .null, .null]) (st' := [.int (-2 : Int32)]) 1 am_q100 rfl ?_
    exact ev_r (v := some (.int (-2 : Int32))) am_q100 rfl rfl rfl rfl H
  · replace H := H.2 hq
    refine ev_p (pc' := 9) (loc' := [.ref 6, .int i1, .int i2, .null]) (st' := [.int i2]) 1 am_q100 rfl ?_
    refine ev_c (vs := [.int i2]) (rest := []) 142 am_q100 rfl rfl rfl rfl rfl rfl rfl rfl rfl rfl rfl rfl (Or.inl rfl) (Cl.mono H (Nat.le_refl _) (fun r5 h4 H => ?_))
    obtain ⟨x6, rfl, Ly, H⟩ := H
    refine ev_jz (t := 18) am_q100 rfl rfl (fun hq => ?_) (fun hq => ?_)
    · replace H := H.1 hq
      refine ev_p (pc' := 20) (loc' := [.ref 6, .int i1, .int i2, .null]) (st' := [.int i1, .ref 6]) 2 am_q100 rfl ?_
      refine ev_c (vs := [.ref 6, .int i1]) (rest := []) 146 am_q100 rfl rfl rfl rfl rfl rfl rfl rfl rfl rfl rfl rfl (Or.inr (congrArg some (lk6 Ly))) (Cl.mono H (Nat.le_refl _) (fun r8 h7 H => ?_))
      obtain ⟨x9, rfl, Ly, H⟩ := H
      refine ev_jz (t := 29) am_q100 rfl rfl (fun hq => ?_) (fun hq => ?_)
      · replace H := H.1 hq
        refine ev_p (pc' := 30) (loc' := [.ref 6, .int i1, .int i2, .null]) (st' := [.ref 6]) 1 am_q100 rfl ?_
        refine ev_s (pc' := 33) (loc' := [.ref 6, .int i1, .int i2, .null]) (st' := [.ref 8]) (h1 := h7) am_q100 rfl rfl rfl (am_gf2 (lk6 Ly) (lr6_3 Ly)) ?_
        refine ev_p (pc' := 34) (loc' := [.ref 6, .int i1, .int i2, .null]) (st' := [.int i1, .ref 8]) 1 am_q100 rfl ?_
        obtain ⟨g10, H⟩ := H
        refine ev_s (pc' := 35) (loc' := [.ref 6, .int i1, .int i2, .null]) (st' := [.ref (124 + (Int32.toNatClampNeg i1))]) (h1 := h7) am_q100 rfl rfl rfl (am_xa (am_rng (lk8 Ly) (by decide)) (am_inl (ln8 Ly) g10) (lr_member Ly (am_in_lt2 g10))) ?_
        refine ev_s (pc' := 38) (loc' := [.ref 6, .int i1, .int i2, .null]) (st' := [.int (am_gi h7 (124 + (Int32.toNatClampNeg i1)) 0)]) (h1 := h7) am_q100 rfl rfl rfl (if_pos (e := none) (lk_member Ly (am_in_lt2 g10))) ?_
        refine ev_p (pc' := 40) (loc' := [.ref 6, .int i1, .int i2, .int (am_gi h7 (124 + (Int32.toNatClampNeg i1)) 0)]) (st' := [.ref 6]) 2 am_q100 rfl ?_
        refine ev_s (pc' := 43) (loc' := [.ref 6, .int i1, .int i2, .int (am_gi h7 (124 + (Int32.toNatClampNeg i1)) 0)]) (st' := [.ref 8]) (h1 := h7) am_q100 rfl rfl rfl (am_gf2 (lk6 Ly) (lr6_3 Ly)) ?_
        refine ev_p (pc' := 44) (loc' := [.ref 6, .int i1, .int i2, .int (am_gi h7 (124 + (Int32.toNatClampNeg i1)) 0)]) (st' := [.int i1, .ref 8]) 1 am_q100 rfl ?_
        obtain ⟨g11, H⟩ := H
        refine ev_s (pc' := 45) (loc' := [.ref 6, .int i1, .int i2, .int (am_gi h7 (124 + (Int32.toNatClampNeg i1)) 0)]) (st' := [.ref (124 + (Int32.toNatClampNeg i1))]) (h1 := h7) am_q100 rfl rfl rfl (am_xa (am_rng (lk8 Ly) (by decide)) (am_inl (ln8 Ly) g11) (lr_member Ly (am_in_lt2 g11))) ?_
        refine ev_p (pc' := 46) (loc' := [.ref 6, .int i1, .int i2, .int (am_gi h7 (124 + (Int32.toNatClampNeg i1)) 0)]) (st' := [.int i2, .ref (124 + (Int32.toNatClampNeg i1))]) 1 am_q100 rfl ?_
        refine ev_s (pc' := 49) (loc' := [.ref 6, .int i1, .int i2, .int (am_gi h7 (124 + (Int32.toNatClampNeg i1)) 0)]) (st' := []) (h1 := am_si h7 (124 + (Int32.toNatClampNeg i1)) 0 i2) am_q100 rfl rfl rfl (if_pos (e := none) (lk_member Ly (am_in_lt2 g11))) ?_
        replace H := H _ rfl
        replace Ly : Lay (am_si h7 (124 + (Int32.toNatClampNeg i1)) 0 i2) := Ly.si _ _ _
        generalize am_si h7 (124 + (Int32.toNatClampNeg i1)) 0 i2 = h12 at H Ly ⊢
        refine ev_p (pc' := 50) (loc' := [.ref 6, .int i1, .int i2, .int (am_gi h7 (124 + (Int32.toNatClampNeg i1)) 0)]) (st' := [.int (am_gi h7 (124 + (Int32.toNatClampNeg i1)) 0)]) 1 am_q100 rfl ?_
        exact ev_r (v := some (.int (am_gi h7 (124 + (Int32.toNatClampNeg i1)) 0))) am_q100 rfl rfl rfl rfl H
      · replace H := H.2 hq
        refine ev_p (pc' := 28) (loc' := [.ref 6, .int i1, .int i2, .null]) (st' := [.int (-3 : Int32)]) 1 am_q100 rfl ?_
        exact ev_r (v := some (.int (-3 : Int32))) am_q100 rfl rfl rfl rfl H
    · replace H := H.2 hq
      refine ev_p (pc' := 17) (loc' := [.null, .null, .null, .null]) (st' := [.int (-2 : Int32)]) 1 am_q100 rfl ?_
      exact ev_r (v := some (.int (-2 : Int32))) am_q100 rfl rfl rfl rfl H
/-! 101: X11_right -/
set_option maxRecDepth 20000 in
set_option maxHeartbeats 2000000 in
theorem ws101 {d : Nat}  (i1 : Int32) (i2 : Int32) (i3 : Int32) (i4 : Int32) {h : AH} {Q : Option Value → AH → Prop} (Ly : Lay h) (H : (i1 < (0 : Int32) → Q (some (.int (-2 : Int32))) h) ∧ (¬ i1 < (0 : Int32) → ((2 : Int32) < i1 → Q (some (.int (-2 : Int32))) h) ∧ (¬ (2 : Int32) < i1 → Cl d 138 [.ref 6, .int i2] h (fun r2 h1 => ∃ x3, r2 = some (.int x3) ∧ Lay h1 ∧ (x3 = (0 : Int32) → Q (some (.int (-2 : Int32))) h1) ∧ (¬ x3 = (0 : Int32) → Cl d 139 [.ref 6, .int i3] h1 (fun r5 h4 => ∃ x6, r5 = some (.int x6) ∧ Lay h4 ∧ (x6 = (0 : Int32) → Q (some (.int (-2 : Int32))) h4) ∧ (¬ x6 = (0 : Int32) → Cl d 145 [.int i1, .int i4] h4 (fun r8 h7 => ∃ x9, r8 = some (.int x9) ∧ Lay h7 ∧ ((¬ x9 = (0 : Int32)) → Cl d 146 [.ref 6, .int i3] h7 (fun r11 h10 => ∃ x12, r11 = some (.int x12) ∧ Lay h10 ∧ (x12 = (0 : Int32) → Q (some (.int (-3 : Int32))) h10) ∧ (¬ x12 = (0 : Int32) → Cl d 150 [.ref 6, .int i1, .int i2, .int i3] h10 (fun r14 h13 => ∃ x15, r14 = some (.int x15) ∧ Lay h13 ∧ ((¬ x15 = (0 : Int32)) → Cl d 54 [.ref 9, .int (1 : Int32)] h13 (fun r17 h16 => ∃ x18, r17 = some (.int x18) ∧ Lay h16 ∧ ((¬ x18 = (0 : Int32)) → ((¬ i1 = (0 : Int32)) → Cl d 55 [.ref 9, .int i1, .int i2, .int i3, .int (-1 : Int32), .int (am_gi h16 6 0), .int ((am_gi h16 6 0) + i4)] h16 (fun r20 h19 => ∃ x21, r20 = some (.int x21) ∧ Lay h19 ∧ Q (some (.int x21)) h19)) ∧ (¬ (¬ i1 = (0 : Int32)) → Cl d 55 [.ref 9, .int i1, .int i2, .int i3, .int (-1 : Int32), .int (am_gi h16 6 0), .int (-1 : Int32)] h16 (fun r23 h22 => ∃ x24, r23 = some (.int x24) ∧ Lay h22 ∧ Q (some (.int x24)) h22))) ∧ (¬ (¬ x18 = (0 : Int32)) → Q (some (.int (-4 : Int32))) h16))) ∧ (¬ (¬ x15 = (0 : Int32)) → Q (some (.int (-3 : Int32))) h13))))) ∧ (¬ (¬ x9 = (0 : Int32)) → Q (some (.int (-2 : Int32))) h7))))))))) : Cl (d + 1) 101 [.ref 6, .int i1, .int i2, .int i3, .int i4] h Q := by
  show Ev (d + 1) 101 0 [.ref 6, .int i1, .int i2, .int i3, .int i4] [] h Q
  refine ev_p (pc' := 1) (loc' := [.ref 6, .int i1, .int i2, .int i3, .int i4]) (st' := [.int i1]) 1 am_q101 rfl ?_
  refine ev_jz (t := 34) am_q101 rfl rfl (fun hq => ?_) (fun hq => ?_)
  · replace H := H.1 hq
    refine ev_p (pc' := 36) (loc' := [.null, .null, .null, .null, .null]) (st' := [.int (-2 : Int32)]) 1 am_q101 rfl ?_
    exact ev_r (v := some (.int (-2 : Int32))) am_q101 rfl rfl rfl rfl H
  · replace H := H.2 hq
    refine ev_p (pc' := 6) (loc' := [.ref 6, .int i1, .int i2, .int i3, .int i4]) (st' := [.int (2 : Int32), .int i1]) 2 am_q101 rfl ?_
    refine ev_jc (t := 34) am_q101 rfl rfl (fun hq => ?_) (fun hq => ?_)
    · replace H := H.1 hq
      refine ev_p (pc' := 36) (loc' := [.null, .null, .null, .null, .null]) (st' := [.int (-2 : Int32)]) 1 am_q101 rfl ?_
      exact ev_r (v := some (.int (-2 : Int32))) am_q101 rfl rfl rfl rfl H
    · replace H := H.2 hq
      refine ev_p (pc' := 11) (loc' := [.ref 6, .int i1, .int i2, .int i3, .int i4]) (st' := [.int i2, .ref 6]) 2 am_q101 rfl ?_
      refine ev_c (vs := [.ref 6, .int i2]) (rest := []) 138 am_q101 rfl rfl rfl rfl rfl rfl rfl rfl rfl rfl rfl rfl (Or.inr (congrArg some (lk6 Ly))) (Cl.mono H (Nat.le_refl _) (fun r2 h1 H => ?_))
      obtain ⟨x3, rfl, Ly, H⟩ := H
      refine ev_jz (t := 34) am_q101 rfl rfl (fun hq => ?_) (fun hq => ?_)
      · replace H := H.1 hq
        refine ev_p (pc' := 36) (loc' := [.null, .null, .null, .null, .null]) (st' := [.int (-2 : Int32)]) 1 am_q101 rfl ?_
        exact ev_r (v := some (.int (-2 : Int32))) am_q101 rfl rfl rfl rfl H
      · replace H := H.2 hq
        refine ev_p (pc' := 19) (loc' := [.ref 6, .int i1, .int i2, .int i3, .int i4]) (st' := [.int i3, .ref 6]) 2 am_q101 rfl ?_
        refine ev_c (vs := [.ref 6, .int i3]) (rest := []) 139 am_q101 rfl rfl rfl rfl rfl rfl rfl rfl rfl rfl rfl rfl (Or.inr (congrArg some (lk6 Ly))) (Cl.mono H (Nat.le_refl _) (fun r5 h4 H => ?_))
        obtain ⟨x6, rfl, Ly, H⟩ := H
        refine ev_jz (t := 34) am_q101 rfl rfl (fun hq => ?_) (fun hq => ?_)
        · replace H := H.1 hq
          refine ev_p (pc' := 36) (loc' := [.null, .null, .null, .null, .null]) (st' := [.int (-2 : Int32)]) 1 am_q101 rfl ?_
          exact ev_r (v := some (.int (-2 : Int32))) am_q101 rfl rfl rfl rfl H
        · replace H := H.2 hq
          refine ev_p (pc' := 28) (loc' := [.ref 6, .int i1, .int i2, .int i3, .int i4]) (st' := [.int i4, .int i1]) 2 am_q101 rfl ?_
          refine ev_c (vs := [.int i1, .int i4]) (rest := []) 145 am_q101 rfl rfl rfl rfl rfl rfl rfl rfl rfl rfl rfl rfl (Or.inl rfl) (Cl.mono H (Nat.le_refl _) (fun r8 h7 H => ?_))
          obtain ⟨x9, rfl, Ly, H⟩ := H
          refine ev_jz (t := 37) am_q101 rfl rfl (fun hq => ?_) (fun hq => ?_)
          · replace H := H.1 hq
            refine ev_p (pc' := 39) (loc' := [.ref 6, .int i1, .int i2, .int i3, .int i4]) (st' := [.int i3, .ref 6]) 2 am_q101 rfl ?_
            refine ev_c (vs := [.ref 6, .int i3]) (rest := []) 146 am_q101 rfl rfl rfl rfl rfl rfl rfl rfl rfl rfl rfl rfl (Or.inr (congrArg some (lk6 Ly))) (Cl.mono H (Nat.le_refl _) (fun r11 h10 H => ?_))
            obtain ⟨x12, rfl, Ly, H⟩ := H
            refine ev_jz (t := 55) am_q101 rfl rfl (fun hq => ?_) (fun hq => ?_)
            · replace H := H.1 hq
              refine ev_p (pc' := 57) (loc' := [.null, .null, .null, .null, .null]) (st' := [.int (-3 : Int32)]) 1 am_q101 rfl ?_
              exact ev_r (v := some (.int (-3 : Int32))) am_q101 rfl rfl rfl rfl H
            · replace H := H.2 hq
              refine ev_p (pc' := 49) (loc' := [.ref 6, .int i1, .int i2, .int i3, .int i4]) (st' := [.int i3, .int i2, .int i1, .ref 6]) 4 am_q101 rfl ?_
              refine ev_c (vs := [.ref 6, .int i1, .int i2, .int i3]) (rest := []) 150 am_q101 rfl rfl rfl rfl rfl rfl rfl rfl rfl rfl rfl rfl (Or.inr (congrArg some (lk6 Ly))) (Cl.mono H (Nat.le_refl _) (fun r14 h13 H => ?_))
              obtain ⟨x15, rfl, Ly, H⟩ := H
              refine ev_jz (t := 58) am_q101 rfl rfl (fun hq => ?_) (fun hq => ?_)
              · replace H := H.1 hq
                refine ev_p (pc' := 59) (loc' := [.ref 6, .int i1, .int i2, .int i3, .int i4]) (st' := [.ref 6]) 1 am_q101 rfl ?_
                refine ev_s (pc' := 62) (loc' := [.ref 6, .int i1, .int i2, .int i3, .int i4]) (st' := [.ref 9]) (h1 := h13) am_q101 rfl rfl rfl (am_gf2 (lk6 Ly) (lr6_5 Ly)) ?_
                refine ev_p (pc' := 63) (loc' := [.ref 6, .int i1, .int i2, .int i3, .int i4]) (st' := [.int (1 : Int32), .ref 9]) 1 am_q101 rfl ?_
                refine ev_c (vs := [.ref 9, .int (1 : Int32)]) (rest := []) 54 am_q101 rfl rfl rfl rfl rfl rfl rfl rfl rfl rfl rfl rfl (Or.inr (congrArg some (lk9 Ly))) (Cl.mono H (Nat.le_refl _) (fun r17 h16 H => ?_))
                obtain ⟨x18, rfl, Ly, H⟩ := H
                refine ev_jz (t := 72) am_q101 rfl rfl (fun hq => ?_) (fun hq => ?_)
                · replace H := H.1 hq
                  refine ev_p (pc' := 73) (loc' := [.ref 6, .int i1, .int i2, .int i3, .int i4]) (st' := [.ref 6]) 1 am_q101 rfl ?_
                  refine ev_s (pc' := 76) (loc' := [.ref 6, .int i1, .int i2, .int i3, .int i4]) (st' := [.ref 9]) (h1 := h16) am_q101 rfl rfl rfl (am_gf2 (lk6 Ly) (lr6_5 Ly)) ?_
                  refine ev_p (pc' := 81) (loc' := [.ref 6, .int i1, .int i2, .int i3, .int i4]) (st' := [.ref 6, .int (-1 : Int32), .int i3, .int i2, .int i1, .ref 9]) 5 am_q101 rfl ?_
                  refine ev_s (pc' := 84) (loc' := [.ref 6, .int i1, .int i2, .int i3, .int i4]) (st' := [.int (am_gi h16 6 0), .int (-1 : Int32), .int i3, .int i2, .int i1, .ref 9]) (h1 := h16) am_q101 rfl rfl rfl (if_pos (e := none) (lk6 Ly)) ?_
                  refine ev_p (pc' := 85) (loc' := [.ref 6, .int i1, .int i2, .int i3, .int i4]) (st' := [.int i1, .int (am_gi h16 6 0), .int (-1 : Int32), .int i3, .int i2, .int i1, .ref 9]) 1 am_q101 rfl ?_
                  refine ev_jz (t := 92) am_q101 rfl rfl (fun hq => ?_) (fun hq => ?_)
                  · replace H := H.1 hq
                    refine ev_p (pc' := 93) (loc' := [.ref 6, .int i1, .int i2, .int i3, .int i4]) (st' := [.ref 6, .int (am_gi h16 6 0), .int (-1 : Int32), .int i3, .int i2, .int i1, .ref 9]) 1 am_q101 rfl ?_
                    refine ev_s (pc' := 96) (loc' := [.ref 6, .int i1, .int i2, .int i3, .int i4]) (st' := [.int (am_gi h16 6 0), .int (am_gi h16 6 0), .int (-1 : Int32), .int i3, .int i2, .int i1, .ref 9]) (h1 := h16) am_q101 rfl rfl rfl (if_pos (e := none) (lk6 Ly)) ?_
                    refine ev_p (pc' := 99) (loc' := [.ref 6, .int i1, .int i2, .int i3, .int i4]) (st' := [.int ((am_gi h16 6 0) + i4), .int (am_gi h16 6 0), .int (-1 : Int32), .int i3, .int i2, .int i1, .ref 9]) 2 am_q101 rfl ?_
                    refine ev_c (vs := [.ref 9, .int i1, .int i2, .int i3, .int (-1 : Int32), .int (am_gi h16 6 0), .int ((am_gi h16 6 0) + i4)]) (rest := []) 55 am_q101 rfl rfl rfl rfl rfl rfl rfl rfl rfl rfl rfl rfl (Or.inr (congrArg some (lk9 Ly))) (Cl.mono H (Nat.le_refl _) (fun r20 h19 H => ?_))
                    obtain ⟨x21, rfl, Ly, H⟩ := H
                    exact ev_r (v := some (.int x21)) am_q101 rfl rfl rfl rfl H
                  · replace H := H.2 hq
                    refine ev_p (pc' := 99) (loc' := [.ref 6, .int i1, .int i2, .int i3, .int i4]) (st' := [.int (-1 : Int32), .int (am_gi h16 6 0), .int (-1 : Int32), .int i3, .int i2, .int i1, .ref 9]) 2 am_q101 rfl ?_
                    refine ev_c (vs := [.ref 9, .int i1, .int i2, .int i3, .int (-1 : Int32), .int (am_gi h16 6 0), .int (-1 : Int32)]) (rest := []) 55 am_q101 rfl rfl rfl rfl rfl rfl rfl rfl rfl rfl rfl rfl (Or.inr (congrArg some (lk9 Ly))) (Cl.mono H (Nat.le_refl _) (fun r23 h22 H => ?_))
                    obtain ⟨x24, rfl, Ly, H⟩ := H
                    exact ev_r (v := some (.int x24)) am_q101 rfl rfl rfl rfl H
                · replace H := H.2 hq
                  refine ev_p (pc' := 71) (loc' := [.ref 6, .int i1, .int i2, .int i3, .int i4]) (st' := [.int (-4 : Int32)]) 1 am_q101 rfl ?_
                  exact ev_r (v := some (.int (-4 : Int32))) am_q101 rfl rfl rfl rfl H
              · replace H := H.2 hq
                refine ev_p (pc' := 57) (loc' := [.null, .null, .null, .null, .null]) (st' := [.int (-3 : Int32)]) 1 am_q101 rfl ?_
                exact ev_r (v := some (.int (-3 : Int32))) am_q101 rfl rfl rfl rfl H
          · replace H := H.2 hq
            refine ev_p (pc' := 36) (loc' := [.null, .null, .null, .null, .null]) (st' := [.int (-2 : Int32)]) 1 am_q101 rfl ?_
            exact ev_r (v := some (.int (-2 : Int32))) am_q101 rfl rfl rfl rfl H
/-! 102: X11_join -/
set_option maxRecDepth 20000 in
set_option maxHeartbeats 2000000 in
theorem ws102 {d : Nat}  (i1 : Int32) (i2 : Int32) {h : AH} {Q : Option Value → AH → Prop} (Ly : Lay h) (H : Cl d 53 [.ref 9, .int i1] h (fun r2 h1 => ∃ x3, r2 = some (.int x3) ∧ Lay h1 ∧ (x3 = (0 : Int32) → Q (some (.int (-2 : Int32))) h1) ∧ (¬ x3 = (0 : Int32) → Cl d 139 [.ref 6, .int i2] h1 (fun r5 h4 => ∃ x6, r5 = some (.int x6) ∧ Lay h4 ∧ ((¬ x6 = (0 : Int32)) → am_in i1 60 ∧ ((¬ (am_gi h4 (11 + (Int32.toNatClampNeg i1)) 0) = (0 : Int32)) → Q (some (.int (-3 : Int32))) h4) ∧ (¬ (¬ (am_gi h4 (11 + (Int32.toNatClampNeg i1)) 0) = (0 : Int32)) → Cl d 65 [.ref (11 + (Int32.toNatClampNeg i1)), .int (am_gi h4 6 0)] h4 (fun r9 h8 => ∃ x10, r9 = some (.int x10) ∧ Lay h8 ∧ ((¬ x10 = (0 : Int32)) → Cl d 146 [.ref 6, .int i2] h8 (fun r12 h11 => ∃ x13, r12 = some (.int x13) ∧ Lay h11 ∧ (x13 = (0 : Int32) → Q (some (.int (-3 : Int32))) h11) ∧ (¬ x13 = (0 : Int32) → Cl d 57 [.ref 9, .int i2, .int (am_gi h11 6 0)] h11 (fun r15 h14 => ∃ x16, r15 = some (.int x16) ∧ Lay h14 ∧ (x16 = (-1 : Int32) → Cl d 54 [.ref 9, .int (1 : Int32)] h14 (fun r18 h17 => ∃ x19, r18 = some (.int x19) ∧ Lay h17 ∧ ((¬ x19 = (0 : Int32)) → ∀ h20, h20 = am_si h17 (11 + (Int32.toNatClampNeg i1)) 5 (am_gi h17 6 0) → Cl d 55 [.ref 9, .int (3 : Int32), .int (am_gi h20 (11 + (Int32.toNatClampNeg i1)) 1), .int (am_gi h20 (11 + (Int32.toNatClampNeg i1)) 2), .int i2, .int (am_gi h20 6 0), .int (-1 : Int32)] h20 (fun r22 h21 => ∃ x23, r22 = some (.int x23) ∧ Lay h21 ∧ Q (some (.int x23)) h21)) ∧ (¬ (¬ x19 = (0 : Int32)) → Q (some (.int (-4 : Int32))) h17))) ∧ (¬ x16 = (-1 : Int32) → Q (some (.int (-3 : Int32))) h14))))) ∧ (¬ (¬ x10 = (0 : Int32)) → Q (some (.int (-3 : Int32))) h8)))) ∧ (¬ (¬ x6 = (0 : Int32)) → Q (some (.int (-2 : Int32))) h4))))) : Cl (d + 1) 102 [.ref 6, .int i1, .int i2] h Q := by
  show Ev (d + 1) 102 0 [.ref 6, .int i1, .int i2, .null] [] h Q
  refine ev_p (pc' := 1) (loc' := [.ref 6, .int i1, .int i2, .null]) (st' := [.ref 6]) 1 am_q102 rfl ?_
  refine ev_s (pc' := 4) (loc' := [.ref 6, .int i1, .int i2, .null]) (st' := [.ref 9]) (h1 := h) am_q102 rfl rfl rfl (am_gf2 (lk6 Ly) (lr6_5 Ly)) ?_
  refine ev_p (pc' := 5) (loc' := [.ref 6, .int i1, .int i2, .null]) (st' := [.int i1, .ref 9]) 1 am_q102 rfl ?_
  refine ev_c (vs := [.ref 9, .int i1]) (rest := []) 53 am_q102 rfl rfl rfl rfl rfl rfl rfl rfl rfl rfl rfl rfl (Or.inr (congrArg some (lk9 Ly))) (Cl.mono H (Nat.le_refl _) (fun r2 h1 H => ?_))
  obtain ⟨x3, rfl, Ly, H⟩ := H
  refine ev_jz (t := 19) am_q102 rfl rfl (fun hq => ?_) (fun hq => ?_)
  · replace H := H.1 hq
    refine ev_p (pc' := 21) (loc' := [.null, .null, .null, .null]) (st' := [.int (-2 : Int32)]) 1 am_q102 rfl ?_
    exact ev_r (v := some (.int (-2 : Int32))) am_q102 rfl rfl rfl rfl H
  · replace H := H.2 hq
    refine ev_p (pc' := 13) (loc' := [.ref 6, .int i1, .int i2, .null]) (st' := [.int i2, .ref 6]) 2 am_q102 rfl ?_
    refine ev_c (vs := [.ref 6, .int i2]) (rest := []) 139 am_q102 rfl rfl rfl rfl rfl rfl rfl rfl rfl rfl rfl rfl (Or.inr (congrArg some (lk6 Ly))) (Cl.mono H (Nat.le_refl _) (fun r5 h4 H => ?_))
    obtain ⟨x6, rfl, Ly, H⟩ := H
    refine ev_jz (t := 22) am_q102 rfl rfl (fun hq => ?_) (fun hq => ?_)
    · replace H := H.1 hq
      refine ev_p (pc' := 23) (loc' := [.ref 6, .int i1, .int i2, .null]) (st' := [.ref 6]) 1 am_q102 rfl ?_
      refine ev_s (pc' := 26) (loc' := [.ref 6, .int i1, .int i2, .null]) (st' := [.ref 9]) (h1 := h4) am_q102 rfl rfl rfl (am_gf2 (lk6 Ly) (lr6_5 Ly)) ?_
      refine ev_s (pc' := 29) (loc' := [.ref 6, .int i1, .int i2, .null]) (st' := [.ref 10]) (h1 := h4) am_q102 rfl rfl rfl (am_gf2 (lk9 Ly) (lr9_0 Ly)) ?_
      refine ev_p (pc' := 30) (loc' := [.ref 6, .int i1, .int i2, .null]) (st' := [.int i1, .ref 10]) 1 am_q102 rfl ?_
      obtain ⟨g7, H⟩ := H
      refine ev_s (pc' := 31) (loc' := [.ref 6, .int i1, .int i2, .null]) (st' := [.ref (11 + (Int32.toNatClampNeg i1))]) (h1 := h4) am_q102 rfl rfl rfl (am_xa (am_rng (lk10 Ly) (by decide)) (am_inl (ln10 Ly) g7) (lr_right Ly (am_in_lt2 g7))) ?_
      refine ev_p (pc' := 33) (loc' := [.ref 6, .int i1, .int i2, .ref (11 + (Int32.toNatClampNeg i1))]) (st' := [.ref (11 + (Int32.toNatClampNeg i1))]) 2 am_q102 rfl ?_
      refine ev_s (pc' := 36) (loc' := [.ref 6, .int i1, .int i2, .ref (11 + (Int32.toNatClampNeg i1))]) (st' := [.int (am_gi h4 (11 + (Int32.toNatClampNeg i1)) 0)]) (h1 := h4) am_q102 rfl rfl rfl (if_pos (e := none) (lk_right Ly (am_in_lt2 g7))) ?_
      refine ev_jz (t := 50) am_q102 rfl rfl (fun hq => ?_) (fun hq => ?_)
      · replace H := H.1 hq
        refine ev_p (pc' := 52) (loc' := [.null, .null, .null, .null]) (st' := [.int (-3 : Int32)]) 1 am_q102 rfl ?_
        exact ev_r (v := some (.int (-3 : Int32))) am_q102 rfl rfl rfl rfl H
      · replace H := H.2 hq
        refine ev_p (pc' := 41) (loc' := [.ref 6, .int i1, .int i2, .ref (11 + (Int32.toNatClampNeg i1))]) (st' := [.ref 6, .ref (11 + (Int32.toNatClampNeg i1))]) 2 am_q102 rfl ?_
        refine ev_s (pc' := 44) (loc' := [.ref 6, .int i1, .int i2, .ref (11 + (Int32.toNatClampNeg i1))]) (st' := [.int (am_gi h4 6 0), .ref (11 + (Int32.toNatClampNeg i1))]) (h1 := h4) am_q102 rfl rfl rfl (if_pos (e := none) (lk6 Ly)) ?_
        refine ev_c (vs := [.ref (11 + (Int32.toNatClampNeg i1)), .int (am_gi h4 6 0)]) (rest := []) 65 am_q102 rfl rfl rfl rfl rfl rfl rfl rfl rfl rfl rfl rfl (Or.inr (congrArg some (lk_right Ly (am_in_lt2 g7)))) (Cl.mono H (Nat.le_refl _) (fun r9 h8 H => ?_))
        obtain ⟨x10, rfl, Ly, H⟩ := H
        refine ev_jz (t := 53) am_q102 rfl rfl (fun hq => ?_) (fun hq => ?_)
        · replace H := H.1 hq
          refine ev_p (pc' := 55) (loc' := [.ref 6, .int i1, .int i2, .ref (11 + (Int32.toNatClampNeg i1))]) (st' := [.int i2, .ref 6]) 2 am_q102 rfl ?_
          refine ev_c (vs := [.ref 6, .int i2]) (rest := []) 146 am_q102 rfl rfl rfl rfl rfl rfl rfl rfl rfl rfl rfl rfl (Or.inr (congrArg some (lk6 Ly))) (Cl.mono H (Nat.le_refl _) (fun r12 h11 H => ?_))
          obtain ⟨x13, rfl, Ly, H⟩ := H
          refine ev_jz (t := 77) am_q102 rfl rfl (fun hq => ?_) (fun hq => ?_)
          · replace H := H.1 hq
            refine ev_p (pc' := 79) (loc' := [.null, .null, .null, .null]) (st' := [.int (-3 : Int32)]) 1 am_q102 rfl ?_
            exact ev_r (v := some (.int (-3 : Int32))) am_q102 rfl rfl rfl rfl H
          · replace H := H.2 hq
            refine ev_p (pc' := 62) (loc' := [.ref 6, .int i1, .int i2, .ref (11 + (Int32.toNatClampNeg i1))]) (st' := [.ref 6]) 1 am_q102 rfl ?_
            refine ev_s (pc' := 65) (loc' := [.ref 6, .int i1, .int i2, .ref (11 + (Int32.toNatClampNeg i1))]) (st' := [.ref 9]) (h1 := h11) am_q102 rfl rfl rfl (am_gf2 (lk6 Ly) (lr6_5 Ly)) ?_
            refine ev_p (pc' := 67) (loc' := [.ref 6, .int i1, .int i2, .ref (11 + (Int32.toNatClampNeg i1))]) (st' := [.ref 6, .int i2, .ref 9]) 2 am_q102 rfl ?_
            refine ev_s (pc' := 70) (loc' := [.ref 6, .int i1, .int i2, .ref (11 + (Int32.toNatClampNeg i1))]) (st' := [.int (am_gi h11 6 0), .int i2, .ref 9]) (h1 := h11) am_q102 rfl rfl rfl (if_pos (e := none) (lk6 Ly)) ?_
            refine ev_c (vs := [.ref 9, .int i2, .int (am_gi h11 6 0)]) (rest := []) 57 am_q102 rfl rfl rfl rfl rfl rfl rfl rfl rfl rfl rfl rfl (Or.inr (congrArg some (lk9 Ly))) (Cl.mono H (Nat.le_refl _) (fun r15 h14 H => ?_))
            obtain ⟨x16, rfl, Ly, H⟩ := H
            refine ev_p (pc' := 74) (loc' := [.ref 6, .int i1, .int i2, .ref (11 + (Int32.toNatClampNeg i1))]) (st' := [.int (-1 : Int32), .int x16]) 1 am_q102 rfl ?_
            refine ev_jc (t := 80) am_q102 rfl rfl (fun hq => ?_) (fun hq => ?_)
            · replace H := H.1 hq
              refine ev_p (pc' := 81) (loc' := [.ref 6, .int i1, .int i2, .ref (11 + (Int32.toNatClampNeg i1))]) (st' := [.ref 6]) 1 am_q102 rfl ?_
              refine ev_s (pc' := 84) (loc' := [.ref 6, .int i1, .int i2, .ref (11 + (Int32.toNatClampNeg i1))]) (st' := [.ref 9]) (h1 := h14) am_q102 rfl rfl rfl (am_gf2 (lk6 Ly) (lr6_5 Ly)) ?_
              refine ev_p (pc' := 85) (loc' := [.ref 6, .int i1, .int i2, .ref (11 + (Int32.toNatClampNeg i1))]) (st' := [.int (1 : Int32), .ref 9]) 1 am_q102 rfl ?_
              refine ev_c (vs := [.ref 9, .int (1 : Int32)]) (rest := []) 54 am_q102 rfl rfl rfl rfl rfl rfl rfl rfl rfl rfl rfl rfl (Or.inr (congrArg some (lk9 Ly))) (Cl.mono H (Nat.le_refl _) (fun r18 h17 H => ?_))
              obtain ⟨x19, rfl, Ly, H⟩ := H
              refine ev_jz (t := 94) am_q102 rfl rfl (fun hq => ?_) (fun hq => ?_)
              · replace H := H.1 hq
                refine ev_p (pc' := 96) (loc' := [.ref 6, .int i1, .int i2, .ref (11 + (Int32.toNatClampNeg i1))]) (st' := [.ref 6, .ref (11 + (Int32.toNatClampNeg i1))]) 2 am_q102 rfl ?_
                refine ev_s (pc' := 99) (loc' := [.ref 6, .int i1, .int i2, .ref (11 + (Int32.toNatClampNeg i1))]) (st' := [.int (am_gi h17 6 0), .ref (11 + (Int32.toNatClampNeg i1))]) (h1 := h17) am_q102 rfl rfl rfl (if_pos (e := none) (lk6 Ly)) ?_
                refine ev_s (pc' := 102) (loc' := [.ref 6, .int i1, .int i2, .ref (11 + (Int32.toNatClampNeg i1))]) (st' := []) (h1 := am_si h17 (11 + (Int32.toNatClampNeg i1)) 5 (am_gi h17 6 0)) am_q102 rfl rfl rfl (if_pos (e := none) (lk_right Ly (am_in_lt2 g7))) ?_
                replace H := H _ rfl
                replace Ly : Lay (am_si h17 (11 + (Int32.toNatClampNeg i1)) 5 (am_gi h17 6 0)) := Ly.si _ _ _
                generalize am_si h17 (11 + (Int32.toNatClampNeg i1)) 5 (am_gi h17 6 0) = h20 at H Ly ⊢
                refine ev_p (pc' := 103) (loc' := [.ref 6, .int i1, .int i2, .ref (11 + (Int32.toNatClampNeg i1))]) (st' := [.ref 6]) 1 am_q102 rfl ?_
                refine ev_s (pc' := 106) (loc' := [.ref 6, .int i1, .int i2, .ref (11 + (Int32.toNatClampNeg i1))]) (st' := [.ref 9]) (h1 := h20) am_q102 rfl rfl rfl (am_gf2 (lk6 Ly) (lr6_5 Ly)) ?_
                refine ev_p (pc' := 108) (loc' := [.ref 6, .int i1, .int i2, .ref (11 + (Int32.toNatClampNeg i1))]) (st' := [.ref (11 + (Int32.toNatClampNeg i1)), .int (3 : Int32), .ref 9]) 2 am_q102 rfl ?_
                refine ev_s (pc' := 111) (loc' := [.ref 6, .int i1, .int i2, .ref (11 + (Int32.toNatClampNeg i1))]) (st' := [.int (am_gi h20 (11 + (Int32.toNatClampNeg i1)) 1), .int (3 : Int32), .ref 9]) (h1 := h20) am_q102 rfl rfl rfl (if_pos (e := none) (lk_right Ly (am_in_lt2 g7))) ?_
                refine ev_p (pc' := 112) (loc' := [.ref 6, .int i1, .int i2, .ref (11 + (Int32.toNatClampNeg i1))]) (st' := [.ref (11 + (Int32.toNatClampNeg i1)), .int (am_gi h20 (11 + (Int32.toNatClampNeg i1)) 1), .int (3 : Int32), .ref 9]) 1 am_q102 rfl ?_
                refine ev_s (pc' := 115) (loc' := [.ref 6, .int i1, .int i2, .ref (11 + (Int32.toNatClampNeg i1))]) (st' := [.int (am_gi h20 (11 + (Int32.toNatClampNeg i1)) 2), .int (am_gi h20 (11 + (Int32.toNatClampNeg i1)) 1), .int (3 : Int32), .ref 9]) (h1 := h20) am_q102 rfl rfl rfl (if_pos (e := none) (lk_right Ly (am_in_lt2 g7))) ?_
                refine ev_p (pc' := 117) (loc' := [.ref 6, .int i1, .int i2, .ref (11 + (Int32.toNatClampNeg i1))]) (st' := [.ref 6, .int i2, .int (am_gi h20 (11 + (Int32.toNatClampNeg i1)) 2), .int (am_gi h20 (11 + (Int32.toNatClampNeg i1)) 1), .int (3 : Int32), .ref 9]) 2 am_q102 rfl ?_
                refine ev_s (pc' := 120) (loc' := [.ref 6, .int i1, .int i2, .ref (11 + (Int32.toNatClampNeg i1))]) (st' := [.int (am_gi h20 6 0), .int i2, .int (am_gi h20 (11 + (Int32.toNatClampNeg i1)) 2), .int (am_gi h20 (11 + (Int32.toNatClampNeg i1)) 1), .int (3 : Int32), .ref 9]) (h1 := h20) am_q102 rfl rfl rfl (if_pos (e := none) (lk6 Ly)) ?_
                refine ev_p (pc' := 121) (loc' := [.ref 6, .int i1, .int i2, .ref (11 + (Int32.toNatClampNeg i1))]) (st' := [.int (-1 : Int32), .int (am_gi h20 6 0), .int i2, .int (am_gi h20 (11 + (Int32.toNatClampNeg i1)) 2), .int (am_gi h20 (11 + (Int32.toNatClampNeg i1)) 1), .int (3 : Int32), .ref 9]) 1 am_q102 rfl ?_
                refine ev_c (vs := [.ref 9, .int (3 : Int32), .int (am_gi h20 (11 + (Int32.toNatClampNeg i1)) 1), .int (am_gi h20 (11 + (Int32.toNatClampNeg i1)) 2), .int i2, .int (am_gi h20 6 0), .int (-1 : Int32)]) (rest := []) 55 am_q102 rfl rfl rfl rfl rfl rfl rfl rfl rfl rfl rfl rfl (Or.inr (congrArg some (lk9 Ly))) (Cl.mono H (Nat.le_refl _) (fun r22 h21 H => ?_))
                obtain ⟨x23, rfl, Ly, H⟩ := H
                exact ev_r (v := some (.int x23)) am_q102 rfl rfl rfl rfl H
              · replace H := H.2 hq
                refine ev_p (pc' := 93) (loc' := [.ref 6, .int i1, .int i2, .ref (11 + (Int32.toNatClampNeg i1))]) (st' := [.int (-4 : Int32)]) 1 am_q102 rfl ?_
                exact ev_r (v := some (.int (-4 : Int32))) am_q102 rfl rfl rfl rfl H
            · replace H := H.2 hq
              refine ev_p (pc' := 79) (loc' := [.null, .null, .null, .null]) (st' := [.int (-3 : Int32)]) 1 am_q102 rfl ?_
              exact ev_r (v := some (.int (-3 : Int32))) am_q102 rfl rfl rfl rfl H
        · replace H := H.2 hq
          refine ev_p (pc' := 52) (loc' := [.null, .null, .null, .null]) (st' := [.int (-3 : Int32)]) 1 am_q102 rfl ?_
          exact ev_r (v := some (.int (-3 : Int32))) am_q102 rfl rfl rfl rfl H
    · replace H := H.2 hq
      refine ev_p (pc' := 21) (loc' := [.null, .null, .null, .null]) (st' := [.int (-2 : Int32)]) 1 am_q102 rfl ?_
      exact ev_r (v := some (.int (-2 : Int32))) am_q102 rfl rfl rfl rfl H
/-! 103: X11_end -/
set_option maxRecDepth 20000 in
set_option maxHeartbeats 2000000 in
theorem ws103 {d : Nat}  (i1 : Int32) {h : AH} {Q : Option Value → AH → Prop} (Ly : Lay h) (H : Cl d 53 [.ref 9, .int i1] h (fun r2 h1 => ∃ x3, r2 = some (.int x3) ∧ Lay h1 ∧ ((¬ x3 = (0 : Int32)) → am_in i1 60 ∧ Cl d 65 [.ref (11 + (Int32.toNatClampNeg i1)), .int (am_gi h1 6 0)] h1 (fun r6 h5 => ∃ x7, r6 = some (.int x7) ∧ Lay h5 ∧ ((¬ x7 = (0 : Int32)) → am_in i1 60 ∧ ∀ h9, h9 = am_si h5 (11 + (Int32.toNatClampNeg i1)) 5 (am_gi h5 6 0) → Q (some (.int (1 : Int32))) h9) ∧ (¬ (¬ x7 = (0 : Int32)) → Q (some (.int (-3 : Int32))) h5))) ∧ (¬ (¬ x3 = (0 : Int32)) → Q (some (.int (-2 : Int32))) h1))) : Cl (d + 1) 103 [.ref 6, .int i1] h Q := by
  show Ev (d + 1) 103 0 [.ref 6, .int i1] [] h Q
  refine ev_p (pc' := 1) (loc' := [.ref 6, .int i1]) (st' := [.ref 6]) 1 am_q103 rfl ?_
  refine ev_s (pc' := 4) (loc' := [.ref 6, .int i1]) (st' := [.ref 9]) (h1 := h) am_q103 rfl rfl rfl (am_gf2 (lk6 Ly) (lr6_5 Ly)) ?_
  refine ev_p (pc' := 5) (loc' := [.ref 6, .int i1]) (st' := [.int i1, .ref 9]) 1 am_q103 rfl ?_
  refine ev_c (vs := [.ref 9, .int i1]) (rest := []) 53 am_q103 rfl rfl rfl rfl rfl rfl rfl rfl rfl rfl rfl rfl (Or.inr (congrArg some (lk9 Ly))) (Cl.mono H (Nat.le_refl _) (fun r2 h1 H => ?_))
  obtain ⟨x3, rfl, Ly, H⟩ := H
  refine ev_jz (t := 14) am_q103 rfl rfl (fun hq => ?_) (fun hq => ?_)
  · replace H := H.1 hq
    refine ev_p (pc' := 15) (loc' := [.ref 6, .int i1]) (st' := [.ref 6]) 1 am_q103 rfl ?_
    refine ev_s (pc' := 18) (loc' := [.ref 6, .int i1]) (st' := [.ref 9]) (h1 := h1) am_q103 rfl rfl rfl (am_gf2 (lk6 Ly) (lr6_5 Ly)) ?_
    refine ev_s (pc' := 21) (loc' := [.ref 6, .int i1]) (st' := [.ref 10]) (h1 := h1) am_q103 rfl rfl rfl (am_gf2 (lk9 Ly) (lr9_0 Ly)) ?_
    refine ev_p (pc' := 22) (loc' := [.ref 6, .int i1]) (st' := [.int i1, .ref 10]) 1 am_q103 rfl ?_
    obtain ⟨g4, H⟩ := H
    refine ev_s (pc' := 23) (loc' := [.ref 6, .int i1]) (st' := [.ref (11 + (Int32.toNatClampNeg i1))]) (h1 := h1) am_q103 rfl rfl rfl (am_xa (am_rng (lk10 Ly) (by decide)) (am_inl (ln10 Ly) g4) (lr_right Ly (am_in_lt2 g4))) ?_
    refine ev_p (pc' := 24) (loc' := [.ref 6, .int i1]) (st' := [.ref 6, .ref (11 + (Int32.toNatClampNeg i1))]) 1 am_q103 rfl ?_
    refine ev_s (pc' := 27) (loc' := [.ref 6, .int i1]) (st' := [.int (am_gi h1 6 0), .ref (11 + (Int32.toNatClampNeg i1))]) (h1 := h1) am_q103 rfl rfl rfl (if_pos (e := none) (lk6 Ly)) ?_
    refine ev_c (vs := [.ref (11 + (Int32.toNatClampNeg i1)), .int (am_gi h1 6 0)]) (rest := []) 65 am_q103 rfl rfl rfl rfl rfl rfl rfl rfl rfl rfl rfl rfl (Or.inr (congrArg some (lk_right Ly (am_in_lt2 g4)))) (Cl.mono H (Nat.le_refl _) (fun r6 h5 H => ?_))
    obtain ⟨x7, rfl, Ly, H⟩ := H
    refine ev_jz (t := 36) am_q103 rfl rfl (fun hq => ?_) (fun hq => ?_)
    · replace H := H.1 hq
      refine ev_p (pc' := 37) (loc' := [.ref 6, .int i1]) (st' := [.ref 6]) 1 am_q103 rfl ?_
      refine ev_s (pc' := 40) (loc' := [.ref 6, .int i1]) (st' := [.ref 9]) (h1 := h5) am_q103 rfl rfl rfl (am_gf2 (lk6 Ly) (lr6_5 Ly)) ?_
      refine ev_s (pc' := 43) (loc' := [.ref 6, .int i1]) (st' := [.ref 10]) (h1 := h5) am_q103 rfl rfl rfl (am_gf2 (lk9 Ly) (lr9_0 Ly)) ?_
      refine ev_p (pc' := 44) (loc' := [.ref 6, .int i1]) (st' := [.int i1, .ref 10]) 1 am_q103 rfl ?_
      obtain ⟨g8, H⟩ := H
      refine ev_s (pc' := 45) (loc' := [.ref 6, .int i1]) (st' := [.ref (11 + (Int32.toNatClampNeg i1))]) (h1 := h5) am_q103 rfl rfl rfl (am_xa (am_rng (lk10 Ly) (by decide)) (am_inl (ln10 Ly) g8) (lr_right Ly (am_in_lt2 g8))) ?_
      refine ev_p (pc' := 46) (loc' := [.ref 6, .int i1]) (st' := [.ref 6, .ref (11 + (Int32.toNatClampNeg i1))]) 1 am_q103 rfl ?_
      refine ev_s (pc' := 49) (loc' := [.ref 6, .int i1]) (st' := [.int (am_gi h5 6 0), .ref (11 + (Int32.toNatClampNeg i1))]) (h1 := h5) am_q103 rfl rfl rfl (if_pos (e := none) (lk6 Ly)) ?_
      refine ev_s (pc' := 52) (loc' := [.ref 6, .int i1]) (st' := []) (h1 := am_si h5 (11 + (Int32.toNatClampNeg i1)) 5 (am_gi h5 6 0)) am_q103 rfl rfl rfl (if_pos (e := none) (lk_right Ly (am_in_lt2 g8))) ?_
      replace H := H _ rfl
      replace Ly : Lay (am_si h5 (11 + (Int32.toNatClampNeg i1)) 5 (am_gi h5 6 0)) := Ly.si _ _ _
      generalize am_si h5 (11 + (Int32.toNatClampNeg i1)) 5 (am_gi h5 6 0) = h9 at H Ly ⊢
      refine ev_p (pc' := 53) (loc' := [.ref 6, .int i1]) (st' := [.int (1 : Int32)]) 1 am_q103 rfl ?_
      exact ev_r (v := some (.int (1 : Int32))) am_q103 rfl rfl rfl rfl H
    · replace H := H.2 hq
      refine ev_p (pc' := 35) (loc' := [.ref 6, .int i1]) (st' := [.int (-3 : Int32)]) 1 am_q103 rfl ?_
      exact ev_r (v := some (.int (-3 : Int32))) am_q103 rfl rfl rfl rfl H
  · replace H := H.2 hq
    refine ev_p (pc' := 13) (loc' := [.ref 6, .int i1]) (st' := [.int (-2 : Int32)]) 1 am_q103 rfl ?_
    exact ev_r (v := some (.int (-2 : Int32))) am_q103 rfl rfl rfl rfl H
/-! 104: X11_leave -/
set_option maxRecDepth 20000 in
set_option maxHeartbeats 2000000 in
theorem ws104 {d : Nat}  (i1 : Int32) {h : AH} {Q : Option Value → AH → Prop} (Ly : Lay h) (H : Cl d 139 [.ref 6, .int i1] h (fun r2 h1 => ∃ x3, r2 = some (.int x3) ∧ Lay h1 ∧ ((¬ x3 = (0 : Int32)) → Cl d 146 [.ref 6, .int i1] h1 (fun r5 h4 => ∃ x6, r5 = some (.int x6) ∧ Lay h4 ∧ ((¬ x6 = (0 : Int32)) → Cl d 60 [.ref 9, .int i1, .int (am_gi h4 6 0)] h4 (fun r8 h7 => ∃ x9, r8 = some (.int x9) ∧ Lay h7 ∧ Cl d 54 [.ref 9, .int x9] h7 (fun r11 h10 => ∃ x12, r11 = some (.int x12) ∧ Lay h10 ∧ ((¬ x12 = (0 : Int32)) → Cl d 61 [.ref 9, .int i1, .int (am_gi h10 6 0)] h10 (fun r14 h13 => ∃ x15, r14 = some (.int x15) ∧ Lay h13 ∧ Cl d 62 [.ref 9, .int i1, .int (am_gi h13 6 0)] h13 (fun r17 h16 => r17 = none ∧ Lay h16 ∧ am_in i1 24 ∧ Cl d 21 [.ref (124 + (Int32.toNatClampNeg i1)), .int (am_gi h16 6 0)] h16 (fun r20 h19 => r20 = none ∧ Lay h19 ∧ Ev (d + 1) 104 87 [.ref 6, .int i1, .int x15, .int (0 : Int32)] [] h19 Q)))) ∧ (¬ (¬ x12 = (0 : Int32)) → Q (some (.int (-4 : Int32))) h10)))) ∧ (¬ (¬ x6 = (0 : Int32)) → Q (some (.int (-3 : Int32))) h4))) ∧ (¬ (¬ x3 = (0 : Int32)) → Q (some (.int (-2 : Int32))) h1))) : Cl (d + 1) 104 [.ref 6, .int i1] h Q := by
  show Ev (d + 1) 104 0 [.ref 6, .int i1, .null, .null] [] h Q
  refine ev_p (pc' := 2) (loc' := [.ref 6, .int i1, .null, .null]) (st' := [.int i1, .ref 6]) 2 am_q104 rfl ?_
  refine ev_c (vs := [.ref 6, .int i1]) (rest := []) 139 am_q104 rfl rfl rfl rfl rfl rfl rfl rfl rfl rfl rfl rfl (Or.inr (congrArg some (lk6 Ly))) (Cl.mono H (Nat.le_refl _) (fun r2 h1 H => ?_))
  obtain ⟨x3, rfl, Ly, H⟩ := H
  refine ev_jz (t := 11) am_q104 rfl rfl (fun hq => ?_) (fun hq => ?_)
  · replace H := H.1 hq
    refine ev_p (pc' := 13) (loc' := [.ref 6, .int i1, .null, .null]) (st' := [.int i1, .ref 6]) 2 am_q104 rfl ?_
    refine ev_c (vs := [.ref 6, .int i1]) (rest := []) 146 am_q104 rfl rfl rfl rfl rfl rfl rfl rfl rfl rfl rfl rfl (Or.inr (congrArg some (lk6 Ly))) (Cl.mono H (Nat.le_refl _) (fun r5 h4 H => ?_))
    obtain ⟨x6, rfl, Ly, H⟩ := H
    refine ev_jz (t := 22) am_q104 rfl rfl (fun hq => ?_) (fun hq => ?_)
    · replace H := H.1 hq
      refine ev_p (pc' := 23) (loc' := [.ref 6, .int i1, .null, .null]) (st' := [.ref 6]) 1 am_q104 rfl ?_
      refine ev_s (pc' := 26) (loc' := [.ref 6, .int i1, .null, .null]) (st' := [.ref 9]) (h1 := h4) am_q104 rfl rfl rfl (am_gf2 (lk6 Ly) (lr6_5 Ly)) ?_
      refine ev_p (pc' := 27) (loc' := [.ref 6, .int i1, .null, .null]) (st' := [.ref 6, .ref 9]) 1 am_q104 rfl ?_
      refine ev_s (pc' := 30) (loc' := [.ref 6, .int i1, .null, .null]) (st' := [.ref 9, .ref 9]) (h1 := h4) am_q104 rfl rfl rfl (am_gf2 (lk6 Ly) (lr6_5 Ly)) ?_
      refine ev_p (pc' := 32) (loc' := [.ref 6, .int i1, .null, .null]) (st' := [.ref 6, .int i1, .ref 9, .ref 9]) 2 am_q104 rfl ?_
      refine ev_s (pc' := 35) (loc' := [.ref 6, .int i1, .null, .null]) (st' := [.int (am_gi h4 6 0), .int i1, .ref 9, .ref 9]) (h1 := h4) am_q104 rfl rfl rfl (if_pos (e := none) (lk6 Ly)) ?_
      refine ev_c (vs := [.ref 9, .int i1, .int (am_gi h4 6 0)]) (rest := [.ref 9]) 60 am_q104 rfl rfl rfl rfl rfl rfl rfl rfl rfl rfl rfl rfl (Or.inr (congrArg some (lk9 Ly))) (Cl.mono H (Nat.le_refl _) (fun r8 h7 H => ?_))
      obtain ⟨x9, rfl, Ly, H⟩ := H
      refine ev_c (vs := [.ref 9, .int x9]) (rest := []) 54 am_q104 rfl rfl rfl rfl rfl rfl rfl rfl rfl rfl rfl rfl (Or.inr (congrArg some (lk9 Ly))) (Cl.mono H (Nat.le_refl _) (fun r11 h10 H => ?_))
      obtain ⟨x12, rfl, Ly, H⟩ := H
      refine ev_jz (t := 47) am_q104 rfl rfl (fun hq => ?_) (fun hq => ?_)
      · replace H := H.1 hq
        refine ev_p (pc' := 48) (loc' := [.ref 6, .int i1, .null, .null]) (st' := [.ref 6]) 1 am_q104 rfl ?_
        refine ev_s (pc' := 51) (loc' := [.ref 6, .int i1, .null, .null]) (st' := [.ref 9]) (h1 := h10) am_q104 rfl rfl rfl (am_gf2 (lk6 Ly) (lr6_5 Ly)) ?_
        refine ev_p (pc' := 53) (loc' := [.ref 6, .int i1, .null, .null]) (st' := [.ref 6, .int i1, .ref 9]) 2 am_q104 rfl ?_
        refine ev_s (pc' := 56) (loc' := [.ref 6, .int i1, .null, .null]) (st' := [.int (am_gi h10 6 0), .int i1, .ref 9]) (h1 := h10) am_q104 rfl rfl rfl (if_pos (e := none) (lk6 Ly)) ?_
        refine ev_c (vs := [.ref 9, .int i1, .int (am_gi h10 6 0)]) (rest := []) 61 am_q104 rfl rfl rfl rfl rfl rfl rfl rfl rfl rfl rfl rfl (Or.inr (congrArg some (lk9 Ly))) (Cl.mono H (Nat.le_refl _) (fun r14 h13 H => ?_))
        obtain ⟨x15, rfl, Ly, H⟩ := H
        refine ev_p (pc' := 61) (loc' := [.ref 6, .int i1, .int x15, .null]) (st' := [.ref 6]) 2 am_q104 rfl ?_
        refine ev_s (pc' := 64) (loc' := [.ref 6, .int i1, .int x15, .null]) (st' := [.ref 9]) (h1 := h13) am_q104 rfl rfl rfl (am_gf2 (lk6 Ly) (lr6_5 Ly)) ?_
        refine ev_p (pc' := 66) (loc' := [.ref 6, .int i1, .int x15, .null]) (st' := [.ref 6, .int i1, .ref 9]) 2 am_q104 rfl ?_
        refine ev_s (pc' := 69) (loc' := [.ref 6, .int i1, .int x15, .null]) (st' := [.int (am_gi h13 6 0), .int i1, .ref 9]) (h1 := h13) am_q104 rfl rfl rfl (if_pos (e := none) (lk6 Ly)) ?_
        refine ev_c (vs := [.ref 9, .int i1, .int (am_gi h13 6 0)]) (rest := []) 62 am_q104 rfl rfl rfl rfl rfl rfl rfl rfl rfl rfl rfl rfl (Or.inr (congrArg some (lk9 Ly))) (Cl.mono H (Nat.le_refl _) (fun r17 h16 H => ?_))
        obtain ⟨rfl, Ly, H⟩ := H
        refine ev_p (pc' := 73) (loc' := [.ref 6, .int i1, .int x15, .null]) (st' := [.ref 6]) 1 am_q104 rfl ?_
        refine ev_s (pc' := 76) (loc' := [.ref 6, .int i1, .int x15, .null]) (st' := [.ref 8]) (h1 := h16) am_q104 rfl rfl rfl (am_gf2 (lk6 Ly) (lr6_3 Ly)) ?_
        refine ev_p (pc' := 77) (loc' := [.ref 6, .int i1, .int x15, .null]) (st' := [.int i1, .ref 8]) 1 am_q104 rfl ?_
        obtain ⟨g18, H⟩ := H
        refine ev_s (pc' := 78) (loc' := [.ref 6, .int i1, .int x15, .null]) (st' := [.ref (124 + (Int32.toNatClampNeg i1))]) (h1 := h16) am_q104 rfl rfl rfl (am_xa (am_rng (lk8 Ly) (by decide)) (am_inl (ln8 Ly) g18) (lr_member Ly (am_in_lt2 g18))) ?_
        refine ev_p (pc' := 79) (loc' := [.ref 6, .int i1, .int x15, .null]) (st' := [.ref 6, .ref (124 + (Int32.toNatClampNeg i1))]) 1 am_q104 rfl ?_
        refine ev_s (pc' := 82) (loc' := [.ref 6, .int i1, .int x15, .null]) (st' := [.int (am_gi h16 6 0), .ref (124 + (Int32.toNatClampNeg i1))]) (h1 := h16) am_q104 rfl rfl rfl (if_pos (e := none) (lk6 Ly)) ?_
        refine ev_c (vs := [.ref (124 + (Int32.toNatClampNeg i1)), .int (am_gi h16 6 0)]) (rest := []) 21 am_q104 rfl rfl rfl rfl rfl rfl rfl rfl rfl rfl rfl rfl (Or.inr (congrArg some (lk_member Ly (am_in_lt2 g18)))) (Cl.mono H (Nat.le_refl _) (fun r20 h19 H => ?_))
        obtain ⟨rfl, Ly, H⟩ := H
        refine ev_p (pc' := 87) (loc' := [.ref 6, .int i1, .int x15, .int (0 : Int32)]) (st' := []) 2 am_q104 rfl ?_
        exact ev_m (loc' := [.ref 6, .int i1, .int x15, .int (0 : Int32)]) am_q104 rfl rfl H
      · replace H := H.2 hq
        refine ev_p (pc' := 46) (loc' := [.ref 6, .int i1, .null, .null]) (st' := [.int (-4 : Int32)]) 1 am_q104 rfl ?_
        exact ev_r (v := some (.int (-4 : Int32))) am_q104 rfl rfl rfl rfl H
    · replace H := H.2 hq
      refine ev_p (pc' := 21) (loc' := [.ref 6, .int i1, .null, .null]) (st' := [.int (-3 : Int32)]) 1 am_q104 rfl ?_
      exact ev_r (v := some (.int (-3 : Int32))) am_q104 rfl rfl rfl rfl H
  · replace H := H.2 hq
    refine ev_p (pc' := 10) (loc' := [.ref 6, .int i1, .null, .null]) (st' := [.int (-2 : Int32)]) 1 am_q104 rfl ?_
    exact ev_r (v := some (.int (-2 : Int32))) am_q104 rfl rfl rfl rfl H
set_option maxRecDepth 20000 in
set_option maxHeartbeats 2000000 in
theorem ws104_87 {d : Nat}  (i1 : Int32) (i2 : Int32) (i3 : Int32) {h : AH} {Q : Option Value → AH → Prop} (Ly : Lay h) (H : ((am_gi h 6 2) ≤ i3 → Q (some (.int i2)) h) ∧ (¬ (am_gi h 6 2) ≤ i3 → am_in i3 12 ∧ ∀ h2, h2 = am_si h (112 + (Int32.toNatClampNeg i3)) 4 ((am_gi h (112 + (Int32.toNatClampNeg i3)) 4) &&& (((1 : Int32) <<< (i1 &&& 31)) ^^^ (-1 : Int32))) → Ev (d + 1) 104 87 [.ref 6, .int i1, .int i2, .int (i3 + (1 : Int32))] [] h2 Q)) : Ev (d + 1) 104 87 [.ref 6, .int i1, .int i2, .int i3] [] h Q := by
  refine ev_p (pc' := 89) (loc' := [.ref 6, .int i1, .int i2, .int i3]) (st' := [.ref 6, .int i3]) 2 am_q104 rfl ?_
  refine ev_s (pc' := 92) (loc' := [.ref 6, .int i1, .int i2, .int i3]) (st' := [.int (am_gi h 6 2), .int i3]) (h1 := h) am_q104 rfl rfl rfl (if_pos (e := none) (lk6 Ly)) ?_
  refine ev_jc (t := 120) am_q104 rfl rfl (fun hq => ?_) (fun hq => ?_)
  · replace H := H.1 hq
    refine ev_p (pc' := 121) (loc' := [.ref 6, .int i1, .int i2, .int i3]) (st' := [.int i2]) 1 am_q104 rfl ?_
    exact ev_r (v := some (.int i2)) am_q104 rfl rfl rfl rfl H
  · replace H := H.2 hq
    refine ev_p (pc' := 96) (loc' := [.ref 6, .int i1, .int i2, .int i3]) (st' := [.ref 6]) 1 am_q104 rfl ?_
    refine ev_s (pc' := 99) (loc' := [.ref 6, .int i1, .int i2, .int i3]) (st' := [.ref 7]) (h1 := h) am_q104 rfl rfl rfl (am_gf2 (lk6 Ly) (lr6_1 Ly)) ?_
    refine ev_p (pc' := 100) (loc' := [.ref 6, .int i1, .int i2, .int i3]) (st' := [.int i3, .ref 7]) 1 am_q104 rfl ?_
    obtain ⟨g1, H⟩ := H
    refine ev_s (pc' := 101) (loc' := [.ref 6, .int i1, .int i2, .int i3]) (st' := [.ref (112 + (Int32.toNatClampNeg i3))]) (h1 := h) am_q104 rfl rfl rfl (am_xa (am_rng (lk7 Ly) (by decide)) (am_inl (ln7 Ly) g1) (lr_home Ly (am_in_lt2 g1))) ?_
    refine ev_p (pc' := 102) (loc' := [.ref 6, .int i1, .int i2, .int i3]) (st' := [.ref (112 + (Int32.toNatClampNeg i3)), .ref (112 + (Int32.toNatClampNeg i3))]) 1 am_q104 rfl ?_
    refine ev_s (pc' := 105) (loc' := [.ref 6, .int i1, .int i2, .int i3]) (st' := [.int (am_gi h (112 + (Int32.toNatClampNeg i3)) 4), .ref (112 + (Int32.toNatClampNeg i3))]) (h1 := h) am_q104 rfl rfl rfl (if_pos (e := none) (lk_home Ly (am_in_lt2 g1))) ?_
    refine ev_p (pc' := 111) (loc' := [.ref 6, .int i1, .int i2, .int i3]) (st' := [.int ((am_gi h (112 + (Int32.toNatClampNeg i3)) 4) &&& (((1 : Int32) <<< (i1 &&& 31)) ^^^ (-1 : Int32))), .ref (112 + (Int32.toNatClampNeg i3))]) 6 am_q104 rfl ?_
    refine ev_s (pc' := 114) (loc' := [.ref 6, .int i1, .int i2, .int i3]) (st' := []) (h1 := am_si h (112 + (Int32.toNatClampNeg i3)) 4 ((am_gi h (112 + (Int32.toNatClampNeg i3)) 4) &&& (((1 : Int32) <<< (i1 &&& 31)) ^^^ (-1 : Int32)))) am_q104 rfl rfl rfl (if_pos (e := none) (lk_home Ly (am_in_lt2 g1))) ?_
    replace H := H _ rfl
    replace Ly : Lay (am_si h (112 + (Int32.toNatClampNeg i3)) 4 ((am_gi h (112 + (Int32.toNatClampNeg i3)) 4) &&& (((1 : Int32) <<< (i1 &&& 31)) ^^^ (-1 : Int32)))) := Ly.si _ _ _
    generalize am_si h (112 + (Int32.toNatClampNeg i3)) 4 ((am_gi h (112 + (Int32.toNatClampNeg i3)) 4) &&& (((1 : Int32) <<< (i1 &&& 31)) ^^^ (-1 : Int32))) = h2 at H Ly ⊢
    refine ev_p (pc' := 87) (loc' := [.ref 6, .int i1, .int i2, .int (i3 + (1 : Int32))]) (st' := []) 2 am_q104 rfl ?_
    exact ev_m (loc' := [.ref 6, .int i1, .int i2, .int (i3 + (1 : Int32))]) am_q104 rfl rfl H
/-! 105: X11_rightTold -/
set_option maxRecDepth 20000 in
set_option maxHeartbeats 2000000 in
theorem ws105 {d : Nat}  (i1 : Int32) (i2 : Int32) {h : AH} {Q : Option Value → AH → Prop} (Ly : Lay h) (H : Cl d 53 [.ref 9, .int i1] h (fun r2 h1 => ∃ x3, r2 = some (.int x3) ∧ Lay h1 ∧ ((¬ x3 = (0 : Int32)) → am_in i1 60 ∧ (i2 = (0 : Int32) → Q (some (.int (am_gi h1 (11 + (Int32.toNatClampNeg i1)) 0))) h1) ∧ (i2 = (1 : Int32) → Q (some (.int (am_gi h1 (11 + (Int32.toNatClampNeg i1)) 1))) h1) ∧ (i2 = (2 : Int32) → Q (some (.int (am_gi h1 (11 + (Int32.toNatClampNeg i1)) 2))) h1) ∧ (i2 = (3 : Int32) → Q (some (.int (am_gi h1 (11 + (Int32.toNatClampNeg i1)) 3))) h1) ∧ (i2 = (4 : Int32) → Q (some (.int (am_gi h1 (11 + (Int32.toNatClampNeg i1)) 4))) h1) ∧ (i2 = (5 : Int32) → Q (some (.int (am_gi h1 (11 + (Int32.toNatClampNeg i1)) 5))) h1) ∧ (i2 = (6 : Int32) → Cl d 65 [.ref (11 + (Int32.toNatClampNeg i1)), .int (am_gi h1 6 0)] h1 (fun r12 h11 => ∃ x13, r12 = some (.int x13) ∧ Lay h11 ∧ (x13 = (0 : Int32) → Q (some (.int (0 : Int32))) h11) ∧ (¬ x13 = (0 : Int32) → Q (some (.int (1 : Int32))) h11))) ∧ (¬ i2 = (0 : Int32) ∧ ¬ i2 = (1 : Int32) ∧ ¬ i2 = (2 : Int32) ∧ ¬ i2 = (3 : Int32) ∧ ¬ i2 = (4 : Int32) ∧ ¬ i2 = (5 : Int32) ∧ ¬ i2 = (6 : Int32) → Q (some (.int (-2 : Int32))) h1)) ∧ (¬ (¬ x3 = (0 : Int32)) → Q (some (.int (-2 : Int32))) h1))) : Cl (d + 1) 105 [.ref 6, .int i1, .int i2] h Q := by
  show Ev (d + 1) 105 0 [.ref 6, .int i1, .int i2, .null] [] h Q
  refine ev_p (pc' := 1) (loc' := [.ref 6, .int i1, .int i2, .null]) (st' := [.ref 6]) 1 am_q105 rfl ?_
  refine ev_s (pc' := 4) (loc' := [.ref 6, .int i1, .int i2, .null]) (st' := [.ref 9]) (h1 := h) am_q105 rfl rfl rfl (am_gf2 (lk6 Ly) (lr6_5 Ly)) ?_
  refine ev_p (pc' := 5) (loc' := [.ref 6, .int i1, .int i2, .null]) (st' := [.int i1, .ref 9]) 1 am_q105 rfl ?_
  refine ev_c (vs := [.ref 9, .int i1]) (rest := []) 53 am_q105 rfl rfl rfl rfl rfl rfl rfl rfl rfl rfl rfl rfl (Or.inr (congrArg some (lk9 Ly))) (Cl.mono H (Nat.le_refl _) (fun r2 h1 H => ?_))
  obtain ⟨x3, rfl, Ly, H⟩ := H
  refine ev_jz (t := 14) am_q105 rfl rfl (fun hq => ?_) (fun hq => ?_)
  · replace H := H.1 hq
    refine ev_p (pc' := 15) (loc' := [.ref 6, .int i1, .int i2, .null]) (st' := [.ref 6]) 1 am_q105 rfl ?_
    refine ev_s (pc' := 18) (loc' := [.ref 6, .int i1, .int i2, .null]) (st' := [.ref 9]) (h1 := h1) am_q105 rfl rfl rfl (am_gf2 (lk6 Ly) (lr6_5 Ly)) ?_
    refine ev_s (pc' := 21) (loc' := [.ref 6, .int i1, .int i2, .null]) (st' := [.ref 10]) (h1 := h1) am_q105 rfl rfl rfl (am_gf2 (lk9 Ly) (lr9_0 Ly)) ?_
    refine ev_p (pc' := 22) (loc' := [.ref 6, .int i1, .int i2, .null]) (st' := [.int i1, .ref 10]) 1 am_q105 rfl ?_
    obtain ⟨g4, H⟩ := H
    refine ev_s (pc' := 23) (loc' := [.ref 6, .int i1, .int i2, .null]) (st' := [.ref (11 + (Int32.toNatClampNeg i1))]) (h1 := h1) am_q105 rfl rfl rfl (am_xa (am_rng (lk10 Ly) (by decide)) (am_inl (ln10 Ly) g4) (lr_right Ly (am_in_lt2 g4))) ?_
    refine ev_p (pc' := 25) (loc' := [.ref 6, .int i1, .int i2, .ref (11 + (Int32.toNatClampNeg i1))]) (st' := [.int i2]) 2 am_q105 rfl ?_
    by_cases k5 : i2 = (0 : Int32)
    · replace H := H.1 k5
      refine ev_s (pc' := 68) (loc' := [.ref 6, .int i1, .int i2, .ref (11 + (Int32.toNatClampNeg i1))]) (st' := []) (h1 := h1) am_q105 rfl rfl rfl (by rw [k5]; rfl) ?_
      refine ev_p (pc' := 69) (loc' := [.ref 6, .int i1, .int i2, .ref (11 + (Int32.toNatClampNeg i1))]) (st' := [.ref (11 + (Int32.toNatClampNeg i1))]) 1 am_q105 rfl ?_
      refine ev_s (pc' := 72) (loc' := [.ref 6, .int i1, .int i2, .ref (11 + (Int32.toNatClampNeg i1))]) (st' := [.int (am_gi h1 (11 + (Int32.toNatClampNeg i1)) 0)]) (h1 := h1) am_q105 rfl rfl rfl (if_pos (e := none) (lk_right Ly (am_in_lt2 g4))) ?_
      exact ev_r (v := some (.int (am_gi h1 (11 + (Int32.toNatClampNeg i1)) 0))) am_q105 rfl rfl rfl rfl H
    replace H := H.2
    by_cases k6 : i2 = (1 : Int32)
    · replace H := H.1 k6
      refine ev_s (pc' := 73) (loc' := [.ref 6, .int i1, .int i2, .ref (11 + (Int32.toNatClampNeg i1))]) (st' := []) (h1 := h1) am_q105 rfl rfl rfl (by rw [k6]; rfl) ?_
      refine ev_p (pc' := 74) (loc' := [.ref 6, .int i1, .int i2, .ref (11 + (Int32.toNatClampNeg i1))]) (st' := [.ref (11 + (Int32.toNatClampNeg i1))]) 1 am_q105 rfl ?_
      refine ev_s (pc' := 77) (loc' := [.ref 6, .int i1, .int i2, .ref (11 + (Int32.toNatClampNeg i1))]) (st' := [.int (am_gi h1 (11 + (Int32.toNatClampNeg i1)) 1)]) (h1 := h1) am_q105 rfl rfl rfl (if_pos (e := none) (lk_right Ly (am_in_lt2 g4))) ?_
      exact ev_r (v := some (.int (am_gi h1 (11 + (Int32.toNatClampNeg i1)) 1))) am_q105 rfl rfl rfl rfl H
    replace H := H.2
    by_cases k7 : i2 = (2 : Int32)
    · replace H := H.1 k7
      refine ev_s (pc' := 78) (loc' := [.ref 6, .int i1, .int i2, .ref (11 + (Int32.toNatClampNeg i1))]) (st' := []) (h1 := h1) am_q105 rfl rfl rfl (by rw [k7]; rfl) ?_
      refine ev_p (pc' := 79) (loc' := [.ref 6, .int i1, .int i2, .ref (11 + (Int32.toNatClampNeg i1))]) (st' := [.ref (11 + (Int32.toNatClampNeg i1))]) 1 am_q105 rfl ?_
      refine ev_s (pc' := 82) (loc' := [.ref 6, .int i1, .int i2, .ref (11 + (Int32.toNatClampNeg i1))]) (st' := [.int (am_gi h1 (11 + (Int32.toNatClampNeg i1)) 2)]) (h1 := h1) am_q105 rfl rfl rfl (if_pos (e := none) (lk_right Ly (am_in_lt2 g4))) ?_
      exact ev_r (v := some (.int (am_gi h1 (11 + (Int32.toNatClampNeg i1)) 2))) am_q105 rfl rfl rfl rfl H
    replace H := H.2
    by_cases k8 : i2 = (3 : Int32)
    · replace H := H.1 k8
      refine ev_s (pc' := 83) (loc' := [.ref 6, .int i1, .int i2, .ref (11 + (Int32.toNatClampNeg i1))]) (st' := []) (h1 := h1) am_q105 rfl rfl rfl (by rw [k8]; rfl) ?_
      refine ev_p (pc' := 84) (loc' := [.ref 6, .int i1, .int i2, .ref (11 + (Int32.toNatClampNeg i1))]) (st' := [.ref (11 + (Int32.toNatClampNeg i1))]) 1 am_q105 rfl ?_
      refine ev_s (pc' := 87) (loc' := [.ref 6, .int i1, .int i2, .ref (11 + (Int32.toNatClampNeg i1))]) (st' := [.int (am_gi h1 (11 + (Int32.toNatClampNeg i1)) 3)]) (h1 := h1) am_q105 rfl rfl rfl (if_pos (e := none) (lk_right Ly (am_in_lt2 g4))) ?_
      exact ev_r (v := some (.int (am_gi h1 (11 + (Int32.toNatClampNeg i1)) 3))) am_q105 rfl rfl rfl rfl H
    replace H := H.2
    by_cases k9 : i2 = (4 : Int32)
    · replace H := H.1 k9
      refine ev_s (pc' := 88) (loc' := [.ref 6, .int i1, .int i2, .ref (11 + (Int32.toNatClampNeg i1))]) (st' := []) (h1 := h1) am_q105 rfl rfl rfl (by rw [k9]; rfl) ?_
      refine ev_p (pc' := 89) (loc' := [.ref 6, .int i1, .int i2, .ref (11 + (Int32.toNatClampNeg i1))]) (st' := [.ref (11 + (Int32.toNatClampNeg i1))]) 1 am_q105 rfl ?_
      refine ev_s (pc' := 92) (loc' := [.ref 6, .int i1, .int i2, .ref (11 + (Int32.toNatClampNeg i1))]) (st' := [.int (am_gi h1 (11 + (Int32.toNatClampNeg i1)) 4)]) (h1 := h1) am_q105 rfl rfl rfl (if_pos (e := none) (lk_right Ly (am_in_lt2 g4))) ?_
      exact ev_r (v := some (.int (am_gi h1 (11 + (Int32.toNatClampNeg i1)) 4))) am_q105 rfl rfl rfl rfl H
    replace H := H.2
    by_cases k10 : i2 = (5 : Int32)
    · replace H := H.1 k10
      refine ev_s (pc' := 93) (loc' := [.ref 6, .int i1, .int i2, .ref (11 + (Int32.toNatClampNeg i1))]) (st' := []) (h1 := h1) am_q105 rfl rfl rfl (by rw [k10]; rfl) ?_
      refine ev_p (pc' := 94) (loc' := [.ref 6, .int i1, .int i2, .ref (11 + (Int32.toNatClampNeg i1))]) (st' := [.ref (11 + (Int32.toNatClampNeg i1))]) 1 am_q105 rfl ?_
      refine ev_s (pc' := 97) (loc' := [.ref 6, .int i1, .int i2, .ref (11 + (Int32.toNatClampNeg i1))]) (st' := [.int (am_gi h1 (11 + (Int32.toNatClampNeg i1)) 5)]) (h1 := h1) am_q105 rfl rfl rfl (if_pos (e := none) (lk_right Ly (am_in_lt2 g4))) ?_
      exact ev_r (v := some (.int (am_gi h1 (11 + (Int32.toNatClampNeg i1)) 5))) am_q105 rfl rfl rfl rfl H
    replace H := H.2
    by_cases k14 : i2 = (6 : Int32)
    · replace H := H.1 k14
      refine ev_s (pc' := 98) (loc' := [.ref 6, .int i1, .int i2, .ref (11 + (Int32.toNatClampNeg i1))]) (st' := []) (h1 := h1) am_q105 rfl rfl rfl (by rw [k14]; rfl) ?_
      refine ev_p (pc' := 100) (loc' := [.ref 6, .int i1, .int i2, .ref (11 + (Int32.toNatClampNeg i1))]) (st' := [.ref 6, .ref (11 + (Int32.toNatClampNeg i1))]) 2 am_q105 rfl ?_
      refine ev_s (pc' := 103) (loc' := [.ref 6, .int i1, .int i2, .ref (11 + (Int32.toNatClampNeg i1))]) (st' := [.int (am_gi h1 6 0), .ref (11 + (Int32.toNatClampNeg i1))]) (h1 := h1) am_q105 rfl rfl rfl (if_pos (e := none) (lk6 Ly)) ?_
      refine ev_c (vs := [.ref (11 + (Int32.toNatClampNeg i1)), .int (am_gi h1 6 0)]) (rest := []) 65 am_q105 rfl rfl rfl rfl rfl rfl rfl rfl rfl rfl rfl rfl (Or.inr (congrArg some (lk_right Ly (am_in_lt2 g4)))) (Cl.mono H (Nat.le_refl _) (fun r12 h11 H => ?_))
      obtain ⟨x13, rfl, Ly, H⟩ := H
      refine ev_jz (t := 113) am_q105 rfl rfl (fun hq => ?_) (fun hq => ?_)
      · replace H := H.1 hq
        refine ev_p (pc' := 114) (loc' := [.ref 6, .int i1, .int i2, .ref (11 + (Int32.toNatClampNeg i1))]) (st' := [.int (0 : Int32)]) 1 am_q105 rfl ?_
        exact ev_r (v := some (.int (0 : Int32))) am_q105 rfl rfl rfl rfl H
      · replace H := H.2 hq
        refine ev_p (pc' := 114) (loc' := [.ref 6, .int i1, .int i2, .ref (11 + (Int32.toNatClampNeg i1))]) (st' := [.int (1 : Int32)]) 2 am_q105 rfl ?_
        exact ev_r (v := some (.int (1 : Int32))) am_q105 rfl rfl rfl rfl H
    replace H := H.2
    replace H := H ⟨k5, k6, k7, k8, k9, k10, k14⟩
    refine ev_s (pc' := 115) (loc' := [.ref 6, .int i1, .int i2, .ref (11 + (Int32.toNatClampNeg i1))]) (st' := []) (h1 := h1) am_q105 rfl rfl rfl (am_tso (x := (i2).toInt) (by have z0 : (i2).toInt ≠ 0 := am_tn k5 (by decide); have z1 : (i2).toInt ≠ 1 := am_tn k6 (by decide); have z2 : (i2).toInt ≠ 2 := am_tn k7 (by decide); have z3 : (i2).toInt ≠ 3 := am_tn k8 (by decide); have z4 : (i2).toInt ≠ 4 := am_tn k9 (by decide); have z5 : (i2).toInt ≠ 5 := am_tn k10 (by decide); have z6 : (i2).toInt ≠ 6 := am_tn k14 (by decide); omega)) ?_
    refine ev_p (pc' := 117) (loc' := [.ref 6, .int i1, .int i2, .ref (11 + (Int32.toNatClampNeg i1))]) (st' := [.int (-2 : Int32)]) 1 am_q105 rfl ?_
    exact ev_r (v := some (.int (-2 : Int32))) am_q105 rfl rfl rfl rfl H
  · replace H := H.2 hq
    refine ev_p (pc' := 13) (loc' := [.ref 6, .int i1, .int i2, .null]) (st' := [.int (-2 : Int32)]) 1 am_q105 rfl ?_
    exact ev_r (v := some (.int (-2 : Int32))) am_q105 rfl rfl rfl rfl H
/-! 106: X11_inForce -/
set_option maxRecDepth 20000 in
set_option maxHeartbeats 2000000 in
theorem ws106 {d : Nat}  (i1 : Int32) (i2 : Int32) (i3 : Int32) {h : AH} {Q : Option Value → AH → Prop} (Ly : Lay h) (H : Cl d 143 [.int i3] h (fun r2 h1 => ∃ x3, r2 = some (.int x3) ∧ Lay h1 ∧ ((¬ x3 = (0 : Int32)) → ((¬ i1 = (0 : Int32)) → Ev (d + 1) 106 32 [.ref 6, .int i1, .int i2, .int i3] [] h1 Q) ∧ (¬ (¬ i1 = (0 : Int32)) → Cl d 138 [.ref 6, .int i2] h1 (fun r5 h4 => ∃ x6, r5 = some (.int x6) ∧ Lay h4 ∧ (x6 = (0 : Int32) → Ev (d + 1) 106 32 [.ref 6, .int i1, .int i2, .int i3] [] h4 Q) ∧ (¬ x6 = (0 : Int32) → Cl d 56 [.ref 9, .int i2, .int i3] h4 (fun r8 h7 => ∃ x9, r8 = some (.int x9) ∧ Lay h7 ∧ Q (some (.int x9)) h7))))) ∧ (¬ (¬ x3 = (0 : Int32)) → Q (some (.int (-2 : Int32))) h1))) : Cl (d + 1) 106 [.ref 6, .int i1, .int i2, .int i3] h Q := by
  show Ev (d + 1) 106 0 [.ref 6, .int i1, .int i2, .int i3] [] h Q
  refine ev_p (pc' := 1) (loc' := [.ref 6, .int i1, .int i2, .int i3]) (st' := [.int i3]) 1 am_q106 rfl ?_
  refine ev_c (vs := [.int i3]) (rest := []) 143 am_q106 rfl rfl rfl rfl rfl rfl rfl rfl rfl rfl rfl rfl (Or.inl rfl) (Cl.mono H (Nat.le_refl _) (fun r2 h1 H => ?_))
  obtain ⟨x3, rfl, Ly, H⟩ := H
  refine ev_jz (t := 10) am_q106 rfl rfl (fun hq => ?_) (fun hq => ?_)
  · replace H := H.1 hq
    refine ev_p (pc' := 11) (loc' := [.ref 6, .int i1, .int i2, .int i3]) (st' := [.int i1]) 1 am_q106 rfl ?_
    refine ev_jz (t := 32) am_q106 rfl rfl (fun hq => ?_) (fun hq => ?_)
    · replace H := H.1 hq
      exact ev_m (loc' := [.ref 6, .int i1, .int i2, .int i3]) am_q106 rfl rfl H
    · replace H := H.2 hq
      refine ev_p (pc' := 16) (loc' := [.ref 6, .int i1, .int i2, .int i3]) (st' := [.int i2, .ref 6]) 2 am_q106 rfl ?_
      refine ev_c (vs := [.ref 6, .int i2]) (rest := []) 138 am_q106 rfl rfl rfl rfl rfl rfl rfl rfl rfl rfl rfl rfl (Or.inr (congrArg some (lk6 Ly))) (Cl.mono H (Nat.le_refl _) (fun r5 h4 H => ?_))
      obtain ⟨x6, rfl, Ly, H⟩ := H
      refine ev_jz (t := 32) am_q106 rfl rfl (fun hq => ?_) (fun hq => ?_)
      · replace H := H.1 hq
        exact ev_m (loc' := [.ref 6, .int i1, .int i2, .int i3]) am_q106 rfl rfl H
      · replace H := H.2 hq
        refine ev_p (pc' := 23) (loc' := [.ref 6, .int i1, .int i2, .int i3]) (st' := [.ref 6]) 1 am_q106 rfl ?_
        refine ev_s (pc' := 26) (loc' := [.ref 6, .int i1, .int i2, .int i3]) (st' := [.ref 9]) (h1 := h4) am_q106 rfl rfl rfl (am_gf2 (lk6 Ly) (lr6_5 Ly)) ?_
        refine ev_p (pc' := 28) (loc' := [.ref 6, .int i1, .int i2, .int i3]) (st' := [.int i3, .int i2, .ref 9]) 2 am_q106 rfl ?_
        refine ev_c (vs := [.ref 9, .int i2, .int i3]) (rest := []) 56 am_q106 rfl rfl rfl rfl rfl rfl rfl rfl rfl rfl rfl rfl (Or.inr (congrArg some (lk9 Ly))) (Cl.mono H (Nat.le_refl _) (fun r8 h7 H => ?_))
        obtain ⟨x9, rfl, Ly, H⟩ := H
        exact ev_r (v := some (.int x9)) am_q106 rfl rfl rfl rfl H
  · replace H := H.2 hq
    refine ev_p (pc' := 9) (loc' := [.ref 6, .int i1, .int i2, .int i3]) (st' := [.int (-2 : Int32)]) 1 am_q106 rfl ?_
    exact ev_r (v := some (.int (-2 : Int32))) am_q106 rfl rfl rfl rfl H
set_option maxRecDepth 20000 in
set_option maxHeartbeats 2000000 in
theorem ws106_32 {d : Nat}  (i1 : Int32) (i2 : Int32) (i3 : Int32) {h : AH} {Q : Option Value → AH → Prop} (Ly : Lay h) (H : ((¬ i1 = (1 : Int32)) → Q (some (.int (-2 : Int32))) h) ∧ (¬ (¬ i1 = (1 : Int32)) → Cl d 139 [.ref 6, .int i2] h (fun r2 h1 => ∃ x3, r2 = some (.int x3) ∧ Lay h1 ∧ (x3 = (0 : Int32) → Q (some (.int (-2 : Int32))) h1) ∧ (¬ x3 = (0 : Int32) → Cl d 57 [.ref 9, .int i2, .int i3] h1 (fun r5 h4 => ∃ x6, r5 = some (.int x6) ∧ Lay h4 ∧ Q (some (.int x6)) h4))))) : Ev (d + 1) 106 32 [.ref 6, .int i1, .int i2, .int i3] [] h Q := by
  refine ev_p (pc' := 34) (loc' := [.ref 6, .int i1, .int i2, .int i3]) (st' := [.int (1 : Int32), .int i1]) 2 am_q106 rfl ?_
  refine ev_jc (t := 55) am_q106 rfl rfl (fun hq => ?_) (fun hq => ?_)
  · replace H := H.1 hq
    refine ev_p (pc' := 57) (loc' := [.null, .null, .null, .null]) (st' := [.int (-2 : Int32)]) 1 am_q106 rfl ?_
    exact ev_r (v := some (.int (-2 : Int32))) am_q106 rfl rfl rfl rfl H
  · replace H := H.2 hq
    refine ev_p (pc' := 39) (loc' := [.ref 6, .int i1, .int i2, .int i3]) (st' := [.int i2, .ref 6]) 2 am_q106 rfl ?_
    refine ev_c (vs := [.ref 6, .int i2]) (rest := []) 139 am_q106 rfl rfl rfl rfl rfl rfl rfl rfl rfl rfl rfl rfl (Or.inr (congrArg some (lk6 Ly))) (Cl.mono H (Nat.le_refl _) (fun r2 h1 H => ?_))
    obtain ⟨x3, rfl, Ly, H⟩ := H
    refine ev_jz (t := 55) am_q106 rfl rfl (fun hq => ?_) (fun hq => ?_)
    · replace H := H.1 hq
      refine ev_p (pc' := 57) (loc' := [.null, .null, .null, .null]) (st' := [.int (-2 : Int32)]) 1 am_q106 rfl ?_
      exact ev_r (v := some (.int (-2 : Int32))) am_q106 rfl rfl rfl rfl H
    · replace H := H.2 hq
      refine ev_p (pc' := 46) (loc' := [.ref 6, .int i1, .int i2, .int i3]) (st' := [.ref 6]) 1 am_q106 rfl ?_
      refine ev_s (pc' := 49) (loc' := [.ref 6, .int i1, .int i2, .int i3]) (st' := [.ref 9]) (h1 := h1) am_q106 rfl rfl rfl (am_gf2 (lk6 Ly) (lr6_5 Ly)) ?_
      refine ev_p (pc' := 51) (loc' := [.ref 6, .int i1, .int i2, .int i3]) (st' := [.int i3, .int i2, .ref 9]) 2 am_q106 rfl ?_
      refine ev_c (vs := [.ref 9, .int i2, .int i3]) (rest := []) 57 am_q106 rfl rfl rfl rfl rfl rfl rfl rfl rfl rfl rfl rfl (Or.inr (congrArg some (lk9 Ly))) (Cl.mono H (Nat.le_refl _) (fun r5 h4 H => ?_))
      obtain ⟨x6, rfl, Ly, H⟩ := H
      exact ev_r (v := some (.int x6)) am_q106 rfl rfl rfl rfl H
/-! 107: X11_homeTold -/
set_option maxRecDepth 20000 in
set_option maxHeartbeats 2000000 in
theorem ws107 {d : Nat}  (i1 : Int32) (i2 : Int32) {h : AH} {Q : Option Value → AH → Prop} (Ly : Lay h) (H : Cl d 138 [.ref 6, .int i1] h (fun r2 h1 => ∃ x3, r2 = some (.int x3) ∧ Lay h1 ∧ ((¬ x3 = (0 : Int32)) → am_in i1 12 ∧ (i2 = (0 : Int32) → Q (some (.int (am_gi h1 (112 + (Int32.toNatClampNeg i1)) 0))) h1) ∧ (i2 = (1 : Int32) → Q (some (.int (am_gi h1 (112 + (Int32.toNatClampNeg i1)) 1))) h1) ∧ (i2 = (2 : Int32) → Q (some (.int (am_gi h1 (112 + (Int32.toNatClampNeg i1)) 2))) h1) ∧ (i2 = (3 : Int32) → Cl d 147 [.ref 6, .int i1] h1 (fun r9 h8 => ∃ x10, r9 = some (.int x10) ∧ Lay h8 ∧ (x10 = (0 : Int32) → Q (some (.int (0 : Int32))) h8) ∧ (¬ x10 = (0 : Int32) → Q (some (.int (1 : Int32))) h8))) ∧ (i2 = (4 : Int32) → Cl d 159 [.ref 6, .int i1] h1 (fun r13 h12 => ∃ x14, r13 = some (.int x14) ∧ Lay h12 ∧ Q (some (.int x14)) h12)) ∧ (i2 = (5 : Int32) → ((am_gi h1 (112 + (Int32.toNatClampNeg i1)) 3) = (0 : Int32) → Q (some (.int (0 : Int32))) h1) ∧ (¬ (am_gi h1 (112 + (Int32.toNatClampNeg i1)) 3) = (0 : Int32) → Q (some (.int (1 : Int32))) h1)) ∧ (i2 = (6 : Int32) → Cl d 58 [.ref 9, .int i1, .int (am_gi h1 6 0)] h1 (fun r18 h17 => ∃ x19, r18 = some (.int x19) ∧ Lay h17 ∧ Q (some (.int x19)) h17)) ∧ (¬ i2 = (0 : Int32) ∧ ¬ i2 = (1 : Int32) ∧ ¬ i2 = (2 : Int32) ∧ ¬ i2 = (3 : Int32) ∧ ¬ i2 = (4 : Int32) ∧ ¬ i2 = (5 : Int32) ∧ ¬ i2 = (6 : Int32) → Q (some (.int (-2 : Int32))) h1)) ∧ (¬ (¬ x3 = (0 : Int32)) → Q (some (.int (-2 : Int32))) h1))) : Cl (d + 1) 107 [.ref 6, .int i1, .int i2] h Q := by
  show Ev (d + 1) 107 0 [.ref 6, .int i1, .int i2, .null] [] h Q
  refine ev_p (pc' := 2) (loc' := [.ref 6, .int i1, .int i2, .null]) (st' := [.int i1, .ref 6]) 2 am_q107 rfl ?_
  refine ev_c (vs := [.ref 6, .int i1]) (rest := []) 138 am_q107 rfl rfl rfl rfl rfl rfl rfl rfl rfl rfl rfl rfl (Or.inr (congrArg some (lk6 Ly))) (Cl.mono H (Nat.le_refl _) (fun r2 h1 H => ?_))
  obtain ⟨x3, rfl, Ly, H⟩ := H
  refine ev_jz (t := 11) am_q107 rfl rfl (fun hq => ?_) (fun hq => ?_)
  · replace H := H.1 hq
    refine ev_p (pc' := 12) (loc' := [.ref 6, .int i1, .int i2, .null]) (st' := [.ref 6]) 1 am_q107 rfl ?_
    refine ev_s (pc' := 15) (loc' := [.ref 6, .int i1, .int i2, .null]) (st' := [.ref 7]) (h1 := h1) am_q107 rfl rfl rfl (am_gf2 (lk6 Ly) (lr6_1 Ly)) ?_
    refine ev_p (pc' := 16) (loc' := [.ref 6, .int i1, .int i2, .null]) (st' := [.int i1, .ref 7]) 1 am_q107 rfl ?_
    obtain ⟨g4, H⟩ := H
    refine ev_s (pc' := 17) (loc' := [.ref 6, .int i1, .int i2, .null]) (st' := [.ref (112 + (Int32.toNatClampNeg i1))]) (h1 := h1) am_q107 rfl rfl rfl (am_xa (am_rng (lk7 Ly) (by decide)) (am_inl (ln7 Ly) g4) (lr_home Ly (am_in_lt2 g4))) ?_
    refine ev_p (pc' := 19) (loc' := [.ref 6, .int i1, .int i2, .ref (112 + (Int32.toNatClampNeg i1))]) (st' := [.int i2]) 2 am_q107 rfl ?_
    by_cases k5 : i2 = (0 : Int32)
    · replace H := H.1 k5
      refine ev_s (pc' := 60) (loc' := [.ref 6, .int i1, .int i2, .ref (112 + (Int32.toNatClampNeg i1))]) (st' := []) (h1 := h1) am_q107 rfl rfl rfl (by rw [k5]; rfl) ?_
      refine ev_p (pc' := 61) (loc' := [.ref 6, .int i1, .int i2, .ref (112 + (Int32.toNatClampNeg i1))]) (st' := [.ref (112 + (Int32.toNatClampNeg i1))]) 1 am_q107 rfl ?_
      refine ev_s (pc' := 64) (loc' := [.ref 6, .int i1, .int i2, .ref (112 + (Int32.toNatClampNeg i1))]) (st' := [.int (am_gi h1 (112 + (Int32.toNatClampNeg i1)) 0)]) (h1 := h1) am_q107 rfl rfl rfl (if_pos (e := none) (lk_home Ly (am_in_lt2 g4))) ?_
      exact ev_r (v := some (.int (am_gi h1 (112 + (Int32.toNatClampNeg i1)) 0))) am_q107 rfl rfl rfl rfl H
    replace H := H.2
    by_cases k6 : i2 = (1 : Int32)
    · replace H := H.1 k6
      refine ev_s (pc' := 65) (loc' := [.ref 6, .int i1, .int i2, .ref (112 + (Int32.toNatClampNeg i1))]) (st' := []) (h1 := h1) am_q107 rfl rfl rfl (by rw [k6]; rfl) ?_
      refine ev_p (pc' := 66) (loc' := [.ref 6, .int i1, .int i2, .ref (112 + (Int32.toNatClampNeg i1))]) (st' := [.ref (112 + (Int32.toNatClampNeg i1))]) 1 am_q107 rfl ?_
      refine ev_s (pc' := 69) (loc' := [.ref 6, .int i1, .int i2, .ref (112 + (Int32.toNatClampNeg i1))]) (st' := [.int (am_gi h1 (112 + (Int32.toNatClampNeg i1)) 1)]) (h1 := h1) am_q107 rfl rfl rfl (if_pos (e := none) (lk_home Ly (am_in_lt2 g4))) ?_
      exact ev_r (v := some (.int (am_gi h1 (112 + (Int32.toNatClampNeg i1)) 1))) am_q107 rfl rfl rfl rfl H
    replace H := H.2
    by_cases k7 : i2 = (2 : Int32)
    · replace H := H.1 k7
      refine ev_s (pc' := 70) (loc' := [.ref 6, .int i1, .int i2, .ref (112 + (Int32.toNatClampNeg i1))]) (st' := []) (h1 := h1) am_q107 rfl rfl rfl (by rw [k7]; rfl) ?_
      refine ev_p (pc' := 71) (loc' := [.ref 6, .int i1, .int i2, .ref (112 + (Int32.toNatClampNeg i1))]) (st' := [.ref (112 + (Int32.toNatClampNeg i1))]) 1 am_q107 rfl ?_
      refine ev_s (pc' := 74) (loc' := [.ref 6, .int i1, .int i2, .ref (112 + (Int32.toNatClampNeg i1))]) (st' := [.int (am_gi h1 (112 + (Int32.toNatClampNeg i1)) 2)]) (h1 := h1) am_q107 rfl rfl rfl (if_pos (e := none) (lk_home Ly (am_in_lt2 g4))) ?_
      exact ev_r (v := some (.int (am_gi h1 (112 + (Int32.toNatClampNeg i1)) 2))) am_q107 rfl rfl rfl rfl H
    replace H := H.2
    by_cases k11 : i2 = (3 : Int32)
    · replace H := H.1 k11
      refine ev_s (pc' := 75) (loc' := [.ref 6, .int i1, .int i2, .ref (112 + (Int32.toNatClampNeg i1))]) (st' := []) (h1 := h1) am_q107 rfl rfl rfl (by rw [k11]; rfl) ?_
      refine ev_p (pc' := 77) (loc' := [.ref 6, .int i1, .int i2, .ref (112 + (Int32.toNatClampNeg i1))]) (st' := [.int i1, .ref 6]) 2 am_q107 rfl ?_
      refine ev_c (vs := [.ref 6, .int i1]) (rest := []) 147 am_q107 rfl rfl rfl rfl rfl rfl rfl rfl rfl rfl rfl rfl (Or.inr (congrArg some (lk6 Ly))) (Cl.mono H (Nat.le_refl _) (fun r9 h8 H => ?_))
      obtain ⟨x10, rfl, Ly, H⟩ := H
      refine ev_jz (t := 87) am_q107 rfl rfl (fun hq => ?_) (fun hq => ?_)
      · replace H := H.1 hq
        refine ev_p (pc' := 88) (loc' := [.ref 6, .int i1, .int i2, .ref (112 + (Int32.toNatClampNeg i1))]) (st' := [.int (0 : Int32)]) 1 am_q107 rfl ?_
        exact ev_r (v := some (.int (0 : Int32))) am_q107 rfl rfl rfl rfl H
      · replace H := H.2 hq
        refine ev_p (pc' := 88) (loc' := [.ref 6, .int i1, .int i2, .ref (112 + (Int32.toNatClampNeg i1))]) (st' := [.int (1 : Int32)]) 2 am_q107 rfl ?_
        exact ev_r (v := some (.int (1 : Int32))) am_q107 rfl rfl rfl rfl H
    replace H := H.2
    by_cases k15 : i2 = (4 : Int32)
    · replace H := H.1 k15
      refine ev_s (pc' := 89) (loc' := [.ref 6, .int i1, .int i2, .ref (112 + (Int32.toNatClampNeg i1))]) (st' := []) (h1 := h1) am_q107 rfl rfl rfl (by rw [k15]; rfl) ?_
      refine ev_p (pc' := 91) (loc' := [.ref 6, .int i1, .int i2, .ref (112 + (Int32.toNatClampNeg i1))]) (st' := [.int i1, .ref 6]) 2 am_q107 rfl ?_
      refine ev_c (vs := [.ref 6, .int i1]) (rest := []) 159 am_q107 rfl rfl rfl rfl rfl rfl rfl rfl rfl rfl rfl rfl (Or.inr (congrArg some (lk6 Ly))) (Cl.mono H (Nat.le_refl _) (fun r13 h12 H => ?_))
      obtain ⟨x14, rfl, Ly, H⟩ := H
      exact ev_r (v := some (.int x14)) am_q107 rfl rfl rfl rfl H
    replace H := H.2
    by_cases k16 : i2 = (5 : Int32)
    · replace H := H.1 k16
      refine ev_s (pc' := 95) (loc' := [.ref 6, .int i1, .int i2, .ref (112 + (Int32.toNatClampNeg i1))]) (st' := []) (h1 := h1) am_q107 rfl rfl rfl (by rw [k16]; rfl) ?_
      refine ev_p (pc' := 96) (loc' := [.ref 6, .int i1, .int i2, .ref (112 + (Int32.toNatClampNeg i1))]) (st' := [.ref (112 + (Int32.toNatClampNeg i1))]) 1 am_q107 rfl ?_
      refine ev_s (pc' := 99) (loc' := [.ref 6, .int i1, .int i2, .ref (112 + (Int32.toNatClampNeg i1))]) (st' := [.int (am_gi h1 (112 + (Int32.toNatClampNeg i1)) 3)]) (h1 := h1) am_q107 rfl rfl rfl (if_pos (e := none) (lk_home Ly (am_in_lt2 g4))) ?_
      refine ev_jz (t := 106) am_q107 rfl rfl (fun hq => ?_) (fun hq => ?_)
      · replace H := H.1 hq
        refine ev_p (pc' := 107) (loc' := [.ref 6, .int i1, .int i2, .ref (112 + (Int32.toNatClampNeg i1))]) (st' := [.int (0 : Int32)]) 1 am_q107 rfl ?_
        exact ev_r (v := some (.int (0 : Int32))) am_q107 rfl rfl rfl rfl H
      · replace H := H.2 hq
        refine ev_p (pc' := 107) (loc' := [.ref 6, .int i1, .int i2, .ref (112 + (Int32.toNatClampNeg i1))]) (st' := [.int (1 : Int32)]) 2 am_q107 rfl ?_
        exact ev_r (v := some (.int (1 : Int32))) am_q107 rfl rfl rfl rfl H
    replace H := H.2
    by_cases k20 : i2 = (6 : Int32)
    · replace H := H.1 k20
      refine ev_s (pc' := 108) (loc' := [.ref 6, .int i1, .int i2, .ref (112 + (Int32.toNatClampNeg i1))]) (st' := []) (h1 := h1) am_q107 rfl rfl rfl (by rw [k20]; rfl) ?_
      refine ev_p (pc' := 109) (loc' := [.ref 6, .int i1, .int i2, .ref (112 + (Int32.toNatClampNeg i1))]) (st' := [.ref 6]) 1 am_q107 rfl ?_
      refine ev_s (pc' := 112) (loc' := [.ref 6, .int i1, .int i2, .ref (112 + (Int32.toNatClampNeg i1))]) (st' := [.ref 9]) (h1 := h1) am_q107 rfl rfl rfl (am_gf2 (lk6 Ly) (lr6_5 Ly)) ?_
      refine ev_p (pc' := 114) (loc' := [.ref 6, .int i1, .int i2, .ref (112 + (Int32.toNatClampNeg i1))]) (st' := [.ref 6, .int i1, .ref 9]) 2 am_q107 rfl ?_
      refine ev_s (pc' := 117) (loc' := [.ref 6, .int i1, .int i2, .ref (112 + (Int32.toNatClampNeg i1))]) (st' := [.int (am_gi h1 6 0), .int i1, .ref 9]) (h1 := h1) am_q107 rfl rfl rfl (if_pos (e := none) (lk6 Ly)) ?_
      refine ev_c (vs := [.ref 9, .int i1, .int (am_gi h1 6 0)]) (rest := []) 58 am_q107 rfl rfl rfl rfl rfl rfl rfl rfl rfl rfl rfl rfl (Or.inr (congrArg some (lk9 Ly))) (Cl.mono H (Nat.le_refl _) (fun r18 h17 H => ?_))
      obtain ⟨x19, rfl, Ly, H⟩ := H
      exact ev_r (v := some (.int x19)) am_q107 rfl rfl rfl rfl H
    replace H := H.2
    replace H := H ⟨k5, k6, k7, k11, k15, k16, k20⟩
    refine ev_s (pc' := 121) (loc' := [.ref 6, .int i1, .int i2, .ref (112 + (Int32.toNatClampNeg i1))]) (st' := []) (h1 := h1) am_q107 rfl rfl rfl (am_tso (x := (i2).toInt) (by have z0 : (i2).toInt ≠ 0 := am_tn k5 (by decide); have z1 : (i2).toInt ≠ 1 := am_tn k6 (by decide); have z2 : (i2).toInt ≠ 2 := am_tn k7 (by decide); have z3 : (i2).toInt ≠ 3 := am_tn k11 (by decide); have z4 : (i2).toInt ≠ 4 := am_tn k15 (by decide); have z5 : (i2).toInt ≠ 5 := am_tn k16 (by decide); have z6 : (i2).toInt ≠ 6 := am_tn k20 (by decide); omega)) ?_
    refine ev_p (pc' := 123) (loc' := [.ref 6, .int i1, .int i2, .ref (112 + (Int32.toNatClampNeg i1))]) (st' := [.int (-2 : Int32)]) 1 am_q107 rfl ?_
    exact ev_r (v := some (.int (-2 : Int32))) am_q107 rfl rfl rfl rfl H
  · replace H := H.2 hq
    refine ev_p (pc' := 10) (loc' := [.ref 6, .int i1, .int i2, .null]) (st' := [.int (-2 : Int32)]) 1 am_q107 rfl ?_
    exact ev_r (v := some (.int (-2 : Int32))) am_q107 rfl rfl rfl rfl H
/-! 108: X11_memberTold -/
set_option maxRecDepth 20000 in
set_option maxHeartbeats 2000000 in
theorem ws108 {d : Nat}  (i1 : Int32) (i2 : Int32) {h : AH} {Q : Option Value → AH → Prop} (Ly : Lay h) (H : Cl d 139 [.ref 6, .int i1] h (fun r2 h1 => ∃ x3, r2 = some (.int x3) ∧ Lay h1 ∧ ((¬ x3 = (0 : Int32)) → am_in i1 24 ∧ (i2 = (0 : Int32) → Q (some (.int (am_gi h1 (124 + (Int32.toNatClampNeg i1)) 0))) h1) ∧ (i2 = (1 : Int32) → Q (some (.int (am_gi h1 (124 + (Int32.toNatClampNeg i1)) 1))) h1) ∧ (i2 = (2 : Int32) → Q (some (.int (am_gi h1 (124 + (Int32.toNatClampNeg i1)) 2))) h1) ∧ (i2 = (3 : Int32) → Q (some (.int (am_gi h1 (124 + (Int32.toNatClampNeg i1)) 3))) h1) ∧ (i2 = (4 : Int32) → Cl d 149 [.ref 6, .int i1] h1 (fun r10 h9 => ∃ x11, r10 = some (.int x11) ∧ Lay h9 ∧ Q (some (.int x11)) h9)) ∧ (i2 = (5 : Int32) → Cl d 262 [.int (am_gi h1 (124 + (Int32.toNatClampNeg i1)) 4)] h1 (fun r14 h13 => ∃ x15, r14 = some (.int x15) ∧ Lay h13 ∧ Q (some (.int x15)) h13)) ∧ (i2 = (6 : Int32) → Cl d 146 [.ref 6, .int i1] h1 (fun r18 h17 => ∃ x19, r18 = some (.int x19) ∧ Lay h17 ∧ (x19 = (0 : Int32) → Q (some (.int (0 : Int32))) h17) ∧ (¬ x19 = (0 : Int32) → Q (some (.int (1 : Int32))) h17))) ∧ (¬ i2 = (0 : Int32) ∧ ¬ i2 = (1 : Int32) ∧ ¬ i2 = (2 : Int32) ∧ ¬ i2 = (3 : Int32) ∧ ¬ i2 = (4 : Int32) ∧ ¬ i2 = (5 : Int32) ∧ ¬ i2 = (6 : Int32) → Q (some (.int (-2 : Int32))) h1)) ∧ (¬ (¬ x3 = (0 : Int32)) → Q (some (.int (-2 : Int32))) h1))) : Cl (d + 1) 108 [.ref 6, .int i1, .int i2] h Q := by
  show Ev (d + 1) 108 0 [.ref 6, .int i1, .int i2, .null] [] h Q
  refine ev_p (pc' := 2) (loc' := [.ref 6, .int i1, .int i2, .null]) (st' := [.int i1, .ref 6]) 2 am_q108 rfl ?_
  refine ev_c (vs := [.ref 6, .int i1]) (rest := []) 139 am_q108 rfl rfl rfl rfl rfl rfl rfl rfl rfl rfl rfl rfl (Or.inr (congrArg some (lk6 Ly))) (Cl.mono H (Nat.le_refl _) (fun r2 h1 H => ?_))
  obtain ⟨x3, rfl, Ly, H⟩ := H
  refine ev_jz (t := 11) am_q108 rfl rfl (fun hq => ?_) (fun hq => ?_)
  · replace H := H.1 hq
    refine ev_p (pc' := 12) (loc' := [.ref 6, .int i1, .int i2, .null]) (st' := [.ref 6]) 1 am_q108 rfl ?_
    refine ev_s (pc' := 15) (loc' := [.ref 6, .int i1, .int i2, .null]) (st' := [.ref 8]) (h1 := h1) am_q108 rfl rfl rfl (am_gf2 (lk6 Ly) (lr6_3 Ly)) ?_
    refine ev_p (pc' := 16) (loc' := [.ref 6, .int i1, .int i2, .null]) (st' := [.int i1, .ref 8]) 1 am_q108 rfl ?_
    obtain ⟨g4, H⟩ := H
    refine ev_s (pc' := 17) (loc' := [.ref 6, .int i1, .int i2, .null]) (st' := [.ref (124 + (Int32.toNatClampNeg i1))]) (h1 := h1) am_q108 rfl rfl rfl (am_xa (am_rng (lk8 Ly) (by decide)) (am_inl (ln8 Ly) g4) (lr_member Ly (am_in_lt2 g4))) ?_
    refine ev_p (pc' := 19) (loc' := [.ref 6, .int i1, .int i2, .ref (124 + (Int32.toNatClampNeg i1))]) (st' := [.int i2]) 2 am_q108 rfl ?_
    by_cases k5 : i2 = (0 : Int32)
    · replace H := H.1 k5
      refine ev_s (pc' := 60) (loc' := [.ref 6, .int i1, .int i2, .ref (124 + (Int32.toNatClampNeg i1))]) (st' := []) (h1 := h1) am_q108 rfl rfl rfl (by rw [k5]; rfl) ?_
      refine ev_p (pc' := 61) (loc' := [.ref 6, .int i1, .int i2, .ref (124 + (Int32.toNatClampNeg i1))]) (st' := [.ref (124 + (Int32.toNatClampNeg i1))]) 1 am_q108 rfl ?_
      refine ev_s (pc' := 64) (loc' := [.ref 6, .int i1, .int i2, .ref (124 + (Int32.toNatClampNeg i1))]) (st' := [.int (am_gi h1 (124 + (Int32.toNatClampNeg i1)) 0)]) (h1 := h1) am_q108 rfl rfl rfl (if_pos (e := none) (lk_member Ly (am_in_lt2 g4))) ?_
      exact ev_r (v := some (.int (am_gi h1 (124 + (Int32.toNatClampNeg i1)) 0))) am_q108 rfl rfl rfl rfl H
    replace H := H.2
    by_cases k6 : i2 = (1 : Int32)
    · replace H := H.1 k6
      refine ev_s (pc' := 65) (loc' := [.ref 6, .int i1, .int i2, .ref (124 + (Int32.toNatClampNeg i1))]) (st' := []) (h1 := h1) am_q108 rfl rfl rfl (by rw [k6]; rfl) ?_
      refine ev_p (pc' := 66) (loc' := [.ref 6, .int i1, .int i2, .ref (124 + (Int32.toNatClampNeg i1))]) (st' := [.ref (124 + (Int32.toNatClampNeg i1))]) 1 am_q108 rfl ?_
      refine ev_s (pc' := 69) (loc' := [.ref 6, .int i1, .int i2, .ref (124 + (Int32.toNatClampNeg i1))]) (st' := [.int (am_gi h1 (124 + (Int32.toNatClampNeg i1)) 1)]) (h1 := h1) am_q108 rfl rfl rfl (if_pos (e := none) (lk_member Ly (am_in_lt2 g4))) ?_
      exact ev_r (v := some (.int (am_gi h1 (124 + (Int32.toNatClampNeg i1)) 1))) am_q108 rfl rfl rfl rfl H
    replace H := H.2
    by_cases k7 : i2 = (2 : Int32)
    · replace H := H.1 k7
      refine ev_s (pc' := 70) (loc' := [.ref 6, .int i1, .int i2, .ref (124 + (Int32.toNatClampNeg i1))]) (st' := []) (h1 := h1) am_q108 rfl rfl rfl (by rw [k7]; rfl) ?_
      refine ev_p (pc' := 71) (loc' := [.ref 6, .int i1, .int i2, .ref (124 + (Int32.toNatClampNeg i1))]) (st' := [.ref (124 + (Int32.toNatClampNeg i1))]) 1 am_q108 rfl ?_
      refine ev_s (pc' := 74) (loc' := [.ref 6, .int i1, .int i2, .ref (124 + (Int32.toNatClampNeg i1))]) (st' := [.int (am_gi h1 (124 + (Int32.toNatClampNeg i1)) 2)]) (h1 := h1) am_q108 rfl rfl rfl (if_pos (e := none) (lk_member Ly (am_in_lt2 g4))) ?_
      exact ev_r (v := some (.int (am_gi h1 (124 + (Int32.toNatClampNeg i1)) 2))) am_q108 rfl rfl rfl rfl H
    replace H := H.2
    by_cases k8 : i2 = (3 : Int32)
    · replace H := H.1 k8
      refine ev_s (pc' := 75) (loc' := [.ref 6, .int i1, .int i2, .ref (124 + (Int32.toNatClampNeg i1))]) (st' := []) (h1 := h1) am_q108 rfl rfl rfl (by rw [k8]; rfl) ?_
      refine ev_p (pc' := 76) (loc' := [.ref 6, .int i1, .int i2, .ref (124 + (Int32.toNatClampNeg i1))]) (st' := [.ref (124 + (Int32.toNatClampNeg i1))]) 1 am_q108 rfl ?_
      refine ev_s (pc' := 79) (loc' := [.ref 6, .int i1, .int i2, .ref (124 + (Int32.toNatClampNeg i1))]) (st' := [.int (am_gi h1 (124 + (Int32.toNatClampNeg i1)) 3)]) (h1 := h1) am_q108 rfl rfl rfl (if_pos (e := none) (lk_member Ly (am_in_lt2 g4))) ?_
      exact ev_r (v := some (.int (am_gi h1 (124 + (Int32.toNatClampNeg i1)) 3))) am_q108 rfl rfl rfl rfl H
    replace H := H.2
    by_cases k12 : i2 = (4 : Int32)
    · replace H := H.1 k12
      refine ev_s (pc' := 80) (loc' := [.ref 6, .int i1, .int i2, .ref (124 + (Int32.toNatClampNeg i1))]) (st' := []) (h1 := h1) am_q108 rfl rfl rfl (by rw [k12]; rfl) ?_
      refine ev_p (pc' := 82) (loc' := [.ref 6, .int i1, .int i2, .ref (124 + (Int32.toNatClampNeg i1))]) (st' := [.int i1, .ref 6]) 2 am_q108 rfl ?_
      refine ev_c (vs := [.ref 6, .int i1]) (rest := []) 149 am_q108 rfl rfl rfl rfl rfl rfl rfl rfl rfl rfl rfl rfl (Or.inr (congrArg some (lk6 Ly))) (Cl.mono H (Nat.le_refl _) (fun r10 h9 H => ?_))
      obtain ⟨x11, rfl, Ly, H⟩ := H
      exact ev_r (v := some (.int x11)) am_q108 rfl rfl rfl rfl H
    replace H := H.2
    by_cases k16 : i2 = (5 : Int32)
    · replace H := H.1 k16
      refine ev_s (pc' := 86) (loc' := [.ref 6, .int i1, .int i2, .ref (124 + (Int32.toNatClampNeg i1))]) (st' := []) (h1 := h1) am_q108 rfl rfl rfl (by rw [k16]; rfl) ?_
      refine ev_p (pc' := 87) (loc' := [.ref 6, .int i1, .int i2, .ref (124 + (Int32.toNatClampNeg i1))]) (st' := [.ref (124 + (Int32.toNatClampNeg i1))]) 1 am_q108 rfl ?_
      refine ev_s (pc' := 90) (loc' := [.ref 6, .int i1, .int i2, .ref (124 + (Int32.toNatClampNeg i1))]) (st' := [.int (am_gi h1 (124 + (Int32.toNatClampNeg i1)) 4)]) (h1 := h1) am_q108 rfl rfl rfl (if_pos (e := none) (lk_member Ly (am_in_lt2 g4))) ?_
      refine ev_c (vs := [.int (am_gi h1 (124 + (Int32.toNatClampNeg i1)) 4)]) (rest := []) 262 am_q108 rfl rfl rfl rfl rfl rfl rfl rfl rfl rfl rfl rfl (Or.inl rfl) (Cl.mono H (Nat.le_refl _) (fun r14 h13 H => ?_))
      obtain ⟨x15, rfl, Ly, H⟩ := H
      exact ev_r (v := some (.int x15)) am_q108 rfl rfl rfl rfl H
    replace H := H.2
    by_cases k20 : i2 = (6 : Int32)
    · replace H := H.1 k20
      refine ev_s (pc' := 94) (loc' := [.ref 6, .int i1, .int i2, .ref (124 + (Int32.toNatClampNeg i1))]) (st' := []) (h1 := h1) am_q108 rfl rfl rfl (by rw [k20]; rfl) ?_
      refine ev_p (pc' := 96) (loc' := [.ref 6, .int i1, .int i2, .ref (124 + (Int32.toNatClampNeg i1))]) (st' := [.int i1, .ref 6]) 2 am_q108 rfl ?_
      refine ev_c (vs := [.ref 6, .int i1]) (rest := []) 146 am_q108 rfl rfl rfl rfl rfl rfl rfl rfl rfl rfl rfl rfl (Or.inr (congrArg some (lk6 Ly))) (Cl.mono H (Nat.le_refl _) (fun r18 h17 H => ?_))
      obtain ⟨x19, rfl, Ly, H⟩ := H
      refine ev_jz (t := 106) am_q108 rfl rfl (fun hq => ?_) (fun hq => ?_)
      · replace H := H.1 hq
        refine ev_p (pc' := 107) (loc' := [.ref 6, .int i1, .int i2, .ref (124 + (Int32.toNatClampNeg i1))]) (st' := [.int (0 : Int32)]) 1 am_q108 rfl ?_
        exact ev_r (v := some (.int (0 : Int32))) am_q108 rfl rfl rfl rfl H
      · replace H := H.2 hq
        refine ev_p (pc' := 107) (loc' := [.ref 6, .int i1, .int i2, .ref (124 + (Int32.toNatClampNeg i1))]) (st' := [.int (1 : Int32)]) 2 am_q108 rfl ?_
        exact ev_r (v := some (.int (1 : Int32))) am_q108 rfl rfl rfl rfl H
    replace H := H.2
    replace H := H ⟨k5, k6, k7, k8, k12, k16, k20⟩
    refine ev_s (pc' := 108) (loc' := [.ref 6, .int i1, .int i2, .ref (124 + (Int32.toNatClampNeg i1))]) (st' := []) (h1 := h1) am_q108 rfl rfl rfl (am_tso (x := (i2).toInt) (by have z0 : (i2).toInt ≠ 0 := am_tn k5 (by decide); have z1 : (i2).toInt ≠ 1 := am_tn k6 (by decide); have z2 : (i2).toInt ≠ 2 := am_tn k7 (by decide); have z3 : (i2).toInt ≠ 3 := am_tn k8 (by decide); have z4 : (i2).toInt ≠ 4 := am_tn k12 (by decide); have z5 : (i2).toInt ≠ 5 := am_tn k16 (by decide); have z6 : (i2).toInt ≠ 6 := am_tn k20 (by decide); omega)) ?_
    refine ev_p (pc' := 110) (loc' := [.ref 6, .int i1, .int i2, .ref (124 + (Int32.toNatClampNeg i1))]) (st' := [.int (-2 : Int32)]) 1 am_q108 rfl ?_
    exact ev_r (v := some (.int (-2 : Int32))) am_q108 rfl rfl rfl rfl H
  · replace H := H.2 hq
    refine ev_p (pc' := 10) (loc' := [.ref 6, .int i1, .int i2, .null]) (st' := [.int (-2 : Int32)]) 1 am_q108 rfl ?_
    exact ev_r (v := some (.int (-2 : Int32))) am_q108 rfl rfl rfl rfl H
/-! 109: X11_feed -/
set_option maxRecDepth 20000 in
set_option maxHeartbeats 2000000 in
theorem ws109 {d : Nat}  (i1 : Int32) (l2 : Int64) {h : AH} {Q : Option Value → AH → Prop} (Ly : Lay h) (H : (i1 < (1 : Int32) → Q (some (.int (-2 : Int32))) h) ∧ (¬ i1 < (1 : Int32) → (i1 ≤ (8 : Int32) → (((am_gi h 71 1) + i1) ≤ (400 : Int32) → Ev (d + 1) 109 35 [.ref 6, .int i1, .long l2, .null, .int (0 : Int32)] [] h Q) ∧ (¬ ((am_gi h 71 1) + i1) ≤ (400 : Int32) → Q (some (.int (-4 : Int32))) h)) ∧ (¬ i1 ≤ (8 : Int32) → Q (some (.int (-2 : Int32))) h))) : Cl (d + 1) 109 [.ref 6, .int i1, .long l2] h Q := by
  show Ev (d + 1) 109 0 [.ref 6, .int i1, .long l2, .null, .null] [] h Q
  refine ev_p (pc' := 2) (loc' := [.ref 6, .int i1, .long l2, .null, .null]) (st' := [.int (1 : Int32), .int i1]) 2 am_q109 rfl ?_
  refine ev_jc (t := 11) am_q109 rfl rfl (fun hq => ?_) (fun hq => ?_)
  · replace H := H.1 hq
    refine ev_p (pc' := 13) (loc' := [.null, .null, .null, .null, .null]) (st' := [.int (-2 : Int32)]) 1 am_q109 rfl ?_
    exact ev_r (v := some (.int (-2 : Int32))) am_q109 rfl rfl rfl rfl H
  · replace H := H.2 hq
    refine ev_p (pc' := 8) (loc' := [.ref 6, .int i1, .long l2, .null, .null]) (st' := [.int (8 : Int32), .int i1]) 2 am_q109 rfl ?_
    refine ev_jc (t := 14) am_q109 rfl rfl (fun hq => ?_) (fun hq => ?_)
    · replace H := H.1 hq
      refine ev_p (pc' := 15) (loc' := [.ref 6, .int i1, .long l2, .null, .null]) (st' := [.ref 6]) 1 am_q109 rfl ?_
      refine ev_s (pc' := 18) (loc' := [.ref 6, .int i1, .long l2, .null, .null]) (st' := [.ref 71]) (h1 := h) am_q109 rfl rfl rfl (am_gf2 (lk6 Ly) (lr6_6 Ly)) ?_
      refine ev_s (pc' := 21) (loc' := [.ref 6, .int i1, .long l2, .null, .null]) (st' := [.int (am_gi h 71 1)]) (h1 := h) am_q109 rfl rfl rfl (if_pos (e := none) (lk71 Ly)) ?_
      refine ev_p (pc' := 26) (loc' := [.ref 6, .int i1, .long l2, .null, .null]) (st' := [.int (400 : Int32), .int ((am_gi h 71 1) + i1)]) 3 am_q109 rfl ?_
      refine ev_jc (t := 32) am_q109 rfl rfl (fun hq => ?_) (fun hq => ?_)
      · replace H := H.1 hq
        refine ev_p (pc' := 35) (loc' := [.ref 6, .int i1, .long l2, .null, .int (0 : Int32)]) (st' := []) 2 am_q109 rfl ?_
        exact ev_m (loc' := [.ref 6, .int i1, .long l2, .null, .int (0 : Int32)]) am_q109 rfl rfl H
      · replace H := H.2 hq
        refine ev_p (pc' := 31) (loc' := [.ref 6, .int i1, .long l2, .null, .null]) (st' := [.int (-4 : Int32)]) 1 am_q109 rfl ?_
        exact ev_r (v := some (.int (-4 : Int32))) am_q109 rfl rfl rfl rfl H
    · replace H := H.2 hq
      refine ev_p (pc' := 13) (loc' := [.null, .null, .null, .null, .null]) (st' := [.int (-2 : Int32)]) 1 am_q109 rfl ?_
      exact ev_r (v := some (.int (-2 : Int32))) am_q109 rfl rfl rfl rfl H
set_option maxRecDepth 20000 in
set_option maxHeartbeats 2000000 in
theorem ws109_35 {d : Nat}  (i1 : Int32) (l2 : Int64) (i4 : Int32) {h : AH} {Q : Option Value → AH → Prop} (Ly : Lay h) (H : (i1 ≤ i4 → Q (some (.int (am_gi h 71 1))) h) ∧ (¬ i1 ≤ i4 → Cl d 31 [.ref 71, .int (Int64.toInt32 ((Int64.toUInt64 l2 >>> ((Int32.toInt64 ((8 : Int32) * i4)).toUInt64 &&& Int64.toUInt64 63)).toInt64))] h (fun r2 h1 => r2 = none ∧ Lay h1 ∧ Ev (d + 1) 109 35 [.ref 6, .int i1, .long l2, .null, .int (i4 + (1 : Int32))] [] h1 Q))) : Ev (d + 1) 109 35 [.ref 6, .int i1, .long l2, .null, .int i4] [] h Q := by
  refine ev_p (pc' := 38) (loc' := [.ref 6, .int i1, .long l2, .null, .int i4]) (st' := [.int i1, .int i4]) 2 am_q109 rfl ?_
  refine ev_jc (t := 62) am_q109 rfl rfl (fun hq => ?_) (fun hq => ?_)
  · replace H := H.1 hq
    refine ev_p (pc' := 63) (loc' := [.ref 6, .int i1, .long l2, .null, .int i4]) (st' := [.ref 6]) 1 am_q109 rfl ?_
    refine ev_s (pc' := 66) (loc' := [.ref 6, .int i1, .long l2, .null, .int i4]) (st' := [.ref 71]) (h1 := h) am_q109 rfl rfl rfl (am_gf2 (lk6 Ly) (lr6_6 Ly)) ?_
    refine ev_s (pc' := 69) (loc' := [.ref 6, .int i1, .long l2, .null, .int i4]) (st' := [.int (am_gi h 71 1)]) (h1 := h) am_q109 rfl rfl rfl (if_pos (e := none) (lk71 Ly)) ?_
    exact ev_r (v := some (.int (am_gi h 71 1))) am_q109 rfl rfl rfl rfl H
  · replace H := H.2 hq
    refine ev_p (pc' := 42) (loc' := [.ref 6, .int i1, .long l2, .null, .int i4]) (st' := [.ref 6]) 1 am_q109 rfl ?_
    refine ev_s (pc' := 45) (loc' := [.ref 6, .int i1, .long l2, .null, .int i4]) (st' := [.ref 71]) (h1 := h) am_q109 rfl rfl rfl (am_gf2 (lk6 Ly) (lr6_6 Ly)) ?_
    refine ev_p (pc' := 53) (loc' := [.ref 6, .int i1, .long l2, .null, .int i4]) (st' := [.int (Int64.toInt32 ((Int64.toUInt64 l2 >>> ((Int32.toInt64 ((8 : Int32) * i4)).toUInt64 &&& Int64.toUInt64 63)).toInt64)), .ref 71]) 6 am_q109 rfl ?_
    refine ev_c (vs := [.ref 71, .int (Int64.toInt32 ((Int64.toUInt64 l2 >>> ((Int32.toInt64 ((8 : Int32) * i4)).toUInt64 &&& Int64.toUInt64 63)).toInt64))]) (rest := []) 31 am_q109 rfl rfl rfl rfl rfl rfl rfl rfl rfl rfl rfl rfl (Or.inr (congrArg some (lk71 Ly))) (Cl.mono H (Nat.le_refl _) (fun r2 h1 H => ?_))
    obtain ⟨rfl, Ly, H⟩ := H
    refine ev_p (pc' := 35) (loc' := [.ref 6, .int i1, .long l2, .null, .int (i4 + (1 : Int32))]) (st' := []) 2 am_q109 rfl ?_
    exact ev_m (loc' := [.ref 6, .int i1, .long l2, .null, .int (i4 + (1 : Int32))]) am_q109 rfl rfl H
/-! 110: X11_propose -/
set_option maxRecDepth 20000 in
set_option maxHeartbeats 2000000 in
theorem ws110 {d : Nat}   {h : AH} {Q : Option Value → AH → Prop} (Ly : Lay h) (H : ((am_gi h 6 9) < (12 : Int32) → Cl d 33 [.ref 71] h (fun r2 h1 => r2 = none ∧ Lay h1 ∧ ∀ h3, h3 = am_si h1 6 11 (am_gi h1 71 5) → ∀ h4, h4 = am_si h3 6 12 (am_gi h3 71 6) → ((¬ (am_gi h4 6 11) = (0 : Int32)) → Ev (d + 1) 110 74 [.ref 6] [] h4 Q) ∧ (¬ (¬ (am_gi h4 6 11) = (0 : Int32)) → am_in (am_gi h4 6 9) 12 ∧ Cl d 76 [.ref (148 + 4 * (Int32.toNatClampNeg (am_gi h4 6 9))), .ref 71] h4 (fun r7 h6 => r7 = none ∧ Lay h6 ∧ ∀ h8, h8 = am_si h6 6 9 ((am_gi h6 6 9) + (1 : Int32)) → Ev (d + 1) 110 74 [.ref 6] [] h8 Q)))) ∧ (¬ (am_gi h 6 9) < (12 : Int32) → Q (some (.int (-4 : Int32))) h)) : Cl (d + 1) 110 [.ref 6] h Q := by
  show Ev (d + 1) 110 0 [.ref 6] [] h Q
  refine ev_p (pc' := 1) (loc' := [.ref 6]) (st' := [.ref 6]) 1 am_q110 rfl ?_
  refine ev_s (pc' := 4) (loc' := [.ref 6]) (st' := [.int (am_gi h 6 9)]) (h1 := h) am_q110 rfl rfl rfl (if_pos (e := none) (lk6 Ly)) ?_
  refine ev_p (pc' := 6) (loc' := [.ref 6]) (st' := [.int (12 : Int32), .int (am_gi h 6 9)]) 1 am_q110 rfl ?_
  refine ev_jc (t := 12) am_q110 rfl rfl (fun hq => ?_) (fun hq => ?_)
  · replace H := H.1 hq
    refine ev_p (pc' := 13) (loc' := [.ref 6]) (st' := [.ref 6]) 1 am_q110 rfl ?_
    refine ev_s (pc' := 16) (loc' := [.ref 6]) (st' := [.ref 71]) (h1 := h) am_q110 rfl rfl rfl (am_gf2 (lk6 Ly) (lr6_6 Ly)) ?_
    refine ev_c (vs := [.ref 71]) (rest := []) 33 am_q110 rfl rfl rfl rfl rfl rfl rfl rfl rfl rfl rfl rfl (Or.inr (congrArg some (lk71 Ly))) (Cl.mono H (Nat.le_refl _) (fun r2 h1 H => ?_))
    obtain ⟨rfl, Ly, H⟩ := H
    refine ev_p (pc' := 21) (loc' := [.ref 6]) (st' := [.ref 6, .ref 6]) 2 am_q110 rfl ?_
    refine ev_s (pc' := 24) (loc' := [.ref 6]) (st' := [.ref 71, .ref 6]) (h1 := h1) am_q110 rfl rfl rfl (am_gf2 (lk6 Ly) (lr6_6 Ly)) ?_
    refine ev_s (pc' := 27) (loc' := [.ref 6]) (st' := [.int (am_gi h1 71 5), .ref 6]) (h1 := h1) am_q110 rfl rfl rfl (if_pos (e := none) (lk71 Ly)) ?_
    refine ev_s (pc' := 30) (loc' := [.ref 6]) (st' := []) (h1 := am_si h1 6 11 (am_gi h1 71 5)) am_q110 rfl rfl rfl (if_pos (e := none) (lk6 Ly)) ?_
    replace H := H _ rfl
    replace Ly : Lay (am_si h1 6 11 (am_gi h1 71 5)) := Ly.si _ _ _
    generalize am_si h1 6 11 (am_gi h1 71 5) = h3 at H Ly ⊢
    refine ev_p (pc' := 32) (loc' := [.ref 6]) (st' := [.ref 6, .ref 6]) 2 am_q110 rfl ?_
    refine ev_s (pc' := 35) (loc' := [.ref 6]) (st' := [.ref 71, .ref 6]) (h1 := h3) am_q110 rfl rfl rfl (am_gf2 (lk6 Ly) (lr6_6 Ly)) ?_
    refine ev_s (pc' := 38) (loc' := [.ref 6]) (st' := [.int (am_gi h3 71 6), .ref 6]) (h1 := h3) am_q110 rfl rfl rfl (if_pos (e := none) (lk71 Ly)) ?_
    refine ev_s (pc' := 41) (loc' := [.ref 6]) (st' := []) (h1 := am_si h3 6 12 (am_gi h3 71 6)) am_q110 rfl rfl rfl (if_pos (e := none) (lk6 Ly)) ?_
    replace H := H _ rfl
    replace Ly : Lay (am_si h3 6 12 (am_gi h3 71 6)) := Ly.si _ _ _
    generalize am_si h3 6 12 (am_gi h3 71 6) = h4 at H Ly ⊢
    refine ev_p (pc' := 42) (loc' := [.ref 6]) (st' := [.ref 6]) 1 am_q110 rfl ?_
    refine ev_s (pc' := 45) (loc' := [.ref 6]) (st' := [.int (am_gi h4 6 11)]) (h1 := h4) am_q110 rfl rfl rfl (if_pos (e := none) (lk6 Ly)) ?_
    refine ev_jz (t := 74) am_q110 rfl rfl (fun hq => ?_) (fun hq => ?_)
    · replace H := H.1 hq
      exact ev_m (loc' := [.ref 6]) am_q110 rfl rfl H
    · replace H := H.2 hq
      refine ev_p (pc' := 49) (loc' := [.ref 6]) (st' := [.ref 6]) 1 am_q110 rfl ?_
      refine ev_s (pc' := 52) (loc' := [.ref 6]) (st' := [.ref 78]) (h1 := h4) am_q110 rfl rfl rfl (am_gf2 (lk6 Ly) (lr6_8 Ly)) ?_
      refine ev_p (pc' := 53) (loc' := [.ref 6]) (st' := [.ref 6, .ref 78]) 1 am_q110 rfl ?_
      refine ev_s (pc' := 56) (loc' := [.ref 6]) (st' := [.int (am_gi h4 6 9), .ref 78]) (h1 := h4) am_q110 rfl rfl rfl (if_pos (e := none) (lk6 Ly)) ?_
      obtain ⟨g5, H⟩ := H
      refine ev_s (pc' := 57) (loc' := [.ref 6]) (st' := [.ref (148 + 4 * (Int32.toNatClampNeg (am_gi h4 6 9)))]) (h1 := h4) am_q110 rfl rfl rfl (am_xa (am_rng (lk78 Ly) (by decide)) (am_inl (ln78 Ly) g5) (lr_text Ly (am_in_lt2 g5))) ?_
      refine ev_p (pc' := 58) (loc' := [.ref 6]) (st' := [.ref 6, .ref (148 + 4 * (Int32.toNatClampNeg (am_gi h4 6 9)))]) 1 am_q110 rfl ?_
      refine ev_s (pc' := 61) (loc' := [.ref 6]) (st' := [.ref 71, .ref (148 + 4 * (Int32.toNatClampNeg (am_gi h4 6 9)))]) (h1 := h4) am_q110 rfl rfl rfl (am_gf2 (lk6 Ly) (lr6_6 Ly)) ?_
      refine ev_c (vs := [.ref (148 + 4 * (Int32.toNatClampNeg (am_gi h4 6 9))), .ref 71]) (rest := []) 76 am_q110 rfl rfl rfl rfl rfl rfl rfl rfl rfl rfl rfl rfl (Or.inr (congrArg some (lk_text Ly (am_in_lt2 g5)))) (Cl.mono H (Nat.le_refl _) (fun r7 h6 H => ?_))
      obtain ⟨rfl, Ly, H⟩ := H
      refine ev_p (pc' := 66) (loc' := [.ref 6]) (st' := [.ref 6, .ref 6]) 2 am_q110 rfl ?_
      refine ev_s (pc' := 69) (loc' := [.ref 6]) (st' := [.int (am_gi h6 6 9), .ref 6]) (h1 := h6) am_q110 rfl rfl rfl (if_pos (e := none) (lk6 Ly)) ?_
      refine ev_p (pc' := 71) (loc' := [.ref 6]) (st' := [.int ((am_gi h6 6 9) + (1 : Int32)), .ref 6]) 2 am_q110 rfl ?_
      refine ev_s (pc' := 74) (loc' := [.ref 6]) (st' := []) (h1 := am_si h6 6 9 ((am_gi h6 6 9) + (1 : Int32))) am_q110 rfl rfl rfl (if_pos (e := none) (lk6 Ly)) ?_
      replace H := H _ rfl
      replace Ly : Lay (am_si h6 6 9 ((am_gi h6 6 9) + (1 : Int32))) := Ly.si _ _ _
      generalize am_si h6 6 9 ((am_gi h6 6 9) + (1 : Int32)) = h8 at H Ly ⊢
      exact ev_m (loc' := [.ref 6]) am_q110 rfl rfl H
  · replace H := H.2 hq
    refine ev_p (pc' := 11) (loc' := [.ref 6]) (st' := [.int (-4 : Int32)]) 1 am_q110 rfl ?_
    exact ev_r (v := some (.int (-4 : Int32))) am_q110 rfl rfl rfl rfl H
set_option maxRecDepth 20000 in
set_option maxHeartbeats 2000000 in
theorem ws110_74 {d : Nat}   {h : AH} {Q : Option Value → AH → Prop} (Ly : Lay h) (H : Cl d 32 [.ref 71] h (fun r2 h1 => r2 = none ∧ Lay h1 ∧ ((¬ (am_gi h1 6 11) = (0 : Int32)) → Q (some (.int ((-10 : Int32) - (am_gi h1 6 11)))) h1) ∧ (¬ (¬ (am_gi h1 6 11) = (0 : Int32)) → Q (some (.int ((am_gi h1 6 9) - (1 : Int32)))) h1))) : Ev (d + 1) 110 74 [.ref 6] [] h Q := by
  refine ev_p (pc' := 75) (loc' := [.ref 6]) (st' := [.ref 6]) 1 am_q110 rfl ?_
  refine ev_s (pc' := 78) (loc' := [.ref 6]) (st' := [.ref 71]) (h1 := h) am_q110 rfl rfl rfl (am_gf2 (lk6 Ly) (lr6_6 Ly)) ?_
  refine ev_c (vs := [.ref 71]) (rest := []) 32 am_q110 rfl rfl rfl rfl rfl rfl rfl rfl rfl rfl rfl rfl (Or.inr (congrArg some (lk71 Ly))) (Cl.mono H (Nat.le_refl _) (fun r2 h1 H => ?_))
  obtain ⟨rfl, Ly, H⟩ := H
  refine ev_p (pc' := 82) (loc' := [.ref 6]) (st' := [.ref 6]) 1 am_q110 rfl ?_
  refine ev_s (pc' := 85) (loc' := [.ref 6]) (st' := [.int (am_gi h1 6 11)]) (h1 := h1) am_q110 rfl rfl rfl (if_pos (e := none) (lk6 Ly)) ?_
  refine ev_jz (t := 97) am_q110 rfl rfl (fun hq => ?_) (fun hq => ?_)
  · replace H := H.1 hq
    refine ev_p (pc' := 100) (loc' := [.ref 6]) (st' := [.ref 6, .int (-10 : Int32)]) 2 am_q110 rfl ?_
    refine ev_s (pc' := 103) (loc' := [.ref 6]) (st' := [.int (am_gi h1 6 11), .int (-10 : Int32)]) (h1 := h1) am_q110 rfl rfl rfl (if_pos (e := none) (lk6 Ly)) ?_
    refine ev_p (pc' := 104) (loc' := [.ref 6]) (st' := [.int ((-10 : Int32) - (am_gi h1 6 11))]) 1 am_q110 rfl ?_
    exact ev_r (v := some (.int ((-10 : Int32) - (am_gi h1 6 11)))) am_q110 rfl rfl rfl rfl H
  · replace H := H.2 hq
    refine ev_p (pc' := 89) (loc' := [.ref 6]) (st' := [.ref 6]) 1 am_q110 rfl ?_
    refine ev_s (pc' := 92) (loc' := [.ref 6]) (st' := [.int (am_gi h1 6 9)]) (h1 := h1) am_q110 rfl rfl rfl (if_pos (e := none) (lk6 Ly)) ?_
    refine ev_p (pc' := 104) (loc' := [.ref 6]) (st' := [.int ((am_gi h1 6 9) - (1 : Int32))]) 3 am_q110 rfl ?_
    exact ev_r (v := some (.int ((am_gi h1 6 9) - (1 : Int32)))) am_q110 rfl rfl rfl rfl H
/-! 111: X11_fault -/
set_option maxRecDepth 20000 in
set_option maxHeartbeats 2000000 in
theorem ws111 {d : Nat}  (i1 : Int32) {h : AH} {Q : Option Value → AH → Prop} (Ly : Lay h) (H : (i1 = (0 : Int32) → Q (some (.int (am_gi h 6 11))) h) ∧ (i1 = (1 : Int32) → Q (some (.int (am_gi h 6 12))) h) ∧ (¬ i1 = (0 : Int32) ∧ ¬ i1 = (1 : Int32) → Q (some (.int (-2 : Int32))) h)) : Cl d 111 [.ref 6, .int i1] h Q := by
  show Ev d 111 0 [.ref 6, .int i1] [] h Q
  refine ev_p (pc' := 1) (loc' := [.ref 6, .int i1]) (st' := [.int i1]) 1 am_q111 rfl ?_
  by_cases k1 : i1 = (0 : Int32)
  · replace H := H.1 k1
    refine ev_s (pc' := 28) (loc' := [.ref 6, .int i1]) (st' := []) (h1 := h) am_q111 rfl rfl rfl (by rw [k1]; rfl) ?_
    refine ev_p (pc' := 29) (loc' := [.ref 6, .int i1]) (st' := [.ref 6]) 1 am_q111 rfl ?_
    refine ev_s (pc' := 32) (loc' := [.ref 6, .int i1]) (st' := [.int (am_gi h 6 11)]) (h1 := h) am_q111 rfl rfl rfl (if_pos (e := none) (lk6 Ly)) ?_
    exact ev_r (v := some (.int (am_gi h 6 11))) am_q111 rfl rfl rfl rfl H
  replace H := H.2
  by_cases k2 : i1 = (1 : Int32)
  · replace H := H.1 k2
    refine ev_s (pc' := 33) (loc' := [.ref 6, .int i1]) (st' := []) (h1 := h) am_q111 rfl rfl rfl (by rw [k2]; rfl) ?_
    refine ev_p (pc' := 34) (loc' := [.ref 6, .int i1]) (st' := [.ref 6]) 1 am_q111 rfl ?_
    refine ev_s (pc' := 37) (loc' := [.ref 6, .int i1]) (st' := [.int (am_gi h 6 12)]) (h1 := h) am_q111 rfl rfl rfl (if_pos (e := none) (lk6 Ly)) ?_
    exact ev_r (v := some (.int (am_gi h 6 12))) am_q111 rfl rfl rfl rfl H
  replace H := H.2
  replace H := H ⟨k1, k2⟩
  refine ev_s (pc' := 38) (loc' := [.ref 6, .int i1]) (st' := []) (h1 := h) am_q111 rfl rfl rfl (by have z0 : (i1).toInt ≠ 0 := am_tn k1 (by decide); have z1 : (i1).toInt ≠ 1 := am_tn k2 (by decide); show some (am_tgt 1 (Op.lookupswitch.offset [(0, 27), (1, 32)] 37 (i1).toInt), _, _, _) = _; rw [show Op.lookupswitch.offset [(0, 27), (1, 32)] 37 (i1).toInt = 37 by simp [Op.lookupswitch.offset, Ne.symm z0, z0, Ne.symm z1, z1]]; rfl) ?_
  refine ev_p (pc' := 40) (loc' := [.ref 6, .int i1]) (st' := [.int (-2 : Int32)]) 1 am_q111 rfl ?_
  exact ev_r (v := some (.int (-2 : Int32))) am_q111 rfl rfl rfl rfl H
/-! 112: X11_vote -/
set_option maxRecDepth 20000 in
set_option maxHeartbeats 2000000 in
theorem ws112 {d : Nat}  (i1 : Int32) (i2 : Int32) (i3 : Int32) {h : AH} {Q : Option Value → AH → Prop} (Ly : Lay h) (H : Cl d 139 [.ref 6, .int i1] h (fun r2 h1 => ∃ x3, r2 = some (.int x3) ∧ Lay h1 ∧ (x3 = (0 : Int32) → Q (some (.int (-2 : Int32))) h1) ∧ (¬ x3 = (0 : Int32) → Cl d 140 [.ref 6, .int i2] h1 (fun r5 h4 => ∃ x6, r5 = some (.int x6) ∧ Lay h4 ∧ ((¬ x6 = (0 : Int32)) → am_in i2 12 ∧ Cl d 77 [.ref (148 + 4 * (Int32.toNatClampNeg i2))] h4 (fun r9 h8 => ∃ x10, r9 = some (.int x10) ∧ Lay h8 ∧ ((¬ x10 = (0 : Int32)) → Q (some (.int (-3 : Int32))) h8) ∧ (¬ (¬ x10 = (0 : Int32)) → ((¬ (am_gi h8 (148 + 4 * (Int32.toNatClampNeg i2)) 5) = (0 : Int32)) → Q (some (.int (-3 : Int32))) h8) ∧ (¬ (¬ (am_gi h8 (148 + 4 * (Int32.toNatClampNeg i2)) 5) = (0 : Int32)) → Cl d 146 [.ref 6, .int i1] h8 (fun r12 h11 => ∃ x13, r12 = some (.int x13) ∧ Lay h11 ∧ (x13 = (0 : Int32) → Q (some (.int (-3 : Int32))) h11) ∧ (¬ x13 = (0 : Int32) → Cl d 79 [.ref (148 + 4 * (Int32.toNatClampNeg i2)), .int i1] h11 (fun r15 h14 => ∃ x16, r15 = some (.int x16) ∧ Lay h14 ∧ (x16 = (0 : Int32) → Cl d 80 [.ref (148 + 4 * (Int32.toNatClampNeg i2)), .int i1, .int i3] h14 (fun r18 h17 => r18 = none ∧ Lay h17 ∧ Cl d 262 [.int (am_gi h17 (148 + 4 * (Int32.toNatClampNeg i2)) 3)] h17 (fun r20 h19 => ∃ x21, r20 = some (.int x21) ∧ Lay h19 ∧ Q (some (.int x21)) h19))) ∧ (¬ x16 = (0 : Int32) → Q (some (.int (-3 : Int32))) h14)))))))) ∧ (¬ (¬ x6 = (0 : Int32)) → Q (some (.int (-2 : Int32))) h4))))) : Cl (d + 1) 112 [.ref 6, .int i1, .int i2, .int i3] h Q := by
  show Ev (d + 1) 112 0 [.ref 6, .int i1, .int i2, .int i3, .null] [] h Q
  refine ev_p (pc' := 2) (loc' := [.ref 6, .int i1, .int i2, .int i3, .null]) (st' := [.int i1, .ref 6]) 2 am_q112 rfl ?_
  refine ev_c (vs := [.ref 6, .int i1]) (rest := []) 139 am_q112 rfl rfl rfl rfl rfl rfl rfl rfl rfl rfl rfl rfl (Or.inr (congrArg some (lk6 Ly))) (Cl.mono H (Nat.le_refl _) (fun r2 h1 H => ?_))
  obtain ⟨x3, rfl, Ly, H⟩ := H
  refine ev_jz (t := 16) am_q112 rfl rfl (fun hq => ?_) (fun hq => ?_)
  · replace H := H.1 hq
    refine ev_p (pc' := 18) (loc' := [.null, .null, .null, .null, .null]) (st' := [.int (-2 : Int32)]) 1 am_q112 rfl ?_
    exact ev_r (v := some (.int (-2 : Int32))) am_q112 rfl rfl rfl rfl H
  · replace H := H.2 hq
    refine ev_p (pc' := 10) (loc' := [.ref 6, .int i1, .int i2, .int i3, .null]) (st' := [.int i2, .ref 6]) 2 am_q112 rfl ?_
    refine ev_c (vs := [.ref 6, .int i2]) (rest := []) 140 am_q112 rfl rfl rfl rfl rfl rfl rfl rfl rfl rfl rfl rfl (Or.inr (congrArg some (lk6 Ly))) (Cl.mono H (Nat.le_refl _) (fun r5 h4 H => ?_))
    obtain ⟨x6, rfl, Ly, H⟩ := H
    refine ev_jz (t := 19) am_q112 rfl rfl (fun hq => ?_) (fun hq => ?_)
    · replace H := H.1 hq
      refine ev_p (pc' := 20) (loc' := [.ref 6, .int i1, .int i2, .int i3, .null]) (st' := [.ref 6]) 1 am_q112 rfl ?_
      refine ev_s (pc' := 23) (loc' := [.ref 6, .int i1, .int i2, .int i3, .null]) (st' := [.ref 78]) (h1 := h4) am_q112 rfl rfl rfl (am_gf2 (lk6 Ly) (lr6_8 Ly)) ?_
      refine ev_p (pc' := 24) (loc' := [.ref 6, .int i1, .int i2, .int i3, .null]) (st' := [.int i2, .ref 78]) 1 am_q112 rfl ?_
      obtain ⟨g7, H⟩ := H
      refine ev_s (pc' := 25) (loc' := [.ref 6, .int i1, .int i2, .int i3, .null]) (st' := [.ref (148 + 4 * (Int32.toNatClampNeg i2))]) (h1 := h4) am_q112 rfl rfl rfl (am_xa (am_rng (lk78 Ly) (by decide)) (am_inl (ln78 Ly) g7) (lr_text Ly (am_in_lt2 g7))) ?_
      refine ev_p (pc' := 29) (loc' := [.ref 6, .int i1, .int i2, .int i3, .ref (148 + 4 * (Int32.toNatClampNeg i2))]) (st' := [.ref (148 + 4 * (Int32.toNatClampNeg i2))]) 2 am_q112 rfl ?_
      refine ev_c (vs := [.ref (148 + 4 * (Int32.toNatClampNeg i2))]) (rest := []) 77 am_q112 rfl rfl rfl rfl rfl rfl rfl rfl rfl rfl rfl rfl (Or.inr (congrArg some (lk_text Ly (am_in_lt2 g7)))) (Cl.mono H (Nat.le_refl _) (fun r9 h8 H => ?_))
      obtain ⟨x10, rfl, Ly, H⟩ := H
      refine ev_jz (t := 60) am_q112 rfl rfl (fun hq => ?_) (fun hq => ?_)
      · replace H := H.1 hq
        refine ev_p (pc' := 62) (loc' := [.null, .null, .null, .null, .null]) (st' := [.int (-3 : Int32)]) 1 am_q112 rfl ?_
        exact ev_r (v := some (.int (-3 : Int32))) am_q112 rfl rfl rfl rfl H
      · replace H := H.2 hq
        refine ev_p (pc' := 37) (loc' := [.ref 6, .int i1, .int i2, .int i3, .ref (148 + 4 * (Int32.toNatClampNeg i2))]) (st' := [.ref (148 + 4 * (Int32.toNatClampNeg i2))]) 1 am_q112 rfl ?_
        refine ev_s (pc' := 40) (loc' := [.ref 6, .int i1, .int i2, .int i3, .ref (148 + 4 * (Int32.toNatClampNeg i2))]) (st' := [.int (am_gi h8 (148 + 4 * (Int32.toNatClampNeg i2)) 5)]) (h1 := h8) am_q112 rfl rfl rfl (if_pos (e := none) (lk_text Ly (am_in_lt2 g7))) ?_
        refine ev_jz (t := 60) am_q112 rfl rfl (fun hq => ?_) (fun hq => ?_)
        · replace H := H.1 hq
          refine ev_p (pc' := 62) (loc' := [.null, .null, .null, .null, .null]) (st' := [.int (-3 : Int32)]) 1 am_q112 rfl ?_
          exact ev_r (v := some (.int (-3 : Int32))) am_q112 rfl rfl rfl rfl H
        · replace H := H.2 hq
          refine ev_p (pc' := 45) (loc' := [.ref 6, .int i1, .int i2, .int i3, .ref (148 + 4 * (Int32.toNatClampNeg i2))]) (st' := [.int i1, .ref 6]) 2 am_q112 rfl ?_
          refine ev_c (vs := [.ref 6, .int i1]) (rest := []) 146 am_q112 rfl rfl rfl rfl rfl rfl rfl rfl rfl rfl rfl rfl (Or.inr (congrArg some (lk6 Ly))) (Cl.mono H (Nat.le_refl _) (fun r12 h11 H => ?_))
          obtain ⟨x13, rfl, Ly, H⟩ := H
          refine ev_jz (t := 60) am_q112 rfl rfl (fun hq => ?_) (fun hq => ?_)
          · replace H := H.1 hq
            refine ev_p (pc' := 62) (loc' := [.null, .null, .null, .null, .null]) (st' := [.int (-3 : Int32)]) 1 am_q112 rfl ?_
            exact ev_r (v := some (.int (-3 : Int32))) am_q112 rfl rfl rfl rfl H
          · replace H := H.2 hq
            refine ev_p (pc' := 54) (loc' := [.ref 6, .int i1, .int i2, .int i3, .ref (148 + 4 * (Int32.toNatClampNeg i2))]) (st' := [.int i1, .ref (148 + 4 * (Int32.toNatClampNeg i2))]) 2 am_q112 rfl ?_
            refine ev_c (vs := [.ref (148 + 4 * (Int32.toNatClampNeg i2)), .int i1]) (rest := []) 79 am_q112 rfl rfl rfl rfl rfl rfl rfl rfl rfl rfl rfl rfl (Or.inr (congrArg some (lk_text Ly (am_in_lt2 g7)))) (Cl.mono H (Nat.le_refl _) (fun r15 h14 H => ?_))
            obtain ⟨x16, rfl, Ly, H⟩ := H
            refine ev_jz (t := 63) am_q112 rfl rfl (fun hq => ?_) (fun hq => ?_)
            · replace H := H.1 hq
              refine ev_p (pc' := 67) (loc' := [.ref 6, .int i1, .int i2, .int i3, .ref (148 + 4 * (Int32.toNatClampNeg i2))]) (st' := [.int i3, .int i1, .ref (148 + 4 * (Int32.toNatClampNeg i2))]) 3 am_q112 rfl ?_
              refine ev_c (vs := [.ref (148 + 4 * (Int32.toNatClampNeg i2)), .int i1, .int i3]) (rest := []) 80 am_q112 rfl rfl rfl rfl rfl rfl rfl rfl rfl rfl rfl rfl (Or.inr (congrArg some (lk_text Ly (am_in_lt2 g7)))) (Cl.mono H (Nat.le_refl _) (fun r18 h17 H => ?_))
              obtain ⟨rfl, Ly, H⟩ := H
              refine ev_p (pc' := 72) (loc' := [.ref 6, .int i1, .int i2, .int i3, .ref (148 + 4 * (Int32.toNatClampNeg i2))]) (st' := [.ref (148 + 4 * (Int32.toNatClampNeg i2))]) 1 am_q112 rfl ?_
              refine ev_s (pc' := 75) (loc' := [.ref 6, .int i1, .int i2, .int i3, .ref (148 + 4 * (Int32.toNatClampNeg i2))]) (st' := [.int (am_gi h17 (148 + 4 * (Int32.toNatClampNeg i2)) 3)]) (h1 := h17) am_q112 rfl rfl rfl (if_pos (e := none) (lk_text Ly (am_in_lt2 g7))) ?_
              refine ev_c (vs := [.int (am_gi h17 (148 + 4 * (Int32.toNatClampNeg i2)) 3)]) (rest := []) 262 am_q112 rfl rfl rfl rfl rfl rfl rfl rfl rfl rfl rfl rfl (Or.inl rfl) (Cl.mono H (Nat.le_refl _) (fun r20 h19 H => ?_))
              obtain ⟨x21, rfl, Ly, H⟩ := H
              exact ev_r (v := some (.int x21)) am_q112 rfl rfl rfl rfl H
            · replace H := H.2 hq
              refine ev_p (pc' := 62) (loc' := [.null, .null, .null, .null, .null]) (st' := [.int (-3 : Int32)]) 1 am_q112 rfl ?_
              exact ev_r (v := some (.int (-3 : Int32))) am_q112 rfl rfl rfl rfl H
    · replace H := H.2 hq
      refine ev_p (pc' := 18) (loc' := [.null, .null, .null, .null, .null]) (st' := [.int (-2 : Int32)]) 1 am_q112 rfl ?_
      exact ev_r (v := some (.int (-2 : Int32))) am_q112 rfl rfl rfl rfl H
/-! 113: X11_carry -/
set_option maxRecDepth 20000 in
set_option maxHeartbeats 2000000 in
theorem ws113 {d : Nat}  (i1 : Int32) (i2 : Int32) {h : AH} {Q : Option Value → AH → Prop} (Ly : Lay h) (H : Cl d 140 [.ref 6, .int i1] h (fun r2 h1 => ∃ x3, r2 = some (.int x3) ∧ Lay h1 ∧ (x3 = (0 : Int32) → Q (some (.int (-2 : Int32))) h1) ∧ (¬ x3 = (0 : Int32) → (i2 < (am_gi h1 6 0) → Q (some (.int (-2 : Int32))) h1) ∧ (¬ i2 < (am_gi h1 6 0) → (i2 ≤ (2000000 : Int32) → am_in i1 12 ∧ Cl d 77 [.ref (148 + 4 * (Int32.toNatClampNeg i1))] h1 (fun r6 h5 => ∃ x7, r6 = some (.int x7) ∧ Lay h5 ∧ ((¬ x7 = (0 : Int32)) → Q (some (.int (-3 : Int32))) h5) ∧ (¬ (¬ x7 = (0 : Int32)) → ((am_gi h5 (148 + 4 * (Int32.toNatClampNeg i1)) 5) = (0 : Int32) → Cl d 262 [.int (am_gi h5 (148 + 4 * (Int32.toNatClampNeg i1)) 3)] h5 (fun r9 h8 => ∃ x10, r9 = some (.int x10) ∧ Lay h8 ∧ Cl d 156 [.ref 6] h8 (fun r12 h11 => ∃ y13, r12 = some (.long y13) ∧ Lay h11 ∧ ((0 : Int32) ≤ (lg_cmp (Int32.toInt64 x10) y13) → Cl d 154 [.ref 6, .int (am_gi h11 6 0)] h11 (fun r15 h14 => ∃ x16, r15 = some (.int x16) ∧ Lay h14 ∧ ∀ h17, h17 = am_si h14 6 10 ((am_gi h14 6 10) + (1 : Int32)) → Cl d 81 [.ref (148 + 4 * (Int32.toNatClampNeg i1)), .int (am_gi h17 6 10), .int i2, .int x16] h17 (fun r19 h18 => r19 = none ∧ Lay h18 ∧ Q (some (.int (1 : Int32))) h18))) ∧ (¬ (0 : Int32) ≤ (lg_cmp (Int32.toInt64 x10) y13) → Q (some (.int (0 : Int32))) h11)))) ∧ (¬ (am_gi h5 (148 + 4 * (Int32.toNatClampNeg i1)) 5) = (0 : Int32) → Q (some (.int (-3 : Int32))) h5)))) ∧ (¬ i2 ≤ (2000000 : Int32) → Q (some (.int (-2 : Int32))) h1))))) : Cl (d + 1) 113 [.ref 6, .int i1, .int i2] h Q := by
  show Ev (d + 1) 113 0 [.ref 6, .int i1, .int i2, .null, .null] [] h Q
  refine ev_p (pc' := 2) (loc' := [.ref 6, .int i1, .int i2, .null, .null]) (st' := [.int i1, .ref 6]) 2 am_q113 rfl ?_
  refine ev_c (vs := [.ref 6, .int i1]) (rest := []) 140 am_q113 rfl rfl rfl rfl rfl rfl rfl rfl rfl rfl rfl rfl (Or.inr (congrArg some (lk6 Ly))) (Cl.mono H (Nat.le_refl _) (fun r2 h1 H => ?_))
  obtain ⟨x3, rfl, Ly, H⟩ := H
  refine ev_jz (t := 23) am_q113 rfl rfl (fun hq => ?_) (fun hq => ?_)
  · replace H := H.1 hq
    refine ev_p (pc' := 25) (loc' := [.null, .null, .null, .null, .null]) (st' := [.int (-2 : Int32)]) 1 am_q113 rfl ?_
    exact ev_r (v := some (.int (-2 : Int32))) am_q113 rfl rfl rfl rfl H
  · replace H := H.2 hq
    refine ev_p (pc' := 10) (loc' := [.ref 6, .int i1, .int i2, .null, .null]) (st' := [.ref 6, .int i2]) 2 am_q113 rfl ?_
    refine ev_s (pc' := 13) (loc' := [.ref 6, .int i1, .int i2, .null, .null]) (st' := [.int (am_gi h1 6 0), .int i2]) (h1 := h1) am_q113 rfl rfl rfl (if_pos (e := none) (lk6 Ly)) ?_
    refine ev_jc (t := 23) am_q113 rfl rfl (fun hq => ?_) (fun hq => ?_)
    · replace H := H.1 hq
      refine ev_p (pc' := 25) (loc' := [.null, .null, .null, .null, .null]) (st' := [.int (-2 : Int32)]) 1 am_q113 rfl ?_
      exact ev_r (v := some (.int (-2 : Int32))) am_q113 rfl rfl rfl rfl H
    · replace H := H.2 hq
      refine ev_p (pc' := 20) (loc' := [.ref 6, .int i1, .int i2, .null, .null]) (st' := [.int (2000000 : Int32), .int i2]) 2 am_q113 rfl ?_
      refine ev_jc (t := 26) am_q113 rfl rfl (fun hq => ?_) (fun hq => ?_)
      · replace H := H.1 hq
        refine ev_p (pc' := 27) (loc' := [.ref 6, .int i1, .int i2, .null, .null]) (st' := [.ref 6]) 1 am_q113 rfl ?_
        refine ev_s (pc' := 30) (loc' := [.ref 6, .int i1, .int i2, .null, .null]) (st' := [.ref 78]) (h1 := h1) am_q113 rfl rfl rfl (am_gf2 (lk6 Ly) (lr6_8 Ly)) ?_
        refine ev_p (pc' := 31) (loc' := [.ref 6, .int i1, .int i2, .null, .null]) (st' := [.int i1, .ref 78]) 1 am_q113 rfl ?_
        obtain ⟨g4, H⟩ := H
        refine ev_s (pc' := 32) (loc' := [.ref 6, .int i1, .int i2, .null, .null]) (st' := [.ref (148 + 4 * (Int32.toNatClampNeg i1))]) (h1 := h1) am_q113 rfl rfl rfl (am_xa (am_rng (lk78 Ly) (by decide)) (am_inl (ln78 Ly) g4) (lr_text Ly (am_in_lt2 g4))) ?_
        refine ev_p (pc' := 34) (loc' := [.ref 6, .int i1, .int i2, .ref (148 + 4 * (Int32.toNatClampNeg i1)), .null]) (st' := [.ref (148 + 4 * (Int32.toNatClampNeg i1))]) 2 am_q113 rfl ?_
        refine ev_c (vs := [.ref (148 + 4 * (Int32.toNatClampNeg i1))]) (rest := []) 77 am_q113 rfl rfl rfl rfl rfl rfl rfl rfl rfl rfl rfl rfl (Or.inr (congrArg some (lk_text Ly (am_in_lt2 g4)))) (Cl.mono H (Nat.le_refl _) (fun r6 h5 H => ?_))
        obtain ⟨x7, rfl, Ly, H⟩ := H
        refine ev_jz (t := 47) am_q113 rfl rfl (fun hq => ?_) (fun hq => ?_)
        · replace H := H.1 hq
          refine ev_p (pc' := 49) (loc' := [.null, .null, .null, .null, .null]) (st' := [.int (-3 : Int32)]) 1 am_q113 rfl ?_
          exact ev_r (v := some (.int (-3 : Int32))) am_q113 rfl rfl rfl rfl H
        · replace H := H.2 hq
          refine ev_p (pc' := 41) (loc' := [.ref 6, .int i1, .int i2, .ref (148 + 4 * (Int32.toNatClampNeg i1)), .null]) (st' := [.ref (148 + 4 * (Int32.toNatClampNeg i1))]) 1 am_q113 rfl ?_
          refine ev_s (pc' := 44) (loc' := [.ref 6, .int i1, .int i2, .ref (148 + 4 * (Int32.toNatClampNeg i1)), .null]) (st' := [.int (am_gi h5 (148 + 4 * (Int32.toNatClampNeg i1)) 5)]) (h1 := h5) am_q113 rfl rfl rfl (if_pos (e := none) (lk_text Ly (am_in_lt2 g4))) ?_
          refine ev_jz (t := 50) am_q113 rfl rfl (fun hq => ?_) (fun hq => ?_)
          · replace H := H.1 hq
            refine ev_p (pc' := 51) (loc' := [.ref 6, .int i1, .int i2, .ref (148 + 4 * (Int32.toNatClampNeg i1)), .null]) (st' := [.ref (148 + 4 * (Int32.toNatClampNeg i1))]) 1 am_q113 rfl ?_
            refine ev_s (pc' := 54) (loc' := [.ref 6, .int i1, .int i2, .ref (148 + 4 * (Int32.toNatClampNeg i1)), .null]) (st' := [.int (am_gi h5 (148 + 4 * (Int32.toNatClampNeg i1)) 3)]) (h1 := h5) am_q113 rfl rfl rfl (if_pos (e := none) (lk_text Ly (am_in_lt2 g4))) ?_
            refine ev_c (vs := [.int (am_gi h5 (148 + 4 * (Int32.toNatClampNeg i1)) 3)]) (rest := []) 262 am_q113 rfl rfl rfl rfl rfl rfl rfl rfl rfl rfl rfl rfl (Or.inl rfl) (Cl.mono H (Nat.le_refl _) (fun r9 h8 H => ?_))
            obtain ⟨x10, rfl, Ly, H⟩ := H
            refine ev_p (pc' := 59) (loc' := [.ref 6, .int i1, .int i2, .ref (148 + 4 * (Int32.toNatClampNeg i1)), .null]) (st' := [.ref 6, .long (Int32.toInt64 x10)]) 2 am_q113 rfl ?_
            refine ev_c (vs := [.ref 6]) (rest := [.long (Int32.toInt64 x10)]) 156 am_q113 rfl rfl rfl rfl rfl rfl rfl rfl rfl rfl rfl rfl (Or.inr (congrArg some (lk6 Ly))) (Cl.mono H (Nat.le_refl _) (fun r12 h11 H => ?_))
            obtain ⟨y13, rfl, Ly, H⟩ := H
            refine ev_p (pc' := 63) (loc' := [.ref 6, .int i1, .int i2, .ref (148 + 4 * (Int32.toNatClampNeg i1)), .null]) (st' := [.int (lg_cmp (Int32.toInt64 x10) y13)]) 1 am_q113 rfl ?_
            refine ev_jz (t := 68) am_q113 rfl rfl (fun hq => ?_) (fun hq => ?_)
            · replace H := H.1 hq
              refine ev_p (pc' := 70) (loc' := [.ref 6, .int i1, .int i2, .ref (148 + 4 * (Int32.toNatClampNeg i1)), .null]) (st' := [.ref 6, .ref 6]) 2 am_q113 rfl ?_
              refine ev_s (pc' := 73) (loc' := [.ref 6, .int i1, .int i2, .ref (148 + 4 * (Int32.toNatClampNeg i1)), .null]) (st' := [.int (am_gi h11 6 0), .ref 6]) (h1 := h11) am_q113 rfl rfl rfl (if_pos (e := none) (lk6 Ly)) ?_
              refine ev_c (vs := [.ref 6, .int (am_gi h11 6 0)]) (rest := []) 154 am_q113 rfl rfl rfl rfl rfl rfl rfl rfl rfl rfl rfl rfl (Or.inr (congrArg some (lk6 Ly))) (Cl.mono H (Nat.le_refl _) (fun r15 h14 H => ?_))
              obtain ⟨x16, rfl, Ly, H⟩ := H
              refine ev_p (pc' := 80) (loc' := [.ref 6, .int i1, .int i2, .ref (148 + 4 * (Int32.toNatClampNeg i1)), .int x16]) (st' := [.ref 6, .ref 6]) 3 am_q113 rfl ?_
              refine ev_s (pc' := 83) (loc' := [.ref 6, .int i1, .int i2, .ref (148 + 4 * (Int32.toNatClampNeg i1)), .int x16]) (st' := [.int (am_gi h14 6 10), .ref 6]) (h1 := h14) am_q113 rfl rfl rfl (if_pos (e := none) (lk6 Ly)) ?_
              refine ev_p (pc' := 85) (loc' := [.ref 6, .int i1, .int i2, .ref (148 + 4 * (Int32.toNatClampNeg i1)), .int x16]) (st' := [.int ((am_gi h14 6 10) + (1 : Int32)), .ref 6]) 2 am_q113 rfl ?_
              refine ev_s (pc' := 88) (loc' := [.ref 6, .int i1, .int i2, .ref (148 + 4 * (Int32.toNatClampNeg i1)), .int x16]) (st' := []) (h1 := am_si h14 6 10 ((am_gi h14 6 10) + (1 : Int32))) am_q113 rfl rfl rfl (if_pos (e := none) (lk6 Ly)) ?_
              replace H := H _ rfl
              replace Ly : Lay (am_si h14 6 10 ((am_gi h14 6 10) + (1 : Int32))) := Ly.si _ _ _
              generalize am_si h14 6 10 ((am_gi h14 6 10) + (1 : Int32)) = h17 at H Ly ⊢
              refine ev_p (pc' := 90) (loc' := [.ref 6, .int i1, .int i2, .ref (148 + 4 * (Int32.toNatClampNeg i1)), .int x16]) (st' := [.ref 6, .ref (148 + 4 * (Int32.toNatClampNeg i1))]) 2 am_q113 rfl ?_
              refine ev_s (pc' := 93) (loc' := [.ref 6, .int i1, .int i2, .ref (148 + 4 * (Int32.toNatClampNeg i1)), .int x16]) (st' := [.int (am_gi h17 6 10), .ref (148 + 4 * (Int32.toNatClampNeg i1))]) (h1 := h17) am_q113 rfl rfl rfl (if_pos (e := none) (lk6 Ly)) ?_
              refine ev_p (pc' := 96) (loc' := [.ref 6, .int i1, .int i2, .ref (148 + 4 * (Int32.toNatClampNeg i1)), .int x16]) (st' := [.int x16, .int i2, .int (am_gi h17 6 10), .ref (148 + 4 * (Int32.toNatClampNeg i1))]) 2 am_q113 rfl ?_
              refine ev_c (vs := [.ref (148 + 4 * (Int32.toNatClampNeg i1)), .int (am_gi h17 6 10), .int i2, .int x16]) (rest := []) 81 am_q113 rfl rfl rfl rfl rfl rfl rfl rfl rfl rfl rfl rfl (Or.inr (congrArg some (lk_text Ly (am_in_lt2 g4)))) (Cl.mono H (Nat.le_refl _) (fun r19 h18 H => ?_))
              obtain ⟨rfl, Ly, H⟩ := H
              refine ev_p (pc' := 100) (loc' := [.ref 6, .int i1, .int i2, .ref (148 + 4 * (Int32.toNatClampNeg i1)), .int x16]) (st' := [.int (1 : Int32)]) 1 am_q113 rfl ?_
              exact ev_r (v := some (.int (1 : Int32))) am_q113 rfl rfl rfl rfl H
            · replace H := H.2 hq
              refine ev_p (pc' := 67) (loc' := [.ref 6, .int i1, .int i2, .ref (148 + 4 * (Int32.toNatClampNeg i1)), .null]) (st' := [.int (0 : Int32)]) 1 am_q113 rfl ?_
              exact ev_r (v := some (.int (0 : Int32))) am_q113 rfl rfl rfl rfl H
          · replace H := H.2 hq
            refine ev_p (pc' := 49) (loc' := [.null, .null, .null, .null, .null]) (st' := [.int (-3 : Int32)]) 1 am_q113 rfl ?_
            exact ev_r (v := some (.int (-3 : Int32))) am_q113 rfl rfl rfl rfl H
      · replace H := H.2 hq
        refine ev_p (pc' := 25) (loc' := [.null, .null, .null, .null, .null]) (st' := [.int (-2 : Int32)]) 1 am_q113 rfl ?_
        exact ev_r (v := some (.int (-2 : Int32))) am_q113 rfl rfl rfl rfl H
/-! 114: X11_tear -/
set_option maxRecDepth 20000 in
set_option maxHeartbeats 2000000 in
theorem ws114 {d : Nat}  (i1 : Int32) {h : AH} {Q : Option Value → AH → Prop} (Ly : Lay h) (H : Cl d 140 [.ref 6, .int i1] h (fun r2 h1 => ∃ x3, r2 = some (.int x3) ∧ Lay h1 ∧ (x3 = (0 : Int32) → Q (some (.int (-2 : Int32))) h1) ∧ (¬ x3 = (0 : Int32) → ((¬ i1 = (0 : Int32)) → am_in i1 12 ∧ ((am_gi h1 (148 + 4 * (Int32.toNatClampNeg i1)) 5) = (0 : Int32) → am_in i1 12 ∧ ∀ h6, h6 = am_si h1 (148 + 4 * (Int32.toNatClampNeg i1)) 5 (1 : Int32) → Ev (d + 1) 114 44 [.ref 6, .null, .int (1 : Int32), .int (0 : Int32)] [] h6 Q) ∧ (¬ (am_gi h1 (148 + 4 * (Int32.toNatClampNeg i1)) 5) = (0 : Int32) → Q (some (.int (-3 : Int32))) h1)) ∧ (¬ (¬ i1 = (0 : Int32)) → Q (some (.int (-2 : Int32))) h1)))) : Cl (d + 1) 114 [.ref 6, .int i1] h Q := by
  show Ev (d + 1) 114 0 [.ref 6, .int i1, .null, .null] [] h Q
  refine ev_p (pc' := 2) (loc' := [.ref 6, .int i1, .null, .null]) (st' := [.int i1, .ref 6]) 2 am_q114 rfl ?_
  refine ev_c (vs := [.ref 6, .int i1]) (rest := []) 140 am_q114 rfl rfl rfl rfl rfl rfl rfl rfl rfl rfl rfl rfl (Or.inr (congrArg some (lk6 Ly))) (Cl.mono H (Nat.le_refl _) (fun r2 h1 H => ?_))
  obtain ⟨x3, rfl, Ly, H⟩ := H
  refine ev_jz (t := 12) am_q114 rfl rfl (fun hq => ?_) (fun hq => ?_)
  · replace H := H.1 hq
    refine ev_p (pc' := 14) (loc' := [.null, .null, .null, .null]) (st' := [.int (-2 : Int32)]) 1 am_q114 rfl ?_
    exact ev_r (v := some (.int (-2 : Int32))) am_q114 rfl rfl rfl rfl H
  · replace H := H.2 hq
    refine ev_p (pc' := 9) (loc' := [.ref 6, .int i1, .null, .null]) (st' := [.int i1]) 1 am_q114 rfl ?_
    refine ev_jz (t := 15) am_q114 rfl rfl (fun hq => ?_) (fun hq => ?_)
    · replace H := H.1 hq
      refine ev_p (pc' := 16) (loc' := [.ref 6, .int i1, .null, .null]) (st' := [.ref 6]) 1 am_q114 rfl ?_
      refine ev_s (pc' := 19) (loc' := [.ref 6, .int i1, .null, .null]) (st' := [.ref 78]) (h1 := h1) am_q114 rfl rfl rfl (am_gf2 (lk6 Ly) (lr6_8 Ly)) ?_
      refine ev_p (pc' := 20) (loc' := [.ref 6, .int i1, .null, .null]) (st' := [.int i1, .ref 78]) 1 am_q114 rfl ?_
      obtain ⟨g4, H⟩ := H
      refine ev_s (pc' := 21) (loc' := [.ref 6, .int i1, .null, .null]) (st' := [.ref (148 + 4 * (Int32.toNatClampNeg i1))]) (h1 := h1) am_q114 rfl rfl rfl (am_xa (am_rng (lk78 Ly) (by decide)) (am_inl (ln78 Ly) g4) (lr_text Ly (am_in_lt2 g4))) ?_
      refine ev_s (pc' := 24) (loc' := [.ref 6, .int i1, .null, .null]) (st' := [.int (am_gi h1 (148 + 4 * (Int32.toNatClampNeg i1)) 5)]) (h1 := h1) am_q114 rfl rfl rfl (if_pos (e := none) (lk_text Ly (am_in_lt2 g4))) ?_
      refine ev_jz (t := 30) am_q114 rfl rfl (fun hq => ?_) (fun hq => ?_)
      · replace H := H.1 hq
        refine ev_p (pc' := 31) (loc' := [.ref 6, .int i1, .null, .null]) (st' := [.ref 6]) 1 am_q114 rfl ?_
        refine ev_s (pc' := 34) (loc' := [.ref 6, .int i1, .null, .null]) (st' := [.ref 78]) (h1 := h1) am_q114 rfl rfl rfl (am_gf2 (lk6 Ly) (lr6_8 Ly)) ?_
        refine ev_p (pc' := 35) (loc' := [.ref 6, .int i1, .null, .null]) (st' := [.int i1, .ref 78]) 1 am_q114 rfl ?_
        obtain ⟨g5, H⟩ := H
        refine ev_s (pc' := 36) (loc' := [.ref 6, .int i1, .null, .null]) (st' := [.ref (148 + 4 * (Int32.toNatClampNeg i1))]) (h1 := h1) am_q114 rfl rfl rfl (am_xa (am_rng (lk78 Ly) (by decide)) (am_inl (ln78 Ly) g5) (lr_text Ly (am_in_lt2 g5))) ?_
        refine ev_p (pc' := 37) (loc' := [.ref 6, .int i1, .null, .null]) (st' := [.int (1 : Int32), .ref (148 + 4 * (Int32.toNatClampNeg i1))]) 1 am_q114 rfl ?_
        refine ev_s (pc' := 40) (loc' := [.ref 6, .int i1, .null, .null]) (st' := []) (h1 := am_si h1 (148 + 4 * (Int32.toNatClampNeg i1)) 5 (1 : Int32)) am_q114 rfl rfl rfl (if_pos (e := none) ⟨lk_text Ly (am_in_lt2 g5), Or.inr rfl⟩) ?_
        replace H := H _ rfl
        replace Ly : Lay (am_si h1 (148 + 4 * (Int32.toNatClampNeg i1)) 5 (1 : Int32)) := Ly.si _ _ _
        generalize am_si h1 (148 + 4 * (Int32.toNatClampNeg i1)) 5 (1 : Int32) = h6 at H Ly ⊢
        refine ev_p (pc' := 44) (loc' := [.ref 6, .int i1, .int (1 : Int32), .int (0 : Int32)]) (st' := []) 4 am_q114 rfl ?_
        exact ev_m (loc' := [.ref 6, .null, .int (1 : Int32), .int (0 : Int32)]) am_q114 rfl rfl H
      · replace H := H.2 hq
        refine ev_p (pc' := 29) (loc' := [.ref 6, .int i1, .null, .null]) (st' := [.int (-3 : Int32)]) 1 am_q114 rfl ?_
        exact ev_r (v := some (.int (-3 : Int32))) am_q114 rfl rfl rfl rfl H
    · replace H := H.2 hq
      refine ev_p (pc' := 14) (loc' := [.null, .null, .null, .null]) (st' := [.int (-2 : Int32)]) 1 am_q114 rfl ?_
      exact ev_r (v := some (.int (-2 : Int32))) am_q114 rfl rfl rfl rfl H
set_option maxRecDepth 20000 in
set_option maxHeartbeats 2000000 in
theorem ws114_44 {d : Nat}  (i2 : Int32) (i3 : Int32) {h : AH} {Q : Option Value → AH → Prop} (Ly : Lay h) (H : ((12 : Int32) ≤ i3 → Q (some (.int i2)) h) ∧ (¬ (12 : Int32) ≤ i3 → Cl d 155 [.ref 6] h (fun r2 h1 => ∃ x3, r2 = some (.int x3) ∧ Lay h1 ∧ Ev (d + 1) 114 44 [.ref 6, .null, .int (i2 + x3), .int (i3 + (1 : Int32))] [] h1 Q))) : Ev (d + 1) 114 44 [.ref 6, .null, .int i2, .int i3] [] h Q := by
  refine ev_p (pc' := 47) (loc' := [.ref 6, .null, .int i2, .int i3]) (st' := [.int (12 : Int32), .int i3]) 2 am_q114 rfl ?_
  refine ev_jc (t := 63) am_q114 rfl rfl (fun hq => ?_) (fun hq => ?_)
  · replace H := H.1 hq
    refine ev_p (pc' := 64) (loc' := [.ref 6, .null, .int i2, .int i3]) (st' := [.int i2]) 1 am_q114 rfl ?_
    exact ev_r (v := some (.int i2)) am_q114 rfl rfl rfl rfl H
  · replace H := H.2 hq
    refine ev_p (pc' := 52) (loc' := [.ref 6, .null, .int i2, .int i3]) (st' := [.ref 6, .int i2]) 2 am_q114 rfl ?_
    refine ev_c (vs := [.ref 6]) (rest := [.int i2]) 155 am_q114 rfl rfl rfl rfl rfl rfl rfl rfl rfl rfl rfl rfl (Or.inr (congrArg some (lk6 Ly))) (Cl.mono H (Nat.le_refl _) (fun r2 h1 H => ?_))
    obtain ⟨x3, rfl, Ly, H⟩ := H
    refine ev_p (pc' := 44) (loc' := [.ref 6, .null, .int (i2 + x3), .int (i3 + (1 : Int32))]) (st' := []) 4 am_q114 rfl ?_
    exact ev_m (loc' := [.ref 6, .null, .int (i2 + x3), .int (i3 + (1 : Int32))]) am_q114 rfl rfl H
/-! 115: X11_textTold -/
set_option maxRecDepth 20000 in
set_option maxHeartbeats 2000000 in
theorem ws115 {d : Nat}  (i1 : Int32) (i2 : Int32) {h : AH} {Q : Option Value → AH → Prop} (Ly : Lay h) (H : Cl d 140 [.ref 6, .int i1] h (fun r2 h1 => ∃ x3, r2 = some (.int x3) ∧ Lay h1 ∧ ((¬ x3 = (0 : Int32)) → am_in i1 12 ∧ (i2 = (0 : Int32) → Cl d 77 [.ref (148 + 4 * (Int32.toNatClampNeg i1))] h1 (fun r6 h5 => ∃ x7, r6 = some (.int x7) ∧ Lay h5 ∧ (x7 = (0 : Int32) → Q (some (.int (0 : Int32))) h5) ∧ (¬ x7 = (0 : Int32) → Q (some (.int (1 : Int32))) h5))) ∧ (i2 = (1 : Int32) → ((am_gi h1 (148 + 4 * (Int32.toNatClampNeg i1)) 5) = (0 : Int32) → Q (some (.int (0 : Int32))) h1) ∧ (¬ (am_gi h1 (148 + 4 * (Int32.toNatClampNeg i1)) 5) = (0 : Int32) → Q (some (.int (1 : Int32))) h1)) ∧ (i2 = (2 : Int32) → Q (some (.int (am_gi h1 (148 + 4 * (Int32.toNatClampNeg i1)) 7))) h1) ∧ (i2 = (3 : Int32) → Cl d 262 [.int (am_gi h1 (148 + 4 * (Int32.toNatClampNeg i1)) 3)] h1 (fun r12 h11 => ∃ x13, r12 = some (.int x13) ∧ Lay h11 ∧ Q (some (.int x13)) h11)) ∧ (i2 = (4 : Int32) → Cl d 262 [.int (am_gi h1 (148 + 4 * (Int32.toNatClampNeg i1)) 4)] h1 (fun r16 h15 => ∃ x17, r16 = some (.int x17) ∧ Lay h15 ∧ Q (some (.int x17)) h15)) ∧ (i2 = (5 : Int32) → Q (some (.int (am_gi h1 (148 + 4 * (Int32.toNatClampNeg i1)) 8))) h1) ∧ (i2 = (6 : Int32) → ∃ b20, am_gr h1 (148 + 4 * (Int32.toNatClampNeg i1)) 0 = some b20 ∧ (100 ≤ am_kd h1 b20 ∧ am_kd h1 b20 ≤ 109) ∧ Q (some (.int (Int32.ofNat (am_ln h1 b20)))) h1) ∧ (¬ i2 = (0 : Int32) ∧ ¬ i2 = (1 : Int32) ∧ ¬ i2 = (2 : Int32) ∧ ¬ i2 = (3 : Int32) ∧ ¬ i2 = (4 : Int32) ∧ ¬ i2 = (5 : Int32) ∧ ¬ i2 = (6 : Int32) → Q (some (.int (-2 : Int32))) h1)) ∧ (¬ (¬ x3 = (0 : Int32)) → Q (some (.int (-2 : Int32))) h1))) : Cl (d + 1) 115 [.ref 6, .int i1, .int i2] h Q := by
  show Ev (d + 1) 115 0 [.ref 6, .int i1, .int i2, .null] [] h Q
  refine ev_p (pc' := 2) (loc' := [.ref 6, .int i1, .int i2, .null]) (st' := [.int i1, .ref 6]) 2 am_q115 rfl ?_
  refine ev_c (vs := [.ref 6, .int i1]) (rest := []) 140 am_q115 rfl rfl rfl rfl rfl rfl rfl rfl rfl rfl rfl rfl (Or.inr (congrArg some (lk6 Ly))) (Cl.mono H (Nat.le_refl _) (fun r2 h1 H => ?_))
  obtain ⟨x3, rfl, Ly, H⟩ := H
  refine ev_jz (t := 11) am_q115 rfl rfl (fun hq => ?_) (fun hq => ?_)
  · replace H := H.1 hq
    refine ev_p (pc' := 12) (loc' := [.ref 6, .int i1, .int i2, .null]) (st' := [.ref 6]) 1 am_q115 rfl ?_
    refine ev_s (pc' := 15) (loc' := [.ref 6, .int i1, .int i2, .null]) (st' := [.ref 78]) (h1 := h1) am_q115 rfl rfl rfl (am_gf2 (lk6 Ly) (lr6_8 Ly)) ?_
    refine ev_p (pc' := 16) (loc' := [.ref 6, .int i1, .int i2, .null]) (st' := [.int i1, .ref 78]) 1 am_q115 rfl ?_
    obtain ⟨g4, H⟩ := H
    refine ev_s (pc' := 17) (loc' := [.ref 6, .int i1, .int i2, .null]) (st' := [.ref (148 + 4 * (Int32.toNatClampNeg i1))]) (h1 := h1) am_q115 rfl rfl rfl (am_xa (am_rng (lk78 Ly) (by decide)) (am_inl (ln78 Ly) g4) (lr_text Ly (am_in_lt2 g4))) ?_
    refine ev_p (pc' := 19) (loc' := [.ref 6, .int i1, .int i2, .ref (148 + 4 * (Int32.toNatClampNeg i1))]) (st' := [.int i2]) 2 am_q115 rfl ?_
    by_cases k8 : i2 = (0 : Int32)
    · replace H := H.1 k8
      refine ev_s (pc' := 60) (loc' := [.ref 6, .int i1, .int i2, .ref (148 + 4 * (Int32.toNatClampNeg i1))]) (st' := []) (h1 := h1) am_q115 rfl rfl rfl (by rw [k8]; rfl) ?_
      refine ev_p (pc' := 61) (loc' := [.ref 6, .int i1, .int i2, .ref (148 + 4 * (Int32.toNatClampNeg i1))]) (st' := [.ref (148 + 4 * (Int32.toNatClampNeg i1))]) 1 am_q115 rfl ?_
      refine ev_c (vs := [.ref (148 + 4 * (Int32.toNatClampNeg i1))]) (rest := []) 77 am_q115 rfl rfl rfl rfl rfl rfl rfl rfl rfl rfl rfl rfl (Or.inr (congrArg some (lk_text Ly (am_in_lt2 g4)))) (Cl.mono H (Nat.le_refl _) (fun r6 h5 H => ?_))
      obtain ⟨x7, rfl, Ly, H⟩ := H
      refine ev_jz (t := 71) am_q115 rfl rfl (fun hq => ?_) (fun hq => ?_)
      · replace H := H.1 hq
        refine ev_p (pc' := 72) (loc' := [.ref 6, .int i1, .int i2, .ref (148 + 4 * (Int32.toNatClampNeg i1))]) (st' := [.int (0 : Int32)]) 1 am_q115 rfl ?_
        exact ev_r (v := some (.int (0 : Int32))) am_q115 rfl rfl rfl rfl H
      · replace H := H.2 hq
        refine ev_p (pc' := 72) (loc' := [.ref 6, .int i1, .int i2, .ref (148 + 4 * (Int32.toNatClampNeg i1))]) (st' := [.int (1 : Int32)]) 2 am_q115 rfl ?_
        exact ev_r (v := some (.int (1 : Int32))) am_q115 rfl rfl rfl rfl H
    replace H := H.2
    by_cases k9 : i2 = (1 : Int32)
    · replace H := H.1 k9
      refine ev_s (pc' := 73) (loc' := [.ref 6, .int i1, .int i2, .ref (148 + 4 * (Int32.toNatClampNeg i1))]) (st' := []) (h1 := h1) am_q115 rfl rfl rfl (by rw [k9]; rfl) ?_
      refine ev_p (pc' := 74) (loc' := [.ref 6, .int i1, .int i2, .ref (148 + 4 * (Int32.toNatClampNeg i1))]) (st' := [.ref (148 + 4 * (Int32.toNatClampNeg i1))]) 1 am_q115 rfl ?_
      refine ev_s (pc' := 77) (loc' := [.ref 6, .int i1, .int i2, .ref (148 + 4 * (Int32.toNatClampNeg i1))]) (st' := [.int (am_gi h1 (148 + 4 * (Int32.toNatClampNeg i1)) 5)]) (h1 := h1) am_q115 rfl rfl rfl (if_pos (e := none) (lk_text Ly (am_in_lt2 g4))) ?_
      refine ev_jz (t := 84) am_q115 rfl rfl (fun hq => ?_) (fun hq => ?_)
      · replace H := H.1 hq
        refine ev_p (pc' := 85) (loc' := [.ref 6, .int i1, .int i2, .ref (148 + 4 * (Int32.toNatClampNeg i1))]) (st' := [.int (0 : Int32)]) 1 am_q115 rfl ?_
        exact ev_r (v := some (.int (0 : Int32))) am_q115 rfl rfl rfl rfl H
      · replace H := H.2 hq
        refine ev_p (pc' := 85) (loc' := [.ref 6, .int i1, .int i2, .ref (148 + 4 * (Int32.toNatClampNeg i1))]) (st' := [.int (1 : Int32)]) 2 am_q115 rfl ?_
        exact ev_r (v := some (.int (1 : Int32))) am_q115 rfl rfl rfl rfl H
    replace H := H.2
    by_cases k10 : i2 = (2 : Int32)
    · replace H := H.1 k10
      refine ev_s (pc' := 86) (loc' := [.ref 6, .int i1, .int i2, .ref (148 + 4 * (Int32.toNatClampNeg i1))]) (st' := []) (h1 := h1) am_q115 rfl rfl rfl (by rw [k10]; rfl) ?_
      refine ev_p (pc' := 87) (loc' := [.ref 6, .int i1, .int i2, .ref (148 + 4 * (Int32.toNatClampNeg i1))]) (st' := [.ref (148 + 4 * (Int32.toNatClampNeg i1))]) 1 am_q115 rfl ?_
      refine ev_s (pc' := 90) (loc' := [.ref 6, .int i1, .int i2, .ref (148 + 4 * (Int32.toNatClampNeg i1))]) (st' := [.int (am_gi h1 (148 + 4 * (Int32.toNatClampNeg i1)) 7)]) (h1 := h1) am_q115 rfl rfl rfl (if_pos (e := none) (lk_text Ly (am_in_lt2 g4))) ?_
      exact ev_r (v := some (.int (am_gi h1 (148 + 4 * (Int32.toNatClampNeg i1)) 7))) am_q115 rfl rfl rfl rfl H
    replace H := H.2
    by_cases k14 : i2 = (3 : Int32)
    · replace H := H.1 k14
      refine ev_s (pc' := 91) (loc' := [.ref 6, .int i1, .int i2, .ref (148 + 4 * (Int32.toNatClampNeg i1))]) (st' := []) (h1 := h1) am_q115 rfl rfl rfl (by rw [k14]; rfl) ?_
      refine ev_p (pc' := 92) (loc' := [.ref 6, .int i1, .int i2, .ref (148 + 4 * (Int32.toNatClampNeg i1))]) (st' := [.ref (148 + 4 * (Int32.toNatClampNeg i1))]) 1 am_q115 rfl ?_
      refine ev_s (pc' := 95) (loc' := [.ref 6, .int i1, .int i2, .ref (148 + 4 * (Int32.toNatClampNeg i1))]) (st' := [.int (am_gi h1 (148 + 4 * (Int32.toNatClampNeg i1)) 3)]) (h1 := h1) am_q115 rfl rfl rfl (if_pos (e := none) (lk_text Ly (am_in_lt2 g4))) ?_
      refine ev_c (vs := [.int (am_gi h1 (148 + 4 * (Int32.toNatClampNeg i1)) 3)]) (rest := []) 262 am_q115 rfl rfl rfl rfl rfl rfl rfl rfl rfl rfl rfl rfl (Or.inl rfl) (Cl.mono H (Nat.le_refl _) (fun r12 h11 H => ?_))
      obtain ⟨x13, rfl, Ly, H⟩ := H
      exact ev_r (v := some (.int x13)) am_q115 rfl rfl rfl rfl H
    replace H := H.2
    by_cases k18 : i2 = (4 : Int32)
    · replace H := H.1 k18
      refine ev_s (pc' := 99) (loc' := [.ref 6, .int i1, .int i2, .ref (148 + 4 * (Int32.toNatClampNeg i1))]) (st' := []) (h1 := h1) am_q115 rfl rfl rfl (by rw [k18]; rfl) ?_
      refine ev_p (pc' := 100) (loc' := [.ref 6, .int i1, .int i2, .ref (148 + 4 * (Int32.toNatClampNeg i1))]) (st' := [.ref (148 + 4 * (Int32.toNatClampNeg i1))]) 1 am_q115 rfl ?_
      refine ev_s (pc' := 103) (loc' := [.ref 6, .int i1, .int i2, .ref (148 + 4 * (Int32.toNatClampNeg i1))]) (st' := [.int (am_gi h1 (148 + 4 * (Int32.toNatClampNeg i1)) 4)]) (h1 := h1) am_q115 rfl rfl rfl (if_pos (e := none) (lk_text Ly (am_in_lt2 g4))) ?_
      refine ev_c (vs := [.int (am_gi h1 (148 + 4 * (Int32.toNatClampNeg i1)) 4)]) (rest := []) 262 am_q115 rfl rfl rfl rfl rfl rfl rfl rfl rfl rfl rfl rfl (Or.inl rfl) (Cl.mono H (Nat.le_refl _) (fun r16 h15 H => ?_))
      obtain ⟨x17, rfl, Ly, H⟩ := H
      exact ev_r (v := some (.int x17)) am_q115 rfl rfl rfl rfl H
    replace H := H.2
    by_cases k19 : i2 = (5 : Int32)
    · replace H := H.1 k19
      refine ev_s (pc' := 107) (loc' := [.ref 6, .int i1, .int i2, .ref (148 + 4 * (Int32.toNatClampNeg i1))]) (st' := []) (h1 := h1) am_q115 rfl rfl rfl (by rw [k19]; rfl) ?_
      refine ev_p (pc' := 108) (loc' := [.ref 6, .int i1, .int i2, .ref (148 + 4 * (Int32.toNatClampNeg i1))]) (st' := [.ref (148 + 4 * (Int32.toNatClampNeg i1))]) 1 am_q115 rfl ?_
      refine ev_s (pc' := 111) (loc' := [.ref 6, .int i1, .int i2, .ref (148 + 4 * (Int32.toNatClampNeg i1))]) (st' := [.int (am_gi h1 (148 + 4 * (Int32.toNatClampNeg i1)) 8)]) (h1 := h1) am_q115 rfl rfl rfl (if_pos (e := none) (lk_text Ly (am_in_lt2 g4))) ?_
      exact ev_r (v := some (.int (am_gi h1 (148 + 4 * (Int32.toNatClampNeg i1)) 8))) am_q115 rfl rfl rfl rfl H
    replace H := H.2
    by_cases k23 : i2 = (6 : Int32)
    · replace H := H.1 k23
      refine ev_s (pc' := 112) (loc' := [.ref 6, .int i1, .int i2, .ref (148 + 4 * (Int32.toNatClampNeg i1))]) (st' := []) (h1 := h1) am_q115 rfl rfl rfl (by rw [k23]; rfl) ?_
      refine ev_p (pc' := 113) (loc' := [.ref 6, .int i1, .int i2, .ref (148 + 4 * (Int32.toNatClampNeg i1))]) (st' := [.ref (148 + 4 * (Int32.toNatClampNeg i1))]) 1 am_q115 rfl ?_
      obtain ⟨b20, e21, H⟩ := H
      refine ev_s (pc' := 116) (loc' := [.ref 6, .int i1, .int i2, .ref (148 + 4 * (Int32.toNatClampNeg i1))]) (st' := [.ref b20]) (h1 := h1) am_q115 rfl rfl rfl (am_gf2 (lk_text Ly (am_in_lt2 g4)) e21) ?_
      obtain ⟨g22, H⟩ := H
      refine ev_s (pc' := 117) (loc' := [.ref 6, .int i1, .int i2, .ref (148 + 4 * (Int32.toNatClampNeg i1))]) (st' := [.int (Int32.ofNat (am_ln h1 b20))]) (h1 := h1) am_q115 rfl rfl rfl (if_pos (e := none) g22) ?_
      exact ev_r (v := some (.int (Int32.ofNat (am_ln h1 b20)))) am_q115 rfl rfl rfl rfl H
    replace H := H.2
    replace H := H ⟨k8, k9, k10, k14, k18, k19, k23⟩
    refine ev_s (pc' := 118) (loc' := [.ref 6, .int i1, .int i2, .ref (148 + 4 * (Int32.toNatClampNeg i1))]) (st' := []) (h1 := h1) am_q115 rfl rfl rfl (am_tso (x := (i2).toInt) (by have z0 : (i2).toInt ≠ 0 := am_tn k8 (by decide); have z1 : (i2).toInt ≠ 1 := am_tn k9 (by decide); have z2 : (i2).toInt ≠ 2 := am_tn k10 (by decide); have z3 : (i2).toInt ≠ 3 := am_tn k14 (by decide); have z4 : (i2).toInt ≠ 4 := am_tn k18 (by decide); have z5 : (i2).toInt ≠ 5 := am_tn k19 (by decide); have z6 : (i2).toInt ≠ 6 := am_tn k23 (by decide); omega)) ?_
    refine ev_p (pc' := 120) (loc' := [.ref 6, .int i1, .int i2, .ref (148 + 4 * (Int32.toNatClampNeg i1))]) (st' := [.int (-2 : Int32)]) 1 am_q115 rfl ?_
    exact ev_r (v := some (.int (-2 : Int32))) am_q115 rfl rfl rfl rfl H
  · replace H := H.2 hq
    refine ev_p (pc' := 10) (loc' := [.ref 6, .int i1, .int i2, .null]) (st' := [.int (-2 : Int32)]) 1 am_q115 rfl ?_
    exact ev_r (v := some (.int (-2 : Int32))) am_q115 rfl rfl rfl rfl H
/-! 116: X11_text -/
set_option maxRecDepth 20000 in
set_option maxHeartbeats 2000000 in
theorem ws116 {d : Nat}  (i1 : Int32) {h : AH} {Q : Option Value → AH → Prop} (Ly : Lay h) (H : Cl d 143 [.int i1] h (fun r2 h1 => ∃ x3, r2 = some (.int x3) ∧ Lay h1 ∧ (x3 = (0 : Int32) → Q (some (.int (-2 : Int32))) h1) ∧ (¬ x3 = (0 : Int32) → Cl d 154 [.ref 6, .int i1] h1 (fun r5 h4 => ∃ x6, r5 = some (.int x6) ∧ Lay h4 ∧ Q (some (.int x6)) h4)))) : Cl (d + 1) 116 [.ref 6, .int i1] h Q := by
  show Ev (d + 1) 116 0 [.ref 6, .int i1] [] h Q
  refine ev_p (pc' := 1) (loc' := [.ref 6, .int i1]) (st' := [.int i1]) 1 am_q116 rfl ?_
  refine ev_c (vs := [.int i1]) (rest := []) 143 am_q116 rfl rfl rfl rfl rfl rfl rfl rfl rfl rfl rfl rfl (Or.inl rfl) (Cl.mono H (Nat.le_refl _) (fun r2 h1 H => ?_))
  obtain ⟨x3, rfl, Ly, H⟩ := H
  refine ev_jz (t := 15) am_q116 rfl rfl (fun hq => ?_) (fun hq => ?_)
  · replace H := H.1 hq
    refine ev_p (pc' := 17) (loc' := [.ref 6, .int i1]) (st' := [.int (-2 : Int32)]) 1 am_q116 rfl ?_
    exact ev_r (v := some (.int (-2 : Int32))) am_q116 rfl rfl rfl rfl H
  · replace H := H.2 hq
    refine ev_p (pc' := 9) (loc' := [.ref 6, .int i1]) (st' := [.int i1, .ref 6]) 2 am_q116 rfl ?_
    refine ev_c (vs := [.ref 6, .int i1]) (rest := []) 154 am_q116 rfl rfl rfl rfl rfl rfl rfl rfl rfl rfl rfl rfl (Or.inr (congrArg some (lk6 Ly))) (Cl.mono H (Nat.le_refl _) (fun r5 h4 H => ?_))
    obtain ⟨x6, rfl, Ly, H⟩ := H
    refine ev_p (pc' := 17) (loc' := [.ref 6, .int i1]) (st' := [.int x6]) 1 am_q116 rfl ?_
    exact ev_r (v := some (.int x6)) am_q116 rfl rfl rfl rfl H
/-! 117: X11_wait -/
set_option maxRecDepth 20000 in
set_option maxHeartbeats 2000000 in
theorem ws117 {d : Nat}  (i1 : Int32) {h : AH} {Q : Option Value → AH → Prop} (Ly : Lay h) (H : Cl d 139 [.ref 6, .int i1] h (fun r2 h1 => ∃ x3, r2 = some (.int x3) ∧ Lay h1 ∧ ((¬ x3 = (0 : Int32)) → Cl d 146 [.ref 6, .int i1] h1 (fun r5 h4 => ∃ x6, r5 = some (.int x6) ∧ Lay h4 ∧ ((¬ x6 = (0 : Int32)) → am_in i1 24 ∧ Cl d 23 [.ref (124 + (Int32.toNatClampNeg i1))] h4 (fun r9 h8 => ∃ x10, r9 = some (.int x10) ∧ Lay h8 ∧ (x10 = (0 : Int32) → am_in i1 24 ∧ ∀ h12, h12 = am_si h8 (124 + (Int32.toNatClampNeg i1)) 3 (am_gi h8 6 0) → Q (some (.int (1 : Int32))) h12) ∧ (¬ x10 = (0 : Int32) → Q (some (.int (0 : Int32))) h8))) ∧ (¬ (¬ x6 = (0 : Int32)) → Q (some (.int (-3 : Int32))) h4))) ∧ (¬ (¬ x3 = (0 : Int32)) → Q (some (.int (-2 : Int32))) h1))) : Cl (d + 1) 117 [.ref 6, .int i1] h Q := by
  show Ev (d + 1) 117 0 [.ref 6, .int i1] [] h Q
  refine ev_p (pc' := 2) (loc' := [.ref 6, .int i1]) (st' := [.int i1, .ref 6]) 2 am_q117 rfl ?_
  refine ev_c (vs := [.ref 6, .int i1]) (rest := []) 139 am_q117 rfl rfl rfl rfl rfl rfl rfl rfl rfl rfl rfl rfl (Or.inr (congrArg some (lk6 Ly))) (Cl.mono H (Nat.le_refl _) (fun r2 h1 H => ?_))
  obtain ⟨x3, rfl, Ly, H⟩ := H
  refine ev_jz (t := 11) am_q117 rfl rfl (fun hq => ?_) (fun hq => ?_)
  · replace H := H.1 hq
    refine ev_p (pc' := 13) (loc' := [.ref 6, .int i1]) (st' := [.int i1, .ref 6]) 2 am_q117 rfl ?_
    refine ev_c (vs := [.ref 6, .int i1]) (rest := []) 146 am_q117 rfl rfl rfl rfl rfl rfl rfl rfl rfl rfl rfl rfl (Or.inr (congrArg some (lk6 Ly))) (Cl.mono H (Nat.le_refl _) (fun r5 h4 H => ?_))
    obtain ⟨x6, rfl, Ly, H⟩ := H
    refine ev_jz (t := 22) am_q117 rfl rfl (fun hq => ?_) (fun hq => ?_)
    · replace H := H.1 hq
      refine ev_p (pc' := 23) (loc' := [.ref 6, .int i1]) (st' := [.ref 6]) 1 am_q117 rfl ?_
      refine ev_s (pc' := 26) (loc' := [.ref 6, .int i1]) (st' := [.ref 8]) (h1 := h4) am_q117 rfl rfl rfl (am_gf2 (lk6 Ly) (lr6_3 Ly)) ?_
      refine ev_p (pc' := 27) (loc' := [.ref 6, .int i1]) (st' := [.int i1, .ref 8]) 1 am_q117 rfl ?_
      obtain ⟨g7, H⟩ := H
      refine ev_s (pc' := 28) (loc' := [.ref 6, .int i1]) (st' := [.ref (124 + (Int32.toNatClampNeg i1))]) (h1 := h4) am_q117 rfl rfl rfl (am_xa (am_rng (lk8 Ly) (by decide)) (am_inl (ln8 Ly) g7) (lr_member Ly (am_in_lt2 g7))) ?_
      refine ev_c (vs := [.ref (124 + (Int32.toNatClampNeg i1))]) (rest := []) 23 am_q117 rfl rfl rfl rfl rfl rfl rfl rfl rfl rfl rfl rfl (Or.inr (congrArg some (lk_member Ly (am_in_lt2 g7)))) (Cl.mono H (Nat.le_refl _) (fun r9 h8 H => ?_))
      obtain ⟨x10, rfl, Ly, H⟩ := H
      refine ev_jz (t := 36) am_q117 rfl rfl (fun hq => ?_) (fun hq => ?_)
      · replace H := H.1 hq
        refine ev_p (pc' := 37) (loc' := [.ref 6, .int i1]) (st' := [.ref 6]) 1 am_q117 rfl ?_
        refine ev_s (pc' := 40) (loc' := [.ref 6, .int i1]) (st' := [.ref 8]) (h1 := h8) am_q117 rfl rfl rfl (am_gf2 (lk6 Ly) (lr6_3 Ly)) ?_
        refine ev_p (pc' := 41) (loc' := [.ref 6, .int i1]) (st' := [.int i1, .ref 8]) 1 am_q117 rfl ?_
        obtain ⟨g11, H⟩ := H
        refine ev_s (pc' := 42) (loc' := [.ref 6, .int i1]) (st' := [.ref (124 + (Int32.toNatClampNeg i1))]) (h1 := h8) am_q117 rfl rfl rfl (am_xa (am_rng (lk8 Ly) (by decide)) (am_inl (ln8 Ly) g11) (lr_member Ly (am_in_lt2 g11))) ?_
        refine ev_p (pc' := 43) (loc' := [.ref 6, .int i1]) (st' := [.ref 6, .ref (124 + (Int32.toNatClampNeg i1))]) 1 am_q117 rfl ?_
        refine ev_s (pc' := 46) (loc' := [.ref 6, .int i1]) (st' := [.int (am_gi h8 6 0), .ref (124 + (Int32.toNatClampNeg i1))]) (h1 := h8) am_q117 rfl rfl rfl (if_pos (e := none) (lk6 Ly)) ?_
        refine ev_s (pc' := 49) (loc' := [.ref 6, .int i1]) (st' := []) (h1 := am_si h8 (124 + (Int32.toNatClampNeg i1)) 3 (am_gi h8 6 0)) am_q117 rfl rfl rfl (if_pos (e := none) (lk_member Ly (am_in_lt2 g11))) ?_
        replace H := H _ rfl
        replace Ly : Lay (am_si h8 (124 + (Int32.toNatClampNeg i1)) 3 (am_gi h8 6 0)) := Ly.si _ _ _
        generalize am_si h8 (124 + (Int32.toNatClampNeg i1)) 3 (am_gi h8 6 0) = h12 at H Ly ⊢
        refine ev_p (pc' := 50) (loc' := [.ref 6, .int i1]) (st' := [.int (1 : Int32)]) 1 am_q117 rfl ?_
        exact ev_r (v := some (.int (1 : Int32))) am_q117 rfl rfl rfl rfl H
      · replace H := H.2 hq
        refine ev_p (pc' := 35) (loc' := [.ref 6, .int i1]) (st' := [.int (0 : Int32)]) 1 am_q117 rfl ?_
        exact ev_r (v := some (.int (0 : Int32))) am_q117 rfl rfl rfl rfl H
    · replace H := H.2 hq
      refine ev_p (pc' := 21) (loc' := [.ref 6, .int i1]) (st' := [.int (-3 : Int32)]) 1 am_q117 rfl ?_
      exact ev_r (v := some (.int (-3 : Int32))) am_q117 rfl rfl rfl rfl H
  · replace H := H.2 hq
    refine ev_p (pc' := 10) (loc' := [.ref 6, .int i1]) (st' := [.int (-2 : Int32)]) 1 am_q117 rfl ?_
    exact ev_r (v := some (.int (-2 : Int32))) am_q117 rfl rfl rfl rfl H
/-! 118: X11_points -/
set_option maxRecDepth 20000 in
set_option maxHeartbeats 2000000 in
theorem ws118 {d : Nat}  (i1 : Int32) (i2 : Int32) (i3 : Int32) {h : AH} {Q : Option Value → AH → Prop} (Ly : Lay h) (H : Cl d 139 [.ref 6, .int i1] h (fun r2 h1 => ∃ x3, r2 = some (.int x3) ∧ Lay h1 ∧ (x3 = (0 : Int32) → Q (some (.long (-4611686018427387904 : Int64))) h1) ∧ (¬ x3 = (0 : Int32) → Cl d 138 [.ref 6, .int i2] h1 (fun r5 h4 => ∃ x6, r5 = some (.int x6) ∧ Lay h4 ∧ (x6 = (0 : Int32) → Q (some (.long (-4611686018427387904 : Int64))) h4) ∧ (¬ x6 = (0 : Int32) → (i3 < (0 : Int32) → Q (some (.long (-4611686018427387904 : Int64))) h4) ∧ (¬ i3 < (0 : Int32) → (i3 ≤ (1 : Int32) → Cl d 157 [.ref 6, .int i1] h4 (fun r8 h7 => r8 = none ∧ Lay h7 ∧ Cl d 158 [.ref 6, .int i2] h7 (fun r10 h9 => r10 = none ∧ Lay h9 ∧ Cl d 154 [.ref 6, .int (am_gi h9 6 0)] h9 (fun r12 h11 => ∃ x13, r12 = some (.int x13) ∧ Lay h11 ∧ am_in x13 12 ∧ ((¬ i3 = (0 : Int32)) → Cl d 70 [.ref 75, .ref (148 + 4 * (Int32.toNatClampNeg x13)), .int (1 : Int32)] h11 (fun r16 h15 => ∃ y17, r16 = some (.long y17) ∧ Lay h15 ∧ Q (some (.long y17)) h15)) ∧ (¬ (¬ i3 = (0 : Int32)) → Cl d 70 [.ref 75, .ref (148 + 4 * (Int32.toNatClampNeg x13)), .int (0 : Int32)] h11 (fun r19 h18 => ∃ y20, r19 = some (.long y20) ∧ Lay h18 ∧ Q (some (.long y20)) h18)))))) ∧ (¬ i3 ≤ (1 : Int32) → Q (some (.long (-4611686018427387904 : Int64))) h4))))))) : Cl (d + 1) 118 [.ref 6, .int i1, .int i2, .int i3] h Q := by
  show Ev (d + 1) 118 0 [.ref 6, .int i1, .int i2, .int i3] [] h Q
  refine ev_p (pc' := 2) (loc' := [.ref 6, .int i1, .int i2, .int i3]) (st' := [.int i1, .ref 6]) 2 am_q118 rfl ?_
  refine ev_c (vs := [.ref 6, .int i1]) (rest := []) 139 am_q118 rfl rfl rfl rfl rfl rfl rfl rfl rfl rfl rfl rfl (Or.inr (congrArg some (lk6 Ly))) (Cl.mono H (Nat.le_refl _) (fun r2 h1 H => ?_))
  obtain ⟨x3, rfl, Ly, H⟩ := H
  refine ev_jz (t := 25) am_q118 rfl rfl (fun hq => ?_) (fun hq => ?_)
  · replace H := H.1 hq
    refine ev_p (pc' := 28) (loc' := [.null, .null, .null, .null]) (st' := [.long (-4611686018427387904 : Int64)]) 1 am_q118 rfl ?_
    exact ev_r (v := some (.long (-4611686018427387904 : Int64))) am_q118 rfl rfl rfl rfl H
  · replace H := H.2 hq
    refine ev_p (pc' := 10) (loc' := [.ref 6, .int i1, .int i2, .int i3]) (st' := [.int i2, .ref 6]) 2 am_q118 rfl ?_
    refine ev_c (vs := [.ref 6, .int i2]) (rest := []) 138 am_q118 rfl rfl rfl rfl rfl rfl rfl rfl rfl rfl rfl rfl (Or.inr (congrArg some (lk6 Ly))) (Cl.mono H (Nat.le_refl _) (fun r5 h4 H => ?_))
    obtain ⟨x6, rfl, Ly, H⟩ := H
    refine ev_jz (t := 25) am_q118 rfl rfl (fun hq => ?_) (fun hq => ?_)
    · replace H := H.1 hq
      refine ev_p (pc' := 28) (loc' := [.null, .null, .null, .null]) (st' := [.long (-4611686018427387904 : Int64)]) 1 am_q118 rfl ?_
      exact ev_r (v := some (.long (-4611686018427387904 : Int64))) am_q118 rfl rfl rfl rfl H
    · replace H := H.2 hq
      refine ev_p (pc' := 17) (loc' := [.ref 6, .int i1, .int i2, .int i3]) (st' := [.int i3]) 1 am_q118 rfl ?_
      refine ev_jz (t := 25) am_q118 rfl rfl (fun hq => ?_) (fun hq => ?_)
      · replace H := H.1 hq
        refine ev_p (pc' := 28) (loc' := [.null, .null, .null, .null]) (st' := [.long (-4611686018427387904 : Int64)]) 1 am_q118 rfl ?_
        exact ev_r (v := some (.long (-4611686018427387904 : Int64))) am_q118 rfl rfl rfl rfl H
      · replace H := H.2 hq
        refine ev_p (pc' := 22) (loc' := [.ref 6, .int i1, .int i2, .int i3]) (st' := [.int (1 : Int32), .int i3]) 2 am_q118 rfl ?_
        refine ev_jc (t := 29) am_q118 rfl rfl (fun hq => ?_) (fun hq => ?_)
        · replace H := H.1 hq
          refine ev_p (pc' := 31) (loc' := [.ref 6, .int i1, .int i2, .int i3]) (st' := [.int i1, .ref 6]) 2 am_q118 rfl ?_
          refine ev_c (vs := [.ref 6, .int i1]) (rest := []) 157 am_q118 rfl rfl rfl rfl rfl rfl rfl rfl rfl rfl rfl rfl (Or.inr (congrArg some (lk6 Ly))) (Cl.mono H (Nat.le_refl _) (fun r8 h7 H => ?_))
          obtain ⟨rfl, Ly, H⟩ := H
          refine ev_p (pc' := 36) (loc' := [.ref 6, .int i1, .int i2, .int i3]) (st' := [.int i2, .ref 6]) 2 am_q118 rfl ?_
          refine ev_c (vs := [.ref 6, .int i2]) (rest := []) 158 am_q118 rfl rfl rfl rfl rfl rfl rfl rfl rfl rfl rfl rfl (Or.inr (congrArg some (lk6 Ly))) (Cl.mono H (Nat.le_refl _) (fun r10 h9 H => ?_))
          obtain ⟨rfl, Ly, H⟩ := H
          refine ev_p (pc' := 40) (loc' := [.ref 6, .int i1, .int i2, .int i3]) (st' := [.ref 6]) 1 am_q118 rfl ?_
          refine ev_s (pc' := 43) (loc' := [.ref 6, .int i1, .int i2, .int i3]) (st' := [.ref 75]) (h1 := h9) am_q118 rfl rfl rfl (am_gf2 (lk6 Ly) (lr6_7 Ly)) ?_
          refine ev_p (pc' := 44) (loc' := [.ref 6, .int i1, .int i2, .int i3]) (st' := [.ref 6, .ref 75]) 1 am_q118 rfl ?_
          refine ev_s (pc' := 47) (loc' := [.ref 6, .int i1, .int i2, .int i3]) (st' := [.ref 78, .ref 75]) (h1 := h9) am_q118 rfl rfl rfl (am_gf2 (lk6 Ly) (lr6_8 Ly)) ?_
          refine ev_p (pc' := 49) (loc' := [.ref 6, .int i1, .int i2, .int i3]) (st' := [.ref 6, .ref 6, .ref 78, .ref 75]) 2 am_q118 rfl ?_
          refine ev_s (pc' := 52) (loc' := [.ref 6, .int i1, .int i2, .int i3]) (st' := [.int (am_gi h9 6 0), .ref 6, .ref 78, .ref 75]) (h1 := h9) am_q118 rfl rfl rfl (if_pos (e := none) (lk6 Ly)) ?_
          refine ev_c (vs := [.ref 6, .int (am_gi h9 6 0)]) (rest := [.ref 78, .ref 75]) 154 am_q118 rfl rfl rfl rfl rfl rfl rfl rfl rfl rfl rfl rfl (Or.inr (congrArg some (lk6 Ly))) (Cl.mono H (Nat.le_refl _) (fun r12 h11 H => ?_))
          obtain ⟨x13, rfl, Ly, H⟩ := H
          obtain ⟨g14, H⟩ := H
          refine ev_s (pc' := 56) (loc' := [.ref 6, .int i1, .int i2, .int i3]) (st' := [.ref (148 + 4 * (Int32.toNatClampNeg x13)), .ref 75]) (h1 := h11) am_q118 rfl rfl rfl (am_xa (am_rng (lk78 Ly) (by decide)) (am_inl (ln78 Ly) g14) (lr_text Ly (am_in_lt2 g14))) ?_
          refine ev_p (pc' := 57) (loc' := [.ref 6, .int i1, .int i2, .int i3]) (st' := [.int i3, .ref (148 + 4 * (Int32.toNatClampNeg x13)), .ref 75]) 1 am_q118 rfl ?_
          refine ev_jz (t := 64) am_q118 rfl rfl (fun hq => ?_) (fun hq => ?_)
          · replace H := H.1 hq
            refine ev_p (pc' := 65) (loc' := [.ref 6, .int i1, .int i2, .int i3]) (st' := [.int (1 : Int32), .ref (148 + 4 * (Int32.toNatClampNeg x13)), .ref 75]) 1 am_q118 rfl ?_
            refine ev_c (vs := [.ref 75, .ref (148 + 4 * (Int32.toNatClampNeg x13)), .int (1 : Int32)]) (rest := []) 70 am_q118 rfl rfl rfl rfl rfl rfl rfl rfl rfl rfl rfl rfl (Or.inr (congrArg some (lk75 Ly))) (Cl.mono H (Nat.le_refl _) (fun r16 h15 H => ?_))
            obtain ⟨y17, rfl, Ly, H⟩ := H
            exact ev_r (v := some (.long y17)) am_q118 rfl rfl rfl rfl H
          · replace H := H.2 hq
            refine ev_p (pc' := 65) (loc' := [.ref 6, .int i1, .int i2, .int i3]) (st' := [.int (0 : Int32), .ref (148 + 4 * (Int32.toNatClampNeg x13)), .ref 75]) 2 am_q118 rfl ?_
            refine ev_c (vs := [.ref 75, .ref (148 + 4 * (Int32.toNatClampNeg x13)), .int (0 : Int32)]) (rest := []) 70 am_q118 rfl rfl rfl rfl rfl rfl rfl rfl rfl rfl rfl rfl (Or.inr (congrArg some (lk75 Ly))) (Cl.mono H (Nat.le_refl _) (fun r19 h18 H => ?_))
            obtain ⟨y20, rfl, Ly, H⟩ := H
            exact ev_r (v := some (.long y20)) am_q118 rfl rfl rfl rfl H
        · replace H := H.2 hq
          refine ev_p (pc' := 28) (loc' := [.null, .null, .null, .null]) (st' := [.long (-4611686018427387904 : Int64)]) 1 am_q118 rfl ?_
          exact ev_r (v := some (.long (-4611686018427387904 : Int64))) am_q118 rfl rfl rfl rfl H
/-! 119: X11_order -/
set_option maxRecDepth 20000 in
set_option maxHeartbeats 2000000 in
theorem ws119 {d : Nat}  (i1 : Int32) (i2 : Int32) {h : AH} {Q : Option Value → AH → Prop} (Ly : Lay h) (H : Cl d 138 [.ref 6, .int i1] h (fun r2 h1 => ∃ x3, r2 = some (.int x3) ∧ Lay h1 ∧ ((¬ x3 = (0 : Int32)) → Cl d 160 [.ref 6, .int i1, .int i2, .int (0 : Int32)] h1 (fun r5 h4 => ∃ x6, r5 = some (.int x6) ∧ Lay h4 ∧ Q (some (.int x6)) h4)) ∧ (¬ (¬ x3 = (0 : Int32)) → Q (some (.int (-2 : Int32))) h1))) : Cl (d + 1) 119 [.ref 6, .int i1, .int i2] h Q := by
  show Ev (d + 1) 119 0 [.ref 6, .int i1, .int i2] [] h Q
  refine ev_p (pc' := 2) (loc' := [.ref 6, .int i1, .int i2]) (st' := [.int i1, .ref 6]) 2 am_q119 rfl ?_
  refine ev_c (vs := [.ref 6, .int i1]) (rest := []) 138 am_q119 rfl rfl rfl rfl rfl rfl rfl rfl rfl rfl rfl rfl (Or.inr (congrArg some (lk6 Ly))) (Cl.mono H (Nat.le_refl _) (fun r2 h1 H => ?_))
  obtain ⟨x3, rfl, Ly, H⟩ := H
  refine ev_jz (t := 11) am_q119 rfl rfl (fun hq => ?_) (fun hq => ?_)
  · replace H := H.1 hq
    refine ev_p (pc' := 15) (loc' := [.ref 6, .int i1, .int i2]) (st' := [.int (0 : Int32), .int i2, .int i1, .ref 6]) 4 am_q119 rfl ?_
    refine ev_c (vs := [.ref 6, .int i1, .int i2, .int (0 : Int32)]) (rest := []) 160 am_q119 rfl rfl rfl rfl rfl rfl rfl rfl rfl rfl rfl rfl (Or.inr (congrArg some (lk6 Ly))) (Cl.mono H (Nat.le_refl _) (fun r5 h4 H => ?_))
    obtain ⟨x6, rfl, Ly, H⟩ := H
    exact ev_r (v := some (.int x6)) am_q119 rfl rfl rfl rfl H
  · replace H := H.2 hq
    refine ev_p (pc' := 10) (loc' := [.ref 6, .int i1, .int i2]) (st' := [.int (-2 : Int32)]) 1 am_q119 rfl ?_
    exact ev_r (v := some (.int (-2 : Int32))) am_q119 rfl rfl rfl rfl H
/-! 120: X11_offer -/
set_option maxRecDepth 20000 in
set_option maxHeartbeats 2000000 in
theorem ws120 {d : Nat}  (i1 : Int32) {h : AH} {Q : Option Value → AH → Prop} (Ly : Lay h) (H : Cl d 138 [.ref 6, .int i1] h (fun r2 h1 => ∃ x3, r2 = some (.int x3) ∧ Lay h1 ∧ ((¬ x3 = (0 : Int32)) → Cl d 147 [.ref 6, .int i1] h1 (fun r5 h4 => ∃ x6, r5 = some (.int x6) ∧ Lay h4 ∧ (x6 = (0 : Int32) → Q (some (.int (-3 : Int32))) h4) ∧ (¬ x6 = (0 : Int32) → am_in i1 12 ∧ ((am_gi h4 (112 + (Int32.toNatClampNeg i1)) 3) = (0 : Int32) → am_in i1 12 ∧ ∀ h9, h9 = am_si h4 (112 + (Int32.toNatClampNeg i1)) 3 (1 : Int32) → am_in i1 12 ∧ ∀ h11, h11 = am_si h9 (112 + (Int32.toNatClampNeg i1)) 4 (0 : Int32) → Cl d 159 [.ref 6, .int i1] h11 (fun r13 h12 => ∃ x14, r13 = some (.int x14) ∧ Lay h12 ∧ Q (some (.int x14)) h12)) ∧ (¬ (am_gi h4 (112 + (Int32.toNatClampNeg i1)) 3) = (0 : Int32) → Q (some (.int (-3 : Int32))) h4)))) ∧ (¬ (¬ x3 = (0 : Int32)) → Q (some (.int (-2 : Int32))) h1))) : Cl (d + 1) 120 [.ref 6, .int i1] h Q := by
  show Ev (d + 1) 120 0 [.ref 6, .int i1] [] h Q
  refine ev_p (pc' := 2) (loc' := [.ref 6, .int i1]) (st' := [.int i1, .ref 6]) 2 am_q120 rfl ?_
  refine ev_c (vs := [.ref 6, .int i1]) (rest := []) 138 am_q120 rfl rfl rfl rfl rfl rfl rfl rfl rfl rfl rfl rfl (Or.inr (congrArg some (lk6 Ly))) (Cl.mono H (Nat.le_refl _) (fun r2 h1 H => ?_))
  obtain ⟨x3, rfl, Ly, H⟩ := H
  refine ev_jz (t := 11) am_q120 rfl rfl (fun hq => ?_) (fun hq => ?_)
  · replace H := H.1 hq
    refine ev_p (pc' := 13) (loc' := [.ref 6, .int i1]) (st' := [.int i1, .ref 6]) 2 am_q120 rfl ?_
    refine ev_c (vs := [.ref 6, .int i1]) (rest := []) 147 am_q120 rfl rfl rfl rfl rfl rfl rfl rfl rfl rfl rfl rfl (Or.inr (congrArg some (lk6 Ly))) (Cl.mono H (Nat.le_refl _) (fun r5 h4 H => ?_))
    obtain ⟨x6, rfl, Ly, H⟩ := H
    refine ev_jz (t := 31) am_q120 rfl rfl (fun hq => ?_) (fun hq => ?_)
    · replace H := H.1 hq
      refine ev_p (pc' := 33) (loc' := [.null, .null]) (st' := [.int (-3 : Int32)]) 1 am_q120 rfl ?_
      exact ev_r (v := some (.int (-3 : Int32))) am_q120 rfl rfl rfl rfl H
    · replace H := H.2 hq
      refine ev_p (pc' := 20) (loc' := [.ref 6, .int i1]) (st' := [.ref 6]) 1 am_q120 rfl ?_
      refine ev_s (pc' := 23) (loc' := [.ref 6, .int i1]) (st' := [.ref 7]) (h1 := h4) am_q120 rfl rfl rfl (am_gf2 (lk6 Ly) (lr6_1 Ly)) ?_
      refine ev_p (pc' := 24) (loc' := [.ref 6, .int i1]) (st' := [.int i1, .ref 7]) 1 am_q120 rfl ?_
      obtain ⟨g7, H⟩ := H
      refine ev_s (pc' := 25) (loc' := [.ref 6, .int i1]) (st' := [.ref (112 + (Int32.toNatClampNeg i1))]) (h1 := h4) am_q120 rfl rfl rfl (am_xa (am_rng (lk7 Ly) (by decide)) (am_inl (ln7 Ly) g7) (lr_home Ly (am_in_lt2 g7))) ?_
      refine ev_s (pc' := 28) (loc' := [.ref 6, .int i1]) (st' := [.int (am_gi h4 (112 + (Int32.toNatClampNeg i1)) 3)]) (h1 := h4) am_q120 rfl rfl rfl (if_pos (e := none) (lk_home Ly (am_in_lt2 g7))) ?_
      refine ev_jz (t := 34) am_q120 rfl rfl (fun hq => ?_) (fun hq => ?_)
      · replace H := H.1 hq
        refine ev_p (pc' := 35) (loc' := [.ref 6, .int i1]) (st' := [.ref 6]) 1 am_q120 rfl ?_
        refine ev_s (pc' := 38) (loc' := [.ref 6, .int i1]) (st' := [.ref 7]) (h1 := h4) am_q120 rfl rfl rfl (am_gf2 (lk6 Ly) (lr6_1 Ly)) ?_
        refine ev_p (pc' := 39) (loc' := [.ref 6, .int i1]) (st' := [.int i1, .ref 7]) 1 am_q120 rfl ?_
        obtain ⟨g8, H⟩ := H
        refine ev_s (pc' := 40) (loc' := [.ref 6, .int i1]) (st' := [.ref (112 + (Int32.toNatClampNeg i1))]) (h1 := h4) am_q120 rfl rfl rfl (am_xa (am_rng (lk7 Ly) (by decide)) (am_inl (ln7 Ly) g8) (lr_home Ly (am_in_lt2 g8))) ?_
        refine ev_p (pc' := 41) (loc' := [.ref 6, .int i1]) (st' := [.int (1 : Int32), .ref (112 + (Int32.toNatClampNeg i1))]) 1 am_q120 rfl ?_
        refine ev_s (pc' := 44) (loc' := [.ref 6, .int i1]) (st' := []) (h1 := am_si h4 (112 + (Int32.toNatClampNeg i1)) 3 (1 : Int32)) am_q120 rfl rfl rfl (if_pos (e := none) ⟨lk_home Ly (am_in_lt2 g8), Or.inr rfl⟩) ?_
        replace H := H _ rfl
        replace Ly : Lay (am_si h4 (112 + (Int32.toNatClampNeg i1)) 3 (1 : Int32)) := Ly.si _ _ _
        generalize am_si h4 (112 + (Int32.toNatClampNeg i1)) 3 (1 : Int32) = h9 at H Ly ⊢
        refine ev_p (pc' := 45) (loc' := [.ref 6, .int i1]) (st' := [.ref 6]) 1 am_q120 rfl ?_
        refine ev_s (pc' := 48) (loc' := [.ref 6, .int i1]) (st' := [.ref 7]) (h1 := h9) am_q120 rfl rfl rfl (am_gf2 (lk6 Ly) (lr6_1 Ly)) ?_
        refine ev_p (pc' := 49) (loc' := [.ref 6, .int i1]) (st' := [.int i1, .ref 7]) 1 am_q120 rfl ?_
        obtain ⟨g10, H⟩ := H
        refine ev_s (pc' := 50) (loc' := [.ref 6, .int i1]) (st' := [.ref (112 + (Int32.toNatClampNeg i1))]) (h1 := h9) am_q120 rfl rfl rfl (am_xa (am_rng (lk7 Ly) (by decide)) (am_inl (ln7 Ly) g10) (lr_home Ly (am_in_lt2 g10))) ?_
        refine ev_p (pc' := 51) (loc' := [.ref 6, .int i1]) (st' := [.int (0 : Int32), .ref (112 + (Int32.toNatClampNeg i1))]) 1 am_q120 rfl ?_
        refine ev_s (pc' := 54) (loc' := [.ref 6, .int i1]) (st' := []) (h1 := am_si h9 (112 + (Int32.toNatClampNeg i1)) 4 (0 : Int32)) am_q120 rfl rfl rfl (if_pos (e := none) (lk_home Ly (am_in_lt2 g10))) ?_
        replace H := H _ rfl
        replace Ly : Lay (am_si h9 (112 + (Int32.toNatClampNeg i1)) 4 (0 : Int32)) := Ly.si _ _ _
        generalize am_si h9 (112 + (Int32.toNatClampNeg i1)) 4 (0 : Int32) = h11 at H Ly ⊢
        refine ev_p (pc' := 56) (loc' := [.ref 6, .int i1]) (st' := [.int i1, .ref 6]) 2 am_q120 rfl ?_
        refine ev_c (vs := [.ref 6, .int i1]) (rest := []) 159 am_q120 rfl rfl rfl rfl rfl rfl rfl rfl rfl rfl rfl rfl (Or.inr (congrArg some (lk6 Ly))) (Cl.mono H (Nat.le_refl _) (fun r13 h12 H => ?_))
        obtain ⟨x14, rfl, Ly, H⟩ := H
        exact ev_r (v := some (.int x14)) am_q120 rfl rfl rfl rfl H
      · replace H := H.2 hq
        refine ev_p (pc' := 33) (loc' := [.null, .null]) (st' := [.int (-3 : Int32)]) 1 am_q120 rfl ?_
        exact ev_r (v := some (.int (-3 : Int32))) am_q120 rfl rfl rfl rfl H
  · replace H := H.2 hq
    refine ev_p (pc' := 10) (loc' := [.ref 6, .int i1]) (st' := [.int (-2 : Int32)]) 1 am_q120 rfl ?_
    exact ev_r (v := some (.int (-2 : Int32))) am_q120 rfl rfl rfl rfl H
/-! 121: X11_take -/
set_option maxRecDepth 20000 in
set_option maxHeartbeats 2000000 in
theorem ws121 {d : Nat}  (i1 : Int32) (i2 : Int32) {h : AH} {Q : Option Value → AH → Prop} (Ly : Lay h) (H : Cl d 138 [.ref 6, .int i1] h (fun r2 h1 => ∃ x3, r2 = some (.int x3) ∧ Lay h1 ∧ ((¬ x3 = (0 : Int32)) → Cl d 159 [.ref 6, .int i1] h1 (fun r5 h4 => ∃ x6, r5 = some (.int x6) ∧ Lay h4 ∧ ((¬ x6 = (-1 : Int32)) → ((¬ i2 = (0 : Int32)) → Cl d 60 [.ref 9, .int x6, .int (am_gi h4 6 0)] h4 (fun r8 h7 => ∃ x9, r8 = some (.int x9) ∧ Lay h7 ∧ Cl d 54 [.ref 9, .int ((1 : Int32) + x9)] h7 (fun r11 h10 => ∃ x12, r11 = some (.int x12) ∧ Lay h10 ∧ ((¬ x12 = (0 : Int32)) → Cl d 61 [.ref 9, .int x6, .int (am_gi h10 6 0)] h10 (fun r14 h13 => ∃ x15, r14 = some (.int x15) ∧ Lay h13 ∧ am_in x6 24 ∧ ∀ h17, h17 = am_si h13 (124 + (Int32.toNatClampNeg x6)) 3 (-1 : Int32) → am_in i1 12 ∧ ∀ h19, h19 = am_si h17 (112 + (Int32.toNatClampNeg i1)) 3 (0 : Int32) → Cl d 55 [.ref 9, .int (0 : Int32), .int i1, .int x6, .int (-1 : Int32), .int (am_gi h19 6 0), .int (-1 : Int32)] h19 (fun r21 h20 => ∃ x22, r21 = some (.int x22) ∧ Lay h20 ∧ Q (some (.int x22)) h20))) ∧ (¬ (¬ x12 = (0 : Int32)) → Q (some (.int (-4 : Int32))) h10)))) ∧ (¬ (¬ i2 = (0 : Int32)) → am_in i1 12 ∧ ∀ h24, h24 = am_si h4 (112 + (Int32.toNatClampNeg i1)) 4 ((am_gi h4 (112 + (Int32.toNatClampNeg i1)) 4) ||| ((1 : Int32) <<< (x6 &&& 31))) → Cl d 159 [.ref 6, .int i1] h24 (fun r26 h25 => ∃ x27, r26 = some (.int x27) ∧ Lay h25 ∧ Q (some (.int x27)) h25))) ∧ (¬ (¬ x6 = (-1 : Int32)) → Q (some (.int (-3 : Int32))) h4))) ∧ (¬ (¬ x3 = (0 : Int32)) → Q (some (.int (-2 : Int32))) h1))) : Cl (d + 1) 121 [.ref 6, .int i1, .int i2] h Q := by
  show Ev (d + 1) 121 0 [.ref 6, .int i1, .int i2, .null] [] h Q
  refine ev_p (pc' := 2) (loc' := [.ref 6, .int i1, .int i2, .null]) (st' := [.int i1, .ref 6]) 2 am_q121 rfl ?_
  refine ev_c (vs := [.ref 6, .int i1]) (rest := []) 138 am_q121 rfl rfl rfl rfl rfl rfl rfl rfl rfl rfl rfl rfl (Or.inr (congrArg some (lk6 Ly))) (Cl.mono H (Nat.le_refl _) (fun r2 h1 H => ?_))
  obtain ⟨x3, rfl, Ly, H⟩ := H
  refine ev_jz (t := 11) am_q121 rfl rfl (fun hq => ?_) (fun hq => ?_)
  · replace H := H.1 hq
    refine ev_p (pc' := 13) (loc' := [.ref 6, .int i1, .int i2, .null]) (st' := [.int i1, .ref 6]) 2 am_q121 rfl ?_
    refine ev_c (vs := [.ref 6, .int i1]) (rest := []) 159 am_q121 rfl rfl rfl rfl rfl rfl rfl rfl rfl rfl rfl rfl (Or.inr (congrArg some (lk6 Ly))) (Cl.mono H (Nat.le_refl _) (fun r5 h4 H => ?_))
    obtain ⟨x6, rfl, Ly, H⟩ := H
    refine ev_p (pc' := 19) (loc' := [.ref 6, .int i1, .int i2, .int x6]) (st' := [.int (-1 : Int32), .int x6]) 3 am_q121 rfl ?_
    refine ev_jc (t := 25) am_q121 rfl rfl (fun hq => ?_) (fun hq => ?_)
    · replace H := H.1 hq
      refine ev_p (pc' := 26) (loc' := [.ref 6, .int i1, .int i2, .int x6]) (st' := [.int i2]) 1 am_q121 rfl ?_
      refine ev_jz (t := 52) am_q121 rfl rfl (fun hq => ?_) (fun hq => ?_)
      · replace H := H.1 hq
        refine ev_p (pc' := 53) (loc' := [.ref 6, .int i1, .int i2, .int x6]) (st' := [.ref 6]) 1 am_q121 rfl ?_
        refine ev_s (pc' := 56) (loc' := [.ref 6, .int i1, .int i2, .int x6]) (st' := [.ref 9]) (h1 := h4) am_q121 rfl rfl rfl (am_gf2 (lk6 Ly) (lr6_5 Ly)) ?_
        refine ev_p (pc' := 58) (loc' := [.ref 6, .int i1, .int i2, .int x6]) (st' := [.ref 6, .int (1 : Int32), .ref 9]) 2 am_q121 rfl ?_
        refine ev_s (pc' := 61) (loc' := [.ref 6, .int i1, .int i2, .int x6]) (st' := [.ref 9, .int (1 : Int32), .ref 9]) (h1 := h4) am_q121 rfl rfl rfl (am_gf2 (lk6 Ly) (lr6_5 Ly)) ?_
        refine ev_p (pc' := 63) (loc' := [.ref 6, .int i1, .int i2, .int x6]) (st' := [.ref 6, .int x6, .ref 9, .int (1 : Int32), .ref 9]) 2 am_q121 rfl ?_
        refine ev_s (pc' := 66) (loc' := [.ref 6, .int i1, .int i2, .int x6]) (st' := [.int (am_gi h4 6 0), .int x6, .ref 9, .int (1 : Int32), .ref 9]) (h1 := h4) am_q121 rfl rfl rfl (if_pos (e := none) (lk6 Ly)) ?_
        refine ev_c (vs := [.ref 9, .int x6, .int (am_gi h4 6 0)]) (rest := [.int (1 : Int32), .ref 9]) 60 am_q121 rfl rfl rfl rfl rfl rfl rfl rfl rfl rfl rfl rfl (Or.inr (congrArg some (lk9 Ly))) (Cl.mono H (Nat.le_refl _) (fun r8 h7 H => ?_))
        obtain ⟨x9, rfl, Ly, H⟩ := H
        refine ev_p (pc' := 70) (loc' := [.ref 6, .int i1, .int i2, .int x6]) (st' := [.int ((1 : Int32) + x9), .ref 9]) 1 am_q121 rfl ?_
        refine ev_c (vs := [.ref 9, .int ((1 : Int32) + x9)]) (rest := []) 54 am_q121 rfl rfl rfl rfl rfl rfl rfl rfl rfl rfl rfl rfl (Or.inr (congrArg some (lk9 Ly))) (Cl.mono H (Nat.le_refl _) (fun r11 h10 H => ?_))
        obtain ⟨x12, rfl, Ly, H⟩ := H
        refine ev_jz (t := 79) am_q121 rfl rfl (fun hq => ?_) (fun hq => ?_)
        · replace H := H.1 hq
          refine ev_p (pc' := 80) (loc' := [.ref 6, .int i1, .int i2, .int x6]) (st' := [.ref 6]) 1 am_q121 rfl ?_
          refine ev_s (pc' := 83) (loc' := [.ref 6, .int i1, .int i2, .int x6]) (st' := [.ref 9]) (h1 := h10) am_q121 rfl rfl rfl (am_gf2 (lk6 Ly) (lr6_5 Ly)) ?_
          refine ev_p (pc' := 85) (loc' := [.ref 6, .int i1, .int i2, .int x6]) (st' := [.ref 6, .int x6, .ref 9]) 2 am_q121 rfl ?_
          refine ev_s (pc' := 88) (loc' := [.ref 6, .int i1, .int i2, .int x6]) (st' := [.int (am_gi h10 6 0), .int x6, .ref 9]) (h1 := h10) am_q121 rfl rfl rfl (if_pos (e := none) (lk6 Ly)) ?_
          refine ev_c (vs := [.ref 9, .int x6, .int (am_gi h10 6 0)]) (rest := []) 61 am_q121 rfl rfl rfl rfl rfl rfl rfl rfl rfl rfl rfl rfl (Or.inr (congrArg some (lk9 Ly))) (Cl.mono H (Nat.le_refl _) (fun r14 h13 H => ?_))
          obtain ⟨x15, rfl, Ly, H⟩ := H
          refine ev_p (pc' := 93) (loc' := [.ref 6, .int i1, .int i2, .int x6]) (st' := [.ref 6]) 2 am_q121 rfl ?_
          refine ev_s (pc' := 96) (loc' := [.ref 6, .int i1, .int i2, .int x6]) (st' := [.ref 8]) (h1 := h13) am_q121 rfl rfl rfl (am_gf2 (lk6 Ly) (lr6_3 Ly)) ?_
          refine ev_p (pc' := 97) (loc' := [.ref 6, .int i1, .int i2, .int x6]) (st' := [.int x6, .ref 8]) 1 am_q121 rfl ?_
          obtain ⟨g16, H⟩ := H
          refine ev_s (pc' := 98) (loc' := [.ref 6, .int i1, .int i2, .int x6]) (st' := [.ref (124 + (Int32.toNatClampNeg x6))]) (h1 := h13) am_q121 rfl rfl rfl (am_xa (am_rng (lk8 Ly) (by decide)) (am_inl (ln8 Ly) g16) (lr_member Ly (am_in_lt2 g16))) ?_
          refine ev_p (pc' := 99) (loc' := [.ref 6, .int i1, .int i2, .int x6]) (st' := [.int (-1 : Int32), .ref (124 + (Int32.toNatClampNeg x6))]) 1 am_q121 rfl ?_
          refine ev_s (pc' := 102) (loc' := [.ref 6, .int i1, .int i2, .int x6]) (st' := []) (h1 := am_si h13 (124 + (Int32.toNatClampNeg x6)) 3 (-1 : Int32)) am_q121 rfl rfl rfl (if_pos (e := none) (lk_member Ly (am_in_lt2 g16))) ?_
          replace H := H _ rfl
          replace Ly : Lay (am_si h13 (124 + (Int32.toNatClampNeg x6)) 3 (-1 : Int32)) := Ly.si _ _ _
          generalize am_si h13 (124 + (Int32.toNatClampNeg x6)) 3 (-1 : Int32) = h17 at H Ly ⊢
          refine ev_p (pc' := 103) (loc' := [.ref 6, .int i1, .int i2, .int x6]) (st' := [.ref 6]) 1 am_q121 rfl ?_
          refine ev_s (pc' := 106) (loc' := [.ref 6, .int i1, .int i2, .int x6]) (st' := [.ref 7]) (h1 := h17) am_q121 rfl rfl rfl (am_gf2 (lk6 Ly) (lr6_1 Ly)) ?_
          refine ev_p (pc' := 107) (loc' := [.ref 6, .int i1, .int i2, .int x6]) (st' := [.int i1, .ref 7]) 1 am_q121 rfl ?_
          obtain ⟨g18, H⟩ := H
          refine ev_s (pc' := 108) (loc' := [.ref 6, .int i1, .int i2, .int x6]) (st' := [.ref (112 + (Int32.toNatClampNeg i1))]) (h1 := h17) am_q121 rfl rfl rfl (am_xa (am_rng (lk7 Ly) (by decide)) (am_inl (ln7 Ly) g18) (lr_home Ly (am_in_lt2 g18))) ?_
          refine ev_p (pc' := 109) (loc' := [.ref 6, .int i1, .int i2, .int x6]) (st' := [.int (0 : Int32), .ref (112 + (Int32.toNatClampNeg i1))]) 1 am_q121 rfl ?_
          refine ev_s (pc' := 112) (loc' := [.ref 6, .int i1, .int i2, .int x6]) (st' := []) (h1 := am_si h17 (112 + (Int32.toNatClampNeg i1)) 3 (0 : Int32)) am_q121 rfl rfl rfl (if_pos (e := none) ⟨lk_home Ly (am_in_lt2 g18), Or.inl rfl⟩) ?_
          replace H := H _ rfl
          replace Ly : Lay (am_si h17 (112 + (Int32.toNatClampNeg i1)) 3 (0 : Int32)) := Ly.si _ _ _
          generalize am_si h17 (112 + (Int32.toNatClampNeg i1)) 3 (0 : Int32) = h19 at H Ly ⊢
          refine ev_p (pc' := 113) (loc' := [.ref 6, .int i1, .int i2, .int x6]) (st' := [.ref 6]) 1 am_q121 rfl ?_
          refine ev_s (pc' := 116) (loc' := [.ref 6, .int i1, .int i2, .int x6]) (st' := [.ref 9]) (h1 := h19) am_q121 rfl rfl rfl (am_gf2 (lk6 Ly) (lr6_5 Ly)) ?_
          refine ev_p (pc' := 121) (loc' := [.ref 6, .int i1, .int i2, .int x6]) (st' := [.ref 6, .int (-1 : Int32), .int x6, .int i1, .int (0 : Int32), .ref 9]) 5 am_q121 rfl ?_
          refine ev_s (pc' := 124) (loc' := [.ref 6, .int i1, .int i2, .int x6]) (st' := [.int (am_gi h19 6 0), .int (-1 : Int32), .int x6, .int i1, .int (0 : Int32), .ref 9]) (h1 := h19) am_q121 rfl rfl rfl (if_pos (e := none) (lk6 Ly)) ?_
          refine ev_p (pc' := 125) (loc' := [.ref 6, .int i1, .int i2, .int x6]) (st' := [.int (-1 : Int32), .int (am_gi h19 6 0), .int (-1 : Int32), .int x6, .int i1, .int (0 : Int32), .ref 9]) 1 am_q121 rfl ?_
          refine ev_c (vs := [.ref 9, .int (0 : Int32), .int i1, .int x6, .int (-1 : Int32), .int (am_gi h19 6 0), .int (-1 : Int32)]) (rest := []) 55 am_q121 rfl rfl rfl rfl rfl rfl rfl rfl rfl rfl rfl rfl (Or.inr (congrArg some (lk9 Ly))) (Cl.mono H (Nat.le_refl _) (fun r21 h20 H => ?_))
          obtain ⟨x22, rfl, Ly, H⟩ := H
          exact ev_r (v := some (.int x22)) am_q121 rfl rfl rfl rfl H
        · replace H := H.2 hq
          refine ev_p (pc' := 78) (loc' := [.ref 6, .int i1, .int i2, .int x6]) (st' := [.int (-4 : Int32)]) 1 am_q121 rfl ?_
          exact ev_r (v := some (.int (-4 : Int32))) am_q121 rfl rfl rfl rfl H
      · replace H := H.2 hq
        refine ev_p (pc' := 30) (loc' := [.ref 6, .int i1, .int i2, .int x6]) (st' := [.ref 6]) 1 am_q121 rfl ?_
        refine ev_s (pc' := 33) (loc' := [.ref 6, .int i1, .int i2, .int x6]) (st' := [.ref 7]) (h1 := h4) am_q121 rfl rfl rfl (am_gf2 (lk6 Ly) (lr6_1 Ly)) ?_
        refine ev_p (pc' := 34) (loc' := [.ref 6, .int i1, .int i2, .int x6]) (st' := [.int i1, .ref 7]) 1 am_q121 rfl ?_
        obtain ⟨g23, H⟩ := H
        refine ev_s (pc' := 35) (loc' := [.ref 6, .int i1, .int i2, .int x6]) (st' := [.ref (112 + (Int32.toNatClampNeg i1))]) (h1 := h4) am_q121 rfl rfl rfl (am_xa (am_rng (lk7 Ly) (by decide)) (am_inl (ln7 Ly) g23) (lr_home Ly (am_in_lt2 g23))) ?_
        refine ev_p (pc' := 36) (loc' := [.ref 6, .int i1, .int i2, .int x6]) (st' := [.ref (112 + (Int32.toNatClampNeg i1)), .ref (112 + (Int32.toNatClampNeg i1))]) 1 am_q121 rfl ?_
        refine ev_s (pc' := 39) (loc' := [.ref 6, .int i1, .int i2, .int x6]) (st' := [.int (am_gi h4 (112 + (Int32.toNatClampNeg i1)) 4), .ref (112 + (Int32.toNatClampNeg i1))]) (h1 := h4) am_q121 rfl rfl rfl (if_pos (e := none) (lk_home Ly (am_in_lt2 g23))) ?_
        refine ev_p (pc' := 43) (loc' := [.ref 6, .int i1, .int i2, .int x6]) (st' := [.int ((am_gi h4 (112 + (Int32.toNatClampNeg i1)) 4) ||| ((1 : Int32) <<< (x6 &&& 31))), .ref (112 + (Int32.toNatClampNeg i1))]) 4 am_q121 rfl ?_
        refine ev_s (pc' := 46) (loc' := [.ref 6, .int i1, .int i2, .int x6]) (st' := []) (h1 := am_si h4 (112 + (Int32.toNatClampNeg i1)) 4 ((am_gi h4 (112 + (Int32.toNatClampNeg i1)) 4) ||| ((1 : Int32) <<< (x6 &&& 31)))) am_q121 rfl rfl rfl (if_pos (e := none) (lk_home Ly (am_in_lt2 g23))) ?_
        replace H := H _ rfl
        replace Ly : Lay (am_si h4 (112 + (Int32.toNatClampNeg i1)) 4 ((am_gi h4 (112 + (Int32.toNatClampNeg i1)) 4) ||| ((1 : Int32) <<< (x6 &&& 31)))) := Ly.si _ _ _
        generalize am_si h4 (112 + (Int32.toNatClampNeg i1)) 4 ((am_gi h4 (112 + (Int32.toNatClampNeg i1)) 4) ||| ((1 : Int32) <<< (x6 &&& 31))) = h24 at H Ly ⊢
        refine ev_p (pc' := 48) (loc' := [.ref 6, .int i1, .int i2, .int x6]) (st' := [.int i1, .ref 6]) 2 am_q121 rfl ?_
        refine ev_c (vs := [.ref 6, .int i1]) (rest := []) 159 am_q121 rfl rfl rfl rfl rfl rfl rfl rfl rfl rfl rfl rfl (Or.inr (congrArg some (lk6 Ly))) (Cl.mono H (Nat.le_refl _) (fun r26 h25 H => ?_))
        obtain ⟨x27, rfl, Ly, H⟩ := H
        exact ev_r (v := some (.int x27)) am_q121 rfl rfl rfl rfl H
    · replace H := H.2 hq
      refine ev_p (pc' := 24) (loc' := [.ref 6, .int i1, .int i2, .int x6]) (st' := [.int (-3 : Int32)]) 1 am_q121 rfl ?_
      exact ev_r (v := some (.int (-3 : Int32))) am_q121 rfl rfl rfl rfl H
  · replace H := H.2 hq
    refine ev_p (pc' := 10) (loc' := [.ref 6, .int i1, .int i2, .null]) (st' := [.int (-2 : Int32)]) 1 am_q121 rfl ?_
    exact ev_r (v := some (.int (-2 : Int32))) am_q121 rfl rfl rfl rfl H
/-! 122: X11_withdraw -/
set_option maxRecDepth 20000 in
set_option maxHeartbeats 2000000 in
theorem ws122 {d : Nat}  (i1 : Int32) {h : AH} {Q : Option Value → AH → Prop} (Ly : Lay h) (H : Cl d 138 [.ref 6, .int i1] h (fun r2 h1 => ∃ x3, r2 = some (.int x3) ∧ Lay h1 ∧ ((¬ x3 = (0 : Int32)) → am_in i1 12 ∧ ((¬ (am_gi h1 (112 + (Int32.toNatClampNeg i1)) 3) = (0 : Int32)) → am_in i1 12 ∧ ∀ h6, h6 = am_si h1 (112 + (Int32.toNatClampNeg i1)) 3 (0 : Int32) → Q (some (.int (1 : Int32))) h6) ∧ (¬ (¬ (am_gi h1 (112 + (Int32.toNatClampNeg i1)) 3) = (0 : Int32)) → Q (some (.int (-3 : Int32))) h1)) ∧ (¬ (¬ x3 = (0 : Int32)) → Q (some (.int (-2 : Int32))) h1))) : Cl (d + 1) 122 [.ref 6, .int i1] h Q := by
  show Ev (d + 1) 122 0 [.ref 6, .int i1] [] h Q
  refine ev_p (pc' := 2) (loc' := [.ref 6, .int i1]) (st' := [.int i1, .ref 6]) 2 am_q122 rfl ?_
  refine ev_c (vs := [.ref 6, .int i1]) (rest := []) 138 am_q122 rfl rfl rfl rfl rfl rfl rfl rfl rfl rfl rfl rfl (Or.inr (congrArg some (lk6 Ly))) (Cl.mono H (Nat.le_refl _) (fun r2 h1 H => ?_))
  obtain ⟨x3, rfl, Ly, H⟩ := H
  refine ev_jz (t := 11) am_q122 rfl rfl (fun hq => ?_) (fun hq => ?_)
  · replace H := H.1 hq
    refine ev_p (pc' := 12) (loc' := [.ref 6, .int i1]) (st' := [.ref 6]) 1 am_q122 rfl ?_
    refine ev_s (pc' := 15) (loc' := [.ref 6, .int i1]) (st' := [.ref 7]) (h1 := h1) am_q122 rfl rfl rfl (am_gf2 (lk6 Ly) (lr6_1 Ly)) ?_
    refine ev_p (pc' := 16) (loc' := [.ref 6, .int i1]) (st' := [.int i1, .ref 7]) 1 am_q122 rfl ?_
    obtain ⟨g4, H⟩ := H
    refine ev_s (pc' := 17) (loc' := [.ref 6, .int i1]) (st' := [.ref (112 + (Int32.toNatClampNeg i1))]) (h1 := h1) am_q122 rfl rfl rfl (am_xa (am_rng (lk7 Ly) (by decide)) (am_inl (ln7 Ly) g4) (lr_home Ly (am_in_lt2 g4))) ?_
    refine ev_s (pc' := 20) (loc' := [.ref 6, .int i1]) (st' := [.int (am_gi h1 (112 + (Int32.toNatClampNeg i1)) 3)]) (h1 := h1) am_q122 rfl rfl rfl (if_pos (e := none) (lk_home Ly (am_in_lt2 g4))) ?_
    refine ev_jz (t := 26) am_q122 rfl rfl (fun hq => ?_) (fun hq => ?_)
    · replace H := H.1 hq
      refine ev_p (pc' := 27) (loc' := [.ref 6, .int i1]) (st' := [.ref 6]) 1 am_q122 rfl ?_
      refine ev_s (pc' := 30) (loc' := [.ref 6, .int i1]) (st' := [.ref 7]) (h1 := h1) am_q122 rfl rfl rfl (am_gf2 (lk6 Ly) (lr6_1 Ly)) ?_
      refine ev_p (pc' := 31) (loc' := [.ref 6, .int i1]) (st' := [.int i1, .ref 7]) 1 am_q122 rfl ?_
      obtain ⟨g5, H⟩ := H
      refine ev_s (pc' := 32) (loc' := [.ref 6, .int i1]) (st' := [.ref (112 + (Int32.toNatClampNeg i1))]) (h1 := h1) am_q122 rfl rfl rfl (am_xa (am_rng (lk7 Ly) (by decide)) (am_inl (ln7 Ly) g5) (lr_home Ly (am_in_lt2 g5))) ?_
      refine ev_p (pc' := 33) (loc' := [.ref 6, .int i1]) (st' := [.int (0 : Int32), .ref (112 + (Int32.toNatClampNeg i1))]) 1 am_q122 rfl ?_
      refine ev_s (pc' := 36) (loc' := [.ref 6, .int i1]) (st' := []) (h1 := am_si h1 (112 + (Int32.toNatClampNeg i1)) 3 (0 : Int32)) am_q122 rfl rfl rfl (if_pos (e := none) ⟨lk_home Ly (am_in_lt2 g5), Or.inl rfl⟩) ?_
      replace H := H _ rfl
      replace Ly : Lay (am_si h1 (112 + (Int32.toNatClampNeg i1)) 3 (0 : Int32)) := Ly.si _ _ _
      generalize am_si h1 (112 + (Int32.toNatClampNeg i1)) 3 (0 : Int32) = h6 at H Ly ⊢
      refine ev_p (pc' := 37) (loc' := [.ref 6, .int i1]) (st' := [.int (1 : Int32)]) 1 am_q122 rfl ?_
      exact ev_r (v := some (.int (1 : Int32))) am_q122 rfl rfl rfl rfl H
    · replace H := H.2 hq
      refine ev_p (pc' := 25) (loc' := [.ref 6, .int i1]) (st' := [.int (-3 : Int32)]) 1 am_q122 rfl ?_
      exact ev_r (v := some (.int (-3 : Int32))) am_q122 rfl rfl rfl rfl H
  · replace H := H.2 hq
    refine ev_p (pc' := 10) (loc' := [.ref 6, .int i1]) (st' := [.int (-2 : Int32)]) 1 am_q122 rfl ?_
    exact ev_r (v := some (.int (-2 : Int32))) am_q122 rfl rfl rfl rfl H
/-! 123: X11_wish -/
set_option maxRecDepth 20000 in
set_option maxHeartbeats 2000000 in
theorem ws123 {d : Nat}  (i1 : Int32) (i2 : Int32) (i3 : Int32) {h : AH} {Q : Option Value → AH → Prop} (Ly : Lay h) (H : Cl d 139 [.ref 6, .int i1] h (fun r2 h1 => ∃ x3, r2 = some (.int x3) ∧ Lay h1 ∧ (x3 = (0 : Int32) → Q (some (.int (-2 : Int32))) h1) ∧ (¬ x3 = (0 : Int32) → Cl d 138 [.ref 6, .int i2] h1 (fun r5 h4 => ∃ x6, r5 = some (.int x6) ∧ Lay h4 ∧ ((¬ x6 = (0 : Int32)) → Cl d 146 [.ref 6, .int i1] h4 (fun r8 h7 => ∃ x9, r8 = some (.int x9) ∧ Lay h7 ∧ ((¬ x9 = (0 : Int32)) → am_in i1 24 ∧ (i3 = (0 : Int32) → Ev (d + 1) 123 62 [.ref 6, .int i1, .null, .null, .int (am_gi h7 (124 + (Int32.toNatClampNeg i1)) 4), .null] [.int ((am_gi h7 (124 + (Int32.toNatClampNeg i1)) 4) &&& (((1 : Int32) <<< (i2 &&& 31)) ^^^ (-1 : Int32)))] h7 Q) ∧ (¬ i3 = (0 : Int32) → Ev (d + 1) 123 62 [.ref 6, .int i1, .null, .null, .int (am_gi h7 (124 + (Int32.toNatClampNeg i1)) 4), .null] [.int ((am_gi h7 (124 + (Int32.toNatClampNeg i1)) 4) ||| ((1 : Int32) <<< (i2 &&& 31)))] h7 Q)) ∧ (¬ (¬ x9 = (0 : Int32)) → Q (some (.int (-3 : Int32))) h7))) ∧ (¬ (¬ x6 = (0 : Int32)) → Q (some (.int (-2 : Int32))) h4))))) : Cl (d + 1) 123 [.ref 6, .int i1, .int i2, .int i3] h Q := by
  show Ev (d + 1) 123 0 [.ref 6, .int i1, .int i2, .int i3, .null, .null] [] h Q
  refine ev_p (pc' := 2) (loc' := [.ref 6, .int i1, .int i2, .int i3, .null, .null]) (st' := [.int i1, .ref 6]) 2 am_q123 rfl ?_
  refine ev_c (vs := [.ref 6, .int i1]) (rest := []) 139 am_q123 rfl rfl rfl rfl rfl rfl rfl rfl rfl rfl rfl rfl (Or.inr (congrArg some (lk6 Ly))) (Cl.mono H (Nat.le_refl _) (fun r2 h1 H => ?_))
  obtain ⟨x3, rfl, Ly, H⟩ := H
  refine ev_jz (t := 16) am_q123 rfl rfl (fun hq => ?_) (fun hq => ?_)
  · replace H := H.1 hq
    refine ev_p (pc' := 18) (loc' := [.null, .null, .null, .null, .null, .null]) (st' := [.int (-2 : Int32)]) 1 am_q123 rfl ?_
    exact ev_r (v := some (.int (-2 : Int32))) am_q123 rfl rfl rfl rfl H
  · replace H := H.2 hq
    refine ev_p (pc' := 10) (loc' := [.ref 6, .int i1, .int i2, .int i3, .null, .null]) (st' := [.int i2, .ref 6]) 2 am_q123 rfl ?_
    refine ev_c (vs := [.ref 6, .int i2]) (rest := []) 138 am_q123 rfl rfl rfl rfl rfl rfl rfl rfl rfl rfl rfl rfl (Or.inr (congrArg some (lk6 Ly))) (Cl.mono H (Nat.le_refl _) (fun r5 h4 H => ?_))
    obtain ⟨x6, rfl, Ly, H⟩ := H
    refine ev_jz (t := 19) am_q123 rfl rfl (fun hq => ?_) (fun hq => ?_)
    · replace H := H.1 hq
      refine ev_p (pc' := 21) (loc' := [.ref 6, .int i1, .int i2, .int i3, .null, .null]) (st' := [.int i1, .ref 6]) 2 am_q123 rfl ?_
      refine ev_c (vs := [.ref 6, .int i1]) (rest := []) 146 am_q123 rfl rfl rfl rfl rfl rfl rfl rfl rfl rfl rfl rfl (Or.inr (congrArg some (lk6 Ly))) (Cl.mono H (Nat.le_refl _) (fun r8 h7 H => ?_))
      obtain ⟨x9, rfl, Ly, H⟩ := H
      refine ev_jz (t := 30) am_q123 rfl rfl (fun hq => ?_) (fun hq => ?_)
      · replace H := H.1 hq
        refine ev_p (pc' := 31) (loc' := [.ref 6, .int i1, .int i2, .int i3, .null, .null]) (st' := [.ref 6]) 1 am_q123 rfl ?_
        refine ev_s (pc' := 34) (loc' := [.ref 6, .int i1, .int i2, .int i3, .null, .null]) (st' := [.ref 8]) (h1 := h7) am_q123 rfl rfl rfl (am_gf2 (lk6 Ly) (lr6_3 Ly)) ?_
        refine ev_p (pc' := 35) (loc' := [.ref 6, .int i1, .int i2, .int i3, .null, .null]) (st' := [.int i1, .ref 8]) 1 am_q123 rfl ?_
        obtain ⟨g10, H⟩ := H
        refine ev_s (pc' := 36) (loc' := [.ref 6, .int i1, .int i2, .int i3, .null, .null]) (st' := [.ref (124 + (Int32.toNatClampNeg i1))]) (h1 := h7) am_q123 rfl rfl rfl (am_xa (am_rng (lk8 Ly) (by decide)) (am_inl (ln8 Ly) g10) (lr_member Ly (am_in_lt2 g10))) ?_
        refine ev_s (pc' := 39) (loc' := [.ref 6, .int i1, .int i2, .int i3, .null, .null]) (st' := [.int (am_gi h7 (124 + (Int32.toNatClampNeg i1)) 4)]) (h1 := h7) am_q123 rfl rfl rfl (if_pos (e := none) (lk_member Ly (am_in_lt2 g10))) ?_
        refine ev_p (pc' := 42) (loc' := [.ref 6, .int i1, .int i2, .int i3, .int (am_gi h7 (124 + (Int32.toNatClampNeg i1)) 4), .null]) (st' := [.int i3]) 2 am_q123 rfl ?_
        refine ev_jz (t := 54) am_q123 rfl rfl (fun hq => ?_) (fun hq => ?_)
        · replace H := H.1 hq
          refine ev_p (pc' := 62) (loc' := [.ref 6, .int i1, .int i2, .int i3, .int (am_gi h7 (124 + (Int32.toNatClampNeg i1)) 4), .null]) (st' := [.int ((am_gi h7 (124 + (Int32.toNatClampNeg i1)) 4) &&& (((1 : Int32) <<< (i2 &&& 31)) ^^^ (-1 : Int32)))]) 7 am_q123 rfl ?_
          exact ev_m (loc' := [.ref 6, .int i1, .null, .null, .int (am_gi h7 (124 + (Int32.toNatClampNeg i1)) 4), .null]) am_q123 rfl rfl H
        · replace H := H.2 hq
          refine ev_p (pc' := 62) (loc' := [.ref 6, .int i1, .int i2, .int i3, .int (am_gi h7 (124 + (Int32.toNatClampNeg i1)) 4), .null]) (st' := [.int ((am_gi h7 (124 + (Int32.toNatClampNeg i1)) 4) ||| ((1 : Int32) <<< (i2 &&& 31)))]) 6 am_q123 rfl ?_
          exact ev_m (loc' := [.ref 6, .int i1, .null, .null, .int (am_gi h7 (124 + (Int32.toNatClampNeg i1)) 4), .null]) am_q123 rfl rfl H
      · replace H := H.2 hq
        refine ev_p (pc' := 29) (loc' := [.ref 6, .int i1, .int i2, .int i3, .null, .null]) (st' := [.int (-3 : Int32)]) 1 am_q123 rfl ?_
        exact ev_r (v := some (.int (-3 : Int32))) am_q123 rfl rfl rfl rfl H
    · replace H := H.2 hq
      refine ev_p (pc' := 18) (loc' := [.null, .null, .null, .null, .null, .null]) (st' := [.int (-2 : Int32)]) 1 am_q123 rfl ?_
      exact ev_r (v := some (.int (-2 : Int32))) am_q123 rfl rfl rfl rfl H
set_option maxRecDepth 20000 in
set_option maxHeartbeats 2000000 in
theorem ws123_62 {d : Nat}  (i1 : Int32) (i4 : Int32) (s0 : Int32) {h : AH} {Q : Option Value → AH → Prop} (Ly : Lay h) (H : am_in i1 24 ∧ ∀ h2, h2 = am_si h (124 + (Int32.toNatClampNeg i1)) 4 s0 → ((¬ i4 = s0) → Q (some (.int (1 : Int32))) h2) ∧ (¬ (¬ i4 = s0) → Q (some (.int (0 : Int32))) h2)) : Ev (d + 1) 123 62 [.ref 6, .int i1, .null, .null, .int i4, .null] [.int s0] h Q := by
  refine ev_p (pc' := 65) (loc' := [.ref 6, .int i1, .null, .null, .int i4, .int s0]) (st' := [.ref 6]) 2 am_q123 rfl ?_
  refine ev_s (pc' := 68) (loc' := [.ref 6, .int i1, .null, .null, .int i4, .int s0]) (st' := [.ref 8]) (h1 := h) am_q123 rfl rfl rfl (am_gf2 (lk6 Ly) (lr6_3 Ly)) ?_
  refine ev_p (pc' := 69) (loc' := [.ref 6, .int i1, .null, .null, .int i4, .int s0]) (st' := [.int i1, .ref 8]) 1 am_q123 rfl ?_
  obtain ⟨g1, H⟩ := H
  refine ev_s (pc' := 70) (loc' := [.ref 6, .int i1, .null, .null, .int i4, .int s0]) (st' := [.ref (124 + (Int32.toNatClampNeg i1))]) (h1 := h) am_q123 rfl rfl rfl (am_xa (am_rng (lk8 Ly) (by decide)) (am_inl (ln8 Ly) g1) (lr_member Ly (am_in_lt2 g1))) ?_
  refine ev_p (pc' := 72) (loc' := [.ref 6, .int i1, .null, .null, .int i4, .int s0]) (st' := [.int s0, .ref (124 + (Int32.toNatClampNeg i1))]) 1 am_q123 rfl ?_
  refine ev_s (pc' := 75) (loc' := [.ref 6, .int i1, .null, .null, .int i4, .int s0]) (st' := []) (h1 := am_si h (124 + (Int32.toNatClampNeg i1)) 4 s0) am_q123 rfl rfl rfl (if_pos (e := none) (lk_member Ly (am_in_lt2 g1))) ?_
  replace H := H _ rfl
  replace Ly : Lay (am_si h (124 + (Int32.toNatClampNeg i1)) 4 s0) := Ly.si _ _ _
  generalize am_si h (124 + (Int32.toNatClampNeg i1)) 4 s0 = h2 at H Ly ⊢
  refine ev_p (pc' := 79) (loc' := [.ref 6, .int i1, .null, .null, .int i4, .int s0]) (st' := [.int s0, .int i4]) 2 am_q123 rfl ?_
  refine ev_jc (t := 86) am_q123 rfl rfl (fun hq => ?_) (fun hq => ?_)
  · replace H := H.1 hq
    refine ev_p (pc' := 87) (loc' := [.ref 6, .int i1, .null, .null, .int i4, .int s0]) (st' := [.int (1 : Int32)]) 1 am_q123 rfl ?_
    exact ev_r (v := some (.int (1 : Int32))) am_q123 rfl rfl rfl rfl H
  · replace H := H.2 hq
    refine ev_p (pc' := 87) (loc' := [.ref 6, .int i1, .null, .null, .int i4, .int s0]) (st' := [.int (0 : Int32)]) 2 am_q123 rfl ?_
    exact ev_r (v := some (.int (0 : Int32))) am_q123 rfl rfl rfl rfl H
/-! 124: X11_best -/
set_option maxRecDepth 20000 in
set_option maxHeartbeats 2000000 in
theorem ws124 {d : Nat}   {h : AH} {Q : Option Value → AH → Prop} (Ly : Lay h) (H : Cl d 164 [.ref 6] h (fun r2 h1 => ∃ x3, r2 = some (.int x3) ∧ Lay h1 ∧ Q (some (.int x3)) h1)) : Cl (d + 1) 124 [.ref 6] h Q := by
  show Ev (d + 1) 124 0 [.ref 6] [] h Q
  refine ev_p (pc' := 1) (loc' := [.ref 6]) (st' := [.ref 6]) 1 am_q124 rfl ?_
  refine ev_c (vs := [.ref 6]) (rest := []) 164 am_q124 rfl rfl rfl rfl rfl rfl rfl rfl rfl rfl rfl rfl (Or.inr (congrArg some (lk6 Ly))) (Cl.mono H (Nat.le_refl _) (fun r2 h1 H => ?_))
  obtain ⟨x3, rfl, Ly, H⟩ := H
  exact ev_r (v := some (.int x3)) am_q124 rfl rfl rfl rfl H
/-! 125: X11_moves -/
set_option maxRecDepth 20000 in
set_option maxHeartbeats 2000000 in
theorem ws125 {d : Nat}  (i1 : Int32) {h : AH} {Q : Option Value → AH → Prop} (Ly : Lay h) (H : Cl d 139 [.ref 6, .int i1] h (fun r2 h1 => ∃ x3, r2 = some (.int x3) ∧ Lay h1 ∧ ((¬ x3 = (0 : Int32)) → Cl d 164 [.ref 6] h1 (fun r5 h4 => ∃ x6, r5 = some (.int x6) ∧ Lay h4 ∧ am_in i1 24 ∧ Q (some (.int (am_gi h4 81 (Int32.toNatClampNeg i1)))) h4)) ∧ (¬ (¬ x3 = (0 : Int32)) → Q (some (.int (-2 : Int32))) h1))) : Cl (d + 1) 125 [.ref 6, .int i1] h Q := by
  show Ev (d + 1) 125 0 [.ref 6, .int i1] [] h Q
  refine ev_p (pc' := 2) (loc' := [.ref 6, .int i1]) (st' := [.int i1, .ref 6]) 2 am_q125 rfl ?_
  refine ev_c (vs := [.ref 6, .int i1]) (rest := []) 139 am_q125 rfl rfl rfl rfl rfl rfl rfl rfl rfl rfl rfl rfl (Or.inr (congrArg some (lk6 Ly))) (Cl.mono H (Nat.le_refl _) (fun r2 h1 H => ?_))
  obtain ⟨x3, rfl, Ly, H⟩ := H
  refine ev_jz (t := 11) am_q125 rfl rfl (fun hq => ?_) (fun hq => ?_)
  · replace H := H.1 hq
    refine ev_p (pc' := 12) (loc' := [.ref 6, .int i1]) (st' := [.ref 6]) 1 am_q125 rfl ?_
    refine ev_c (vs := [.ref 6]) (rest := []) 164 am_q125 rfl rfl rfl rfl rfl rfl rfl rfl rfl rfl rfl rfl (Or.inr (congrArg some (lk6 Ly))) (Cl.mono H (Nat.le_refl _) (fun r5 h4 H => ?_))
    obtain ⟨x6, rfl, Ly, H⟩ := H
    refine ev_p (pc' := 17) (loc' := [.ref 6, .int i1]) (st' := [.ref 6]) 2 am_q125 rfl ?_
    refine ev_s (pc' := 20) (loc' := [.ref 6, .int i1]) (st' := [.ref 80]) (h1 := h4) am_q125 rfl rfl rfl (am_gf2 (lk6 Ly) (lr6_14 Ly)) ?_
    refine ev_s (pc' := 23) (loc' := [.ref 6, .int i1]) (st' := [.ref 81]) (h1 := h4) am_q125 rfl rfl rfl (am_gf2 (lk80 Ly) (lr80_0 Ly)) ?_
    refine ev_p (pc' := 24) (loc' := [.ref 6, .int i1]) (st' := [.int i1, .ref 81]) 1 am_q125 rfl ?_
    obtain ⟨g7, H⟩ := H
    refine ev_s (pc' := 25) (loc' := [.ref 6, .int i1]) (st' := [.int (am_gi h4 81 (Int32.toNatClampNeg i1))]) (h1 := h4) am_q125 rfl rfl rfl (am_xx (lk81 Ly) (am_inl (ln81 Ly) g7)) ?_
    exact ev_r (v := some (.int (am_gi h4 81 (Int32.toNatClampNeg i1)))) am_q125 rfl rfl rfl rfl H
  · replace H := H.2 hq
    refine ev_p (pc' := 10) (loc' := [.ref 6, .int i1]) (st' := [.int (-2 : Int32)]) 1 am_q125 rfl ?_
    exact ev_r (v := some (.int (-2 : Int32))) am_q125 rfl rfl rfl rfl H
/-! 126: X11_change -/
set_option maxRecDepth 20000 in
set_option maxHeartbeats 2000000 in
theorem ws126 {d : Nat}   {h : AH} {Q : Option Value → AH → Prop} (Ly : Lay h) (H : Cl d 164 [.ref 6] h (fun r2 h1 => ∃ x3, r2 = some (.int x3) ∧ Lay h1 ∧ Cl d 54 [.ref 9, .int x3] h1 (fun r5 h4 => ∃ x6, r5 = some (.int x6) ∧ Lay h4 ∧ ((¬ x6 = (0 : Int32)) → Ev (d + 1) 126 21 [.ref 6, .int x3, .int (0 : Int32)] [] h4 Q) ∧ (¬ (¬ x6 = (0 : Int32)) → Q (some (.int (-4 : Int32))) h4)))) : Cl (d + 1) 126 [.ref 6] h Q := by
  show Ev (d + 1) 126 0 [.ref 6, .null, .null] [] h Q
  refine ev_p (pc' := 1) (loc' := [.ref 6, .null, .null]) (st' := [.ref 6]) 1 am_q126 rfl ?_
  refine ev_c (vs := [.ref 6]) (rest := []) 164 am_q126 rfl rfl rfl rfl rfl rfl rfl rfl rfl rfl rfl rfl (Or.inr (congrArg some (lk6 Ly))) (Cl.mono H (Nat.le_refl _) (fun r2 h1 H => ?_))
  obtain ⟨x3, rfl, Ly, H⟩ := H
  refine ev_p (pc' := 6) (loc' := [.ref 6, .int x3, .null]) (st' := [.ref 6]) 2 am_q126 rfl ?_
  refine ev_s (pc' := 9) (loc' := [.ref 6, .int x3, .null]) (st' := [.ref 9]) (h1 := h1) am_q126 rfl rfl rfl (am_gf2 (lk6 Ly) (lr6_5 Ly)) ?_
  refine ev_p (pc' := 10) (loc' := [.ref 6, .int x3, .null]) (st' := [.int x3, .ref 9]) 1 am_q126 rfl ?_
  refine ev_c (vs := [.ref 9, .int x3]) (rest := []) 54 am_q126 rfl rfl rfl rfl rfl rfl rfl rfl rfl rfl rfl rfl (Or.inr (congrArg some (lk9 Ly))) (Cl.mono H (Nat.le_refl _) (fun r5 h4 H => ?_))
  obtain ⟨x6, rfl, Ly, H⟩ := H
  refine ev_jz (t := 19) am_q126 rfl rfl (fun hq => ?_) (fun hq => ?_)
  · replace H := H.1 hq
    refine ev_p (pc' := 21) (loc' := [.ref 6, .int x3, .int (0 : Int32)]) (st' := []) 2 am_q126 rfl ?_
    exact ev_m (loc' := [.ref 6, .int x3, .int (0 : Int32)]) am_q126 rfl rfl H
  · replace H := H.2 hq
    refine ev_p (pc' := 18) (loc' := [.ref 6, .int x3, .null]) (st' := [.int (-4 : Int32)]) 1 am_q126 rfl ?_
    exact ev_r (v := some (.int (-4 : Int32))) am_q126 rfl rfl rfl rfl H
set_option maxRecDepth 20000 in
set_option maxHeartbeats 2000000 in
theorem ws126_21 {d : Nat}  (i1 : Int32) (i2 : Int32) {h : AH} {Q : Option Value → AH → Prop} (Ly : Lay h) (H : ((am_gi h 6 4) ≤ i2 → Q (some (.int i1)) h) ∧ (¬ (am_gi h 6 4) ≤ i2 → am_in i2 24 ∧ ((am_gi h 81 (Int32.toNatClampNeg i2)) = (-1 : Int32) → Ev (d + 1) 126 21 [.ref 6, .int i1, .int (i2 + (1 : Int32))] [] h Q) ∧ (¬ (am_gi h 81 (Int32.toNatClampNeg i2)) = (-1 : Int32) → am_in i2 24 ∧ Cl d 63 [.ref 9, .int i2, .int (am_gi h 81 (Int32.toNatClampNeg i2)), .int (am_gi h 6 0)] h (fun r4 h3 => r4 = none ∧ Lay h3 ∧ am_in i2 24 ∧ ∀ h6, h6 = am_si h3 (124 + (Int32.toNatClampNeg i2)) 4 (0 : Int32) → Ev (d + 1) 126 21 [.ref 6, .int i1, .int (i2 + (1 : Int32))] [] h6 Q)))) : Ev (d + 1) 126 21 [.ref 6, .int i1, .int i2] [] h Q := by
  refine ev_p (pc' := 23) (loc' := [.ref 6, .int i1, .int i2]) (st' := [.ref 6, .int i2]) 2 am_q126 rfl ?_
  refine ev_s (pc' := 26) (loc' := [.ref 6, .int i1, .int i2]) (st' := [.int (am_gi h 6 4), .int i2]) (h1 := h) am_q126 rfl rfl rfl (if_pos (e := none) (lk6 Ly)) ?_
  refine ev_jc (t := 79) am_q126 rfl rfl (fun hq => ?_) (fun hq => ?_)
  · replace H := H.1 hq
    refine ev_p (pc' := 80) (loc' := [.ref 6, .int i1, .int i2]) (st' := [.int i1]) 1 am_q126 rfl ?_
    exact ev_r (v := some (.int i1)) am_q126 rfl rfl rfl rfl H
  · replace H := H.2 hq
    refine ev_p (pc' := 30) (loc' := [.ref 6, .int i1, .int i2]) (st' := [.ref 6]) 1 am_q126 rfl ?_
    refine ev_s (pc' := 33) (loc' := [.ref 6, .int i1, .int i2]) (st' := [.ref 80]) (h1 := h) am_q126 rfl rfl rfl (am_gf2 (lk6 Ly) (lr6_14 Ly)) ?_
    refine ev_s (pc' := 36) (loc' := [.ref 6, .int i1, .int i2]) (st' := [.ref 81]) (h1 := h) am_q126 rfl rfl rfl (am_gf2 (lk80 Ly) (lr80_0 Ly)) ?_
    refine ev_p (pc' := 37) (loc' := [.ref 6, .int i1, .int i2]) (st' := [.int i2, .ref 81]) 1 am_q126 rfl ?_
    obtain ⟨g1, H⟩ := H
    refine ev_s (pc' := 38) (loc' := [.ref 6, .int i1, .int i2]) (st' := [.int (am_gi h 81 (Int32.toNatClampNeg i2))]) (h1 := h) am_q126 rfl rfl rfl (am_xx (lk81 Ly) (am_inl (ln81 Ly) g1)) ?_
    refine ev_p (pc' := 39) (loc' := [.ref 6, .int i1, .int i2]) (st' := [.int (-1 : Int32), .int (am_gi h 81 (Int32.toNatClampNeg i2))]) 1 am_q126 rfl ?_
    refine ev_jc (t := 73) am_q126 rfl rfl (fun hq => ?_) (fun hq => ?_)
    · replace H := H.1 hq
      refine ev_p (pc' := 21) (loc' := [.ref 6, .int i1, .int (i2 + (1 : Int32))]) (st' := []) 2 am_q126 rfl ?_
      exact ev_m (loc' := [.ref 6, .int i1, .int (i2 + (1 : Int32))]) am_q126 rfl rfl H
    · replace H := H.2 hq
      refine ev_p (pc' := 43) (loc' := [.ref 6, .int i1, .int i2]) (st' := [.ref 6]) 1 am_q126 rfl ?_
      refine ev_s (pc' := 46) (loc' := [.ref 6, .int i1, .int i2]) (st' := [.ref 9]) (h1 := h) am_q126 rfl rfl rfl (am_gf2 (lk6 Ly) (lr6_5 Ly)) ?_
      refine ev_p (pc' := 48) (loc' := [.ref 6, .int i1, .int i2]) (st' := [.ref 6, .int i2, .ref 9]) 2 am_q126 rfl ?_
      refine ev_s (pc' := 51) (loc' := [.ref 6, .int i1, .int i2]) (st' := [.ref 80, .int i2, .ref 9]) (h1 := h) am_q126 rfl rfl rfl (am_gf2 (lk6 Ly) (lr6_14 Ly)) ?_
      refine ev_s (pc' := 54) (loc' := [.ref 6, .int i1, .int i2]) (st' := [.ref 81, .int i2, .ref 9]) (h1 := h) am_q126 rfl rfl rfl (am_gf2 (lk80 Ly) (lr80_0 Ly)) ?_
      refine ev_p (pc' := 55) (loc' := [.ref 6, .int i1, .int i2]) (st' := [.int i2, .ref 81, .int i2, .ref 9]) 1 am_q126 rfl ?_
      obtain ⟨g2, H⟩ := H
      refine ev_s (pc' := 56) (loc' := [.ref 6, .int i1, .int i2]) (st' := [.int (am_gi h 81 (Int32.toNatClampNeg i2)), .int i2, .ref 9]) (h1 := h) am_q126 rfl rfl rfl (am_xx (lk81 Ly) (am_inl (ln81 Ly) g2)) ?_
      refine ev_p (pc' := 57) (loc' := [.ref 6, .int i1, .int i2]) (st' := [.ref 6, .int (am_gi h 81 (Int32.toNatClampNeg i2)), .int i2, .ref 9]) 1 am_q126 rfl ?_
      refine ev_s (pc' := 60) (loc' := [.ref 6, .int i1, .int i2]) (st' := [.int (am_gi h 6 0), .int (am_gi h 81 (Int32.toNatClampNeg i2)), .int i2, .ref 9]) (h1 := h) am_q126 rfl rfl rfl (if_pos (e := none) (lk6 Ly)) ?_
      refine ev_c (vs := [.ref 9, .int i2, .int (am_gi h 81 (Int32.toNatClampNeg i2)), .int (am_gi h 6 0)]) (rest := []) 63 am_q126 rfl rfl rfl rfl rfl rfl rfl rfl rfl rfl rfl rfl (Or.inr (congrArg some (lk9 Ly))) (Cl.mono H (Nat.le_refl _) (fun r4 h3 H => ?_))
      obtain ⟨rfl, Ly, H⟩ := H
      refine ev_p (pc' := 64) (loc' := [.ref 6, .int i1, .int i2]) (st' := [.ref 6]) 1 am_q126 rfl ?_
      refine ev_s (pc' := 67) (loc' := [.ref 6, .int i1, .int i2]) (st' := [.ref 8]) (h1 := h3) am_q126 rfl rfl rfl (am_gf2 (lk6 Ly) (lr6_3 Ly)) ?_
      refine ev_p (pc' := 68) (loc' := [.ref 6, .int i1, .int i2]) (st' := [.int i2, .ref 8]) 1 am_q126 rfl ?_
      obtain ⟨g5, H⟩ := H
      refine ev_s (pc' := 69) (loc' := [.ref 6, .int i1, .int i2]) (st' := [.ref (124 + (Int32.toNatClampNeg i2))]) (h1 := h3) am_q126 rfl rfl rfl (am_xa (am_rng (lk8 Ly) (by decide)) (am_inl (ln8 Ly) g5) (lr_member Ly (am_in_lt2 g5))) ?_
      refine ev_p (pc' := 70) (loc' := [.ref 6, .int i1, .int i2]) (st' := [.int (0 : Int32), .ref (124 + (Int32.toNatClampNeg i2))]) 1 am_q126 rfl ?_
      refine ev_s (pc' := 73) (loc' := [.ref 6, .int i1, .int i2]) (st' := []) (h1 := am_si h3 (124 + (Int32.toNatClampNeg i2)) 4 (0 : Int32)) am_q126 rfl rfl rfl (if_pos (e := none) (lk_member Ly (am_in_lt2 g5))) ?_
      replace H := H _ rfl
      replace Ly : Lay (am_si h3 (124 + (Int32.toNatClampNeg i2)) 4 (0 : Int32)) := Ly.si _ _ _
      generalize am_si h3 (124 + (Int32.toNatClampNeg i2)) 4 (0 : Int32) = h6 at H Ly ⊢
      refine ev_p (pc' := 21) (loc' := [.ref 6, .int i1, .int (i2 + (1 : Int32))]) (st' := []) 2 am_q126 rfl ?_
      exact ev_m (loc' := [.ref 6, .int i1, .int (i2 + (1 : Int32))]) am_q126 rfl rfl H
/-! 127: X11_cost -/
set_option maxRecDepth 20000 in
set_option maxHeartbeats 2000000 in
theorem ws127 {d : Nat}  (i1 : Int32) {h : AH} {Q : Option Value → AH → Prop} (Ly : Lay h) (H : (i1 < (1 : Int32) → Q (some (.int (-2 : Int32))) h) ∧ (¬ i1 < (1 : Int32) → (i1 ≤ (1000000 : Int32) → Cl d 165 [.ref 6] h (fun r2 h1 => r2 = none ∧ Lay h1 ∧ ((¬ (lg_cmp (am_gl h1 105 4) (0 : Int64)) = (0 : Int32)) → ((am_gi h1 105 1) < (30 : Int32) → Cl d 27 [.ref 105, .int i1] h1 (fun r4 h3 => ∃ x5, r4 = some (.int x5) ∧ Lay h3 ∧ Ev (d + 1) 127 59 [.ref 6, .null, .int x5, .int (0 : Int32), .null] [] h3 Q)) ∧ (¬ (am_gi h1 105 1) < (30 : Int32) → Q (some (.int (-4 : Int32))) h1)) ∧ (¬ (¬ (lg_cmp (am_gl h1 105 4) (0 : Int64)) = (0 : Int32)) → Q (some (.int (-3 : Int32))) h1))) ∧ (¬ i1 ≤ (1000000 : Int32) → Q (some (.int (-2 : Int32))) h))) : Cl (d + 1) 127 [.ref 6, .int i1] h Q := by
  show Ev (d + 1) 127 0 [.ref 6, .int i1, .null, .null, .null] [] h Q
  refine ev_p (pc' := 2) (loc' := [.ref 6, .int i1, .null, .null, .null]) (st' := [.int (1 : Int32), .int i1]) 2 am_q127 rfl ?_
  refine ev_jc (t := 11) am_q127 rfl rfl (fun hq => ?_) (fun hq => ?_)
  · replace H := H.1 hq
    refine ev_p (pc' := 13) (loc' := [.null, .null, .null, .null, .null]) (st' := [.int (-2 : Int32)]) 1 am_q127 rfl ?_
    exact ev_r (v := some (.int (-2 : Int32))) am_q127 rfl rfl rfl rfl H
  · replace H := H.2 hq
    refine ev_p (pc' := 8) (loc' := [.ref 6, .int i1, .null, .null, .null]) (st' := [.int (1000000 : Int32), .int i1]) 2 am_q127 rfl ?_
    refine ev_jc (t := 14) am_q127 rfl rfl (fun hq => ?_) (fun hq => ?_)
    · replace H := H.1 hq
      refine ev_p (pc' := 15) (loc' := [.ref 6, .int i1, .null, .null, .null]) (st' := [.ref 6]) 1 am_q127 rfl ?_
      refine ev_c (vs := [.ref 6]) (rest := []) 165 am_q127 rfl rfl rfl rfl rfl rfl rfl rfl rfl rfl rfl rfl (Or.inr (congrArg some (lk6 Ly))) (Cl.mono H (Nat.le_refl _) (fun r2 h1 H => ?_))
      obtain ⟨rfl, Ly, H⟩ := H
      refine ev_p (pc' := 19) (loc' := [.ref 6, .int i1, .null, .null, .null]) (st' := [.ref 6]) 1 am_q127 rfl ?_
      refine ev_s (pc' := 22) (loc' := [.ref 6, .int i1, .null, .null, .null]) (st' := [.ref 105]) (h1 := h1) am_q127 rfl rfl rfl (am_gf2 (lk6 Ly) (lr6_15 Ly)) ?_
      refine ev_s (pc' := 25) (loc' := [.ref 6, .int i1, .null, .null, .null]) (st' := [.long (am_gl h1 105 4)]) (h1 := h1) am_q127 rfl rfl rfl (if_pos (e := none) (lk105 Ly)) ?_
      refine ev_p (pc' := 27) (loc' := [.ref 6, .int i1, .null, .null, .null]) (st' := [.int (lg_cmp (am_gl h1 105 4) (0 : Int64))]) 2 am_q127 rfl ?_
      refine ev_jz (t := 33) am_q127 rfl rfl (fun hq => ?_) (fun hq => ?_)
      · replace H := H.1 hq
        refine ev_p (pc' := 34) (loc' := [.ref 6, .int i1, .null, .null, .null]) (st' := [.ref 6]) 1 am_q127 rfl ?_
        refine ev_s (pc' := 37) (loc' := [.ref 6, .int i1, .null, .null, .null]) (st' := [.ref 105]) (h1 := h1) am_q127 rfl rfl rfl (am_gf2 (lk6 Ly) (lr6_15 Ly)) ?_
        refine ev_s (pc' := 40) (loc' := [.ref 6, .int i1, .null, .null, .null]) (st' := [.int (am_gi h1 105 1)]) (h1 := h1) am_q127 rfl rfl rfl (if_pos (e := none) (lk105 Ly)) ?_
        refine ev_p (pc' := 42) (loc' := [.ref 6, .int i1, .null, .null, .null]) (st' := [.int (30 : Int32), .int (am_gi h1 105 1)]) 1 am_q127 rfl ?_
        refine ev_jc (t := 48) am_q127 rfl rfl (fun hq => ?_) (fun hq => ?_)
        · replace H := H.1 hq
          refine ev_p (pc' := 49) (loc' := [.ref 6, .int i1, .null, .null, .null]) (st' := [.ref 6]) 1 am_q127 rfl ?_
          refine ev_s (pc' := 52) (loc' := [.ref 6, .int i1, .null, .null, .null]) (st' := [.ref 105]) (h1 := h1) am_q127 rfl rfl rfl (am_gf2 (lk6 Ly) (lr6_15 Ly)) ?_
          refine ev_p (pc' := 53) (loc' := [.ref 6, .int i1, .null, .null, .null]) (st' := [.int i1, .ref 105]) 1 am_q127 rfl ?_
          refine ev_c (vs := [.ref 105, .int i1]) (rest := []) 27 am_q127 rfl rfl rfl rfl rfl rfl rfl rfl rfl rfl rfl rfl (Or.inr (congrArg some (lk105 Ly))) (Cl.mono H (Nat.le_refl _) (fun r4 h3 H => ?_))
          obtain ⟨x5, rfl, Ly, H⟩ := H
          refine ev_p (pc' := 59) (loc' := [.ref 6, .int i1, .int x5, .int (0 : Int32), .null]) (st' := []) 3 am_q127 rfl ?_
          exact ev_m (loc' := [.ref 6, .null, .int x5, .int (0 : Int32), .null]) am_q127 rfl rfl H
        · replace H := H.2 hq
          refine ev_p (pc' := 47) (loc' := [.ref 6, .int i1, .null, .null, .null]) (st' := [.int (-4 : Int32)]) 1 am_q127 rfl ?_
          exact ev_r (v := some (.int (-4 : Int32))) am_q127 rfl rfl rfl rfl H
      · replace H := H.2 hq
        refine ev_p (pc' := 32) (loc' := [.ref 6, .int i1, .null, .null, .null]) (st' := [.int (-3 : Int32)]) 1 am_q127 rfl ?_
        exact ev_r (v := some (.int (-3 : Int32))) am_q127 rfl rfl rfl rfl H
    · replace H := H.2 hq
      refine ev_p (pc' := 13) (loc' := [.null, .null, .null, .null, .null]) (st' := [.int (-2 : Int32)]) 1 am_q127 rfl ?_
      exact ev_r (v := some (.int (-2 : Int32))) am_q127 rfl rfl rfl rfl H
set_option maxRecDepth 20000 in
set_option maxHeartbeats 2000000 in
theorem ws127_59 {d : Nat}  (i2 : Int32) (i3 : Int32) {h : AH} {Q : Option Value → AH → Prop} (Ly : Lay h) (H : ((am_gi h 6 2) ≤ i3 → Q (some (.int i2)) h) ∧ (¬ (am_gi h 6 2) ≤ i3 → Cl d 56 [.ref 9, .int i3, .int (am_gi h 6 0)] h (fun r2 h1 => ∃ x3, r2 = some (.int x3) ∧ Lay h1 ∧ (x3 = (-1 : Int32) → Ev (d + 1) 127 59 [.ref 6, .null, .int i2, .int (i3 + (1 : Int32)), .null] [] h1 Q) ∧ (¬ x3 = (-1 : Int32) → am_in x3 60 ∧ am_in (am_gi h1 (11 + (Int32.toNatClampNeg x3)) 2) 24 ∧ Cl d 29 [.ref 105, .int i2, .int i3] h1 (fun r7 h6 => ∃ x8, r7 = some (.int x8) ∧ Lay h6 ∧ ∀ h9, h9 = am_sl h6 (124 + (Int32.toNatClampNeg (am_gi h1 (11 + (Int32.toNatClampNeg x3)) 2))) 5 ((am_gl h1 (124 + (Int32.toNatClampNeg (am_gi h1 (11 + (Int32.toNatClampNeg x3)) 2))) 5) + (Int32.toInt64 x8)) → Ev (d + 1) 127 59 [.ref 6, .null, .int i2, .int (i3 + (1 : Int32)), .null] [] h9 Q))))) : Ev (d + 1) 127 59 [.ref 6, .null, .int i2, .int i3, .null] [] h Q := by
  refine ev_p (pc' := 61) (loc' := [.ref 6, .null, .int i2, .int i3, .null]) (st' := [.ref 6, .int i3]) 2 am_q127 rfl ?_
  refine ev_s (pc' := 64) (loc' := [.ref 6, .null, .int i2, .int i3, .null]) (st' := [.int (am_gi h 6 2), .int i3]) (h1 := h) am_q127 rfl rfl rfl (if_pos (e := none) (lk6 Ly)) ?_
  refine ev_jc (t := 129) am_q127 rfl rfl (fun hq => ?_) (fun hq => ?_)
  · replace H := H.1 hq
    refine ev_p (pc' := 130) (loc' := [.ref 6, .null, .int i2, .int i3, .null]) (st' := [.int i2]) 1 am_q127 rfl ?_
    exact ev_r (v := some (.int i2)) am_q127 rfl rfl rfl rfl H
  · replace H := H.2 hq
    refine ev_p (pc' := 68) (loc' := [.ref 6, .null, .int i2, .int i3, .null]) (st' := [.ref 6]) 1 am_q127 rfl ?_
    refine ev_s (pc' := 71) (loc' := [.ref 6, .null, .int i2, .int i3, .null]) (st' := [.ref 9]) (h1 := h) am_q127 rfl rfl rfl (am_gf2 (lk6 Ly) (lr6_5 Ly)) ?_
    refine ev_p (pc' := 73) (loc' := [.ref 6, .null, .int i2, .int i3, .null]) (st' := [.ref 6, .int i3, .ref 9]) 2 am_q127 rfl ?_
    refine ev_s (pc' := 76) (loc' := [.ref 6, .null, .int i2, .int i3, .null]) (st' := [.int (am_gi h 6 0), .int i3, .ref 9]) (h1 := h) am_q127 rfl rfl rfl (if_pos (e := none) (lk6 Ly)) ?_
    refine ev_c (vs := [.ref 9, .int i3, .int (am_gi h 6 0)]) (rest := []) 56 am_q127 rfl rfl rfl rfl rfl rfl rfl rfl rfl rfl rfl rfl (Or.inr (congrArg some (lk9 Ly))) (Cl.mono H (Nat.le_refl _) (fun r2 h1 H => ?_))
    obtain ⟨x3, rfl, Ly, H⟩ := H
    refine ev_p (pc' := 84) (loc' := [.ref 6, .null, .int i2, .int i3, .int x3]) (st' := [.int (-1 : Int32), .int x3]) 3 am_q127 rfl ?_
    refine ev_jc (t := 123) am_q127 rfl rfl (fun hq => ?_) (fun hq => ?_)
    · replace H := H.1 hq
      refine ev_p (pc' := 59) (loc' := [.ref 6, .null, .int i2, .int (i3 + (1 : Int32)), .null]) (st' := []) 2 am_q127 rfl ?_
      exact ev_m (loc' := [.ref 6, .null, .int i2, .int (i3 + (1 : Int32)), .null]) am_q127 rfl rfl H
    · replace H := H.2 hq
      refine ev_p (pc' := 88) (loc' := [.ref 6, .null, .int i2, .int i3, .int x3]) (st' := [.ref 6]) 1 am_q127 rfl ?_
      refine ev_s (pc' := 91) (loc' := [.ref 6, .null, .int i2, .int i3, .int x3]) (st' := [.ref 8]) (h1 := h1) am_q127 rfl rfl rfl (am_gf2 (lk6 Ly) (lr6_3 Ly)) ?_
      refine ev_p (pc' := 92) (loc' := [.ref 6, .null, .int i2, .int i3, .int x3]) (st' := [.ref 6, .ref 8]) 1 am_q127 rfl ?_
      refine ev_s (pc' := 95) (loc' := [.ref 6, .null, .int i2, .int i3, .int x3]) (st' := [.ref 9, .ref 8]) (h1 := h1) am_q127 rfl rfl rfl (am_gf2 (lk6 Ly) (lr6_5 Ly)) ?_
      refine ev_s (pc' := 98) (loc' := [.ref 6, .null, .int i2, .int i3, .int x3]) (st' := [.ref 10, .ref 8]) (h1 := h1) am_q127 rfl rfl rfl (am_gf2 (lk9 Ly) (lr9_0 Ly)) ?_
      refine ev_p (pc' := 100) (loc' := [.ref 6, .null, .int i2, .int i3, .int x3]) (st' := [.int x3, .ref 10, .ref 8]) 1 am_q127 rfl ?_
      obtain ⟨g4, H⟩ := H
      refine ev_s (pc' := 101) (loc' := [.ref 6, .null, .int i2, .int i3, .int x3]) (st' := [.ref (11 + (Int32.toNatClampNeg x3)), .ref 8]) (h1 := h1) am_q127 rfl rfl rfl (am_xa (am_rng (lk10 Ly) (by decide)) (am_inl (ln10 Ly) g4) (lr_right Ly (am_in_lt2 g4))) ?_
      refine ev_s (pc' := 104) (loc' := [.ref 6, .null, .int i2, .int i3, .int x3]) (st' := [.int (am_gi h1 (11 + (Int32.toNatClampNeg x3)) 2), .ref 8]) (h1 := h1) am_q127 rfl rfl rfl (if_pos (e := none) (lk_right Ly (am_in_lt2 g4))) ?_
      obtain ⟨g5, H⟩ := H
      refine ev_s (pc' := 105) (loc' := [.ref 6, .null, .int i2, .int i3, .int x3]) (st' := [.ref (124 + (Int32.toNatClampNeg (am_gi h1 (11 + (Int32.toNatClampNeg x3)) 2)))]) (h1 := h1) am_q127 rfl rfl rfl (am_xa (am_rng (lk8 Ly) (by decide)) (am_inl (ln8 Ly) g5) (lr_member Ly (am_in_lt2 g5))) ?_
      refine ev_p (pc' := 106) (loc' := [.ref 6, .null, .int i2, .int i3, .int x3]) (st' := [.ref (124 + (Int32.toNatClampNeg (am_gi h1 (11 + (Int32.toNatClampNeg x3)) 2))), .ref (124 + (Int32.toNatClampNeg (am_gi h1 (11 + (Int32.toNatClampNeg x3)) 2)))]) 1 am_q127 rfl ?_
      refine ev_s (pc' := 109) (loc' := [.ref 6, .null, .int i2, .int i3, .int x3]) (st' := [.long (am_gl h1 (124 + (Int32.toNatClampNeg (am_gi h1 (11 + (Int32.toNatClampNeg x3)) 2))) 5), .ref (124 + (Int32.toNatClampNeg (am_gi h1 (11 + (Int32.toNatClampNeg x3)) 2)))]) (h1 := h1) am_q127 rfl rfl rfl (if_pos (e := none) (lk_member Ly (am_in_lt2 g5))) ?_
      refine ev_p (pc' := 110) (loc' := [.ref 6, .null, .int i2, .int i3, .int x3]) (st' := [.ref 6, .long (am_gl h1 (124 + (Int32.toNatClampNeg (am_gi h1 (11 + (Int32.toNatClampNeg x3)) 2))) 5), .ref (124 + (Int32.toNatClampNeg (am_gi h1 (11 + (Int32.toNatClampNeg x3)) 2)))]) 1 am_q127 rfl ?_
      refine ev_s (pc' := 113) (loc' := [.ref 6, .null, .int i2, .int i3, .int x3]) (st' := [.ref 105, .long (am_gl h1 (124 + (Int32.toNatClampNeg (am_gi h1 (11 + (Int32.toNatClampNeg x3)) 2))) 5), .ref (124 + (Int32.toNatClampNeg (am_gi h1 (11 + (Int32.toNatClampNeg x3)) 2)))]) (h1 := h1) am_q127 rfl rfl rfl (am_gf2 (lk6 Ly) (lr6_15 Ly)) ?_
      refine ev_p (pc' := 115) (loc' := [.ref 6, .null, .int i2, .int i3, .int x3]) (st' := [.int i3, .int i2, .ref 105, .long (am_gl h1 (124 + (Int32.toNatClampNeg (am_gi h1 (11 + (Int32.toNatClampNeg x3)) 2))) 5), .ref (124 + (Int32.toNatClampNeg (am_gi h1 (11 + (Int32.toNatClampNeg x3)) 2)))]) 2 am_q127 rfl ?_
      refine ev_c (vs := [.ref 105, .int i2, .int i3]) (rest := [.long (am_gl h1 (124 + (Int32.toNatClampNeg (am_gi h1 (11 + (Int32.toNatClampNeg x3)) 2))) 5), .ref (124 + (Int32.toNatClampNeg (am_gi h1 (11 + (Int32.toNatClampNeg x3)) 2)))]) 29 am_q127 rfl rfl rfl rfl rfl rfl rfl rfl rfl rfl rfl rfl (Or.inr (congrArg some (lk105 Ly))) (Cl.mono H (Nat.le_refl _) (fun r7 h6 H => ?_))
      obtain ⟨x8, rfl, Ly, H⟩ := H
      refine ev_p (pc' := 120) (loc' := [.ref 6, .null, .int i2, .int i3, .int x3]) (st' := [.long ((am_gl h1 (124 + (Int32.toNatClampNeg (am_gi h1 (11 + (Int32.toNatClampNeg x3)) 2))) 5) + (Int32.toInt64 x8)), .ref (124 + (Int32.toNatClampNeg (am_gi h1 (11 + (Int32.toNatClampNeg x3)) 2)))]) 2 am_q127 rfl ?_
      refine ev_s (pc' := 123) (loc' := [.ref 6, .null, .int i2, .int i3, .int x3]) (st' := []) (h1 := am_sl h6 (124 + (Int32.toNatClampNeg (am_gi h1 (11 + (Int32.toNatClampNeg x3)) 2))) 5 ((am_gl h1 (124 + (Int32.toNatClampNeg (am_gi h1 (11 + (Int32.toNatClampNeg x3)) 2))) 5) + (Int32.toInt64 x8))) am_q127 rfl rfl rfl (if_pos (e := none) (lk_member Ly (am_in_lt2 g5))) ?_
      replace H := H _ rfl
      replace Ly : Lay (am_sl h6 (124 + (Int32.toNatClampNeg (am_gi h1 (11 + (Int32.toNatClampNeg x3)) 2))) 5 ((am_gl h1 (124 + (Int32.toNatClampNeg (am_gi h1 (11 + (Int32.toNatClampNeg x3)) 2))) 5) + (Int32.toInt64 x8))) := Ly.sl _ _ _
      generalize am_sl h6 (124 + (Int32.toNatClampNeg (am_gi h1 (11 + (Int32.toNatClampNeg x3)) 2))) 5 ((am_gl h1 (124 + (Int32.toNatClampNeg (am_gi h1 (11 + (Int32.toNatClampNeg x3)) 2))) 5) + (Int32.toInt64 x8)) = h9 at H Ly ⊢
      refine ev_p (pc' := 59) (loc' := [.ref 6, .null, .int i2, .int (i3 + (1 : Int32)), .null]) (st' := []) 2 am_q127 rfl ?_
      exact ev_m (loc' := [.ref 6, .null, .int i2, .int (i3 + (1 : Int32)), .null]) am_q127 rfl rfl H
/-! 128: X11_parted -/
set_option maxRecDepth 20000 in
set_option maxHeartbeats 2000000 in
theorem ws128 {d : Nat}  (i1 : Int32) (i2 : Int32) {h : AH} {Q : Option Value → AH → Prop} (Ly : Lay h) (H : (i1 < (0 : Int32) → Q (some (.int (-2 : Int32))) h) ∧ (¬ i1 < (0 : Int32) → ((am_gi h 105 1) ≤ i1 → Q (some (.int (-2 : Int32))) h) ∧ (¬ (am_gi h 105 1) ≤ i1 → Cl d 138 [.ref 6, .int i2] h (fun r2 h1 => ∃ x3, r2 = some (.int x3) ∧ Lay h1 ∧ ((¬ x3 = (0 : Int32)) → Cl d 29 [.ref 105, .int i1, .int i2] h1 (fun r5 h4 => ∃ x6, r5 = some (.int x6) ∧ Lay h4 ∧ Q (some (.int x6)) h4)) ∧ (¬ (¬ x3 = (0 : Int32)) → Q (some (.int (-2 : Int32))) h1))))) : Cl (d + 1) 128 [.ref 6, .int i1, .int i2] h Q := by
  show Ev (d + 1) 128 0 [.ref 6, .int i1, .int i2] [] h Q
  refine ev_p (pc' := 1) (loc' := [.ref 6, .int i1, .int i2]) (st' := [.int i1]) 1 am_q128 rfl ?_
  refine ev_jz (t := 23) am_q128 rfl rfl (fun hq => ?_) (fun hq => ?_)
  · replace H := H.1 hq
    refine ev_p (pc' := 25) (loc' := [.null, .null, .null]) (st' := [.int (-2 : Int32)]) 1 am_q128 rfl ?_
    exact ev_r (v := some (.int (-2 : Int32))) am_q128 rfl rfl rfl rfl H
  · replace H := H.2 hq
    refine ev_p (pc' := 6) (loc' := [.ref 6, .int i1, .int i2]) (st' := [.ref 6, .int i1]) 2 am_q128 rfl ?_
    refine ev_s (pc' := 9) (loc' := [.ref 6, .int i1, .int i2]) (st' := [.ref 105, .int i1]) (h1 := h) am_q128 rfl rfl rfl (am_gf2 (lk6 Ly) (lr6_15 Ly)) ?_
    refine ev_s (pc' := 12) (loc' := [.ref 6, .int i1, .int i2]) (st' := [.int (am_gi h 105 1), .int i1]) (h1 := h) am_q128 rfl rfl rfl (if_pos (e := none) (lk105 Ly)) ?_
    refine ev_jc (t := 23) am_q128 rfl rfl (fun hq => ?_) (fun hq => ?_)
    · replace H := H.1 hq
      refine ev_p (pc' := 25) (loc' := [.null, .null, .null]) (st' := [.int (-2 : Int32)]) 1 am_q128 rfl ?_
      exact ev_r (v := some (.int (-2 : Int32))) am_q128 rfl rfl rfl rfl H
    · replace H := H.2 hq
      refine ev_p (pc' := 17) (loc' := [.ref 6, .int i1, .int i2]) (st' := [.int i2, .ref 6]) 2 am_q128 rfl ?_
      refine ev_c (vs := [.ref 6, .int i2]) (rest := []) 138 am_q128 rfl rfl rfl rfl rfl rfl rfl rfl rfl rfl rfl rfl (Or.inr (congrArg some (lk6 Ly))) (Cl.mono H (Nat.le_refl _) (fun r2 h1 H => ?_))
      obtain ⟨x3, rfl, Ly, H⟩ := H
      refine ev_jz (t := 26) am_q128 rfl rfl (fun hq => ?_) (fun hq => ?_)
      · replace H := H.1 hq
        refine ev_p (pc' := 27) (loc' := [.ref 6, .int i1, .int i2]) (st' := [.ref 6]) 1 am_q128 rfl ?_
        refine ev_s (pc' := 30) (loc' := [.ref 6, .int i1, .int i2]) (st' := [.ref 105]) (h1 := h1) am_q128 rfl rfl rfl (am_gf2 (lk6 Ly) (lr6_15 Ly)) ?_
        refine ev_p (pc' := 32) (loc' := [.ref 6, .int i1, .int i2]) (st' := [.int i2, .int i1, .ref 105]) 2 am_q128 rfl ?_
        refine ev_c (vs := [.ref 105, .int i1, .int i2]) (rest := []) 29 am_q128 rfl rfl rfl rfl rfl rfl rfl rfl rfl rfl rfl rfl (Or.inr (congrArg some (lk105 Ly))) (Cl.mono H (Nat.le_refl _) (fun r5 h4 H => ?_))
        obtain ⟨x6, rfl, Ly, H⟩ := H
        exact ev_r (v := some (.int x6)) am_q128 rfl rfl rfl rfl H
      · replace H := H.2 hq
        refine ev_p (pc' := 25) (loc' := [.null, .null, .null]) (st' := [.int (-2 : Int32)]) 1 am_q128 rfl ?_
        exact ev_r (v := some (.int (-2 : Int32))) am_q128 rfl rfl rfl rfl H
/-! 129: X11_pay -/
set_option maxRecDepth 20000 in
set_option maxHeartbeats 2000000 in
theorem ws129 {d : Nat}  (i1 : Int32) (i2 : Int32) {h : AH} {Q : Option Value → AH → Prop} (Ly : Lay h) (H : Cl d 139 [.ref 6, .int i1] h (fun r2 h1 => ∃ x3, r2 = some (.int x3) ∧ Lay h1 ∧ (x3 = (0 : Int32) → Q (some (.long (-4611686018427387904 : Int64))) h1) ∧ (¬ x3 = (0 : Int32) → Cl d 144 [.int i2] h1 (fun r5 h4 => ∃ x6, r5 = some (.int x6) ∧ Lay h4 ∧ ((¬ x6 = (0 : Int32)) → am_in i1 24 ∧ ∀ h8, h8 = am_sl h4 (124 + (Int32.toNatClampNeg i1)) 5 ((am_gl h4 (124 + (Int32.toNatClampNeg i1)) 5) - (Int32.toInt64 i2)) → am_in i1 24 ∧ Q (some (.long (am_gl h8 (124 + (Int32.toNatClampNeg i1)) 5))) h8) ∧ (¬ (¬ x6 = (0 : Int32)) → Q (some (.long (-4611686018427387904 : Int64))) h4))))) : Cl (d + 1) 129 [.ref 6, .int i1, .int i2] h Q := by
  show Ev (d + 1) 129 0 [.ref 6, .int i1, .int i2] [] h Q
  refine ev_p (pc' := 2) (loc' := [.ref 6, .int i1, .int i2]) (st' := [.int i1, .ref 6]) 2 am_q129 rfl ?_
  refine ev_c (vs := [.ref 6, .int i1]) (rest := []) 139 am_q129 rfl rfl rfl rfl rfl rfl rfl rfl rfl rfl rfl rfl (Or.inr (congrArg some (lk6 Ly))) (Cl.mono H (Nat.le_refl _) (fun r2 h1 H => ?_))
  obtain ⟨x3, rfl, Ly, H⟩ := H
  refine ev_jz (t := 15) am_q129 rfl rfl (fun hq => ?_) (fun hq => ?_)
  · replace H := H.1 hq
    refine ev_p (pc' := 18) (loc' := [.null, .null, .null]) (st' := [.long (-4611686018427387904 : Int64)]) 1 am_q129 rfl ?_
    exact ev_r (v := some (.long (-4611686018427387904 : Int64))) am_q129 rfl rfl rfl rfl H
  · replace H := H.2 hq
    refine ev_p (pc' := 9) (loc' := [.ref 6, .int i1, .int i2]) (st' := [.int i2]) 1 am_q129 rfl ?_
    refine ev_c (vs := [.int i2]) (rest := []) 144 am_q129 rfl rfl rfl rfl rfl rfl rfl rfl rfl rfl rfl rfl (Or.inl rfl) (Cl.mono H (Nat.le_refl _) (fun r5 h4 H => ?_))
    obtain ⟨x6, rfl, Ly, H⟩ := H
    refine ev_jz (t := 19) am_q129 rfl rfl (fun hq => ?_) (fun hq => ?_)
    · replace H := H.1 hq
      refine ev_p (pc' := 20) (loc' := [.ref 6, .int i1, .int i2]) (st' := [.ref 6]) 1 am_q129 rfl ?_
      refine ev_s (pc' := 23) (loc' := [.ref 6, .int i1, .int i2]) (st' := [.ref 8]) (h1 := h4) am_q129 rfl rfl rfl (am_gf2 (lk6 Ly) (lr6_3 Ly)) ?_
      refine ev_p (pc' := 24) (loc' := [.ref 6, .int i1, .int i2]) (st' := [.int i1, .ref 8]) 1 am_q129 rfl ?_
      obtain ⟨g7, H⟩ := H
      refine ev_s (pc' := 25) (loc' := [.ref 6, .int i1, .int i2]) (st' := [.ref (124 + (Int32.toNatClampNeg i1))]) (h1 := h4) am_q129 rfl rfl rfl (am_xa (am_rng (lk8 Ly) (by decide)) (am_inl (ln8 Ly) g7) (lr_member Ly (am_in_lt2 g7))) ?_
      refine ev_p (pc' := 26) (loc' := [.ref 6, .int i1, .int i2]) (st' := [.ref (124 + (Int32.toNatClampNeg i1)), .ref (124 + (Int32.toNatClampNeg i1))]) 1 am_q129 rfl ?_
      refine ev_s (pc' := 29) (loc' := [.ref 6, .int i1, .int i2]) (st' := [.long (am_gl h4 (124 + (Int32.toNatClampNeg i1)) 5), .ref (124 + (Int32.toNatClampNeg i1))]) (h1 := h4) am_q129 rfl rfl rfl (if_pos (e := none) (lk_member Ly (am_in_lt2 g7))) ?_
      refine ev_p (pc' := 32) (loc' := [.ref 6, .int i1, .int i2]) (st' := [.long ((am_gl h4 (124 + (Int32.toNatClampNeg i1)) 5) - (Int32.toInt64 i2)), .ref (124 + (Int32.toNatClampNeg i1))]) 3 am_q129 rfl ?_
      refine ev_s (pc' := 35) (loc' := [.ref 6, .int i1, .int i2]) (st' := []) (h1 := am_sl h4 (124 + (Int32.toNatClampNeg i1)) 5 ((am_gl h4 (124 + (Int32.toNatClampNeg i1)) 5) - (Int32.toInt64 i2))) am_q129 rfl rfl rfl (if_pos (e := none) (lk_member Ly (am_in_lt2 g7))) ?_
      replace H := H _ rfl
      replace Ly : Lay (am_sl h4 (124 + (Int32.toNatClampNeg i1)) 5 ((am_gl h4 (124 + (Int32.toNatClampNeg i1)) 5) - (Int32.toInt64 i2))) := Ly.sl _ _ _
      generalize am_sl h4 (124 + (Int32.toNatClampNeg i1)) 5 ((am_gl h4 (124 + (Int32.toNatClampNeg i1)) 5) - (Int32.toInt64 i2)) = h8 at H Ly ⊢
      refine ev_p (pc' := 36) (loc' := [.ref 6, .int i1, .int i2]) (st' := [.ref 6]) 1 am_q129 rfl ?_
      refine ev_s (pc' := 39) (loc' := [.ref 6, .int i1, .int i2]) (st' := [.ref 8]) (h1 := h8) am_q129 rfl rfl rfl (am_gf2 (lk6 Ly) (lr6_3 Ly)) ?_
      refine ev_p (pc' := 40) (loc' := [.ref 6, .int i1, .int i2]) (st' := [.int i1, .ref 8]) 1 am_q129 rfl ?_
      obtain ⟨g9, H⟩ := H
      refine ev_s (pc' := 41) (loc' := [.ref 6, .int i1, .int i2]) (st' := [.ref (124 + (Int32.toNatClampNeg i1))]) (h1 := h8) am_q129 rfl rfl rfl (am_xa (am_rng (lk8 Ly) (by decide)) (am_inl (ln8 Ly) g9) (lr_member Ly (am_in_lt2 g9))) ?_
      refine ev_s (pc' := 44) (loc' := [.ref 6, .int i1, .int i2]) (st' := [.long (am_gl h8 (124 + (Int32.toNatClampNeg i1)) 5)]) (h1 := h8) am_q129 rfl rfl rfl (if_pos (e := none) (lk_member Ly (am_in_lt2 g9))) ?_
      exact ev_r (v := some (.long (am_gl h8 (124 + (Int32.toNatClampNeg i1)) 5))) am_q129 rfl rfl rfl rfl H
    · replace H := H.2 hq
      refine ev_p (pc' := 18) (loc' := [.null, .null, .null]) (st' := [.long (-4611686018427387904 : Int64)]) 1 am_q129 rfl ?_
      exact ev_r (v := some (.long (-4611686018427387904 : Int64))) am_q129 rfl rfl rfl rfl H
/-! 130: X11_year -/
set_option maxRecDepth 20000 in
set_option maxHeartbeats 2000000 in
theorem ws130 {d : Nat}  (i1 : Int32) (i2 : Int32) {h : AH} {Q : Option Value → AH → Prop} (Ly : Lay h) (H : Cl d 12 [.ref 109, .int i1] h (fun r2 h1 => ∃ x3, r2 = some (.int x3) ∧ Lay h1 ∧ (x3 = (0 : Int32) → Q (some (.int (-2 : Int32))) h1) ∧ (¬ x3 = (0 : Int32) → Cl d 144 [.int i2] h1 (fun r5 h4 => ∃ x6, r5 = some (.int x6) ∧ Lay h4 ∧ ((¬ x6 = (0 : Int32)) → am_in i1 40 ∧ am_in i1 40 ∧ ∀ h9, h9 = am_si h4 110 (Int32.toNatClampNeg i1) i2 → Q (some (.int (am_gi h4 110 (Int32.toNatClampNeg i1)))) h9) ∧ (¬ (¬ x6 = (0 : Int32)) → Q (some (.int (-2 : Int32))) h4))))) : Cl (d + 1) 130 [.ref 6, .int i1, .int i2] h Q := by
  show Ev (d + 1) 130 0 [.ref 6, .int i1, .int i2, .null] [] h Q
  refine ev_p (pc' := 1) (loc' := [.ref 6, .int i1, .int i2, .null]) (st' := [.ref 6]) 1 am_q130 rfl ?_
  refine ev_s (pc' := 4) (loc' := [.ref 6, .int i1, .int i2, .null]) (st' := [.ref 109]) (h1 := h) am_q130 rfl rfl rfl (am_gf2 (lk6 Ly) (lr6_16 Ly)) ?_
  refine ev_p (pc' := 5) (loc' := [.ref 6, .int i1, .int i2, .null]) (st' := [.int i1, .ref 109]) 1 am_q130 rfl ?_
  refine ev_c (vs := [.ref 109, .int i1]) (rest := []) 12 am_q130 rfl rfl rfl rfl rfl rfl rfl rfl rfl rfl rfl rfl (Or.inr (congrArg some (lk109 Ly))) (Cl.mono H (Nat.le_refl _) (fun r2 h1 H => ?_))
  obtain ⟨x3, rfl, Ly, H⟩ := H
  refine ev_jz (t := 18) am_q130 rfl rfl (fun hq => ?_) (fun hq => ?_)
  · replace H := H.1 hq
    refine ev_p (pc' := 20) (loc' := [.null, .null, .null, .null]) (st' := [.int (-2 : Int32)]) 1 am_q130 rfl ?_
    exact ev_r (v := some (.int (-2 : Int32))) am_q130 rfl rfl rfl rfl H
  · replace H := H.2 hq
    refine ev_p (pc' := 12) (loc' := [.ref 6, .int i1, .int i2, .null]) (st' := [.int i2]) 1 am_q130 rfl ?_
    refine ev_c (vs := [.int i2]) (rest := []) 144 am_q130 rfl rfl rfl rfl rfl rfl rfl rfl rfl rfl rfl rfl (Or.inl rfl) (Cl.mono H (Nat.le_refl _) (fun r5 h4 H => ?_))
    obtain ⟨x6, rfl, Ly, H⟩ := H
    refine ev_jz (t := 21) am_q130 rfl rfl (fun hq => ?_) (fun hq => ?_)
    · replace H := H.1 hq
      refine ev_p (pc' := 22) (loc' := [.ref 6, .int i1, .int i2, .null]) (st' := [.ref 6]) 1 am_q130 rfl ?_
      refine ev_s (pc' := 25) (loc' := [.ref 6, .int i1, .int i2, .null]) (st' := [.ref 109]) (h1 := h4) am_q130 rfl rfl rfl (am_gf2 (lk6 Ly) (lr6_16 Ly)) ?_
      refine ev_s (pc' := 28) (loc' := [.ref 6, .int i1, .int i2, .null]) (st' := [.ref 110]) (h1 := h4) am_q130 rfl rfl rfl (am_gf2 (lk109 Ly) (lr109_0 Ly)) ?_
      refine ev_p (pc' := 29) (loc' := [.ref 6, .int i1, .int i2, .null]) (st' := [.int i1, .ref 110]) 1 am_q130 rfl ?_
      obtain ⟨g7, H⟩ := H
      refine ev_s (pc' := 30) (loc' := [.ref 6, .int i1, .int i2, .null]) (st' := [.int (am_gi h4 110 (Int32.toNatClampNeg i1))]) (h1 := h4) am_q130 rfl rfl rfl (am_xx (lk110 Ly) (am_inl (ln110 Ly) g7)) ?_
      refine ev_p (pc' := 32) (loc' := [.ref 6, .int i1, .int i2, .int (am_gi h4 110 (Int32.toNatClampNeg i1))]) (st' := [.ref 6]) 2 am_q130 rfl ?_
      refine ev_s (pc' := 35) (loc' := [.ref 6, .int i1, .int i2, .int (am_gi h4 110 (Int32.toNatClampNeg i1))]) (st' := [.ref 109]) (h1 := h4) am_q130 rfl rfl rfl (am_gf2 (lk6 Ly) (lr6_16 Ly)) ?_
      refine ev_s (pc' := 38) (loc' := [.ref 6, .int i1, .int i2, .int (am_gi h4 110 (Int32.toNatClampNeg i1))]) (st' := [.ref 110]) (h1 := h4) am_q130 rfl rfl rfl (am_gf2 (lk109 Ly) (lr109_0 Ly)) ?_
      refine ev_p (pc' := 40) (loc' := [.ref 6, .int i1, .int i2, .int (am_gi h4 110 (Int32.toNatClampNeg i1))]) (st' := [.int i2, .int i1, .ref 110]) 2 am_q130 rfl ?_
      obtain ⟨g8, H⟩ := H
      refine ev_s (pc' := 41) (loc' := [.ref 6, .int i1, .int i2, .int (am_gi h4 110 (Int32.toNatClampNeg i1))]) (st' := []) (h1 := am_si h4 110 (Int32.toNatClampNeg i1) i2) am_q130 rfl rfl rfl (am_xx ⟨lk110 Ly, (Nat.le_of_ble_eq_true rfl)⟩ (am_inl (ln110 Ly) g8)) ?_
      replace H := H _ rfl
      replace Ly : Lay (am_si h4 110 (Int32.toNatClampNeg i1) i2) := Ly.si _ _ _
      generalize am_si h4 110 (Int32.toNatClampNeg i1) i2 = h9 at H Ly ⊢
      refine ev_p (pc' := 42) (loc' := [.ref 6, .int i1, .int i2, .int (am_gi h4 110 (Int32.toNatClampNeg i1))]) (st' := [.int (am_gi h4 110 (Int32.toNatClampNeg i1))]) 1 am_q130 rfl ?_
      exact ev_r (v := some (.int (am_gi h4 110 (Int32.toNatClampNeg i1)))) am_q130 rfl rfl rfl rfl H
    · replace H := H.2 hq
      refine ev_p (pc' := 20) (loc' := [.null, .null, .null, .null]) (st' := [.int (-2 : Int32)]) 1 am_q130 rfl ?_
      exact ev_r (v := some (.int (-2 : Int32))) am_q130 rfl rfl rfl rfl H
