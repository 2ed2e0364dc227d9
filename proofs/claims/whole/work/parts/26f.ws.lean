/-! 167: X12_in -/
set_option maxRecDepth 20000 in
set_option maxHeartbeats 2000000 in
theorem ws167 {d : Nat}  (i0 : Int32) (i1 : Int32) (i2 : Int32) {h : AH} {Q : Option Value → AH → Prop} (Ly : Lay h) (H : (i0 < i1 → Q (some (.int (0 : Int32))) h) ∧ (¬ i0 < i1 → (i2 < i0 → Q (some (.int (0 : Int32))) h) ∧ (¬ i2 < i0 → Q (some (.int (1 : Int32))) h))) : Cl d 167 [.int i0, .int i1, .int i2] h Q := by
  show Ev d 167 0 [.int i0, .int i1, .int i2] [] h Q
  refine ev_p (pc' := 2) (loc' := [.int i0, .int i1, .int i2]) (st' := [.int i1, .int i0]) 2 am_q167 rfl ?_
  refine ev_jc (t := 14) am_q167 rfl rfl (fun hq => ?_) (fun hq => ?_)
  · replace H := H.1 hq
    refine ev_p (pc' := 15) (loc' := [.null, .null, .null]) (st' := [.int (0 : Int32)]) 1 am_q167 rfl ?_
    exact ev_r (v := some (.int (0 : Int32))) am_q167 rfl rfl rfl rfl H
  · replace H := H.2 hq
    refine ev_p (pc' := 7) (loc' := [.int i0, .int i1, .int i2]) (st' := [.int i2, .int i0]) 2 am_q167 rfl ?_
    refine ev_jc (t := 14) am_q167 rfl rfl (fun hq => ?_) (fun hq => ?_)
    · replace H := H.1 hq
      refine ev_p (pc' := 15) (loc' := [.null, .null, .null]) (st' := [.int (0 : Int32)]) 1 am_q167 rfl ?_
      exact ev_r (v := some (.int (0 : Int32))) am_q167 rfl rfl rfl rfl H
    · replace H := H.2 hq
      refine ev_p (pc' := 15) (loc' := [.int i0, .int i1, .int i2]) (st' := [.int (1 : Int32)]) 2 am_q167 rfl ?_
      exact ev_r (v := some (.int (1 : Int32))) am_q167 rfl rfl rfl rfl H
/-! 168: X12_isHome -/
set_option maxRecDepth 20000 in
set_option maxHeartbeats 2000000 in
theorem ws168 {d : Nat}  (i1 : Int32) {h : AH} {Q : Option Value → AH → Prop} (Ly : Lay h) (H : Cl d 167 [.int i1, .int (0 : Int32), .int ((am_gi h 216 1) - (1 : Int32))] h (fun r2 h1 => ∃ x3, r2 = some (.int x3) ∧ Lay h1 ∧ (x3 = (0 : Int32) ∨ x3 = (1 : Int32)) ∧ Q (some (.int x3)) h1)) : Cl (d + 1) 168 [.ref 216, .int i1] h Q := by
  show Ev (d + 1) 168 0 [.ref 216, .int i1] [] h Q
  refine ev_p (pc' := 3) (loc' := [.ref 216, .int i1]) (st' := [.ref 216, .int (0 : Int32), .int i1]) 3 am_q168 rfl ?_
  refine ev_s (pc' := 6) (loc' := [.ref 216, .int i1]) (st' := [.int (am_gi h 216 1), .int (0 : Int32), .int i1]) (h1 := h) am_q168 rfl rfl rfl (if_pos (e := none) (lk216 Ly)) ?_
  refine ev_p (pc' := 8) (loc' := [.ref 216, .int i1]) (st' := [.int ((am_gi h 216 1) - (1 : Int32)), .int (0 : Int32), .int i1]) 2 am_q168 rfl ?_
  refine ev_c (vs := [.int i1, .int (0 : Int32), .int ((am_gi h 216 1) - (1 : Int32))]) (rest := []) 167 am_q168 rfl rfl rfl rfl rfl rfl rfl rfl rfl rfl rfl rfl (Or.inl rfl) (Cl.mono H (Nat.le_refl _) (fun r2 h1 H => ?_))
  obtain ⟨x3, rfl, Ly, H⟩ := H
  exact ev_r (v := some (.int x3)) am_q168 rfl rfl rfl (decide_eq_true H.1) H.2
/-! 169: X12_isMember -/
set_option maxRecDepth 20000 in
set_option maxHeartbeats 2000000 in
theorem ws169 {d : Nat}  (i1 : Int32) {h : AH} {Q : Option Value → AH → Prop} (Ly : Lay h) (H : Cl d 167 [.int i1, .int (0 : Int32), .int ((am_gi h 216 7) - (1 : Int32))] h (fun r2 h1 => ∃ x3, r2 = some (.int x3) ∧ Lay h1 ∧ (x3 = (0 : Int32) ∨ x3 = (1 : Int32)) ∧ Q (some (.int x3)) h1)) : Cl (d + 1) 169 [.ref 216, .int i1] h Q := by
  show Ev (d + 1) 169 0 [.ref 216, .int i1] [] h Q
  refine ev_p (pc' := 3) (loc' := [.ref 216, .int i1]) (st' := [.ref 216, .int (0 : Int32), .int i1]) 3 am_q169 rfl ?_
  refine ev_s (pc' := 6) (loc' := [.ref 216, .int i1]) (st' := [.int (am_gi h 216 7), .int (0 : Int32), .int i1]) (h1 := h) am_q169 rfl rfl rfl (if_pos (e := none) (lk216 Ly)) ?_
  refine ev_p (pc' := 8) (loc' := [.ref 216, .int i1]) (st' := [.int ((am_gi h 216 7) - (1 : Int32)), .int (0 : Int32), .int i1]) 2 am_q169 rfl ?_
  refine ev_c (vs := [.int i1, .int (0 : Int32), .int ((am_gi h 216 7) - (1 : Int32))]) (rest := []) 167 am_q169 rfl rfl rfl rfl rfl rfl rfl rfl rfl rfl rfl rfl (Or.inl rfl) (Cl.mono H (Nat.le_refl _) (fun r2 h1 H => ?_))
  obtain ⟨x3, rfl, Ly, H⟩ := H
  exact ev_r (v := some (.int x3)) am_q169 rfl rfl rfl (decide_eq_true H.1) H.2
/-! 170: X12_isHere -/
set_option maxRecDepth 20000 in
set_option maxHeartbeats 2000000 in
theorem ws170 {d : Nat}  (i1 : Int32) {h : AH} {Q : Option Value → AH → Prop} (Ly : Lay h) (H : am_in i1 24 ∧ ((¬ (am_gi h 224 (Int32.toNatClampNeg i1)) = (-1 : Int32)) → Q (some (.int (0 : Int32))) h) ∧ (¬ (¬ (am_gi h 224 (Int32.toNatClampNeg i1)) = (-1 : Int32)) → Q (some (.int (1 : Int32))) h)) : Cl d 170 [.ref 216, .int i1] h Q := by
  show Ev d 170 0 [.ref 216, .int i1] [] h Q
  refine ev_p (pc' := 1) (loc' := [.ref 216, .int i1]) (st' := [.ref 216]) 1 am_q170 rfl ?_
  refine ev_s (pc' := 4) (loc' := [.ref 216, .int i1]) (st' := [.ref 224]) (h1 := h) am_q170 rfl rfl rfl (am_gf2 (lk216 Ly) (lr216_10 Ly)) ?_
  refine ev_p (pc' := 5) (loc' := [.ref 216, .int i1]) (st' := [.int i1, .ref 224]) 1 am_q170 rfl ?_
  obtain ⟨g1, H⟩ := H
  refine ev_s (pc' := 6) (loc' := [.ref 216, .int i1]) (st' := [.int (am_gi h 224 (Int32.toNatClampNeg i1))]) (h1 := h) am_q170 rfl rfl rfl (am_xx (lk224 Ly) (am_inl (ln224 Ly) g1)) ?_
  refine ev_p (pc' := 7) (loc' := [.ref 216, .int i1]) (st' := [.int (-1 : Int32), .int (am_gi h 224 (Int32.toNatClampNeg i1))]) 1 am_q170 rfl ?_
  refine ev_jc (t := 14) am_q170 rfl rfl (fun hq => ?_) (fun hq => ?_)
  · replace H := H.1 hq
    refine ev_p (pc' := 15) (loc' := [.ref 216, .int i1]) (st' := [.int (0 : Int32)]) 1 am_q170 rfl ?_
    exact ev_r (v := some (.int (0 : Int32))) am_q170 rfl rfl rfl rfl H
  · replace H := H.2 hq
    refine ev_p (pc' := 15) (loc' := [.ref 216, .int i1]) (st' := [.int (1 : Int32)]) 2 am_q170 rfl ?_
    exact ev_r (v := some (.int (1 : Int32))) am_q170 rfl rfl rfl rfl H
/-! 171: X12_isOn -/
set_option maxRecDepth 20000 in
set_option maxHeartbeats 2000000 in
theorem ws171 {d : Nat}  (i1 : Int32) (i2 : Int32) {h : AH} {Q : Option Value → AH → Prop} (Ly : Lay h) (H : am_in i1 60 ∧ (i2 < (am_gi h 232 (Int32.toNatClampNeg i1)) → Q (some (.int (0 : Int32))) h) ∧ (¬ i2 < (am_gi h 232 (Int32.toNatClampNeg i1)) → am_in i1 60 ∧ ((am_gi h 233 (Int32.toNatClampNeg i1)) = (-1 : Int32) → Q (some (.int (1 : Int32))) h) ∧ (¬ (am_gi h 233 (Int32.toNatClampNeg i1)) = (-1 : Int32) → am_in i1 60 ∧ ((am_gi h 233 (Int32.toNatClampNeg i1)) ≤ i2 → Q (some (.int (0 : Int32))) h) ∧ (¬ (am_gi h 233 (Int32.toNatClampNeg i1)) ≤ i2 → Q (some (.int (1 : Int32))) h)))) : Cl d 171 [.ref 216, .int i1, .int i2] h Q := by
  show Ev d 171 0 [.ref 216, .int i1, .int i2] [] h Q
  refine ev_p (pc' := 1) (loc' := [.ref 216, .int i1, .int i2]) (st' := [.ref 216]) 1 am_q171 rfl ?_
  refine ev_s (pc' := 4) (loc' := [.ref 216, .int i1, .int i2]) (st' := [.ref 232]) (h1 := h) am_q171 rfl rfl rfl (am_gf2 (lk216 Ly) (lr216_19 Ly)) ?_
  refine ev_p (pc' := 5) (loc' := [.ref 216, .int i1, .int i2]) (st' := [.int i1, .ref 232]) 1 am_q171 rfl ?_
  obtain ⟨g1, H⟩ := H
  refine ev_s (pc' := 6) (loc' := [.ref 216, .int i1, .int i2]) (st' := [.int (am_gi h 232 (Int32.toNatClampNeg i1))]) (h1 := h) am_q171 rfl rfl rfl (am_xx (lk232 Ly) (am_inl (ln232 Ly) g1)) ?_
  refine ev_p (pc' := 7) (loc' := [.ref 216, .int i1, .int i2]) (st' := [.int i2, .int (am_gi h 232 (Int32.toNatClampNeg i1))]) 1 am_q171 rfl ?_
  refine ev_jc (t := 34) am_q171 rfl rfl (fun hq => ?_) (fun hq => ?_)
  · replace H := H.1 hq
    refine ev_p (pc' := 35) (loc' := [.null, .null, .null]) (st' := [.int (0 : Int32)]) 1 am_q171 rfl ?_
    exact ev_r (v := some (.int (0 : Int32))) am_q171 rfl rfl rfl rfl H
  · replace H := H.2 hq
    refine ev_p (pc' := 11) (loc' := [.ref 216, .int i1, .int i2]) (st' := [.ref 216]) 1 am_q171 rfl ?_
    refine ev_s (pc' := 14) (loc' := [.ref 216, .int i1, .int i2]) (st' := [.ref 233]) (h1 := h) am_q171 rfl rfl rfl (am_gf2 (lk216 Ly) (lr216_20 Ly)) ?_
    refine ev_p (pc' := 15) (loc' := [.ref 216, .int i1, .int i2]) (st' := [.int i1, .ref 233]) 1 am_q171 rfl ?_
    obtain ⟨g2, H⟩ := H
    refine ev_s (pc' := 16) (loc' := [.ref 216, .int i1, .int i2]) (st' := [.int (am_gi h 233 (Int32.toNatClampNeg i1))]) (h1 := h) am_q171 rfl rfl rfl (am_xx (lk233 Ly) (am_inl (ln233 Ly) g2)) ?_
    refine ev_p (pc' := 17) (loc' := [.ref 216, .int i1, .int i2]) (st' := [.int (-1 : Int32), .int (am_gi h 233 (Int32.toNatClampNeg i1))]) 1 am_q171 rfl ?_
    refine ev_jc (t := 30) am_q171 rfl rfl (fun hq => ?_) (fun hq => ?_)
    · replace H := H.1 hq
      refine ev_p (pc' := 35) (loc' := [.null, .null, .null]) (st' := [.int (1 : Int32)]) 2 am_q171 rfl ?_
      exact ev_r (v := some (.int (1 : Int32))) am_q171 rfl rfl rfl rfl H
    · replace H := H.2 hq
      refine ev_p (pc' := 22) (loc' := [.ref 216, .int i1, .int i2]) (st' := [.ref 216, .int i2]) 2 am_q171 rfl ?_
      refine ev_s (pc' := 25) (loc' := [.ref 216, .int i1, .int i2]) (st' := [.ref 233, .int i2]) (h1 := h) am_q171 rfl rfl rfl (am_gf2 (lk216 Ly) (lr216_20 Ly)) ?_
      refine ev_p (pc' := 26) (loc' := [.ref 216, .int i1, .int i2]) (st' := [.int i1, .ref 233, .int i2]) 1 am_q171 rfl ?_
      obtain ⟨g3, H⟩ := H
      refine ev_s (pc' := 27) (loc' := [.ref 216, .int i1, .int i2]) (st' := [.int (am_gi h 233 (Int32.toNatClampNeg i1)), .int i2]) (h1 := h) am_q171 rfl rfl rfl (am_xx (lk233 Ly) (am_inl (ln233 Ly) g3)) ?_
      refine ev_jc (t := 34) am_q171 rfl rfl (fun hq => ?_) (fun hq => ?_)
      · replace H := H.1 hq
        refine ev_p (pc' := 35) (loc' := [.null, .null, .null]) (st' := [.int (0 : Int32)]) 1 am_q171 rfl ?_
        exact ev_r (v := some (.int (0 : Int32))) am_q171 rfl rfl rfl rfl H
      · replace H := H.2 hq
        refine ev_p (pc' := 35) (loc' := [.null, .null, .null]) (st' := [.int (1 : Int32)]) 2 am_q171 rfl ?_
        exact ev_r (v := some (.int (1 : Int32))) am_q171 rfl rfl rfl rfl H
/-! 172: X12_isOf -/
set_option maxRecDepth 20000 in
set_option maxHeartbeats 2000000 in
theorem ws172 {d : Nat}  (i1 : Int32) (i2 : Int32) {h : AH} {Q : Option Value → AH → Prop} (Ly : Lay h) (H : am_in i1 60 ∧ ((am_gi h 230 (Int32.toNatClampNeg i1)) = i2 → Q (some (.int (1 : Int32))) h) ∧ (¬ (am_gi h 230 (Int32.toNatClampNeg i1)) = i2 → am_in i1 60 ∧ ((¬ (am_gi h 228 (Int32.toNatClampNeg i1)) = (3 : Int32)) → Q (some (.int (0 : Int32))) h) ∧ (¬ (¬ (am_gi h 228 (Int32.toNatClampNeg i1)) = (3 : Int32)) → am_in i1 60 ∧ ((¬ (am_gi h 231 (Int32.toNatClampNeg i1)) = i2) → Q (some (.int (0 : Int32))) h) ∧ (¬ (¬ (am_gi h 231 (Int32.toNatClampNeg i1)) = i2) → Q (some (.int (1 : Int32))) h)))) : Cl d 172 [.ref 216, .int i1, .int i2] h Q := by
  show Ev d 172 0 [.ref 216, .int i1, .int i2] [] h Q
  refine ev_p (pc' := 1) (loc' := [.ref 216, .int i1, .int i2]) (st' := [.ref 216]) 1 am_q172 rfl ?_
  refine ev_s (pc' := 4) (loc' := [.ref 216, .int i1, .int i2]) (st' := [.ref 230]) (h1 := h) am_q172 rfl rfl rfl (am_gf2 (lk216 Ly) (lr216_17 Ly)) ?_
  refine ev_p (pc' := 5) (loc' := [.ref 216, .int i1, .int i2]) (st' := [.int i1, .ref 230]) 1 am_q172 rfl ?_
  obtain ⟨g1, H⟩ := H
  refine ev_s (pc' := 6) (loc' := [.ref 216, .int i1, .int i2]) (st' := [.int (am_gi h 230 (Int32.toNatClampNeg i1))]) (h1 := h) am_q172 rfl rfl rfl (am_xx (lk230 Ly) (am_inl (ln230 Ly) g1)) ?_
  refine ev_p (pc' := 7) (loc' := [.ref 216, .int i1, .int i2]) (st' := [.int i2, .int (am_gi h 230 (Int32.toNatClampNeg i1))]) 1 am_q172 rfl ?_
  refine ev_jc (t := 30) am_q172 rfl rfl (fun hq => ?_) (fun hq => ?_)
  · replace H := H.1 hq
    refine ev_p (pc' := 35) (loc' := [.null, .null, .null]) (st' := [.int (1 : Int32)]) 2 am_q172 rfl ?_
    exact ev_r (v := some (.int (1 : Int32))) am_q172 rfl rfl rfl rfl H
  · replace H := H.2 hq
    refine ev_p (pc' := 11) (loc' := [.ref 216, .int i1, .int i2]) (st' := [.ref 216]) 1 am_q172 rfl ?_
    refine ev_s (pc' := 14) (loc' := [.ref 216, .int i1, .int i2]) (st' := [.ref 228]) (h1 := h) am_q172 rfl rfl rfl (am_gf2 (lk216 Ly) (lr216_15 Ly)) ?_
    refine ev_p (pc' := 15) (loc' := [.ref 216, .int i1, .int i2]) (st' := [.int i1, .ref 228]) 1 am_q172 rfl ?_
    obtain ⟨g2, H⟩ := H
    refine ev_s (pc' := 16) (loc' := [.ref 216, .int i1, .int i2]) (st' := [.int (am_gi h 228 (Int32.toNatClampNeg i1))]) (h1 := h) am_q172 rfl rfl rfl (am_xx (lk228 Ly) (am_inl (ln228 Ly) g2)) ?_
    refine ev_p (pc' := 17) (loc' := [.ref 216, .int i1, .int i2]) (st' := [.int (3 : Int32), .int (am_gi h 228 (Int32.toNatClampNeg i1))]) 1 am_q172 rfl ?_
    refine ev_jc (t := 34) am_q172 rfl rfl (fun hq => ?_) (fun hq => ?_)
    · replace H := H.1 hq
      refine ev_p (pc' := 35) (loc' := [.null, .null, .null]) (st' := [.int (0 : Int32)]) 1 am_q172 rfl ?_
      exact ev_r (v := some (.int (0 : Int32))) am_q172 rfl rfl rfl rfl H
    · replace H := H.2 hq
      refine ev_p (pc' := 21) (loc' := [.ref 216, .int i1, .int i2]) (st' := [.ref 216]) 1 am_q172 rfl ?_
      refine ev_s (pc' := 24) (loc' := [.ref 216, .int i1, .int i2]) (st' := [.ref 231]) (h1 := h) am_q172 rfl rfl rfl (am_gf2 (lk216 Ly) (lr216_18 Ly)) ?_
      refine ev_p (pc' := 25) (loc' := [.ref 216, .int i1, .int i2]) (st' := [.int i1, .ref 231]) 1 am_q172 rfl ?_
      obtain ⟨g3, H⟩ := H
      refine ev_s (pc' := 26) (loc' := [.ref 216, .int i1, .int i2]) (st' := [.int (am_gi h 231 (Int32.toNatClampNeg i1))]) (h1 := h) am_q172 rfl rfl rfl (am_xx (lk231 Ly) (am_inl (ln231 Ly) g3)) ?_
      refine ev_p (pc' := 27) (loc' := [.ref 216, .int i1, .int i2]) (st' := [.int i2, .int (am_gi h 231 (Int32.toNatClampNeg i1))]) 1 am_q172 rfl ?_
      refine ev_jc (t := 34) am_q172 rfl rfl (fun hq => ?_) (fun hq => ?_)
      · replace H := H.1 hq
        refine ev_p (pc' := 35) (loc' := [.null, .null, .null]) (st' := [.int (0 : Int32)]) 1 am_q172 rfl ?_
        exact ev_r (v := some (.int (0 : Int32))) am_q172 rfl rfl rfl rfl H
      · replace H := H.2 hq
        refine ev_p (pc' := 35) (loc' := [.null, .null, .null]) (st' := [.int (1 : Int32)]) 2 am_q172 rfl ?_
        exact ev_r (v := some (.int (1 : Int32))) am_q172 rfl rfl rfl rfl H
/-! 173: X12_filled -/
set_option maxRecDepth 20000 in
set_option maxHeartbeats 2000000 in
theorem ws173 {d : Nat}  (i1 : Int32) (i2 : Int32) {h : AH} {Q : Option Value → AH → Prop} (Ly : Lay h) (H : Ev (d + 1) 173 2 [.ref 216, .int i1, .int i2, .int (0 : Int32)] [] h Q) : Cl (d + 1) 173 [.ref 216, .int i1, .int i2] h Q := by
  show Ev (d + 1) 173 0 [.ref 216, .int i1, .int i2, .null] [] h Q
  refine ev_p (pc' := 2) (loc' := [.ref 216, .int i1, .int i2, .int (0 : Int32)]) (st' := []) 2 am_q173 rfl ?_
  exact ev_m (loc' := [.ref 216, .int i1, .int i2, .int (0 : Int32)]) am_q173 rfl rfl H
set_option maxRecDepth 20000 in
set_option maxHeartbeats 2000000 in
theorem ws173_2 {d : Nat}  (i1 : Int32) (i2 : Int32) (i3 : Int32) {h : AH} {Q : Option Value → AH → Prop} (Ly : Lay h) (H : ((am_gi h 216 14) ≤ i3 → Q (some (.int (-1 : Int32))) h) ∧ (¬ (am_gi h 216 14) ≤ i3 → am_in i3 60 ∧ ((am_gi h 228 (Int32.toNatClampNeg i3)) = (2 : Int32) → Ev (d + 1) 173 2 [.ref 216, .int i1, .int i2, .int (i3 + (1 : Int32))] [] h Q) ∧ (¬ (am_gi h 228 (Int32.toNatClampNeg i3)) = (2 : Int32) → am_in i3 60 ∧ ((¬ (am_gi h 229 (Int32.toNatClampNeg i3)) = i1) → Ev (d + 1) 173 2 [.ref 216, .int i1, .int i2, .int (i3 + (1 : Int32))] [] h Q) ∧ (¬ (¬ (am_gi h 229 (Int32.toNatClampNeg i3)) = i1) → Cl d 171 [.ref 216, .int i3, .int i2] h (fun r4 h3 => ∃ x5, r4 = some (.int x5) ∧ Lay h3 ∧ (x5 = (0 : Int32) → Ev (d + 1) 173 2 [.ref 216, .int i1, .int i2, .int (i3 + (1 : Int32))] [] h3 Q) ∧ (¬ x5 = (0 : Int32) → Q (some (.int i3)) h3)))))) : Ev (d + 1) 173 2 [.ref 216, .int i1, .int i2, .int i3] [] h Q := by
  refine ev_p (pc' := 4) (loc' := [.ref 216, .int i1, .int i2, .int i3]) (st' := [.ref 216, .int i3]) 2 am_q173 rfl ?_
  refine ev_s (pc' := 7) (loc' := [.ref 216, .int i1, .int i2, .int i3]) (st' := [.int (am_gi h 216 14), .int i3]) (h1 := h) am_q173 rfl rfl rfl (if_pos (e := none) (lk216 Ly)) ?_
  refine ev_jc (t := 47) am_q173 rfl rfl (fun hq => ?_) (fun hq => ?_)
  · replace H := H.1 hq
    refine ev_p (pc' := 48) (loc' := [.ref 216, .int i1, .int i2, .int i3]) (st' := [.int (-1 : Int32)]) 1 am_q173 rfl ?_
    exact ev_r (v := some (.int (-1 : Int32))) am_q173 rfl rfl rfl rfl H
  · replace H := H.2 hq
    refine ev_p (pc' := 11) (loc' := [.ref 216, .int i1, .int i2, .int i3]) (st' := [.ref 216]) 1 am_q173 rfl ?_
    refine ev_s (pc' := 14) (loc' := [.ref 216, .int i1, .int i2, .int i3]) (st' := [.ref 228]) (h1 := h) am_q173 rfl rfl rfl (am_gf2 (lk216 Ly) (lr216_15 Ly)) ?_
    refine ev_p (pc' := 15) (loc' := [.ref 216, .int i1, .int i2, .int i3]) (st' := [.int i3, .ref 228]) 1 am_q173 rfl ?_
    obtain ⟨g1, H⟩ := H
    refine ev_s (pc' := 16) (loc' := [.ref 216, .int i1, .int i2, .int i3]) (st' := [.int (am_gi h 228 (Int32.toNatClampNeg i3))]) (h1 := h) am_q173 rfl rfl rfl (am_xx (lk228 Ly) (am_inl (ln228 Ly) g1)) ?_
    refine ev_p (pc' := 17) (loc' := [.ref 216, .int i1, .int i2, .int i3]) (st' := [.int (2 : Int32), .int (am_gi h 228 (Int32.toNatClampNeg i3))]) 1 am_q173 rfl ?_
    refine ev_jc (t := 41) am_q173 rfl rfl (fun hq => ?_) (fun hq => ?_)
    · replace H := H.1 hq
      refine ev_p (pc' := 2) (loc' := [.ref 216, .int i1, .int i2, .int (i3 + (1 : Int32))]) (st' := []) 2 am_q173 rfl ?_
      exact ev_m (loc' := [.ref 216, .int i1, .int i2, .int (i3 + (1 : Int32))]) am_q173 rfl rfl H
    · replace H := H.2 hq
      refine ev_p (pc' := 21) (loc' := [.ref 216, .int i1, .int i2, .int i3]) (st' := [.ref 216]) 1 am_q173 rfl ?_
      refine ev_s (pc' := 24) (loc' := [.ref 216, .int i1, .int i2, .int i3]) (st' := [.ref 229]) (h1 := h) am_q173 rfl rfl rfl (am_gf2 (lk216 Ly) (lr216_16 Ly)) ?_
      refine ev_p (pc' := 25) (loc' := [.ref 216, .int i1, .int i2, .int i3]) (st' := [.int i3, .ref 229]) 1 am_q173 rfl ?_
      obtain ⟨g2, H⟩ := H
      refine ev_s (pc' := 26) (loc' := [.ref 216, .int i1, .int i2, .int i3]) (st' := [.int (am_gi h 229 (Int32.toNatClampNeg i3))]) (h1 := h) am_q173 rfl rfl rfl (am_xx (lk229 Ly) (am_inl (ln229 Ly) g2)) ?_
      refine ev_p (pc' := 27) (loc' := [.ref 216, .int i1, .int i2, .int i3]) (st' := [.int i1, .int (am_gi h 229 (Int32.toNatClampNeg i3))]) 1 am_q173 rfl ?_
      refine ev_jc (t := 41) am_q173 rfl rfl (fun hq => ?_) (fun hq => ?_)
      · replace H := H.1 hq
        refine ev_p (pc' := 2) (loc' := [.ref 216, .int i1, .int i2, .int (i3 + (1 : Int32))]) (st' := []) 2 am_q173 rfl ?_
        exact ev_m (loc' := [.ref 216, .int i1, .int i2, .int (i3 + (1 : Int32))]) am_q173 rfl rfl H
      · replace H := H.2 hq
        refine ev_p (pc' := 33) (loc' := [.ref 216, .int i1, .int i2, .int i3]) (st' := [.int i2, .int i3, .ref 216]) 3 am_q173 rfl ?_
        refine ev_c (vs := [.ref 216, .int i3, .int i2]) (rest := []) 171 am_q173 rfl rfl rfl rfl rfl rfl rfl rfl rfl rfl rfl rfl (Or.inr (congrArg some (lk216 Ly))) (Cl.mono H (Nat.le_refl _) (fun r4 h3 H => ?_))
        obtain ⟨x5, rfl, Ly, H⟩ := H
        refine ev_jz (t := 41) am_q173 rfl rfl (fun hq => ?_) (fun hq => ?_)
        · replace H := H.1 hq
          refine ev_p (pc' := 2) (loc' := [.ref 216, .int i1, .int i2, .int (i3 + (1 : Int32))]) (st' := []) 2 am_q173 rfl ?_
          exact ev_m (loc' := [.ref 216, .int i1, .int i2, .int (i3 + (1 : Int32))]) am_q173 rfl rfl H
        · replace H := H.2 hq
          refine ev_p (pc' := 40) (loc' := [.ref 216, .int i1, .int i2, .int i3]) (st' := [.int i3]) 1 am_q173 rfl ?_
          exact ev_r (v := some (.int i3)) am_q173 rfl rfl rfl rfl H
/-! 174: X12_held -/
set_option maxRecDepth 20000 in
set_option maxHeartbeats 2000000 in
theorem ws174 {d : Nat}  (i1 : Int32) (i2 : Int32) {h : AH} {Q : Option Value → AH → Prop} (Ly : Lay h) (H : Ev (d + 1) 174 2 [.ref 216, .int i1, .int i2, .int (0 : Int32)] [] h Q) : Cl (d + 1) 174 [.ref 216, .int i1, .int i2] h Q := by
  show Ev (d + 1) 174 0 [.ref 216, .int i1, .int i2, .null] [] h Q
  refine ev_p (pc' := 2) (loc' := [.ref 216, .int i1, .int i2, .int (0 : Int32)]) (st' := []) 2 am_q174 rfl ?_
  exact ev_m (loc' := [.ref 216, .int i1, .int i2, .int (0 : Int32)]) am_q174 rfl rfl H
set_option maxRecDepth 20000 in
set_option maxHeartbeats 2000000 in
theorem ws174_2 {d : Nat}  (i1 : Int32) (i2 : Int32) (i3 : Int32) {h : AH} {Q : Option Value → AH → Prop} (Ly : Lay h) (H : ((am_gi h 216 14) ≤ i3 → Q (some (.int (-1 : Int32))) h) ∧ (¬ (am_gi h 216 14) ≤ i3 → am_in i3 60 ∧ ((am_gi h 228 (Int32.toNatClampNeg i3)) = (2 : Int32) → Ev (d + 1) 174 2 [.ref 216, .int i1, .int i2, .int (i3 + (1 : Int32))] [] h Q) ∧ (¬ (am_gi h 228 (Int32.toNatClampNeg i3)) = (2 : Int32) → Cl d 172 [.ref 216, .int i3, .int i1] h (fun r3 h2 => ∃ x4, r3 = some (.int x4) ∧ Lay h2 ∧ (x4 = (0 : Int32) → Ev (d + 1) 174 2 [.ref 216, .int i1, .int i2, .int (i3 + (1 : Int32))] [] h2 Q) ∧ (¬ x4 = (0 : Int32) → Cl d 171 [.ref 216, .int i3, .int i2] h2 (fun r6 h5 => ∃ x7, r6 = some (.int x7) ∧ Lay h5 ∧ (x7 = (0 : Int32) → Ev (d + 1) 174 2 [.ref 216, .int i1, .int i2, .int (i3 + (1 : Int32))] [] h5 Q) ∧ (¬ x7 = (0 : Int32) → Q (some (.int i3)) h5))))))) : Ev (d + 1) 174 2 [.ref 216, .int i1, .int i2, .int i3] [] h Q := by
  refine ev_p (pc' := 4) (loc' := [.ref 216, .int i1, .int i2, .int i3]) (st' := [.ref 216, .int i3]) 2 am_q174 rfl ?_
  refine ev_s (pc' := 7) (loc' := [.ref 216, .int i1, .int i2, .int i3]) (st' := [.int (am_gi h 216 14), .int i3]) (h1 := h) am_q174 rfl rfl rfl (if_pos (e := none) (lk216 Ly)) ?_
  refine ev_jc (t := 46) am_q174 rfl rfl (fun hq => ?_) (fun hq => ?_)
  · replace H := H.1 hq
    refine ev_p (pc' := 47) (loc' := [.ref 216, .int i1, .int i2, .int i3]) (st' := [.int (-1 : Int32)]) 1 am_q174 rfl ?_
    exact ev_r (v := some (.int (-1 : Int32))) am_q174 rfl rfl rfl rfl H
  · replace H := H.2 hq
    refine ev_p (pc' := 11) (loc' := [.ref 216, .int i1, .int i2, .int i3]) (st' := [.ref 216]) 1 am_q174 rfl ?_
    refine ev_s (pc' := 14) (loc' := [.ref 216, .int i1, .int i2, .int i3]) (st' := [.ref 228]) (h1 := h) am_q174 rfl rfl rfl (am_gf2 (lk216 Ly) (lr216_15 Ly)) ?_
    refine ev_p (pc' := 15) (loc' := [.ref 216, .int i1, .int i2, .int i3]) (st' := [.int i3, .ref 228]) 1 am_q174 rfl ?_
    obtain ⟨g1, H⟩ := H
    refine ev_s (pc' := 16) (loc' := [.ref 216, .int i1, .int i2, .int i3]) (st' := [.int (am_gi h 228 (Int32.toNatClampNeg i3))]) (h1 := h) am_q174 rfl rfl rfl (am_xx (lk228 Ly) (am_inl (ln228 Ly) g1)) ?_
    refine ev_p (pc' := 17) (loc' := [.ref 216, .int i1, .int i2, .int i3]) (st' := [.int (2 : Int32), .int (am_gi h 228 (Int32.toNatClampNeg i3))]) 1 am_q174 rfl ?_
    refine ev_jc (t := 40) am_q174 rfl rfl (fun hq => ?_) (fun hq => ?_)
    · replace H := H.1 hq
      refine ev_p (pc' := 2) (loc' := [.ref 216, .int i1, .int i2, .int (i3 + (1 : Int32))]) (st' := []) 2 am_q174 rfl ?_
      exact ev_m (loc' := [.ref 216, .int i1, .int i2, .int (i3 + (1 : Int32))]) am_q174 rfl rfl H
    · replace H := H.2 hq
      refine ev_p (pc' := 23) (loc' := [.ref 216, .int i1, .int i2, .int i3]) (st' := [.int i1, .int i3, .ref 216]) 3 am_q174 rfl ?_
      refine ev_c (vs := [.ref 216, .int i3, .int i1]) (rest := []) 172 am_q174 rfl rfl rfl rfl rfl rfl rfl rfl rfl rfl rfl rfl (Or.inr (congrArg some (lk216 Ly))) (Cl.mono H (Nat.le_refl _) (fun r3 h2 H => ?_))
      obtain ⟨x4, rfl, Ly, H⟩ := H
      refine ev_jz (t := 40) am_q174 rfl rfl (fun hq => ?_) (fun hq => ?_)
      · replace H := H.1 hq
        refine ev_p (pc' := 2) (loc' := [.ref 216, .int i1, .int i2, .int (i3 + (1 : Int32))]) (st' := []) 2 am_q174 rfl ?_
        exact ev_m (loc' := [.ref 216, .int i1, .int i2, .int (i3 + (1 : Int32))]) am_q174 rfl rfl H
      · replace H := H.2 hq
        refine ev_p (pc' := 32) (loc' := [.ref 216, .int i1, .int i2, .int i3]) (st' := [.int i2, .int i3, .ref 216]) 3 am_q174 rfl ?_
        refine ev_c (vs := [.ref 216, .int i3, .int i2]) (rest := []) 171 am_q174 rfl rfl rfl rfl rfl rfl rfl rfl rfl rfl rfl rfl (Or.inr (congrArg some (lk216 Ly))) (Cl.mono H (Nat.le_refl _) (fun r6 h5 H => ?_))
        obtain ⟨x7, rfl, Ly, H⟩ := H
        refine ev_jz (t := 40) am_q174 rfl rfl (fun hq => ?_) (fun hq => ?_)
        · replace H := H.1 hq
          refine ev_p (pc' := 2) (loc' := [.ref 216, .int i1, .int i2, .int (i3 + (1 : Int32))]) (st' := []) 2 am_q174 rfl ?_
          exact ev_m (loc' := [.ref 216, .int i1, .int i2, .int (i3 + (1 : Int32))]) am_q174 rfl rfl H
        · replace H := H.2 hq
          refine ev_p (pc' := 39) (loc' := [.ref 216, .int i1, .int i2, .int i3]) (st' := [.int i3]) 1 am_q174 rfl ?_
          exact ev_r (v := some (.int i3)) am_q174 rfl rfl rfl rfl H
/-! 175: X12_newRight -/
set_option maxRecDepth 20000 in
set_option maxHeartbeats 2000000 in
theorem ws175 {d : Nat}  (i1 : Int32) (i2 : Int32) (i3 : Int32) (i4 : Int32) (i5 : Int32) {h : AH} {Q : Option Value → AH → Prop} (Ly : Lay h) (H : am_in (am_gi h 216 14) 60 ∧ ∀ h2, h2 = am_si h 228 (Int32.toNatClampNeg (am_gi h 216 14)) i1 → am_in (am_gi h2 216 14) 60 ∧ ∀ h4, h4 = am_si h2 229 (Int32.toNatClampNeg (am_gi h2 216 14)) i2 → am_in (am_gi h4 216 14) 60 ∧ ∀ h6, h6 = am_si h4 230 (Int32.toNatClampNeg (am_gi h4 216 14)) i3 → am_in (am_gi h6 216 14) 60 ∧ ∀ h8, h8 = am_si h6 231 (Int32.toNatClampNeg (am_gi h6 216 14)) i4 → am_in (am_gi h8 216 14) 60 ∧ ∀ h10, h10 = am_si h8 232 (Int32.toNatClampNeg (am_gi h8 216 14)) (am_gi h8 216 0) → am_in (am_gi h10 216 14) 60 ∧ ∀ h12, h12 = am_si h10 233 (Int32.toNatClampNeg (am_gi h10 216 14)) i5 → ∀ h13, h13 = am_si h12 216 14 ((am_gi h12 216 14) + (1 : Int32)) → Q (some (.int ((am_gi h13 216 14) - (1 : Int32)))) h13) : Cl d 175 [.ref 216, .int i1, .int i2, .int i3, .int i4, .int i5] h Q := by
  show Ev d 175 0 [.ref 216, .int i1, .int i2, .int i3, .int i4, .int i5] [] h Q
  refine ev_p (pc' := 1) (loc' := [.ref 216, .int i1, .int i2, .int i3, .int i4, .int i5]) (st' := [.ref 216]) 1 am_q175 rfl ?_
  refine ev_s (pc' := 4) (loc' := [.ref 216, .int i1, .int i2, .int i3, .int i4, .int i5]) (st' := [.ref 228]) (h1 := h) am_q175 rfl rfl rfl (am_gf2 (lk216 Ly) (lr216_15 Ly)) ?_
  refine ev_p (pc' := 5) (loc' := [.ref 216, .int i1, .int i2, .int i3, .int i4, .int i5]) (st' := [.ref 216, .ref 228]) 1 am_q175 rfl ?_
  refine ev_s (pc' := 8) (loc' := [.ref 216, .int i1, .int i2, .int i3, .int i4, .int i5]) (st' := [.int (am_gi h 216 14), .ref 228]) (h1 := h) am_q175 rfl rfl rfl (if_pos (e := none) (lk216 Ly)) ?_
  refine ev_p (pc' := 9) (loc' := [.ref 216, .int i1, .int i2, .int i3, .int i4, .int i5]) (st' := [.int i1, .int (am_gi h 216 14), .ref 228]) 1 am_q175 rfl ?_
  obtain ⟨g1, H⟩ := H
  refine ev_s (pc' := 10) (loc' := [.ref 216, .int i1, .int i2, .int i3, .int i4, .int i5]) (st' := []) (h1 := am_si h 228 (Int32.toNatClampNeg (am_gi h 216 14)) i1) am_q175 rfl rfl rfl (am_xx ⟨lk228 Ly, (Nat.le_of_ble_eq_true rfl)⟩ (am_inl (ln228 Ly) g1)) ?_
  replace H := H _ rfl
  replace Ly : Lay (am_si h 228 (Int32.toNatClampNeg (am_gi h 216 14)) i1) := Ly.si _ _ _
  generalize am_si h 228 (Int32.toNatClampNeg (am_gi h 216 14)) i1 = h2 at H Ly ⊢
  refine ev_p (pc' := 11) (loc' := [.ref 216, .int i1, .int i2, .int i3, .int i4, .int i5]) (st' := [.ref 216]) 1 am_q175 rfl ?_
  refine ev_s (pc' := 14) (loc' := [.ref 216, .int i1, .int i2, .int i3, .int i4, .int i5]) (st' := [.ref 229]) (h1 := h2) am_q175 rfl rfl rfl (am_gf2 (lk216 Ly) (lr216_16 Ly)) ?_
  refine ev_p (pc' := 15) (loc' := [.ref 216, .int i1, .int i2, .int i3, .int i4, .int i5]) (st' := [.ref 216, .ref 229]) 1 am_q175 rfl ?_
  refine ev_s (pc' := 18) (loc' := [.ref 216, .int i1, .int i2, .int i3, .int i4, .int i5]) (st' := [.int (am_gi h2 216 14), .ref 229]) (h1 := h2) am_q175 rfl rfl rfl (if_pos (e := none) (lk216 Ly)) ?_
  refine ev_p (pc' := 19) (loc' := [.ref 216, .int i1, .int i2, .int i3, .int i4, .int i5]) (st' := [.int i2, .int (am_gi h2 216 14), .ref 229]) 1 am_q175 rfl ?_
  obtain ⟨g3, H⟩ := H
  refine ev_s (pc' := 20) (loc' := [.ref 216, .int i1, .int i2, .int i3, .int i4, .int i5]) (st' := []) (h1 := am_si h2 229 (Int32.toNatClampNeg (am_gi h2 216 14)) i2) am_q175 rfl rfl rfl (am_xx ⟨lk229 Ly, (Nat.le_of_ble_eq_true rfl)⟩ (am_inl (ln229 Ly) g3)) ?_
  replace H := H _ rfl
  replace Ly : Lay (am_si h2 229 (Int32.toNatClampNeg (am_gi h2 216 14)) i2) := Ly.si _ _ _
  generalize am_si h2 229 (Int32.toNatClampNeg (am_gi h2 216 14)) i2 = h4 at H Ly ⊢
  refine ev_p (pc' := 21) (loc' := [.ref 216, .int i1, .int i2, .int i3, .int i4, .int i5]) (st' := [.ref 216]) 1 am_q175 rfl ?_
  refine ev_s (pc' := 24) (loc' := [.ref 216, .int i1, .int i2, .int i3, .int i4, .int i5]) (st' := [.ref 230]) (h1 := h4) am_q175 rfl rfl rfl (am_gf2 (lk216 Ly) (lr216_17 Ly)) ?_
  refine ev_p (pc' := 25) (loc' := [.ref 216, .int i1, .int i2, .int i3, .int i4, .int i5]) (st' := [.ref 216, .ref 230]) 1 am_q175 rfl ?_
  refine ev_s (pc' := 28) (loc' := [.ref 216, .int i1, .int i2, .int i3, .int i4, .int i5]) (st' := [.int (am_gi h4 216 14), .ref 230]) (h1 := h4) am_q175 rfl rfl rfl (if_pos (e := none) (lk216 Ly)) ?_
  refine ev_p (pc' := 29) (loc' := [.ref 216, .int i1, .int i2, .int i3, .int i4, .int i5]) (st' := [.int i3, .int (am_gi h4 216 14), .ref 230]) 1 am_q175 rfl ?_
  obtain ⟨g5, H⟩ := H
  refine ev_s (pc' := 30) (loc' := [.ref 216, .int i1, .int i2, .int i3, .int i4, .int i5]) (st' := []) (h1 := am_si h4 230 (Int32.toNatClampNeg (am_gi h4 216 14)) i3) am_q175 rfl rfl rfl (am_xx ⟨lk230 Ly, (Nat.le_of_ble_eq_true rfl)⟩ (am_inl (ln230 Ly) g5)) ?_
  replace H := H _ rfl
  replace Ly : Lay (am_si h4 230 (Int32.toNatClampNeg (am_gi h4 216 14)) i3) := Ly.si _ _ _
  generalize am_si h4 230 (Int32.toNatClampNeg (am_gi h4 216 14)) i3 = h6 at H Ly ⊢
  refine ev_p (pc' := 31) (loc' := [.ref 216, .int i1, .int i2, .int i3, .int i4, .int i5]) (st' := [.ref 216]) 1 am_q175 rfl ?_
  refine ev_s (pc' := 34) (loc' := [.ref 216, .int i1, .int i2, .int i3, .int i4, .int i5]) (st' := [.ref 231]) (h1 := h6) am_q175 rfl rfl rfl (am_gf2 (lk216 Ly) (lr216_18 Ly)) ?_
  refine ev_p (pc' := 35) (loc' := [.ref 216, .int i1, .int i2, .int i3, .int i4, .int i5]) (st' := [.ref 216, .ref 231]) 1 am_q175 rfl ?_
  refine ev_s (pc' := 38) (loc' := [.ref 216, .int i1, .int i2, .int i3, .int i4, .int i5]) (st' := [.int (am_gi h6 216 14), .ref 231]) (h1 := h6) am_q175 rfl rfl rfl (if_pos (e := none) (lk216 Ly)) ?_
  refine ev_p (pc' := 40) (loc' := [.ref 216, .int i1, .int i2, .int i3, .int i4, .int i5]) (st' := [.int i4, .int (am_gi h6 216 14), .ref 231]) 1 am_q175 rfl ?_
  obtain ⟨g7, H⟩ := H
  refine ev_s (pc' := 41) (loc' := [.ref 216, .int i1, .int i2, .int i3, .int i4, .int i5]) (st' := []) (h1 := am_si h6 231 (Int32.toNatClampNeg (am_gi h6 216 14)) i4) am_q175 rfl rfl rfl (am_xx ⟨lk231 Ly, (Nat.le_of_ble_eq_true rfl)⟩ (am_inl (ln231 Ly) g7)) ?_
  replace H := H _ rfl
  replace Ly : Lay (am_si h6 231 (Int32.toNatClampNeg (am_gi h6 216 14)) i4) := Ly.si _ _ _
  generalize am_si h6 231 (Int32.toNatClampNeg (am_gi h6 216 14)) i4 = h8 at H Ly ⊢
  refine ev_p (pc' := 42) (loc' := [.ref 216, .int i1, .int i2, .int i3, .int i4, .int i5]) (st' := [.ref 216]) 1 am_q175 rfl ?_
  refine ev_s (pc' := 45) (loc' := [.ref 216, .int i1, .int i2, .int i3, .int i4, .int i5]) (st' := [.ref 232]) (h1 := h8) am_q175 rfl rfl rfl (am_gf2 (lk216 Ly) (lr216_19 Ly)) ?_
  refine ev_p (pc' := 46) (loc' := [.ref 216, .int i1, .int i2, .int i3, .int i4, .int i5]) (st' := [.ref 216, .ref 232]) 1 am_q175 rfl ?_
  refine ev_s (pc' := 49) (loc' := [.ref 216, .int i1, .int i2, .int i3, .int i4, .int i5]) (st' := [.int (am_gi h8 216 14), .ref 232]) (h1 := h8) am_q175 rfl rfl rfl (if_pos (e := none) (lk216 Ly)) ?_
  refine ev_p (pc' := 50) (loc' := [.ref 216, .int i1, .int i2, .int i3, .int i4, .int i5]) (st' := [.ref 216, .int (am_gi h8 216 14), .ref 232]) 1 am_q175 rfl ?_
  refine ev_s (pc' := 53) (loc' := [.ref 216, .int i1, .int i2, .int i3, .int i4, .int i5]) (st' := [.int (am_gi h8 216 0), .int (am_gi h8 216 14), .ref 232]) (h1 := h8) am_q175 rfl rfl rfl (if_pos (e := none) (lk216 Ly)) ?_
  obtain ⟨g9, H⟩ := H
  refine ev_s (pc' := 54) (loc' := [.ref 216, .int i1, .int i2, .int i3, .int i4, .int i5]) (st' := []) (h1 := am_si h8 232 (Int32.toNatClampNeg (am_gi h8 216 14)) (am_gi h8 216 0)) am_q175 rfl rfl rfl (am_xx ⟨lk232 Ly, (Nat.le_of_ble_eq_true rfl)⟩ (am_inl (ln232 Ly) g9)) ?_
  replace H := H _ rfl
  replace Ly : Lay (am_si h8 232 (Int32.toNatClampNeg (am_gi h8 216 14)) (am_gi h8 216 0)) := Ly.si _ _ _
  generalize am_si h8 232 (Int32.toNatClampNeg (am_gi h8 216 14)) (am_gi h8 216 0) = h10 at H Ly ⊢
  refine ev_p (pc' := 55) (loc' := [.ref 216, .int i1, .int i2, .int i3, .int i4, .int i5]) (st' := [.ref 216]) 1 am_q175 rfl ?_
  refine ev_s (pc' := 58) (loc' := [.ref 216, .int i1, .int i2, .int i3, .int i4, .int i5]) (st' := [.ref 233]) (h1 := h10) am_q175 rfl rfl rfl (am_gf2 (lk216 Ly) (lr216_20 Ly)) ?_
  refine ev_p (pc' := 59) (loc' := [.ref 216, .int i1, .int i2, .int i3, .int i4, .int i5]) (st' := [.ref 216, .ref 233]) 1 am_q175 rfl ?_
  refine ev_s (pc' := 62) (loc' := [.ref 216, .int i1, .int i2, .int i3, .int i4, .int i5]) (st' := [.int (am_gi h10 216 14), .ref 233]) (h1 := h10) am_q175 rfl rfl rfl (if_pos (e := none) (lk216 Ly)) ?_
  refine ev_p (pc' := 64) (loc' := [.ref 216, .int i1, .int i2, .int i3, .int i4, .int i5]) (st' := [.int i5, .int (am_gi h10 216 14), .ref 233]) 1 am_q175 rfl ?_
  obtain ⟨g11, H⟩ := H
  refine ev_s (pc' := 65) (loc' := [.ref 216, .int i1, .int i2, .int i3, .int i4, .int i5]) (st' := []) (h1 := am_si h10 233 (Int32.toNatClampNeg (am_gi h10 216 14)) i5) am_q175 rfl rfl rfl (am_xx ⟨lk233 Ly, (Nat.le_of_ble_eq_true rfl)⟩ (am_inl (ln233 Ly) g11)) ?_
  replace H := H _ rfl
  replace Ly : Lay (am_si h10 233 (Int32.toNatClampNeg (am_gi h10 216 14)) i5) := Ly.si _ _ _
  generalize am_si h10 233 (Int32.toNatClampNeg (am_gi h10 216 14)) i5 = h12 at H Ly ⊢
  refine ev_p (pc' := 67) (loc' := [.ref 216, .int i1, .int i2, .int i3, .int i4, .int i5]) (st' := [.ref 216, .ref 216]) 2 am_q175 rfl ?_
  refine ev_s (pc' := 70) (loc' := [.ref 216, .int i1, .int i2, .int i3, .int i4, .int i5]) (st' := [.int (am_gi h12 216 14), .ref 216]) (h1 := h12) am_q175 rfl rfl rfl (if_pos (e := none) (lk216 Ly)) ?_
  refine ev_p (pc' := 72) (loc' := [.ref 216, .int i1, .int i2, .int i3, .int i4, .int i5]) (st' := [.int ((am_gi h12 216 14) + (1 : Int32)), .ref 216]) 2 am_q175 rfl ?_
  refine ev_s (pc' := 75) (loc' := [.ref 216, .int i1, .int i2, .int i3, .int i4, .int i5]) (st' := []) (h1 := am_si h12 216 14 ((am_gi h12 216 14) + (1 : Int32))) am_q175 rfl rfl rfl (if_pos (e := none) (lk216 Ly)) ?_
  replace H := H _ rfl
  replace Ly : Lay (am_si h12 216 14 ((am_gi h12 216 14) + (1 : Int32))) := Ly.si _ _ _
  generalize am_si h12 216 14 ((am_gi h12 216 14) + (1 : Int32)) = h13 at H Ly ⊢
  refine ev_p (pc' := 76) (loc' := [.ref 216, .int i1, .int i2, .int i3, .int i4, .int i5]) (st' := [.ref 216]) 1 am_q175 rfl ?_
  refine ev_s (pc' := 79) (loc' := [.ref 216, .int i1, .int i2, .int i3, .int i4, .int i5]) (st' := [.int (am_gi h13 216 14)]) (h1 := h13) am_q175 rfl rfl rfl (if_pos (e := none) (lk216 Ly)) ?_
  refine ev_p (pc' := 81) (loc' := [.ref 216, .int i1, .int i2, .int i3, .int i4, .int i5]) (st' := [.int ((am_gi h13 216 14) - (1 : Int32))]) 2 am_q175 rfl ?_
  exact ev_r (v := some (.int ((am_gi h13 216 14) - (1 : Int32)))) am_q175 rfl rfl rfl rfl H
/-! 176: X12_day -/
set_option maxRecDepth 20000 in
set_option maxHeartbeats 2000000 in
theorem ws176 {d : Nat}  (i1 : Int32) {h : AH} {Q : Option Value → AH → Prop} (Ly : Lay h) (H : Cl d 167 [.int i1, .int (0 : Int32), .int (10000 : Int32)] h (fun r2 h1 => ∃ x3, r2 = some (.int x3) ∧ Lay h1 ∧ ((¬ x3 = (0 : Int32)) → (((am_gi h1 216 0) + i1) ≤ (1000000 : Int32) → ∀ h4, h4 = am_si h1 216 0 ((am_gi h1 216 0) + i1) → Q (some (.int (am_gi h4 216 0))) h4) ∧ (¬ ((am_gi h1 216 0) + i1) ≤ (1000000 : Int32) → Q (some (.int (-4 : Int32))) h1)) ∧ (¬ (¬ x3 = (0 : Int32)) → Q (some (.int (-2 : Int32))) h1))) : Cl (d + 1) 176 [.ref 216, .int i1] h Q := by
  show Ev (d + 1) 176 0 [.ref 216, .int i1] [] h Q
  refine ev_p (pc' := 5) (loc' := [.ref 216, .int i1]) (st' := [.int (10000 : Int32), .int (0 : Int32), .int i1]) 3 am_q176 rfl ?_
  refine ev_c (vs := [.int i1, .int (0 : Int32), .int (10000 : Int32)]) (rest := []) 167 am_q176 rfl rfl rfl rfl rfl rfl rfl rfl rfl rfl rfl rfl (Or.inl rfl) (Cl.mono H (Nat.le_refl _) (fun r2 h1 H => ?_))
  obtain ⟨x3, rfl, Ly, H⟩ := H
  refine ev_jz (t := 14) am_q176 rfl rfl (fun hq => ?_) (fun hq => ?_)
  · replace H := H.1 hq
    refine ev_p (pc' := 15) (loc' := [.ref 216, .int i1]) (st' := [.ref 216]) 1 am_q176 rfl ?_
    refine ev_s (pc' := 18) (loc' := [.ref 216, .int i1]) (st' := [.int (am_gi h1 216 0)]) (h1 := h1) am_q176 rfl rfl rfl (if_pos (e := none) (lk216 Ly)) ?_
    refine ev_p (pc' := 22) (loc' := [.ref 216, .int i1]) (st' := [.int (1000000 : Int32), .int ((am_gi h1 216 0) + i1)]) 3 am_q176 rfl ?_
    refine ev_jc (t := 28) am_q176 rfl rfl (fun hq => ?_) (fun hq => ?_)
    · replace H := H.1 hq
      refine ev_p (pc' := 30) (loc' := [.ref 216, .int i1]) (st' := [.ref 216, .ref 216]) 2 am_q176 rfl ?_
      refine ev_s (pc' := 33) (loc' := [.ref 216, .int i1]) (st' := [.int (am_gi h1 216 0), .ref 216]) (h1 := h1) am_q176 rfl rfl rfl (if_pos (e := none) (lk216 Ly)) ?_
      refine ev_p (pc' := 35) (loc' := [.ref 216, .int i1]) (st' := [.int ((am_gi h1 216 0) + i1), .ref 216]) 2 am_q176 rfl ?_
      refine ev_s (pc' := 38) (loc' := [.ref 216, .int i1]) (st' := []) (h1 := am_si h1 216 0 ((am_gi h1 216 0) + i1)) am_q176 rfl rfl rfl (if_pos (e := none) (lk216 Ly)) ?_
      replace H := H _ rfl
      replace Ly : Lay (am_si h1 216 0 ((am_gi h1 216 0) + i1)) := Ly.si _ _ _
      generalize am_si h1 216 0 ((am_gi h1 216 0) + i1) = h4 at H Ly ⊢
      refine ev_p (pc' := 39) (loc' := [.ref 216, .int i1]) (st' := [.ref 216]) 1 am_q176 rfl ?_
      refine ev_s (pc' := 42) (loc' := [.ref 216, .int i1]) (st' := [.int (am_gi h4 216 0)]) (h1 := h4) am_q176 rfl rfl rfl (if_pos (e := none) (lk216 Ly)) ?_
      exact ev_r (v := some (.int (am_gi h4 216 0))) am_q176 rfl rfl rfl rfl H
    · replace H := H.2 hq
      refine ev_p (pc' := 27) (loc' := [.ref 216, .int i1]) (st' := [.int (-4 : Int32)]) 1 am_q176 rfl ?_
      exact ev_r (v := some (.int (-4 : Int32))) am_q176 rfl rfl rfl rfl H
  · replace H := H.2 hq
    refine ev_p (pc' := 13) (loc' := [.ref 216, .int i1]) (st' := [.int (-2 : Int32)]) 1 am_q176 rfl ?_
    exact ev_r (v := some (.int (-2 : Int32))) am_q176 rfl rfl rfl rfl H
/-! 177: X12_home -/
set_option maxRecDepth 20000 in
set_option maxHeartbeats 2000000 in
theorem ws177 {d : Nat}  (i1 : Int32) (i2 : Int32) (i3 : Int32) {h : AH} {Q : Option Value → AH → Prop} (Ly : Lay h) (H : Cl d 167 [.int i1, .int (0 : Int32), .int (3 : Int32)] h (fun r2 h1 => ∃ x3, r2 = some (.int x3) ∧ Lay h1 ∧ (x3 = (0 : Int32) → Q (some (.int (-2 : Int32))) h1) ∧ (¬ x3 = (0 : Int32) → Cl d 167 [.int i2, .int (1 : Int32), .int (6 : Int32)] h1 (fun r5 h4 => ∃ x6, r5 = some (.int x6) ∧ Lay h4 ∧ (x6 = (0 : Int32) → Q (some (.int (-2 : Int32))) h4) ∧ (¬ x6 = (0 : Int32) → Cl d 167 [.int i3, .int (1 : Int32), .int (100 : Int32)] h4 (fun r8 h7 => ∃ x9, r8 = some (.int x9) ∧ Lay h7 ∧ ((¬ x9 = (0 : Int32)) → ((¬ (am_gi h7 216 1) = (12 : Int32)) → am_in (am_gi h7 216 1) 12 ∧ ∀ h11, h11 = am_si h7 217 (Int32.toNatClampNeg (am_gi h7 216 1)) i1 → am_in (am_gi h11 216 1) 12 ∧ ∀ h13, h13 = am_si h11 218 (Int32.toNatClampNeg (am_gi h11 216 1)) i2 → am_in (am_gi h13 216 1) 12 ∧ ∀ h15, h15 = am_si h13 219 (Int32.toNatClampNeg (am_gi h13 216 1)) i3 → ∀ h16, h16 = am_si h15 216 1 ((am_gi h15 216 1) + (1 : Int32)) → Q (some (.int ((am_gi h16 216 1) - (1 : Int32)))) h16) ∧ (¬ (¬ (am_gi h7 216 1) = (12 : Int32)) → Q (some (.int (-4 : Int32))) h7)) ∧ (¬ (¬ x9 = (0 : Int32)) → Q (some (.int (-2 : Int32))) h7))))))) : Cl (d + 1) 177 [.ref 216, .int i1, .int i2, .int i3] h Q := by
  show Ev (d + 1) 177 0 [.ref 216, .int i1, .int i2, .int i3] [] h Q
  refine ev_p (pc' := 3) (loc' := [.ref 216, .int i1, .int i2, .int i3]) (st' := [.int (3 : Int32), .int (0 : Int32), .int i1]) 3 am_q177 rfl ?_
  refine ev_c (vs := [.int i1, .int (0 : Int32), .int (3 : Int32)]) (rest := []) 167 am_q177 rfl rfl rfl rfl rfl rfl rfl rfl rfl rfl rfl rfl (Or.inl rfl) (Cl.mono H (Nat.le_refl _) (fun r2 h1 H => ?_))
  obtain ⟨x3, rfl, Ly, H⟩ := H
  refine ev_jz (t := 29) am_q177 rfl rfl (fun hq => ?_) (fun hq => ?_)
  · replace H := H.1 hq
    refine ev_p (pc' := 31) (loc' := [.null, .null, .null, .null]) (st' := [.int (-2 : Int32)]) 1 am_q177 rfl ?_
    exact ev_r (v := some (.int (-2 : Int32))) am_q177 rfl rfl rfl rfl H
  · replace H := H.2 hq
    refine ev_p (pc' := 13) (loc' := [.ref 216, .int i1, .int i2, .int i3]) (st' := [.int (6 : Int32), .int (1 : Int32), .int i2]) 3 am_q177 rfl ?_
    refine ev_c (vs := [.int i2, .int (1 : Int32), .int (6 : Int32)]) (rest := []) 167 am_q177 rfl rfl rfl rfl rfl rfl rfl rfl rfl rfl rfl rfl (Or.inl rfl) (Cl.mono H (Nat.le_refl _) (fun r5 h4 H => ?_))
    obtain ⟨x6, rfl, Ly, H⟩ := H
    refine ev_jz (t := 29) am_q177 rfl rfl (fun hq => ?_) (fun hq => ?_)
    · replace H := H.1 hq
      refine ev_p (pc' := 31) (loc' := [.null, .null, .null, .null]) (st' := [.int (-2 : Int32)]) 1 am_q177 rfl ?_
      exact ev_r (v := some (.int (-2 : Int32))) am_q177 rfl rfl rfl rfl H
    · replace H := H.2 hq
      refine ev_p (pc' := 23) (loc' := [.ref 216, .int i1, .int i2, .int i3]) (st' := [.int (100 : Int32), .int (1 : Int32), .int i3]) 3 am_q177 rfl ?_
      refine ev_c (vs := [.int i3, .int (1 : Int32), .int (100 : Int32)]) (rest := []) 167 am_q177 rfl rfl rfl rfl rfl rfl rfl rfl rfl rfl rfl rfl (Or.inl rfl) (Cl.mono H (Nat.le_refl _) (fun r8 h7 H => ?_))
      obtain ⟨x9, rfl, Ly, H⟩ := H
      refine ev_jz (t := 32) am_q177 rfl rfl (fun hq => ?_) (fun hq => ?_)
      · replace H := H.1 hq
        refine ev_p (pc' := 33) (loc' := [.ref 216, .int i1, .int i2, .int i3]) (st' := [.ref 216]) 1 am_q177 rfl ?_
        refine ev_s (pc' := 36) (loc' := [.ref 216, .int i1, .int i2, .int i3]) (st' := [.int (am_gi h7 216 1)]) (h1 := h7) am_q177 rfl rfl rfl (if_pos (e := none) (lk216 Ly)) ?_
        refine ev_p (pc' := 38) (loc' := [.ref 216, .int i1, .int i2, .int i3]) (st' := [.int (12 : Int32), .int (am_gi h7 216 1)]) 1 am_q177 rfl ?_
        refine ev_jc (t := 44) am_q177 rfl rfl (fun hq => ?_) (fun hq => ?_)
        · replace H := H.1 hq
          refine ev_p (pc' := 45) (loc' := [.ref 216, .int i1, .int i2, .int i3]) (st' := [.ref 216]) 1 am_q177 rfl ?_
          refine ev_s (pc' := 48) (loc' := [.ref 216, .int i1, .int i2, .int i3]) (st' := [.ref 217]) (h1 := h7) am_q177 rfl rfl rfl (am_gf2 (lk216 Ly) (lr216_2 Ly)) ?_
          refine ev_p (pc' := 49) (loc' := [.ref 216, .int i1, .int i2, .int i3]) (st' := [.ref 216, .ref 217]) 1 am_q177 rfl ?_
          refine ev_s (pc' := 52) (loc' := [.ref 216, .int i1, .int i2, .int i3]) (st' := [.int (am_gi h7 216 1), .ref 217]) (h1 := h7) am_q177 rfl rfl rfl (if_pos (e := none) (lk216 Ly)) ?_
          refine ev_p (pc' := 53) (loc' := [.ref 216, .int i1, .int i2, .int i3]) (st' := [.int i1, .int (am_gi h7 216 1), .ref 217]) 1 am_q177 rfl ?_
          obtain ⟨g10, H⟩ := H
          refine ev_s (pc' := 54) (loc' := [.ref 216, .int i1, .int i2, .int i3]) (st' := []) (h1 := am_si h7 217 (Int32.toNatClampNeg (am_gi h7 216 1)) i1) am_q177 rfl rfl rfl (am_xx ⟨lk217 Ly, (Nat.le_of_ble_eq_true rfl)⟩ (am_inl (ln217 Ly) g10)) ?_
          replace H := H _ rfl
          replace Ly : Lay (am_si h7 217 (Int32.toNatClampNeg (am_gi h7 216 1)) i1) := Ly.si _ _ _
          generalize am_si h7 217 (Int32.toNatClampNeg (am_gi h7 216 1)) i1 = h11 at H Ly ⊢
          refine ev_p (pc' := 55) (loc' := [.ref 216, .int i1, .int i2, .int i3]) (st' := [.ref 216]) 1 am_q177 rfl ?_
          refine ev_s (pc' := 58) (loc' := [.ref 216, .int i1, .int i2, .int i3]) (st' := [.ref 218]) (h1 := h11) am_q177 rfl rfl rfl (am_gf2 (lk216 Ly) (lr216_3 Ly)) ?_
          refine ev_p (pc' := 59) (loc' := [.ref 216, .int i1, .int i2, .int i3]) (st' := [.ref 216, .ref 218]) 1 am_q177 rfl ?_
          refine ev_s (pc' := 62) (loc' := [.ref 216, .int i1, .int i2, .int i3]) (st' := [.int (am_gi h11 216 1), .ref 218]) (h1 := h11) am_q177 rfl rfl rfl (if_pos (e := none) (lk216 Ly)) ?_
          refine ev_p (pc' := 63) (loc' := [.ref 216, .int i1, .int i2, .int i3]) (st' := [.int i2, .int (am_gi h11 216 1), .ref 218]) 1 am_q177 rfl ?_
          obtain ⟨g12, H⟩ := H
          refine ev_s (pc' := 64) (loc' := [.ref 216, .int i1, .int i2, .int i3]) (st' := []) (h1 := am_si h11 218 (Int32.toNatClampNeg (am_gi h11 216 1)) i2) am_q177 rfl rfl rfl (am_xx ⟨lk218 Ly, (Nat.le_of_ble_eq_true rfl)⟩ (am_inl (ln218 Ly) g12)) ?_
          replace H := H _ rfl
          replace Ly : Lay (am_si h11 218 (Int32.toNatClampNeg (am_gi h11 216 1)) i2) := Ly.si _ _ _
          generalize am_si h11 218 (Int32.toNatClampNeg (am_gi h11 216 1)) i2 = h13 at H Ly ⊢
          refine ev_p (pc' := 65) (loc' := [.ref 216, .int i1, .int i2, .int i3]) (st' := [.ref 216]) 1 am_q177 rfl ?_
          refine ev_s (pc' := 68) (loc' := [.ref 216, .int i1, .int i2, .int i3]) (st' := [.ref 219]) (h1 := h13) am_q177 rfl rfl rfl (am_gf2 (lk216 Ly) (lr216_4 Ly)) ?_
          refine ev_p (pc' := 69) (loc' := [.ref 216, .int i1, .int i2, .int i3]) (st' := [.ref 216, .ref 219]) 1 am_q177 rfl ?_
          refine ev_s (pc' := 72) (loc' := [.ref 216, .int i1, .int i2, .int i3]) (st' := [.int (am_gi h13 216 1), .ref 219]) (h1 := h13) am_q177 rfl rfl rfl (if_pos (e := none) (lk216 Ly)) ?_
          refine ev_p (pc' := 73) (loc' := [.ref 216, .int i1, .int i2, .int i3]) (st' := [.int i3, .int (am_gi h13 216 1), .ref 219]) 1 am_q177 rfl ?_
          obtain ⟨g14, H⟩ := H
          refine ev_s (pc' := 74) (loc' := [.ref 216, .int i1, .int i2, .int i3]) (st' := []) (h1 := am_si h13 219 (Int32.toNatClampNeg (am_gi h13 216 1)) i3) am_q177 rfl rfl rfl (am_xx ⟨lk219 Ly, (Nat.le_of_ble_eq_true rfl)⟩ (am_inl (ln219 Ly) g14)) ?_
          replace H := H _ rfl
          replace Ly : Lay (am_si h13 219 (Int32.toNatClampNeg (am_gi h13 216 1)) i3) := Ly.si _ _ _
          generalize am_si h13 219 (Int32.toNatClampNeg (am_gi h13 216 1)) i3 = h15 at H Ly ⊢
          refine ev_p (pc' := 76) (loc' := [.ref 216, .int i1, .int i2, .int i3]) (st' := [.ref 216, .ref 216]) 2 am_q177 rfl ?_
          refine ev_s (pc' := 79) (loc' := [.ref 216, .int i1, .int i2, .int i3]) (st' := [.int (am_gi h15 216 1), .ref 216]) (h1 := h15) am_q177 rfl rfl rfl (if_pos (e := none) (lk216 Ly)) ?_
          refine ev_p (pc' := 81) (loc' := [.ref 216, .int i1, .int i2, .int i3]) (st' := [.int ((am_gi h15 216 1) + (1 : Int32)), .ref 216]) 2 am_q177 rfl ?_
          refine ev_s (pc' := 84) (loc' := [.ref 216, .int i1, .int i2, .int i3]) (st' := []) (h1 := am_si h15 216 1 ((am_gi h15 216 1) + (1 : Int32))) am_q177 rfl rfl rfl (if_pos (e := none) (lk216 Ly)) ?_
          replace H := H _ rfl
          replace Ly : Lay (am_si h15 216 1 ((am_gi h15 216 1) + (1 : Int32))) := Ly.si _ _ _
          generalize am_si h15 216 1 ((am_gi h15 216 1) + (1 : Int32)) = h16 at H Ly ⊢
          refine ev_p (pc' := 85) (loc' := [.ref 216, .int i1, .int i2, .int i3]) (st' := [.ref 216]) 1 am_q177 rfl ?_
          refine ev_s (pc' := 88) (loc' := [.ref 216, .int i1, .int i2, .int i3]) (st' := [.int (am_gi h16 216 1)]) (h1 := h16) am_q177 rfl rfl rfl (if_pos (e := none) (lk216 Ly)) ?_
          refine ev_p (pc' := 90) (loc' := [.ref 216, .int i1, .int i2, .int i3]) (st' := [.int ((am_gi h16 216 1) - (1 : Int32))]) 2 am_q177 rfl ?_
          exact ev_r (v := some (.int ((am_gi h16 216 1) - (1 : Int32)))) am_q177 rfl rfl rfl rfl H
        · replace H := H.2 hq
          refine ev_p (pc' := 43) (loc' := [.ref 216, .int i1, .int i2, .int i3]) (st' := [.int (-4 : Int32)]) 1 am_q177 rfl ?_
          exact ev_r (v := some (.int (-4 : Int32))) am_q177 rfl rfl rfl rfl H
      · replace H := H.2 hq
        refine ev_p (pc' := 31) (loc' := [.null, .null, .null, .null]) (st' := [.int (-2 : Int32)]) 1 am_q177 rfl ?_
        exact ev_r (v := some (.int (-2 : Int32))) am_q177 rfl rfl rfl rfl H
/-! 178: X12_member -/
set_option maxRecDepth 20000 in
set_option maxHeartbeats 2000000 in
theorem ws178 {d : Nat}  (i1 : Int32) {h : AH} {Q : Option Value → AH → Prop} (Ly : Lay h) (H : Cl d 167 [.int i1, .int (1 : Int32), .int (9 : Int32)] h (fun r2 h1 => ∃ x3, r2 = some (.int x3) ∧ Lay h1 ∧ ((¬ x3 = (0 : Int32)) → ((¬ (am_gi h1 216 7) = (24 : Int32)) → am_in (am_gi h1 216 7) 24 ∧ ∀ h5, h5 = am_si h1 222 (Int32.toNatClampNeg (am_gi h1 216 7)) i1 → am_in (am_gi h5 216 7) 24 ∧ ∀ h7, h7 = am_si h5 223 (Int32.toNatClampNeg (am_gi h5 216 7)) (am_gi h5 216 0) → am_in (am_gi h7 216 7) 24 ∧ ∀ h9, h9 = am_si h7 224 (Int32.toNatClampNeg (am_gi h7 216 7)) (-1 : Int32) → am_in (am_gi h9 216 7) 24 ∧ ∀ h11, h11 = am_si h9 225 (Int32.toNatClampNeg (am_gi h9 216 7)) (-1 : Int32) → ∀ h12, h12 = am_si h11 216 7 ((am_gi h11 216 7) + (1 : Int32)) → Q (some (.int ((am_gi h12 216 7) - (1 : Int32)))) h12) ∧ (¬ (¬ (am_gi h1 216 7) = (24 : Int32)) → Q (some (.int (-4 : Int32))) h1)) ∧ (¬ (¬ x3 = (0 : Int32)) → Q (some (.int (-2 : Int32))) h1))) : Cl (d + 1) 178 [.ref 216, .int i1] h Q := by
  show Ev (d + 1) 178 0 [.ref 216, .int i1] [] h Q
  refine ev_p (pc' := 4) (loc' := [.ref 216, .int i1]) (st' := [.int (9 : Int32), .int (1 : Int32), .int i1]) 3 am_q178 rfl ?_
  refine ev_c (vs := [.int i1, .int (1 : Int32), .int (9 : Int32)]) (rest := []) 167 am_q178 rfl rfl rfl rfl rfl rfl rfl rfl rfl rfl rfl rfl (Or.inl rfl) (Cl.mono H (Nat.le_refl _) (fun r2 h1 H => ?_))
  obtain ⟨x3, rfl, Ly, H⟩ := H
  refine ev_jz (t := 13) am_q178 rfl rfl (fun hq => ?_) (fun hq => ?_)
  · replace H := H.1 hq
    refine ev_p (pc' := 14) (loc' := [.ref 216, .int i1]) (st' := [.ref 216]) 1 am_q178 rfl ?_
    refine ev_s (pc' := 17) (loc' := [.ref 216, .int i1]) (st' := [.int (am_gi h1 216 7)]) (h1 := h1) am_q178 rfl rfl rfl (if_pos (e := none) (lk216 Ly)) ?_
    refine ev_p (pc' := 19) (loc' := [.ref 216, .int i1]) (st' := [.int (24 : Int32), .int (am_gi h1 216 7)]) 1 am_q178 rfl ?_
    refine ev_jc (t := 25) am_q178 rfl rfl (fun hq => ?_) (fun hq => ?_)
    · replace H := H.1 hq
      refine ev_p (pc' := 26) (loc' := [.ref 216, .int i1]) (st' := [.ref 216]) 1 am_q178 rfl ?_
      refine ev_s (pc' := 29) (loc' := [.ref 216, .int i1]) (st' := [.ref 222]) (h1 := h1) am_q178 rfl rfl rfl (am_gf2 (lk216 Ly) (lr216_8 Ly)) ?_
      refine ev_p (pc' := 30) (loc' := [.ref 216, .int i1]) (st' := [.ref 216, .ref 222]) 1 am_q178 rfl ?_
      refine ev_s (pc' := 33) (loc' := [.ref 216, .int i1]) (st' := [.int (am_gi h1 216 7), .ref 222]) (h1 := h1) am_q178 rfl rfl rfl (if_pos (e := none) (lk216 Ly)) ?_
      refine ev_p (pc' := 34) (loc' := [.ref 216, .int i1]) (st' := [.int i1, .int (am_gi h1 216 7), .ref 222]) 1 am_q178 rfl ?_
      obtain ⟨g4, H⟩ := H
      refine ev_s (pc' := 35) (loc' := [.ref 216, .int i1]) (st' := []) (h1 := am_si h1 222 (Int32.toNatClampNeg (am_gi h1 216 7)) i1) am_q178 rfl rfl rfl (am_xx ⟨lk222 Ly, (Nat.le_of_ble_eq_true rfl)⟩ (am_inl (ln222 Ly) g4)) ?_
      replace H := H _ rfl
      replace Ly : Lay (am_si h1 222 (Int32.toNatClampNeg (am_gi h1 216 7)) i1) := Ly.si _ _ _
      generalize am_si h1 222 (Int32.toNatClampNeg (am_gi h1 216 7)) i1 = h5 at H Ly ⊢
      refine ev_p (pc' := 36) (loc' := [.ref 216, .int i1]) (st' := [.ref 216]) 1 am_q178 rfl ?_
      refine ev_s (pc' := 39) (loc' := [.ref 216, .int i1]) (st' := [.ref 223]) (h1 := h5) am_q178 rfl rfl rfl (am_gf2 (lk216 Ly) (lr216_9 Ly)) ?_
      refine ev_p (pc' := 40) (loc' := [.ref 216, .int i1]) (st' := [.ref 216, .ref 223]) 1 am_q178 rfl ?_
      refine ev_s (pc' := 43) (loc' := [.ref 216, .int i1]) (st' := [.int (am_gi h5 216 7), .ref 223]) (h1 := h5) am_q178 rfl rfl rfl (if_pos (e := none) (lk216 Ly)) ?_
      refine ev_p (pc' := 44) (loc' := [.ref 216, .int i1]) (st' := [.ref 216, .int (am_gi h5 216 7), .ref 223]) 1 am_q178 rfl ?_
      refine ev_s (pc' := 47) (loc' := [.ref 216, .int i1]) (st' := [.int (am_gi h5 216 0), .int (am_gi h5 216 7), .ref 223]) (h1 := h5) am_q178 rfl rfl rfl (if_pos (e := none) (lk216 Ly)) ?_
      obtain ⟨g6, H⟩ := H
      refine ev_s (pc' := 48) (loc' := [.ref 216, .int i1]) (st' := []) (h1 := am_si h5 223 (Int32.toNatClampNeg (am_gi h5 216 7)) (am_gi h5 216 0)) am_q178 rfl rfl rfl (am_xx ⟨lk223 Ly, (Nat.le_of_ble_eq_true rfl)⟩ (am_inl (ln223 Ly) g6)) ?_
      replace H := H _ rfl
      replace Ly : Lay (am_si h5 223 (Int32.toNatClampNeg (am_gi h5 216 7)) (am_gi h5 216 0)) := Ly.si _ _ _
      generalize am_si h5 223 (Int32.toNatClampNeg (am_gi h5 216 7)) (am_gi h5 216 0) = h7 at H Ly ⊢
      refine ev_p (pc' := 49) (loc' := [.ref 216, .int i1]) (st' := [.ref 216]) 1 am_q178 rfl ?_
      refine ev_s (pc' := 52) (loc' := [.ref 216, .int i1]) (st' := [.ref 224]) (h1 := h7) am_q178 rfl rfl rfl (am_gf2 (lk216 Ly) (lr216_10 Ly)) ?_
      refine ev_p (pc' := 53) (loc' := [.ref 216, .int i1]) (st' := [.ref 216, .ref 224]) 1 am_q178 rfl ?_
      refine ev_s (pc' := 56) (loc' := [.ref 216, .int i1]) (st' := [.int (am_gi h7 216 7), .ref 224]) (h1 := h7) am_q178 rfl rfl rfl (if_pos (e := none) (lk216 Ly)) ?_
      refine ev_p (pc' := 57) (loc' := [.ref 216, .int i1]) (st' := [.int (-1 : Int32), .int (am_gi h7 216 7), .ref 224]) 1 am_q178 rfl ?_
      obtain ⟨g8, H⟩ := H
      refine ev_s (pc' := 58) (loc' := [.ref 216, .int i1]) (st' := []) (h1 := am_si h7 224 (Int32.toNatClampNeg (am_gi h7 216 7)) (-1 : Int32)) am_q178 rfl rfl rfl (am_xx ⟨lk224 Ly, (Nat.le_of_ble_eq_true rfl)⟩ (am_inl (ln224 Ly) g8)) ?_
      replace H := H _ rfl
      replace Ly : Lay (am_si h7 224 (Int32.toNatClampNeg (am_gi h7 216 7)) (-1 : Int32)) := Ly.si _ _ _
      generalize am_si h7 224 (Int32.toNatClampNeg (am_gi h7 216 7)) (-1 : Int32) = h9 at H Ly ⊢
      refine ev_p (pc' := 59) (loc' := [.ref 216, .int i1]) (st' := [.ref 216]) 1 am_q178 rfl ?_
      refine ev_s (pc' := 62) (loc' := [.ref 216, .int i1]) (st' := [.ref 225]) (h1 := h9) am_q178 rfl rfl rfl (am_gf2 (lk216 Ly) (lr216_11 Ly)) ?_
      refine ev_p (pc' := 63) (loc' := [.ref 216, .int i1]) (st' := [.ref 216, .ref 225]) 1 am_q178 rfl ?_
      refine ev_s (pc' := 66) (loc' := [.ref 216, .int i1]) (st' := [.int (am_gi h9 216 7), .ref 225]) (h1 := h9) am_q178 rfl rfl rfl (if_pos (e := none) (lk216 Ly)) ?_
      refine ev_p (pc' := 67) (loc' := [.ref 216, .int i1]) (st' := [.int (-1 : Int32), .int (am_gi h9 216 7), .ref 225]) 1 am_q178 rfl ?_
      obtain ⟨g10, H⟩ := H
      refine ev_s (pc' := 68) (loc' := [.ref 216, .int i1]) (st' := []) (h1 := am_si h9 225 (Int32.toNatClampNeg (am_gi h9 216 7)) (-1 : Int32)) am_q178 rfl rfl rfl (am_xx ⟨lk225 Ly, (Nat.le_of_ble_eq_true rfl)⟩ (am_inl (ln225 Ly) g10)) ?_
      replace H := H _ rfl
      replace Ly : Lay (am_si h9 225 (Int32.toNatClampNeg (am_gi h9 216 7)) (-1 : Int32)) := Ly.si _ _ _
      generalize am_si h9 225 (Int32.toNatClampNeg (am_gi h9 216 7)) (-1 : Int32) = h11 at H Ly ⊢
      refine ev_p (pc' := 70) (loc' := [.ref 216, .int i1]) (st' := [.ref 216, .ref 216]) 2 am_q178 rfl ?_
      refine ev_s (pc' := 73) (loc' := [.ref 216, .int i1]) (st' := [.int (am_gi h11 216 7), .ref 216]) (h1 := h11) am_q178 rfl rfl rfl (if_pos (e := none) (lk216 Ly)) ?_
      refine ev_p (pc' := 75) (loc' := [.ref 216, .int i1]) (st' := [.int ((am_gi h11 216 7) + (1 : Int32)), .ref 216]) 2 am_q178 rfl ?_
      refine ev_s (pc' := 78) (loc' := [.ref 216, .int i1]) (st' := []) (h1 := am_si h11 216 7 ((am_gi h11 216 7) + (1 : Int32))) am_q178 rfl rfl rfl (if_pos (e := none) (lk216 Ly)) ?_
      replace H := H _ rfl
      replace Ly : Lay (am_si h11 216 7 ((am_gi h11 216 7) + (1 : Int32))) := Ly.si _ _ _
      generalize am_si h11 216 7 ((am_gi h11 216 7) + (1 : Int32)) = h12 at H Ly ⊢
      refine ev_p (pc' := 79) (loc' := [.ref 216, .int i1]) (st' := [.ref 216]) 1 am_q178 rfl ?_
      refine ev_s (pc' := 82) (loc' := [.ref 216, .int i1]) (st' := [.int (am_gi h12 216 7)]) (h1 := h12) am_q178 rfl rfl rfl (if_pos (e := none) (lk216 Ly)) ?_
      refine ev_p (pc' := 84) (loc' := [.ref 216, .int i1]) (st' := [.int ((am_gi h12 216 7) - (1 : Int32))]) 2 am_q178 rfl ?_
      exact ev_r (v := some (.int ((am_gi h12 216 7) - (1 : Int32)))) am_q178 rfl rfl rfl rfl H
    · replace H := H.2 hq
      refine ev_p (pc' := 24) (loc' := [.ref 216, .int i1]) (st' := [.int (-4 : Int32)]) 1 am_q178 rfl ?_
      exact ev_r (v := some (.int (-4 : Int32))) am_q178 rfl rfl rfl rfl H
  · replace H := H.2 hq
    refine ev_p (pc' := 12) (loc' := [.ref 216, .int i1]) (st' := [.int (-2 : Int32)]) 1 am_q178 rfl ?_
    exact ev_r (v := some (.int (-2 : Int32))) am_q178 rfl rfl rfl rfl H
/-! 179: X12_family -/
set_option maxRecDepth 20000 in
set_option maxHeartbeats 2000000 in
theorem ws179 {d : Nat}  (i1 : Int32) (i2 : Int32) {h : AH} {Q : Option Value → AH → Prop} (Ly : Lay h) (H : Cl d 169 [.ref 216, .int i1] h (fun r2 h1 => ∃ x3, r2 = some (.int x3) ∧ Lay h1 ∧ (x3 = (0 : Int32) → Q (some (.int (-2 : Int32))) h1) ∧ (¬ x3 = (0 : Int32) → Cl d 167 [.int i2, .int (1 : Int32), .int (9 : Int32)] h1 (fun r5 h4 => ∃ x6, r5 = some (.int x6) ∧ Lay h4 ∧ ((¬ x6 = (0 : Int32)) → Cl d 170 [.ref 216, .int i1] h4 (fun r8 h7 => ∃ x9, r8 = some (.int x9) ∧ Lay h7 ∧ ((¬ x9 = (0 : Int32)) → am_in i1 24 ∧ am_in i1 24 ∧ ∀ h12, h12 = am_si h7 222 (Int32.toNatClampNeg i1) i2 → Q (some (.int (am_gi h7 222 (Int32.toNatClampNeg i1)))) h12) ∧ (¬ (¬ x9 = (0 : Int32)) → Q (some (.int (-3 : Int32))) h7))) ∧ (¬ (¬ x6 = (0 : Int32)) → Q (some (.int (-2 : Int32))) h4))))) : Cl (d + 1) 179 [.ref 216, .int i1, .int i2] h Q := by
  show Ev (d + 1) 179 0 [.ref 216, .int i1, .int i2, .null] [] h Q
  refine ev_p (pc' := 2) (loc' := [.ref 216, .int i1, .int i2, .null]) (st' := [.int i1, .ref 216]) 2 am_q179 rfl ?_
  refine ev_c (vs := [.ref 216, .int i1]) (rest := []) 169 am_q179 rfl rfl rfl rfl rfl rfl rfl rfl rfl rfl rfl rfl (Or.inr (congrArg some (lk216 Ly))) (Cl.mono H (Nat.le_refl _) (fun r2 h1 H => ?_))
  obtain ⟨x3, rfl, Ly, H⟩ := H
  refine ev_jz (t := 18) am_q179 rfl rfl (fun hq => ?_) (fun hq => ?_)
  · replace H := H.1 hq
    refine ev_p (pc' := 20) (loc' := [.null, .null, .null, .null]) (st' := [.int (-2 : Int32)]) 1 am_q179 rfl ?_
    exact ev_r (v := some (.int (-2 : Int32))) am_q179 rfl rfl rfl rfl H
  · replace H := H.2 hq
    refine ev_p (pc' := 12) (loc' := [.ref 216, .int i1, .int i2, .null]) (st' := [.int (9 : Int32), .int (1 : Int32), .int i2]) 3 am_q179 rfl ?_
    refine ev_c (vs := [.int i2, .int (1 : Int32), .int (9 : Int32)]) (rest := []) 167 am_q179 rfl rfl rfl rfl rfl rfl rfl rfl rfl rfl rfl rfl (Or.inl rfl) (Cl.mono H (Nat.le_refl _) (fun r5 h4 H => ?_))
    obtain ⟨x6, rfl, Ly, H⟩ := H
    refine ev_jz (t := 21) am_q179 rfl rfl (fun hq => ?_) (fun hq => ?_)
    · replace H := H.1 hq
      refine ev_p (pc' := 23) (loc' := [.ref 216, .int i1, .int i2, .null]) (st' := [.int i1, .ref 216]) 2 am_q179 rfl ?_
      refine ev_c (vs := [.ref 216, .int i1]) (rest := []) 170 am_q179 rfl rfl rfl rfl rfl rfl rfl rfl rfl rfl rfl rfl (Or.inr (congrArg some (lk216 Ly))) (Cl.mono H (Nat.le_refl _) (fun r8 h7 H => ?_))
      obtain ⟨x9, rfl, Ly, H⟩ := H
      refine ev_jz (t := 32) am_q179 rfl rfl (fun hq => ?_) (fun hq => ?_)
      · replace H := H.1 hq
        refine ev_p (pc' := 33) (loc' := [.ref 216, .int i1, .int i2, .null]) (st' := [.ref 216]) 1 am_q179 rfl ?_
        refine ev_s (pc' := 36) (loc' := [.ref 216, .int i1, .int i2, .null]) (st' := [.ref 222]) (h1 := h7) am_q179 rfl rfl rfl (am_gf2 (lk216 Ly) (lr216_8 Ly)) ?_
        refine ev_p (pc' := 37) (loc' := [.ref 216, .int i1, .int i2, .null]) (st' := [.int i1, .ref 222]) 1 am_q179 rfl ?_
        obtain ⟨g10, H⟩ := H
        refine ev_s (pc' := 38) (loc' := [.ref 216, .int i1, .int i2, .null]) (st' := [.int (am_gi h7 222 (Int32.toNatClampNeg i1))]) (h1 := h7) am_q179 rfl rfl rfl (am_xx (lk222 Ly) (am_inl (ln222 Ly) g10)) ?_
        refine ev_p (pc' := 40) (loc' := [.ref 216, .int i1, .int i2, .int (am_gi h7 222 (Int32.toNatClampNeg i1))]) (st' := [.ref 216]) 2 am_q179 rfl ?_
        refine ev_s (pc' := 43) (loc' := [.ref 216, .int i1, .int i2, .int (am_gi h7 222 (Int32.toNatClampNeg i1))]) (st' := [.ref 222]) (h1 := h7) am_q179 rfl rfl rfl (am_gf2 (lk216 Ly) (lr216_8 Ly)) ?_
        refine ev_p (pc' := 45) (loc' := [.ref 216, .int i1, .int i2, .int (am_gi h7 222 (Int32.toNatClampNeg i1))]) (st' := [.int i2, .int i1, .ref 222]) 2 am_q179 rfl ?_
        obtain ⟨g11, H⟩ := H
        refine ev_s (pc' := 46) (loc' := [.ref 216, .int i1, .int i2, .int (am_gi h7 222 (Int32.toNatClampNeg i1))]) (st' := []) (h1 := am_si h7 222 (Int32.toNatClampNeg i1) i2) am_q179 rfl rfl rfl (am_xx ⟨lk222 Ly, (Nat.le_of_ble_eq_true rfl)⟩ (am_inl (ln222 Ly) g11)) ?_
        replace H := H _ rfl
        replace Ly : Lay (am_si h7 222 (Int32.toNatClampNeg i1) i2) := Ly.si _ _ _
        generalize am_si h7 222 (Int32.toNatClampNeg i1) i2 = h12 at H Ly ⊢
        refine ev_p (pc' := 47) (loc' := [.ref 216, .int i1, .int i2, .int (am_gi h7 222 (Int32.toNatClampNeg i1))]) (st' := [.int (am_gi h7 222 (Int32.toNatClampNeg i1))]) 1 am_q179 rfl ?_
        exact ev_r (v := some (.int (am_gi h7 222 (Int32.toNatClampNeg i1)))) am_q179 rfl rfl rfl rfl H
      · replace H := H.2 hq
        refine ev_p (pc' := 31) (loc' := [.ref 216, .int i1, .int i2, .null]) (st' := [.int (-3 : Int32)]) 1 am_q179 rfl ?_
        exact ev_r (v := some (.int (-3 : Int32))) am_q179 rfl rfl rfl rfl H
    · replace H := H.2 hq
      refine ev_p (pc' := 20) (loc' := [.null, .null, .null, .null]) (st' := [.int (-2 : Int32)]) 1 am_q179 rfl ?_
      exact ev_r (v := some (.int (-2 : Int32))) am_q179 rfl rfl rfl rfl H
/-! 180: X12_right -/
set_option maxRecDepth 20000 in
set_option maxHeartbeats 2000000 in
theorem ws180 {d : Nat}  (i1 : Int32) (i2 : Int32) (i3 : Int32) (i4 : Int32) {h : AH} {Q : Option Value → AH → Prop} (Ly : Lay h) (H : (i1 = (1 : Int32) → Cl d 167 [.int i4, .int (1 : Int32), .int (10000 : Int32)] h (fun r2 h1 => ∃ x3, r2 = some (.int x3) ∧ Lay h1 ∧ Ev (d + 1) 180 32 [.ref 216, .int i1, .int i2, .int i3, .int i4, .null, .null] [.int x3] h1 Q)) ∧ (¬ i1 = (1 : Int32) → ((¬ i1 = (2 : Int32)) → ((¬ i4 = (0 : Int32)) → Ev (d + 1) 180 32 [.ref 216, .int i1, .int i2, .int i3, .int i4, .null, .null] [.int (0 : Int32)] h Q) ∧ (¬ (¬ i4 = (0 : Int32)) → Ev (d + 1) 180 32 [.ref 216, .int i1, .int i2, .int i3, .int i4, .null, .null] [.int (1 : Int32)] h Q)) ∧ (¬ (¬ i1 = (2 : Int32)) → Cl d 167 [.int i4, .int (1 : Int32), .int (10000 : Int32)] h (fun r5 h4 => ∃ x6, r5 = some (.int x6) ∧ Lay h4 ∧ Ev (d + 1) 180 32 [.ref 216, .int i1, .int i2, .int i3, .int i4, .null, .null] [.int x6] h4 Q)))) : Cl (d + 1) 180 [.ref 216, .int i1, .int i2, .int i3, .int i4] h Q := by
  show Ev (d + 1) 180 0 [.ref 216, .int i1, .int i2, .int i3, .int i4, .null, .null] [] h Q
  refine ev_p (pc' := 2) (loc' := [.ref 216, .int i1, .int i2, .int i3, .int i4, .null, .null]) (st' := [.int (1 : Int32), .int i1]) 2 am_q180 rfl ?_
  refine ev_jc (t := 10) am_q180 rfl rfl (fun hq => ?_) (fun hq => ?_)
  · replace H := H.1 hq
    refine ev_p (pc' := 16) (loc' := [.ref 216, .int i1, .int i2, .int i3, .int i4, .null, .null]) (st' := [.int (10000 : Int32), .int (1 : Int32), .int i4]) 3 am_q180 rfl ?_
    refine ev_c (vs := [.int i4, .int (1 : Int32), .int (10000 : Int32)]) (rest := []) 167 am_q180 rfl rfl rfl rfl rfl rfl rfl rfl rfl rfl rfl rfl (Or.inl rfl) (Cl.mono H (Nat.le_refl _) (fun r2 h1 H => ?_))
    obtain ⟨x3, rfl, Ly, H⟩ := H
    refine ev_p (pc' := 32) (loc' := [.ref 216, .int i1, .int i2, .int i3, .int i4, .null, .null]) (st' := [.int x3]) 1 am_q180 rfl ?_
    exact ev_m (loc' := [.ref 216, .int i1, .int i2, .int i3, .int i4, .null, .null]) am_q180 rfl rfl H
  · replace H := H.2 hq
    refine ev_p (pc' := 7) (loc' := [.ref 216, .int i1, .int i2, .int i3, .int i4, .null, .null]) (st' := [.int (2 : Int32), .int i1]) 2 am_q180 rfl ?_
    refine ev_jc (t := 22) am_q180 rfl rfl (fun hq => ?_) (fun hq => ?_)
    · replace H := H.1 hq
      refine ev_p (pc' := 24) (loc' := [.ref 216, .int i1, .int i2, .int i3, .int i4, .null, .null]) (st' := [.int i4]) 1 am_q180 rfl ?_
      refine ev_jz (t := 31) am_q180 rfl rfl (fun hq => ?_) (fun hq => ?_)
      · replace H := H.1 hq
        refine ev_p (pc' := 32) (loc' := [.ref 216, .int i1, .int i2, .int i3, .int i4, .null, .null]) (st' := [.int (0 : Int32)]) 1 am_q180 rfl ?_
        exact ev_m (loc' := [.ref 216, .int i1, .int i2, .int i3, .int i4, .null, .null]) am_q180 rfl rfl H
      · replace H := H.2 hq
        refine ev_p (pc' := 32) (loc' := [.ref 216, .int i1, .int i2, .int i3, .int i4, .null, .null]) (st' := [.int (1 : Int32)]) 2 am_q180 rfl ?_
        exact ev_m (loc' := [.ref 216, .int i1, .int i2, .int i3, .int i4, .null, .null]) am_q180 rfl rfl H
    · replace H := H.2 hq
      refine ev_p (pc' := 16) (loc' := [.ref 216, .int i1, .int i2, .int i3, .int i4, .null, .null]) (st' := [.int (10000 : Int32), .int (1 : Int32), .int i4]) 3 am_q180 rfl ?_
      refine ev_c (vs := [.int i4, .int (1 : Int32), .int (10000 : Int32)]) (rest := []) 167 am_q180 rfl rfl rfl rfl rfl rfl rfl rfl rfl rfl rfl rfl (Or.inl rfl) (Cl.mono H (Nat.le_refl _) (fun r5 h4 H => ?_))
      obtain ⟨x6, rfl, Ly, H⟩ := H
      refine ev_p (pc' := 32) (loc' := [.ref 216, .int i1, .int i2, .int i3, .int i4, .null, .null]) (st' := [.int x6]) 1 am_q180 rfl ?_
      exact ev_m (loc' := [.ref 216, .int i1, .int i2, .int i3, .int i4, .null, .null]) am_q180 rfl rfl H
set_option maxRecDepth 20000 in
set_option maxHeartbeats 2000000 in
theorem ws180_32 {d : Nat}  (i1 : Int32) (i2 : Int32) (i3 : Int32) (i4 : Int32) (s0 : Int32) {h : AH} {Q : Option Value → AH → Prop} (Ly : Lay h) (H : Cl d 167 [.int i1, .int (0 : Int32), .int (2 : Int32)] h (fun r2 h1 => ∃ x3, r2 = some (.int x3) ∧ Lay h1 ∧ (x3 = (0 : Int32) → Q (some (.int (-2 : Int32))) h1) ∧ (¬ x3 = (0 : Int32) → Cl d 168 [.ref 216, .int i2] h1 (fun r5 h4 => ∃ x6, r5 = some (.int x6) ∧ Lay h4 ∧ (x6 = (0 : Int32) → Q (some (.int (-2 : Int32))) h4) ∧ (¬ x6 = (0 : Int32) → Cl d 169 [.ref 216, .int i3] h4 (fun r8 h7 => ∃ x9, r8 = some (.int x9) ∧ Lay h7 ∧ (x9 = (0 : Int32) → Q (some (.int (-2 : Int32))) h7) ∧ (¬ x9 = (0 : Int32) → ((¬ s0 = (0 : Int32)) → Cl d 170 [.ref 216, .int i3] h7 (fun r11 h10 => ∃ x12, r11 = some (.int x12) ∧ Lay h10 ∧ ((¬ x12 = (0 : Int32)) → Cl d 174 [.ref 216, .int i3, .int (am_gi h10 216 0)] h10 (fun r14 h13 => ∃ x15, r14 = some (.int x15) ∧ Lay h13 ∧ (i1 = (2 : Int32) → ((¬ i1 = (2 : Int32)) → Ev (d + 1) 180 150 [.ref 216, .int i1, .int i2, .int i3, .int i4, .null, .null] [] h13 Q) ∧ (¬ (¬ i1 = (2 : Int32)) → (x15 = (-1 : Int32) → Ev (d + 1) 180 150 [.ref 216, .int i1, .int i2, .int i3, .int i4, .null, .null] [] h13 Q) ∧ (¬ x15 = (-1 : Int32) → am_in x15 60 ∧ ((¬ (am_gi h13 229 (Int32.toNatClampNeg x15)) = i2) → Ev (d + 1) 180 150 [.ref 216, .int i1, .int i2, .int i3, .int i4, .null, .null] [] h13 Q) ∧ (¬ (¬ (am_gi h13 229 (Int32.toNatClampNeg x15)) = i2) → Q (some (.int (-3 : Int32))) h13)))) ∧ (¬ i1 = (2 : Int32) → Cl d 173 [.ref 216, .int i2, .int (am_gi h13 216 0)] h13 (fun r18 h17 => ∃ x19, r18 = some (.int x19) ∧ Lay h17 ∧ ((¬ x19 = (-1 : Int32)) → Q (some (.int (-3 : Int32))) h17) ∧ (¬ (¬ x19 = (-1 : Int32)) → am_in i2 12 ∧ ((¬ (am_gi h17 220 (Int32.toNatClampNeg i2)) = (0 : Int32)) → Q (some (.int (-3 : Int32))) h17) ∧ (¬ (¬ (am_gi h17 220 (Int32.toNatClampNeg i2)) = (0 : Int32)) → (x15 = (-1 : Int32) → ((¬ i1 = (2 : Int32)) → Ev (d + 1) 180 150 [.ref 216, .int i1, .int i2, .int i3, .int i4, .null, .null] [] h17 Q) ∧ (¬ (¬ i1 = (2 : Int32)) → (x15 = (-1 : Int32) → Ev (d + 1) 180 150 [.ref 216, .int i1, .int i2, .int i3, .int i4, .null, .null] [] h17 Q) ∧ (¬ x15 = (-1 : Int32) → am_in x15 60 ∧ ((¬ (am_gi h17 229 (Int32.toNatClampNeg x15)) = i2) → Ev (d + 1) 180 150 [.ref 216, .int i1, .int i2, .int i3, .int i4, .null, .null] [] h17 Q) ∧ (¬ (¬ (am_gi h17 229 (Int32.toNatClampNeg x15)) = i2) → Q (some (.int (-3 : Int32))) h17)))) ∧ (¬ x15 = (-1 : Int32) → Q (some (.int (-3 : Int32))) h17))))))) ∧ (¬ (¬ x12 = (0 : Int32)) → Q (some (.int (-3 : Int32))) h10))) ∧ (¬ (¬ s0 = (0 : Int32)) → Q (some (.int (-2 : Int32))) h7)))))))) : Ev (d + 1) 180 32 [.ref 216, .int i1, .int i2, .int i3, .int i4, .null, .null] [.int s0] h Q := by
  refine ev_p (pc' := 37) (loc' := [.ref 216, .int i1, .int i2, .int i3, .int i4, .int s0, .null]) (st' := [.int (2 : Int32), .int (0 : Int32), .int i1]) 4 am_q180 rfl ?_
  refine ev_c (vs := [.int i1, .int (0 : Int32), .int (2 : Int32)]) (rest := []) 167 am_q180 rfl rfl rfl rfl rfl rfl rfl rfl rfl rfl rfl rfl (Or.inl rfl) (Cl.mono H (Nat.le_refl _) (fun r2 h1 H => ?_))
  obtain ⟨x3, rfl, Ly, H⟩ := H
  refine ev_jz (t := 64) am_q180 rfl rfl (fun hq => ?_) (fun hq => ?_)
  · replace H := H.1 hq
    refine ev_p (pc' := 66) (loc' := [.null, .null, .null, .null, .null, .null, .null]) (st' := [.int (-2 : Int32)]) 1 am_q180 rfl ?_
    exact ev_r (v := some (.int (-2 : Int32))) am_q180 rfl rfl rfl rfl H
  · replace H := H.2 hq
    refine ev_p (pc' := 45) (loc' := [.ref 216, .int i1, .int i2, .int i3, .int i4, .int s0, .null]) (st' := [.int i2, .ref 216]) 2 am_q180 rfl ?_
    refine ev_c (vs := [.ref 216, .int i2]) (rest := []) 168 am_q180 rfl rfl rfl rfl rfl rfl rfl rfl rfl rfl rfl rfl (Or.inr (congrArg some (lk216 Ly))) (Cl.mono H (Nat.le_refl _) (fun r5 h4 H => ?_))
    obtain ⟨x6, rfl, Ly, H⟩ := H
    refine ev_jz (t := 64) am_q180 rfl rfl (fun hq => ?_) (fun hq => ?_)
    · replace H := H.1 hq
      refine ev_p (pc' := 66) (loc' := [.null, .null, .null, .null, .null, .null, .null]) (st' := [.int (-2 : Int32)]) 1 am_q180 rfl ?_
      exact ev_r (v := some (.int (-2 : Int32))) am_q180 rfl rfl rfl rfl H
    · replace H := H.2 hq
      refine ev_p (pc' := 53) (loc' := [.ref 216, .int i1, .int i2, .int i3, .int i4, .int s0, .null]) (st' := [.int i3, .ref 216]) 2 am_q180 rfl ?_
      refine ev_c (vs := [.ref 216, .int i3]) (rest := []) 169 am_q180 rfl rfl rfl rfl rfl rfl rfl rfl rfl rfl rfl rfl (Or.inr (congrArg some (lk216 Ly))) (Cl.mono H (Nat.le_refl _) (fun r8 h7 H => ?_))
      obtain ⟨x9, rfl, Ly, H⟩ := H
      refine ev_jz (t := 64) am_q180 rfl rfl (fun hq => ?_) (fun hq => ?_)
      · replace H := H.1 hq
        refine ev_p (pc' := 66) (loc' := [.null, .null, .null, .null, .null, .null, .null]) (st' := [.int (-2 : Int32)]) 1 am_q180 rfl ?_
        exact ev_r (v := some (.int (-2 : Int32))) am_q180 rfl rfl rfl rfl H
      · replace H := H.2 hq
        refine ev_p (pc' := 61) (loc' := [.ref 216, .int i1, .int i2, .int i3, .int i4, .int s0, .null]) (st' := [.int s0]) 1 am_q180 rfl ?_
        refine ev_jz (t := 67) am_q180 rfl rfl (fun hq => ?_) (fun hq => ?_)
        · replace H := H.1 hq
          refine ev_p (pc' := 69) (loc' := [.ref 216, .int i1, .int i2, .int i3, .int i4, .int s0, .null]) (st' := [.int i3, .ref 216]) 2 am_q180 rfl ?_
          refine ev_c (vs := [.ref 216, .int i3]) (rest := []) 170 am_q180 rfl rfl rfl rfl rfl rfl rfl rfl rfl rfl rfl rfl (Or.inr (congrArg some (lk216 Ly))) (Cl.mono H (Nat.le_refl _) (fun r11 h10 H => ?_))
          obtain ⟨x12, rfl, Ly, H⟩ := H
          refine ev_jz (t := 78) am_q180 rfl rfl (fun hq => ?_) (fun hq => ?_)
          · replace H := H.1 hq
            refine ev_p (pc' := 81) (loc' := [.ref 216, .int i1, .int i2, .int i3, .int i4, .int s0, .null]) (st' := [.ref 216, .int i3, .ref 216]) 3 am_q180 rfl ?_
            refine ev_s (pc' := 84) (loc' := [.ref 216, .int i1, .int i2, .int i3, .int i4, .int s0, .null]) (st' := [.int (am_gi h10 216 0), .int i3, .ref 216]) (h1 := h10) am_q180 rfl rfl rfl (if_pos (e := none) (lk216 Ly)) ?_
            refine ev_c (vs := [.ref 216, .int i3, .int (am_gi h10 216 0)]) (rest := []) 174 am_q180 rfl rfl rfl rfl rfl rfl rfl rfl rfl rfl rfl rfl (Or.inr (congrArg some (lk216 Ly))) (Cl.mono H (Nat.le_refl _) (fun r14 h13 H => ?_))
            obtain ⟨x15, rfl, Ly, H⟩ := H
            refine ev_p (pc' := 91) (loc' := [.ref 216, .int i1, .int i2, .int i3, .int i4, .int s0, .int x15]) (st' := [.int (2 : Int32), .int i1]) 3 am_q180 rfl ?_
            refine ev_jc (t := 125) am_q180 rfl rfl (fun hq => ?_) (fun hq => ?_)
            · replace H := H.1 hq
              refine ev_p (pc' := 127) (loc' := [.ref 216, .int i1, .int i2, .int i3, .int i4, .null, .int x15]) (st' := [.int (2 : Int32), .int i1]) 2 am_q180 rfl ?_
              refine ev_jc (t := 150) am_q180 rfl rfl (fun hq => ?_) (fun hq => ?_)
              · replace H := H.1 hq
                exact ev_m (loc' := [.ref 216, .int i1, .int i2, .int i3, .int i4, .null, .null]) am_q180 rfl rfl H
              · replace H := H.2 hq
                refine ev_p (pc' := 133) (loc' := [.ref 216, .int i1, .int i2, .int i3, .int i4, .null, .int x15]) (st' := [.int (-1 : Int32), .int x15]) 2 am_q180 rfl ?_
                refine ev_jc (t := 150) am_q180 rfl rfl (fun hq => ?_) (fun hq => ?_)
                · replace H := H.1 hq
                  exact ev_m (loc' := [.ref 216, .int i1, .int i2, .int i3, .int i4, .null, .null]) am_q180 rfl rfl H
                · replace H := H.2 hq
                  refine ev_p (pc' := 137) (loc' := [.ref 216, .int i1, .int i2, .int i3, .int i4, .null, .int x15]) (st' := [.ref 216]) 1 am_q180 rfl ?_
                  refine ev_s (pc' := 140) (loc' := [.ref 216, .int i1, .int i2, .int i3, .int i4, .null, .int x15]) (st' := [.ref 229]) (h1 := h13) am_q180 rfl rfl rfl (am_gf2 (lk216 Ly) (lr216_16 Ly)) ?_
                  refine ev_p (pc' := 142) (loc' := [.ref 216, .int i1, .int i2, .int i3, .int i4, .null, .int x15]) (st' := [.int x15, .ref 229]) 1 am_q180 rfl ?_
                  obtain ⟨g16, H⟩ := H
                  refine ev_s (pc' := 143) (loc' := [.ref 216, .int i1, .int i2, .int i3, .int i4, .null, .int x15]) (st' := [.int (am_gi h13 229 (Int32.toNatClampNeg x15))]) (h1 := h13) am_q180 rfl rfl rfl (am_xx (lk229 Ly) (am_inl (ln229 Ly) g16)) ?_
                  refine ev_p (pc' := 144) (loc' := [.ref 216, .int i1, .int i2, .int i3, .int i4, .null, .int x15]) (st' := [.int i2, .int (am_gi h13 229 (Int32.toNatClampNeg x15))]) 1 am_q180 rfl ?_
                  refine ev_jc (t := 150) am_q180 rfl rfl (fun hq => ?_) (fun hq => ?_)
                  · replace H := H.1 hq
                    exact ev_m (loc' := [.ref 216, .int i1, .int i2, .int i3, .int i4, .null, .null]) am_q180 rfl rfl H
                  · replace H := H.2 hq
                    refine ev_p (pc' := 149) (loc' := [.ref 216, .int i1, .int i2, .int i3, .int i4, .null, .int x15]) (st' := [.int (-3 : Int32)]) 1 am_q180 rfl ?_
                    exact ev_r (v := some (.int (-3 : Int32))) am_q180 rfl rfl rfl rfl H
            · replace H := H.2 hq
              refine ev_p (pc' := 97) (loc' := [.ref 216, .int i1, .int i2, .int i3, .int i4, .int s0, .int x15]) (st' := [.ref 216, .int i2, .ref 216]) 3 am_q180 rfl ?_
              refine ev_s (pc' := 100) (loc' := [.ref 216, .int i1, .int i2, .int i3, .int i4, .int s0, .int x15]) (st' := [.int (am_gi h13 216 0), .int i2, .ref 216]) (h1 := h13) am_q180 rfl rfl rfl (if_pos (e := none) (lk216 Ly)) ?_
              refine ev_c (vs := [.ref 216, .int i2, .int (am_gi h13 216 0)]) (rest := []) 173 am_q180 rfl rfl rfl rfl rfl rfl rfl rfl rfl rfl rfl rfl (Or.inr (congrArg some (lk216 Ly))) (Cl.mono H (Nat.le_refl _) (fun r18 h17 H => ?_))
              obtain ⟨x19, rfl, Ly, H⟩ := H
              refine ev_p (pc' := 104) (loc' := [.ref 216, .int i1, .int i2, .int i3, .int i4, .int s0, .int x15]) (st' := [.int (-1 : Int32), .int x19]) 1 am_q180 rfl ?_
              refine ev_jc (t := 122) am_q180 rfl rfl (fun hq => ?_) (fun hq => ?_)
              · replace H := H.1 hq
                refine ev_p (pc' := 124) (loc' := [.null, .null, .null, .null, .null, .null, .null]) (st' := [.int (-3 : Int32)]) 1 am_q180 rfl ?_
                exact ev_r (v := some (.int (-3 : Int32))) am_q180 rfl rfl rfl rfl H
              · replace H := H.2 hq
                refine ev_p (pc' := 108) (loc' := [.ref 216, .int i1, .int i2, .int i3, .int i4, .int s0, .int x15]) (st' := [.ref 216]) 1 am_q180 rfl ?_
                refine ev_s (pc' := 111) (loc' := [.ref 216, .int i1, .int i2, .int i3, .int i4, .int s0, .int x15]) (st' := [.ref 220]) (h1 := h17) am_q180 rfl rfl rfl (am_gf2 (lk216 Ly) (lr216_5 Ly)) ?_
                refine ev_p (pc' := 112) (loc' := [.ref 216, .int i1, .int i2, .int i3, .int i4, .int s0, .int x15]) (st' := [.int i2, .ref 220]) 1 am_q180 rfl ?_
                obtain ⟨g20, H⟩ := H
                refine ev_s (pc' := 113) (loc' := [.ref 216, .int i1, .int i2, .int i3, .int i4, .int s0, .int x15]) (st' := [.int (am_gi h17 220 (Int32.toNatClampNeg i2))]) (h1 := h17) am_q180 rfl rfl rfl (am_xx (Or.inr (lk220 Ly)) (am_inl (ln220 Ly) g20)) ?_
                refine ev_jz (t := 122) am_q180 rfl rfl (fun hq => ?_) (fun hq => ?_)
                · replace H := H.1 hq
                  refine ev_p (pc' := 124) (loc' := [.null, .null, .null, .null, .null, .null, .null]) (st' := [.int (-3 : Int32)]) 1 am_q180 rfl ?_
                  exact ev_r (v := some (.int (-3 : Int32))) am_q180 rfl rfl rfl rfl H
                · replace H := H.2 hq
                  refine ev_p (pc' := 119) (loc' := [.ref 216, .int i1, .int i2, .int i3, .int i4, .int s0, .int x15]) (st' := [.int (-1 : Int32), .int x15]) 2 am_q180 rfl ?_
                  refine ev_jc (t := 125) am_q180 rfl rfl (fun hq => ?_) (fun hq => ?_)
                  · replace H := H.1 hq
                    refine ev_p (pc' := 127) (loc' := [.ref 216, .int i1, .int i2, .int i3, .int i4, .null, .int x15]) (st' := [.int (2 : Int32), .int i1]) 2 am_q180 rfl ?_
                    refine ev_jc (t := 150) am_q180 rfl rfl (fun hq => ?_) (fun hq => ?_)
                    · replace H := H.1 hq
                      exact ev_m (loc' := [.ref 216, .int i1, .int i2, .int i3, .int i4, .null, .null]) am_q180 rfl rfl H
                    · replace H := H.2 hq
                      refine ev_p (pc' := 133) (loc' := [.ref 216, .int i1, .int i2, .int i3, .int i4, .null, .int x15]) (st' := [.int (-1 : Int32), .int x15]) 2 am_q180 rfl ?_
                      refine ev_jc (t := 150) am_q180 rfl rfl (fun hq => ?_) (fun hq => ?_)
                      · replace H := H.1 hq
                        exact ev_m (loc' := [.ref 216, .int i1, .int i2, .int i3, .int i4, .null, .null]) am_q180 rfl rfl H
                      · replace H := H.2 hq
                        refine ev_p (pc' := 137) (loc' := [.ref 216, .int i1, .int i2, .int i3, .int i4, .null, .int x15]) (st' := [.ref 216]) 1 am_q180 rfl ?_
                        refine ev_s (pc' := 140) (loc' := [.ref 216, .int i1, .int i2, .int i3, .int i4, .null, .int x15]) (st' := [.ref 229]) (h1 := h17) am_q180 rfl rfl rfl (am_gf2 (lk216 Ly) (lr216_16 Ly)) ?_
                        refine ev_p (pc' := 142) (loc' := [.ref 216, .int i1, .int i2, .int i3, .int i4, .null, .int x15]) (st' := [.int x15, .ref 229]) 1 am_q180 rfl ?_
                        obtain ⟨g21, H⟩ := H
                        refine ev_s (pc' := 143) (loc' := [.ref 216, .int i1, .int i2, .int i3, .int i4, .null, .int x15]) (st' := [.int (am_gi h17 229 (Int32.toNatClampNeg x15))]) (h1 := h17) am_q180 rfl rfl rfl (am_xx (lk229 Ly) (am_inl (ln229 Ly) g21)) ?_
                        refine ev_p (pc' := 144) (loc' := [.ref 216, .int i1, .int i2, .int i3, .int i4, .null, .int x15]) (st' := [.int i2, .int (am_gi h17 229 (Int32.toNatClampNeg x15))]) 1 am_q180 rfl ?_
                        refine ev_jc (t := 150) am_q180 rfl rfl (fun hq => ?_) (fun hq => ?_)
                        · replace H := H.1 hq
                          exact ev_m (loc' := [.ref 216, .int i1, .int i2, .int i3, .int i4, .null, .null]) am_q180 rfl rfl H
                        · replace H := H.2 hq
                          refine ev_p (pc' := 149) (loc' := [.ref 216, .int i1, .int i2, .int i3, .int i4, .null, .int x15]) (st' := [.int (-3 : Int32)]) 1 am_q180 rfl ?_
                          exact ev_r (v := some (.int (-3 : Int32))) am_q180 rfl rfl rfl rfl H
                  · replace H := H.2 hq
                    refine ev_p (pc' := 124) (loc' := [.null, .null, .null, .null, .null, .null, .null]) (st' := [.int (-3 : Int32)]) 1 am_q180 rfl ?_
                    exact ev_r (v := some (.int (-3 : Int32))) am_q180 rfl rfl rfl rfl H
          · replace H := H.2 hq
            refine ev_p (pc' := 77) (loc' := [.ref 216, .int i1, .int i2, .int i3, .int i4, .int s0, .null]) (st' := [.int (-3 : Int32)]) 1 am_q180 rfl ?_
            exact ev_r (v := some (.int (-3 : Int32))) am_q180 rfl rfl rfl rfl H
        · replace H := H.2 hq
          refine ev_p (pc' := 66) (loc' := [.null, .null, .null, .null, .null, .null, .null]) (st' := [.int (-2 : Int32)]) 1 am_q180 rfl ?_
          exact ev_r (v := some (.int (-2 : Int32))) am_q180 rfl rfl rfl rfl H
set_option maxRecDepth 20000 in
set_option maxHeartbeats 2000000 in
theorem ws180_150 {d : Nat}  (i1 : Int32) (i2 : Int32) (i3 : Int32) (i4 : Int32) {h : AH} {Q : Option Value → AH → Prop} (Ly : Lay h) (H : ((¬ (am_gi h 216 14) = (60 : Int32)) → ((¬ i1 = (0 : Int32)) → Cl d 175 [.ref 216, .int i1, .int i2, .int i3, .int (-1 : Int32), .int ((am_gi h 216 0) + i4)] h (fun r2 h1 => ∃ x3, r2 = some (.int x3) ∧ Lay h1 ∧ Q (some (.int x3)) h1)) ∧ (¬ (¬ i1 = (0 : Int32)) → Cl d 175 [.ref 216, .int i1, .int i2, .int i3, .int (-1 : Int32), .int (-1 : Int32)] h (fun r5 h4 => ∃ x6, r5 = some (.int x6) ∧ Lay h4 ∧ Q (some (.int x6)) h4))) ∧ (¬ (¬ (am_gi h 216 14) = (60 : Int32)) → Q (some (.int (-4 : Int32))) h)) : Ev (d + 1) 180 150 [.ref 216, .int i1, .int i2, .int i3, .int i4, .null, .null] [] h Q := by
  refine ev_p (pc' := 151) (loc' := [.ref 216, .int i1, .int i2, .int i3, .int i4, .null, .null]) (st' := [.ref 216]) 1 am_q180 rfl ?_
  refine ev_s (pc' := 154) (loc' := [.ref 216, .int i1, .int i2, .int i3, .int i4, .null, .null]) (st' := [.int (am_gi h 216 14)]) (h1 := h) am_q180 rfl rfl rfl (if_pos (e := none) (lk216 Ly)) ?_
  refine ev_p (pc' := 156) (loc' := [.ref 216, .int i1, .int i2, .int i3, .int i4, .null, .null]) (st' := [.int (60 : Int32), .int (am_gi h 216 14)]) 1 am_q180 rfl ?_
  refine ev_jc (t := 164) am_q180 rfl rfl (fun hq => ?_) (fun hq => ?_)
  · replace H := H.1 hq
    refine ev_p (pc' := 170) (loc' := [.ref 216, .int i1, .int i2, .int i3, .int i4, .null, .null]) (st' := [.int i1, .int (-1 : Int32), .int i3, .int i2, .int i1, .ref 216]) 6 am_q180 rfl ?_
    refine ev_jz (t := 177) am_q180 rfl rfl (fun hq => ?_) (fun hq => ?_)
    · replace H := H.1 hq
      refine ev_p (pc' := 178) (loc' := [.ref 216, .int i1, .int i2, .int i3, .int i4, .null, .null]) (st' := [.ref 216, .int (-1 : Int32), .int i3, .int i2, .int i1, .ref 216]) 1 am_q180 rfl ?_
      refine ev_s (pc' := 181) (loc' := [.ref 216, .int i1, .int i2, .int i3, .int i4, .null, .null]) (st' := [.int (am_gi h 216 0), .int (-1 : Int32), .int i3, .int i2, .int i1, .ref 216]) (h1 := h) am_q180 rfl rfl rfl (if_pos (e := none) (lk216 Ly)) ?_
      refine ev_p (pc' := 184) (loc' := [.ref 216, .int i1, .int i2, .int i3, .int i4, .null, .null]) (st' := [.int ((am_gi h 216 0) + i4), .int (-1 : Int32), .int i3, .int i2, .int i1, .ref 216]) 2 am_q180 rfl ?_
      refine ev_c (vs := [.ref 216, .int i1, .int i2, .int i3, .int (-1 : Int32), .int ((am_gi h 216 0) + i4)]) (rest := []) 175 am_q180 rfl rfl rfl rfl rfl rfl rfl rfl rfl rfl rfl rfl (Or.inr (congrArg some (lk216 Ly))) (Cl.mono H (Nat.le_refl _) (fun r2 h1 H => ?_))
      obtain ⟨x3, rfl, Ly, H⟩ := H
      exact ev_r (v := some (.int x3)) am_q180 rfl rfl rfl rfl H
    · replace H := H.2 hq
      refine ev_p (pc' := 184) (loc' := [.ref 216, .int i1, .int i2, .int i3, .int i4, .null, .null]) (st' := [.int (-1 : Int32), .int (-1 : Int32), .int i3, .int i2, .int i1, .ref 216]) 2 am_q180 rfl ?_
      refine ev_c (vs := [.ref 216, .int i1, .int i2, .int i3, .int (-1 : Int32), .int (-1 : Int32)]) (rest := []) 175 am_q180 rfl rfl rfl rfl rfl rfl rfl rfl rfl rfl rfl rfl (Or.inr (congrArg some (lk216 Ly))) (Cl.mono H (Nat.le_refl _) (fun r5 h4 H => ?_))
      obtain ⟨x6, rfl, Ly, H⟩ := H
      exact ev_r (v := some (.int x6)) am_q180 rfl rfl rfl rfl H
  · replace H := H.2 hq
    refine ev_p (pc' := 187) (loc' := [.ref 216, .int i1, .int i2, .int i3, .int i4, .null, .null]) (st' := [.int (-4 : Int32)]) 2 am_q180 rfl ?_
    exact ev_r (v := some (.int (-4 : Int32))) am_q180 rfl rfl rfl rfl H
/-! 181: X12_isRight -/
set_option maxRecDepth 20000 in
set_option maxHeartbeats 2000000 in
theorem ws181 {d : Nat}  (i1 : Int32) {h : AH} {Q : Option Value → AH → Prop} (Ly : Lay h) (H : Cl d 167 [.int i1, .int (0 : Int32), .int ((am_gi h 216 14) - (1 : Int32))] h (fun r2 h1 => ∃ x3, r2 = some (.int x3) ∧ Lay h1 ∧ (x3 = (0 : Int32) ∨ x3 = (1 : Int32)) ∧ Q (some (.int x3)) h1)) : Cl (d + 1) 181 [.ref 216, .int i1] h Q := by
  show Ev (d + 1) 181 0 [.ref 216, .int i1] [] h Q
  refine ev_p (pc' := 3) (loc' := [.ref 216, .int i1]) (st' := [.ref 216, .int (0 : Int32), .int i1]) 3 am_q181 rfl ?_
  refine ev_s (pc' := 6) (loc' := [.ref 216, .int i1]) (st' := [.int (am_gi h 216 14), .int (0 : Int32), .int i1]) (h1 := h) am_q181 rfl rfl rfl (if_pos (e := none) (lk216 Ly)) ?_
  refine ev_p (pc' := 8) (loc' := [.ref 216, .int i1]) (st' := [.int ((am_gi h 216 14) - (1 : Int32)), .int (0 : Int32), .int i1]) 2 am_q181 rfl ?_
  refine ev_c (vs := [.int i1, .int (0 : Int32), .int ((am_gi h 216 14) - (1 : Int32))]) (rest := []) 167 am_q181 rfl rfl rfl rfl rfl rfl rfl rfl rfl rfl rfl rfl (Or.inl rfl) (Cl.mono H (Nat.le_refl _) (fun r2 h1 H => ?_))
  obtain ⟨x3, rfl, Ly, H⟩ := H
  exact ev_r (v := some (.int x3)) am_q181 rfl rfl rfl (decide_eq_true H.1) H.2
/-! 182: X12_join -/
set_option maxRecDepth 20000 in
set_option maxHeartbeats 2000000 in
theorem ws182 {d : Nat}  (i1 : Int32) (i2 : Int32) {h : AH} {Q : Option Value → AH → Prop} (Ly : Lay h) (H : Cl d 181 [.ref 216, .int i1] h (fun r2 h1 => ∃ x3, r2 = some (.int x3) ∧ Lay h1 ∧ (x3 = (0 : Int32) → Q (some (.int (-2 : Int32))) h1) ∧ (¬ x3 = (0 : Int32) → Cl d 169 [.ref 216, .int i2] h1 (fun r5 h4 => ∃ x6, r5 = some (.int x6) ∧ Lay h4 ∧ ((¬ x6 = (0 : Int32)) → am_in i1 60 ∧ ((¬ (am_gi h4 228 (Int32.toNatClampNeg i1)) = (0 : Int32)) → Q (some (.int (-3 : Int32))) h4) ∧ (¬ (¬ (am_gi h4 228 (Int32.toNatClampNeg i1)) = (0 : Int32)) → Cl d 171 [.ref 216, .int i1, .int (am_gi h4 216 0)] h4 (fun r9 h8 => ∃ x10, r9 = some (.int x10) ∧ Lay h8 ∧ (x10 = (0 : Int32) → Q (some (.int (-3 : Int32))) h8) ∧ (¬ x10 = (0 : Int32) → Cl d 170 [.ref 216, .int i2] h8 (fun r12 h11 => ∃ x13, r12 = some (.int x13) ∧ Lay h11 ∧ (x13 = (0 : Int32) → Q (some (.int (-3 : Int32))) h11) ∧ (¬ x13 = (0 : Int32) → Cl d 174 [.ref 216, .int i2, .int (am_gi h11 216 0)] h11 (fun r15 h14 => ∃ x16, r15 = some (.int x16) ∧ Lay h14 ∧ (x16 = (-1 : Int32) → ((¬ (am_gi h14 216 14) = (60 : Int32)) → am_in i1 60 ∧ ∀ h18, h18 = am_si h14 233 (Int32.toNatClampNeg i1) (am_gi h14 216 0) → am_in i1 60 ∧ am_in i1 60 ∧ Cl d 175 [.ref 216, .int (3 : Int32), .int (am_gi h18 229 (Int32.toNatClampNeg i1)), .int (am_gi h18 230 (Int32.toNatClampNeg i1)), .int i2, .int (-1 : Int32)] h18 (fun r22 h21 => ∃ x23, r22 = some (.int x23) ∧ Lay h21 ∧ Q (some (.int x23)) h21)) ∧ (¬ (¬ (am_gi h14 216 14) = (60 : Int32)) → Q (some (.int (-4 : Int32))) h14)) ∧ (¬ x16 = (-1 : Int32) → Q (some (.int (-3 : Int32))) h14)))))))) ∧ (¬ (¬ x6 = (0 : Int32)) → Q (some (.int (-2 : Int32))) h4))))) : Cl (d + 1) 182 [.ref 216, .int i1, .int i2] h Q := by
  show Ev (d + 1) 182 0 [.ref 216, .int i1, .int i2] [] h Q
  refine ev_p (pc' := 2) (loc' := [.ref 216, .int i1, .int i2]) (st' := [.int i1, .ref 216]) 2 am_q182 rfl ?_
  refine ev_c (vs := [.ref 216, .int i1]) (rest := []) 181 am_q182 rfl rfl rfl rfl rfl rfl rfl rfl rfl rfl rfl rfl (Or.inr (congrArg some (lk216 Ly))) (Cl.mono H (Nat.le_refl _) (fun r2 h1 H => ?_))
  obtain ⟨x3, rfl, Ly, H⟩ := H
  refine ev_jz (t := 16) am_q182 rfl rfl (fun hq => ?_) (fun hq => ?_)
  · replace H := H.1 hq
    refine ev_p (pc' := 18) (loc' := [.null, .null, .null]) (st' := [.int (-2 : Int32)]) 1 am_q182 rfl ?_
    exact ev_r (v := some (.int (-2 : Int32))) am_q182 rfl rfl rfl rfl H
  · replace H := H.2 hq
    refine ev_p (pc' := 10) (loc' := [.ref 216, .int i1, .int i2]) (st' := [.int i2, .ref 216]) 2 am_q182 rfl ?_
    refine ev_c (vs := [.ref 216, .int i2]) (rest := []) 169 am_q182 rfl rfl rfl rfl rfl rfl rfl rfl rfl rfl rfl rfl (Or.inr (congrArg some (lk216 Ly))) (Cl.mono H (Nat.le_refl _) (fun r5 h4 H => ?_))
    obtain ⟨x6, rfl, Ly, H⟩ := H
    refine ev_jz (t := 19) am_q182 rfl rfl (fun hq => ?_) (fun hq => ?_)
    · replace H := H.1 hq
      refine ev_p (pc' := 20) (loc' := [.ref 216, .int i1, .int i2]) (st' := [.ref 216]) 1 am_q182 rfl ?_
      refine ev_s (pc' := 23) (loc' := [.ref 216, .int i1, .int i2]) (st' := [.ref 228]) (h1 := h4) am_q182 rfl rfl rfl (am_gf2 (lk216 Ly) (lr216_15 Ly)) ?_
      refine ev_p (pc' := 24) (loc' := [.ref 216, .int i1, .int i2]) (st' := [.int i1, .ref 228]) 1 am_q182 rfl ?_
      obtain ⟨g7, H⟩ := H
      refine ev_s (pc' := 25) (loc' := [.ref 216, .int i1, .int i2]) (st' := [.int (am_gi h4 228 (Int32.toNatClampNeg i1))]) (h1 := h4) am_q182 rfl rfl rfl (am_xx (lk228 Ly) (am_inl (ln228 Ly) g7)) ?_
      refine ev_jz (t := 61) am_q182 rfl rfl (fun hq => ?_) (fun hq => ?_)
      · replace H := H.1 hq
        refine ev_p (pc' := 63) (loc' := [.null, .null, .null]) (st' := [.int (-3 : Int32)]) 1 am_q182 rfl ?_
        exact ev_r (v := some (.int (-3 : Int32))) am_q182 rfl rfl rfl rfl H
      · replace H := H.2 hq
        refine ev_p (pc' := 31) (loc' := [.ref 216, .int i1, .int i2]) (st' := [.ref 216, .int i1, .ref 216]) 3 am_q182 rfl ?_
        refine ev_s (pc' := 34) (loc' := [.ref 216, .int i1, .int i2]) (st' := [.int (am_gi h4 216 0), .int i1, .ref 216]) (h1 := h4) am_q182 rfl rfl rfl (if_pos (e := none) (lk216 Ly)) ?_
        refine ev_c (vs := [.ref 216, .int i1, .int (am_gi h4 216 0)]) (rest := []) 171 am_q182 rfl rfl rfl rfl rfl rfl rfl rfl rfl rfl rfl rfl (Or.inr (congrArg some (lk216 Ly))) (Cl.mono H (Nat.le_refl _) (fun r9 h8 H => ?_))
        obtain ⟨x10, rfl, Ly, H⟩ := H
        refine ev_jz (t := 61) am_q182 rfl rfl (fun hq => ?_) (fun hq => ?_)
        · replace H := H.1 hq
          refine ev_p (pc' := 63) (loc' := [.null, .null, .null]) (st' := [.int (-3 : Int32)]) 1 am_q182 rfl ?_
          exact ev_r (v := some (.int (-3 : Int32))) am_q182 rfl rfl rfl rfl H
        · replace H := H.2 hq
          refine ev_p (pc' := 42) (loc' := [.ref 216, .int i1, .int i2]) (st' := [.int i2, .ref 216]) 2 am_q182 rfl ?_
          refine ev_c (vs := [.ref 216, .int i2]) (rest := []) 170 am_q182 rfl rfl rfl rfl rfl rfl rfl rfl rfl rfl rfl rfl (Or.inr (congrArg some (lk216 Ly))) (Cl.mono H (Nat.le_refl _) (fun r12 h11 H => ?_))
          obtain ⟨x13, rfl, Ly, H⟩ := H
          refine ev_jz (t := 61) am_q182 rfl rfl (fun hq => ?_) (fun hq => ?_)
          · replace H := H.1 hq
            refine ev_p (pc' := 63) (loc' := [.null, .null, .null]) (st' := [.int (-3 : Int32)]) 1 am_q182 rfl ?_
            exact ev_r (v := some (.int (-3 : Int32))) am_q182 rfl rfl rfl rfl H
          · replace H := H.2 hq
            refine ev_p (pc' := 51) (loc' := [.ref 216, .int i1, .int i2]) (st' := [.ref 216, .int i2, .ref 216]) 3 am_q182 rfl ?_
            refine ev_s (pc' := 54) (loc' := [.ref 216, .int i1, .int i2]) (st' := [.int (am_gi h11 216 0), .int i2, .ref 216]) (h1 := h11) am_q182 rfl rfl rfl (if_pos (e := none) (lk216 Ly)) ?_
            refine ev_c (vs := [.ref 216, .int i2, .int (am_gi h11 216 0)]) (rest := []) 174 am_q182 rfl rfl rfl rfl rfl rfl rfl rfl rfl rfl rfl rfl (Or.inr (congrArg some (lk216 Ly))) (Cl.mono H (Nat.le_refl _) (fun r15 h14 H => ?_))
            obtain ⟨x16, rfl, Ly, H⟩ := H
            refine ev_p (pc' := 58) (loc' := [.ref 216, .int i1, .int i2]) (st' := [.int (-1 : Int32), .int x16]) 1 am_q182 rfl ?_
            refine ev_jc (t := 64) am_q182 rfl rfl (fun hq => ?_) (fun hq => ?_)
            · replace H := H.1 hq
              refine ev_p (pc' := 65) (loc' := [.ref 216, .int i1, .int i2]) (st' := [.ref 216]) 1 am_q182 rfl ?_
              refine ev_s (pc' := 68) (loc' := [.ref 216, .int i1, .int i2]) (st' := [.int (am_gi h14 216 14)]) (h1 := h14) am_q182 rfl rfl rfl (if_pos (e := none) (lk216 Ly)) ?_
              refine ev_p (pc' := 70) (loc' := [.ref 216, .int i1, .int i2]) (st' := [.int (60 : Int32), .int (am_gi h14 216 14)]) 1 am_q182 rfl ?_
              refine ev_jc (t := 76) am_q182 rfl rfl (fun hq => ?_) (fun hq => ?_)
              · replace H := H.1 hq
                refine ev_p (pc' := 77) (loc' := [.ref 216, .int i1, .int i2]) (st' := [.ref 216]) 1 am_q182 rfl ?_
                refine ev_s (pc' := 80) (loc' := [.ref 216, .int i1, .int i2]) (st' := [.ref 233]) (h1 := h14) am_q182 rfl rfl rfl (am_gf2 (lk216 Ly) (lr216_20 Ly)) ?_
                refine ev_p (pc' := 82) (loc' := [.ref 216, .int i1, .int i2]) (st' := [.ref 216, .int i1, .ref 233]) 2 am_q182 rfl ?_
                refine ev_s (pc' := 85) (loc' := [.ref 216, .int i1, .int i2]) (st' := [.int (am_gi h14 216 0), .int i1, .ref 233]) (h1 := h14) am_q182 rfl rfl rfl (if_pos (e := none) (lk216 Ly)) ?_
                obtain ⟨g17, H⟩ := H
                refine ev_s (pc' := 86) (loc' := [.ref 216, .int i1, .int i2]) (st' := []) (h1 := am_si h14 233 (Int32.toNatClampNeg i1) (am_gi h14 216 0)) am_q182 rfl rfl rfl (am_xx ⟨lk233 Ly, (Nat.le_of_ble_eq_true rfl)⟩ (am_inl (ln233 Ly) g17)) ?_
                replace H := H _ rfl
                replace Ly : Lay (am_si h14 233 (Int32.toNatClampNeg i1) (am_gi h14 216 0)) := Ly.si _ _ _
                generalize am_si h14 233 (Int32.toNatClampNeg i1) (am_gi h14 216 0) = h18 at H Ly ⊢
                refine ev_p (pc' := 89) (loc' := [.ref 216, .int i1, .int i2]) (st' := [.ref 216, .int (3 : Int32), .ref 216]) 3 am_q182 rfl ?_
                refine ev_s (pc' := 92) (loc' := [.ref 216, .int i1, .int i2]) (st' := [.ref 229, .int (3 : Int32), .ref 216]) (h1 := h18) am_q182 rfl rfl rfl (am_gf2 (lk216 Ly) (lr216_16 Ly)) ?_
                refine ev_p (pc' := 93) (loc' := [.ref 216, .int i1, .int i2]) (st' := [.int i1, .ref 229, .int (3 : Int32), .ref 216]) 1 am_q182 rfl ?_
                obtain ⟨g19, H⟩ := H
                refine ev_s (pc' := 94) (loc' := [.ref 216, .int i1, .int i2]) (st' := [.int (am_gi h18 229 (Int32.toNatClampNeg i1)), .int (3 : Int32), .ref 216]) (h1 := h18) am_q182 rfl rfl rfl (am_xx (lk229 Ly) (am_inl (ln229 Ly) g19)) ?_
                refine ev_p (pc' := 95) (loc' := [.ref 216, .int i1, .int i2]) (st' := [.ref 216, .int (am_gi h18 229 (Int32.toNatClampNeg i1)), .int (3 : Int32), .ref 216]) 1 am_q182 rfl ?_
                refine ev_s (pc' := 98) (loc' := [.ref 216, .int i1, .int i2]) (st' := [.ref 230, .int (am_gi h18 229 (Int32.toNatClampNeg i1)), .int (3 : Int32), .ref 216]) (h1 := h18) am_q182 rfl rfl rfl (am_gf2 (lk216 Ly) (lr216_17 Ly)) ?_
                refine ev_p (pc' := 99) (loc' := [.ref 216, .int i1, .int i2]) (st' := [.int i1, .ref 230, .int (am_gi h18 229 (Int32.toNatClampNeg i1)), .int (3 : Int32), .ref 216]) 1 am_q182 rfl ?_
                obtain ⟨g20, H⟩ := H
                refine ev_s (pc' := 100) (loc' := [.ref 216, .int i1, .int i2]) (st' := [.int (am_gi h18 230 (Int32.toNatClampNeg i1)), .int (am_gi h18 229 (Int32.toNatClampNeg i1)), .int (3 : Int32), .ref 216]) (h1 := h18) am_q182 rfl rfl rfl (am_xx (lk230 Ly) (am_inl (ln230 Ly) g20)) ?_
                refine ev_p (pc' := 102) (loc' := [.ref 216, .int i1, .int i2]) (st' := [.int (-1 : Int32), .int i2, .int (am_gi h18 230 (Int32.toNatClampNeg i1)), .int (am_gi h18 229 (Int32.toNatClampNeg i1)), .int (3 : Int32), .ref 216]) 2 am_q182 rfl ?_
                refine ev_c (vs := [.ref 216, .int (3 : Int32), .int (am_gi h18 229 (Int32.toNatClampNeg i1)), .int (am_gi h18 230 (Int32.toNatClampNeg i1)), .int i2, .int (-1 : Int32)]) (rest := []) 175 am_q182 rfl rfl rfl rfl rfl rfl rfl rfl rfl rfl rfl rfl (Or.inr (congrArg some (lk216 Ly))) (Cl.mono H (Nat.le_refl _) (fun r22 h21 H => ?_))
                obtain ⟨x23, rfl, Ly, H⟩ := H
                exact ev_r (v := some (.int x23)) am_q182 rfl rfl rfl rfl H
              · replace H := H.2 hq
                refine ev_p (pc' := 75) (loc' := [.ref 216, .int i1, .int i2]) (st' := [.int (-4 : Int32)]) 1 am_q182 rfl ?_
                exact ev_r (v := some (.int (-4 : Int32))) am_q182 rfl rfl rfl rfl H
            · replace H := H.2 hq
              refine ev_p (pc' := 63) (loc' := [.null, .null, .null]) (st' := [.int (-3 : Int32)]) 1 am_q182 rfl ?_
              exact ev_r (v := some (.int (-3 : Int32))) am_q182 rfl rfl rfl rfl H
    · replace H := H.2 hq
      refine ev_p (pc' := 18) (loc' := [.null, .null, .null]) (st' := [.int (-2 : Int32)]) 1 am_q182 rfl ?_
      exact ev_r (v := some (.int (-2 : Int32))) am_q182 rfl rfl rfl rfl H
/-! 183: X12_end -/
set_option maxRecDepth 20000 in
set_option maxHeartbeats 2000000 in
theorem ws183 {d : Nat}  (i1 : Int32) {h : AH} {Q : Option Value → AH → Prop} (Ly : Lay h) (H : Cl d 181 [.ref 216, .int i1] h (fun r2 h1 => ∃ x3, r2 = some (.int x3) ∧ Lay h1 ∧ ((¬ x3 = (0 : Int32)) → Cl d 171 [.ref 216, .int i1, .int (am_gi h1 216 0)] h1 (fun r5 h4 => ∃ x6, r5 = some (.int x6) ∧ Lay h4 ∧ ((¬ x6 = (0 : Int32)) → am_in i1 60 ∧ ∀ h8, h8 = am_si h4 233 (Int32.toNatClampNeg i1) (am_gi h4 216 0) → Q (some (.int (1 : Int32))) h8) ∧ (¬ (¬ x6 = (0 : Int32)) → Q (some (.int (-3 : Int32))) h4))) ∧ (¬ (¬ x3 = (0 : Int32)) → Q (some (.int (-2 : Int32))) h1))) : Cl (d + 1) 183 [.ref 216, .int i1] h Q := by
  show Ev (d + 1) 183 0 [.ref 216, .int i1] [] h Q
  refine ev_p (pc' := 2) (loc' := [.ref 216, .int i1]) (st' := [.int i1, .ref 216]) 2 am_q183 rfl ?_
  refine ev_c (vs := [.ref 216, .int i1]) (rest := []) 181 am_q183 rfl rfl rfl rfl rfl rfl rfl rfl rfl rfl rfl rfl (Or.inr (congrArg some (lk216 Ly))) (Cl.mono H (Nat.le_refl _) (fun r2 h1 H => ?_))
  obtain ⟨x3, rfl, Ly, H⟩ := H
  refine ev_jz (t := 11) am_q183 rfl rfl (fun hq => ?_) (fun hq => ?_)
  · replace H := H.1 hq
    refine ev_p (pc' := 14) (loc' := [.ref 216, .int i1]) (st' := [.ref 216, .int i1, .ref 216]) 3 am_q183 rfl ?_
    refine ev_s (pc' := 17) (loc' := [.ref 216, .int i1]) (st' := [.int (am_gi h1 216 0), .int i1, .ref 216]) (h1 := h1) am_q183 rfl rfl rfl (if_pos (e := none) (lk216 Ly)) ?_
    refine ev_c (vs := [.ref 216, .int i1, .int (am_gi h1 216 0)]) (rest := []) 171 am_q183 rfl rfl rfl rfl rfl rfl rfl rfl rfl rfl rfl rfl (Or.inr (congrArg some (lk216 Ly))) (Cl.mono H (Nat.le_refl _) (fun r5 h4 H => ?_))
    obtain ⟨x6, rfl, Ly, H⟩ := H
    refine ev_jz (t := 26) am_q183 rfl rfl (fun hq => ?_) (fun hq => ?_)
    · replace H := H.1 hq
      refine ev_p (pc' := 27) (loc' := [.ref 216, .int i1]) (st' := [.ref 216]) 1 am_q183 rfl ?_
      refine ev_s (pc' := 30) (loc' := [.ref 216, .int i1]) (st' := [.ref 233]) (h1 := h4) am_q183 rfl rfl rfl (am_gf2 (lk216 Ly) (lr216_20 Ly)) ?_
      refine ev_p (pc' := 32) (loc' := [.ref 216, .int i1]) (st' := [.ref 216, .int i1, .ref 233]) 2 am_q183 rfl ?_
      refine ev_s (pc' := 35) (loc' := [.ref 216, .int i1]) (st' := [.int (am_gi h4 216 0), .int i1, .ref 233]) (h1 := h4) am_q183 rfl rfl rfl (if_pos (e := none) (lk216 Ly)) ?_
      obtain ⟨g7, H⟩ := H
      refine ev_s (pc' := 36) (loc' := [.ref 216, .int i1]) (st' := []) (h1 := am_si h4 233 (Int32.toNatClampNeg i1) (am_gi h4 216 0)) am_q183 rfl rfl rfl (am_xx ⟨lk233 Ly, (Nat.le_of_ble_eq_true rfl)⟩ (am_inl (ln233 Ly) g7)) ?_
      replace H := H _ rfl
      replace Ly : Lay (am_si h4 233 (Int32.toNatClampNeg i1) (am_gi h4 216 0)) := Ly.si _ _ _
      generalize am_si h4 233 (Int32.toNatClampNeg i1) (am_gi h4 216 0) = h8 at H Ly ⊢
      refine ev_p (pc' := 37) (loc' := [.ref 216, .int i1]) (st' := [.int (1 : Int32)]) 1 am_q183 rfl ?_
      exact ev_r (v := some (.int (1 : Int32))) am_q183 rfl rfl rfl rfl H
    · replace H := H.2 hq
      refine ev_p (pc' := 25) (loc' := [.ref 216, .int i1]) (st' := [.int (-3 : Int32)]) 1 am_q183 rfl ?_
      exact ev_r (v := some (.int (-3 : Int32))) am_q183 rfl rfl rfl rfl H
  · replace H := H.2 hq
    refine ev_p (pc' := 10) (loc' := [.ref 216, .int i1]) (st' := [.int (-2 : Int32)]) 1 am_q183 rfl ?_
    exact ev_r (v := some (.int (-2 : Int32))) am_q183 rfl rfl rfl rfl H
/-! 184: X12_gives -/
set_option maxRecDepth 20000 in
set_option maxHeartbeats 2000000 in
theorem ws184 {d : Nat}  (i1 : Int32) {h : AH} {Q : Option Value → AH → Prop} (Ly : Lay h) (H : Cl d 174 [.ref 216, .int i1, .int (am_gi h 216 0)] h (fun r2 h1 => ∃ x3, r2 = some (.int x3) ∧ Lay h1 ∧ ((¬ x3 = (-1 : Int32)) → am_in x3 60 ∧ ∀ h5, h5 = am_si h1 233 (Int32.toNatClampNeg x3) (am_gi h1 216 0) → am_in x3 60 ∧ ((¬ (am_gi h5 228 (Int32.toNatClampNeg x3)) = (3 : Int32)) → Q (some (.int (-1 : Int32))) h5) ∧ (¬ (¬ (am_gi h5 228 (Int32.toNatClampNeg x3)) = (3 : Int32)) → am_in x3 60 ∧ am_in x3 60 ∧ ((¬ (am_gi h5 230 (Int32.toNatClampNeg x3)) = i1) → am_in x3 60 ∧ Cl d 175 [.ref 216, .int (4 : Int32), .int (am_gi h5 229 (Int32.toNatClampNeg x3)), .int (am_gi h5 230 (Int32.toNatClampNeg x3)), .int (-1 : Int32), .int (-1 : Int32)] h5 (fun r11 h10 => ∃ x12, r11 = some (.int x12) ∧ Lay h10 ∧ Q (some (.int x12)) h10)) ∧ (¬ (¬ (am_gi h5 230 (Int32.toNatClampNeg x3)) = i1) → am_in x3 60 ∧ Cl d 175 [.ref 216, .int (4 : Int32), .int (am_gi h5 229 (Int32.toNatClampNeg x3)), .int (am_gi h5 231 (Int32.toNatClampNeg x3)), .int (-1 : Int32), .int (-1 : Int32)] h5 (fun r15 h14 => ∃ x16, r15 = some (.int x16) ∧ Lay h14 ∧ Q (some (.int x16)) h14)))) ∧ (¬ (¬ x3 = (-1 : Int32)) → Q (some (.int (-1 : Int32))) h1))) : Cl (d + 1) 184 [.ref 216, .int i1] h Q := by
  show Ev (d + 1) 184 0 [.ref 216, .int i1, .null] [] h Q
  refine ev_p (pc' := 3) (loc' := [.ref 216, .int i1, .null]) (st' := [.ref 216, .int i1, .ref 216]) 3 am_q184 rfl ?_
  refine ev_s (pc' := 6) (loc' := [.ref 216, .int i1, .null]) (st' := [.int (am_gi h 216 0), .int i1, .ref 216]) (h1 := h) am_q184 rfl rfl rfl (if_pos (e := none) (lk216 Ly)) ?_
  refine ev_c (vs := [.ref 216, .int i1, .int (am_gi h 216 0)]) (rest := []) 174 am_q184 rfl rfl rfl rfl rfl rfl rfl rfl rfl rfl rfl rfl (Or.inr (congrArg some (lk216 Ly))) (Cl.mono H (Nat.le_refl _) (fun r2 h1 H => ?_))
  obtain ⟨x3, rfl, Ly, H⟩ := H
  refine ev_p (pc' := 12) (loc' := [.ref 216, .int i1, .int x3]) (st' := [.int (-1 : Int32), .int x3]) 3 am_q184 rfl ?_
  refine ev_jc (t := 17) am_q184 rfl rfl (fun hq => ?_) (fun hq => ?_)
  · replace H := H.1 hq
    refine ev_p (pc' := 18) (loc' := [.ref 216, .int i1, .int x3]) (st' := [.ref 216]) 1 am_q184 rfl ?_
    refine ev_s (pc' := 21) (loc' := [.ref 216, .int i1, .int x3]) (st' := [.ref 233]) (h1 := h1) am_q184 rfl rfl rfl (am_gf2 (lk216 Ly) (lr216_20 Ly)) ?_
    refine ev_p (pc' := 23) (loc' := [.ref 216, .int i1, .int x3]) (st' := [.ref 216, .int x3, .ref 233]) 2 am_q184 rfl ?_
    refine ev_s (pc' := 26) (loc' := [.ref 216, .int i1, .int x3]) (st' := [.int (am_gi h1 216 0), .int x3, .ref 233]) (h1 := h1) am_q184 rfl rfl rfl (if_pos (e := none) (lk216 Ly)) ?_
    obtain ⟨g4, H⟩ := H
    refine ev_s (pc' := 27) (loc' := [.ref 216, .int i1, .int x3]) (st' := []) (h1 := am_si h1 233 (Int32.toNatClampNeg x3) (am_gi h1 216 0)) am_q184 rfl rfl rfl (am_xx ⟨lk233 Ly, (Nat.le_of_ble_eq_true rfl)⟩ (am_inl (ln233 Ly) g4)) ?_
    replace H := H _ rfl
    replace Ly : Lay (am_si h1 233 (Int32.toNatClampNeg x3) (am_gi h1 216 0)) := Ly.si _ _ _
    generalize am_si h1 233 (Int32.toNatClampNeg x3) (am_gi h1 216 0) = h5 at H Ly ⊢
    refine ev_p (pc' := 28) (loc' := [.ref 216, .int i1, .int x3]) (st' := [.ref 216]) 1 am_q184 rfl ?_
    refine ev_s (pc' := 31) (loc' := [.ref 216, .int i1, .int x3]) (st' := [.ref 228]) (h1 := h5) am_q184 rfl rfl rfl (am_gf2 (lk216 Ly) (lr216_15 Ly)) ?_
    refine ev_p (pc' := 32) (loc' := [.ref 216, .int i1, .int x3]) (st' := [.int x3, .ref 228]) 1 am_q184 rfl ?_
    obtain ⟨g6, H⟩ := H
    refine ev_s (pc' := 33) (loc' := [.ref 216, .int i1, .int x3]) (st' := [.int (am_gi h5 228 (Int32.toNatClampNeg x3))]) (h1 := h5) am_q184 rfl rfl rfl (am_xx (lk228 Ly) (am_inl (ln228 Ly) g6)) ?_
    refine ev_p (pc' := 34) (loc' := [.ref 216, .int i1, .int x3]) (st' := [.int (3 : Int32), .int (am_gi h5 228 (Int32.toNatClampNeg x3))]) 1 am_q184 rfl ?_
    refine ev_jc (t := 78) am_q184 rfl rfl (fun hq => ?_) (fun hq => ?_)
    · replace H := H.1 hq
      refine ev_p (pc' := 79) (loc' := [.ref 216, .int i1, .int x3]) (st' := [.int (-1 : Int32)]) 1 am_q184 rfl ?_
      exact ev_r (v := some (.int (-1 : Int32))) am_q184 rfl rfl rfl rfl H
    · replace H := H.2 hq
      refine ev_p (pc' := 40) (loc' := [.ref 216, .int i1, .int x3]) (st' := [.ref 216, .int (4 : Int32), .ref 216]) 3 am_q184 rfl ?_
      refine ev_s (pc' := 43) (loc' := [.ref 216, .int i1, .int x3]) (st' := [.ref 229, .int (4 : Int32), .ref 216]) (h1 := h5) am_q184 rfl rfl rfl (am_gf2 (lk216 Ly) (lr216_16 Ly)) ?_
      refine ev_p (pc' := 44) (loc' := [.ref 216, .int i1, .int x3]) (st' := [.int x3, .ref 229, .int (4 : Int32), .ref 216]) 1 am_q184 rfl ?_
      obtain ⟨g7, H⟩ := H
      refine ev_s (pc' := 45) (loc' := [.ref 216, .int i1, .int x3]) (st' := [.int (am_gi h5 229 (Int32.toNatClampNeg x3)), .int (4 : Int32), .ref 216]) (h1 := h5) am_q184 rfl rfl rfl (am_xx (lk229 Ly) (am_inl (ln229 Ly) g7)) ?_
      refine ev_p (pc' := 46) (loc' := [.ref 216, .int i1, .int x3]) (st' := [.ref 216, .int (am_gi h5 229 (Int32.toNatClampNeg x3)), .int (4 : Int32), .ref 216]) 1 am_q184 rfl ?_
      refine ev_s (pc' := 49) (loc' := [.ref 216, .int i1, .int x3]) (st' := [.ref 230, .int (am_gi h5 229 (Int32.toNatClampNeg x3)), .int (4 : Int32), .ref 216]) (h1 := h5) am_q184 rfl rfl rfl (am_gf2 (lk216 Ly) (lr216_17 Ly)) ?_
      refine ev_p (pc' := 50) (loc' := [.ref 216, .int i1, .int x3]) (st' := [.int x3, .ref 230, .int (am_gi h5 229 (Int32.toNatClampNeg x3)), .int (4 : Int32), .ref 216]) 1 am_q184 rfl ?_
      obtain ⟨g8, H⟩ := H
      refine ev_s (pc' := 51) (loc' := [.ref 216, .int i1, .int x3]) (st' := [.int (am_gi h5 230 (Int32.toNatClampNeg x3)), .int (am_gi h5 229 (Int32.toNatClampNeg x3)), .int (4 : Int32), .ref 216]) (h1 := h5) am_q184 rfl rfl rfl (am_xx (lk230 Ly) (am_inl (ln230 Ly) g8)) ?_
      refine ev_p (pc' := 52) (loc' := [.ref 216, .int i1, .int x3]) (st' := [.int i1, .int (am_gi h5 230 (Int32.toNatClampNeg x3)), .int (am_gi h5 229 (Int32.toNatClampNeg x3)), .int (4 : Int32), .ref 216]) 1 am_q184 rfl ?_
      refine ev_jc (t := 64) am_q184 rfl rfl (fun hq => ?_) (fun hq => ?_)
      · replace H := H.1 hq
        refine ev_p (pc' := 65) (loc' := [.ref 216, .int i1, .int x3]) (st' := [.ref 216, .int (am_gi h5 229 (Int32.toNatClampNeg x3)), .int (4 : Int32), .ref 216]) 1 am_q184 rfl ?_
        refine ev_s (pc' := 68) (loc' := [.ref 216, .int i1, .int x3]) (st' := [.ref 230, .int (am_gi h5 229 (Int32.toNatClampNeg x3)), .int (4 : Int32), .ref 216]) (h1 := h5) am_q184 rfl rfl rfl (am_gf2 (lk216 Ly) (lr216_17 Ly)) ?_
        refine ev_p (pc' := 69) (loc' := [.ref 216, .int i1, .int x3]) (st' := [.int x3, .ref 230, .int (am_gi h5 229 (Int32.toNatClampNeg x3)), .int (4 : Int32), .ref 216]) 1 am_q184 rfl ?_
        obtain ⟨g9, H⟩ := H
        refine ev_s (pc' := 70) (loc' := [.ref 216, .int i1, .int x3]) (st' := [.int (am_gi h5 230 (Int32.toNatClampNeg x3)), .int (am_gi h5 229 (Int32.toNatClampNeg x3)), .int (4 : Int32), .ref 216]) (h1 := h5) am_q184 rfl rfl rfl (am_xx (lk230 Ly) (am_inl (ln230 Ly) g9)) ?_
        refine ev_p (pc' := 72) (loc' := [.null, .null, .null]) (st' := [.int (-1 : Int32), .int (-1 : Int32), .int (am_gi h5 230 (Int32.toNatClampNeg x3)), .int (am_gi h5 229 (Int32.toNatClampNeg x3)), .int (4 : Int32), .ref 216]) 2 am_q184 rfl ?_
        refine ev_c (vs := [.ref 216, .int (4 : Int32), .int (am_gi h5 229 (Int32.toNatClampNeg x3)), .int (am_gi h5 230 (Int32.toNatClampNeg x3)), .int (-1 : Int32), .int (-1 : Int32)]) (rest := []) 175 am_q184 rfl rfl rfl rfl rfl rfl rfl rfl rfl rfl rfl rfl (Or.inr (congrArg some (lk216 Ly))) (Cl.mono H (Nat.le_refl _) (fun r11 h10 H => ?_))
        obtain ⟨x12, rfl, Ly, H⟩ := H
        refine ev_p (pc' := 79) (loc' := [.null, .null, .null]) (st' := [.int x12]) 1 am_q184 rfl ?_
        exact ev_r (v := some (.int x12)) am_q184 rfl rfl rfl rfl H
      · replace H := H.2 hq
        refine ev_p (pc' := 56) (loc' := [.ref 216, .int i1, .int x3]) (st' := [.ref 216, .int (am_gi h5 229 (Int32.toNatClampNeg x3)), .int (4 : Int32), .ref 216]) 1 am_q184 rfl ?_
        refine ev_s (pc' := 59) (loc' := [.ref 216, .int i1, .int x3]) (st' := [.ref 231, .int (am_gi h5 229 (Int32.toNatClampNeg x3)), .int (4 : Int32), .ref 216]) (h1 := h5) am_q184 rfl rfl rfl (am_gf2 (lk216 Ly) (lr216_18 Ly)) ?_
        refine ev_p (pc' := 60) (loc' := [.ref 216, .int i1, .int x3]) (st' := [.int x3, .ref 231, .int (am_gi h5 229 (Int32.toNatClampNeg x3)), .int (4 : Int32), .ref 216]) 1 am_q184 rfl ?_
        obtain ⟨g13, H⟩ := H
        refine ev_s (pc' := 61) (loc' := [.ref 216, .int i1, .int x3]) (st' := [.int (am_gi h5 231 (Int32.toNatClampNeg x3)), .int (am_gi h5 229 (Int32.toNatClampNeg x3)), .int (4 : Int32), .ref 216]) (h1 := h5) am_q184 rfl rfl rfl (am_xx (lk231 Ly) (am_inl (ln231 Ly) g13)) ?_
        refine ev_p (pc' := 72) (loc' := [.null, .null, .null]) (st' := [.int (-1 : Int32), .int (-1 : Int32), .int (am_gi h5 231 (Int32.toNatClampNeg x3)), .int (am_gi h5 229 (Int32.toNatClampNeg x3)), .int (4 : Int32), .ref 216]) 3 am_q184 rfl ?_
        refine ev_c (vs := [.ref 216, .int (4 : Int32), .int (am_gi h5 229 (Int32.toNatClampNeg x3)), .int (am_gi h5 231 (Int32.toNatClampNeg x3)), .int (-1 : Int32), .int (-1 : Int32)]) (rest := []) 175 am_q184 rfl rfl rfl rfl rfl rfl rfl rfl rfl rfl rfl rfl (Or.inr (congrArg some (lk216 Ly))) (Cl.mono H (Nat.le_refl _) (fun r15 h14 H => ?_))
        obtain ⟨x16, rfl, Ly, H⟩ := H
        refine ev_p (pc' := 79) (loc' := [.null, .null, .null]) (st' := [.int x16]) 1 am_q184 rfl ?_
        exact ev_r (v := some (.int x16)) am_q184 rfl rfl rfl rfl H
  · replace H := H.2 hq
    refine ev_p (pc' := 16) (loc' := [.ref 216, .int i1, .int x3]) (st' := [.int (-1 : Int32)]) 1 am_q184 rfl ?_
    exact ev_r (v := some (.int (-1 : Int32))) am_q184 rfl rfl rfl rfl H
/-! 185: X12_isJoint -/
set_option maxRecDepth 20000 in
set_option maxHeartbeats 2000000 in
theorem ws185 {d : Nat}  (i1 : Int32) {h : AH} {Q : Option Value → AH → Prop} (Ly : Lay h) (H : Cl d 174 [.ref 216, .int i1, .int (am_gi h 216 0)] h (fun r2 h1 => ∃ x3, r2 = some (.int x3) ∧ Lay h1 ∧ (x3 = (-1 : Int32) → Q (some (.int (0 : Int32))) h1) ∧ (¬ x3 = (-1 : Int32) → am_in x3 60 ∧ ((¬ (am_gi h1 228 (Int32.toNatClampNeg x3)) = (3 : Int32)) → Q (some (.int (0 : Int32))) h1) ∧ (¬ (¬ (am_gi h1 228 (Int32.toNatClampNeg x3)) = (3 : Int32)) → Q (some (.int (1 : Int32))) h1)))) : Cl (d + 1) 185 [.ref 216, .int i1] h Q := by
  show Ev (d + 1) 185 0 [.ref 216, .int i1, .null] [] h Q
  refine ev_p (pc' := 3) (loc' := [.ref 216, .int i1, .null]) (st' := [.ref 216, .int i1, .ref 216]) 3 am_q185 rfl ?_
  refine ev_s (pc' := 6) (loc' := [.ref 216, .int i1, .null]) (st' := [.int (am_gi h 216 0), .int i1, .ref 216]) (h1 := h) am_q185 rfl rfl rfl (if_pos (e := none) (lk216 Ly)) ?_
  refine ev_c (vs := [.ref 216, .int i1, .int (am_gi h 216 0)]) (rest := []) 174 am_q185 rfl rfl rfl rfl rfl rfl rfl rfl rfl rfl rfl rfl (Or.inr (congrArg some (lk216 Ly))) (Cl.mono H (Nat.le_refl _) (fun r2 h1 H => ?_))
  obtain ⟨x3, rfl, Ly, H⟩ := H
  refine ev_p (pc' := 12) (loc' := [.ref 216, .int i1, .int x3]) (st' := [.int (-1 : Int32), .int x3]) 3 am_q185 rfl ?_
  refine ev_jc (t := 29) am_q185 rfl rfl (fun hq => ?_) (fun hq => ?_)
  · replace H := H.1 hq
    refine ev_p (pc' := 30) (loc' := [.null, .null, .null]) (st' := [.int (0 : Int32)]) 1 am_q185 rfl ?_
    exact ev_r (v := some (.int (0 : Int32))) am_q185 rfl rfl rfl rfl H
  · replace H := H.2 hq
    refine ev_p (pc' := 16) (loc' := [.ref 216, .int i1, .int x3]) (st' := [.ref 216]) 1 am_q185 rfl ?_
    refine ev_s (pc' := 19) (loc' := [.ref 216, .int i1, .int x3]) (st' := [.ref 228]) (h1 := h1) am_q185 rfl rfl rfl (am_gf2 (lk216 Ly) (lr216_15 Ly)) ?_
    refine ev_p (pc' := 20) (loc' := [.ref 216, .int i1, .int x3]) (st' := [.int x3, .ref 228]) 1 am_q185 rfl ?_
    obtain ⟨g4, H⟩ := H
    refine ev_s (pc' := 21) (loc' := [.ref 216, .int i1, .int x3]) (st' := [.int (am_gi h1 228 (Int32.toNatClampNeg x3))]) (h1 := h1) am_q185 rfl rfl rfl (am_xx (lk228 Ly) (am_inl (ln228 Ly) g4)) ?_
    refine ev_p (pc' := 22) (loc' := [.ref 216, .int i1, .int x3]) (st' := [.int (3 : Int32), .int (am_gi h1 228 (Int32.toNatClampNeg x3))]) 1 am_q185 rfl ?_
    refine ev_jc (t := 29) am_q185 rfl rfl (fun hq => ?_) (fun hq => ?_)
    · replace H := H.1 hq
      refine ev_p (pc' := 30) (loc' := [.null, .null, .null]) (st' := [.int (0 : Int32)]) 1 am_q185 rfl ?_
      exact ev_r (v := some (.int (0 : Int32))) am_q185 rfl rfl rfl rfl H
    · replace H := H.2 hq
      refine ev_p (pc' := 30) (loc' := [.ref 216, .int i1, .int x3]) (st' := [.int (1 : Int32)]) 2 am_q185 rfl ?_
      exact ev_r (v := some (.int (1 : Int32))) am_q185 rfl rfl rfl rfl H
/-! 186: X12_leave -/
set_option maxRecDepth 20000 in
set_option maxHeartbeats 2000000 in
theorem ws186 {d : Nat}  (i1 : Int32) {h : AH} {Q : Option Value → AH → Prop} (Ly : Lay h) (H : Cl d 169 [.ref 216, .int i1] h (fun r2 h1 => ∃ x3, r2 = some (.int x3) ∧ Lay h1 ∧ ((¬ x3 = (0 : Int32)) → Cl d 170 [.ref 216, .int i1] h1 (fun r5 h4 => ∃ x6, r5 = some (.int x6) ∧ Lay h4 ∧ ((¬ x6 = (0 : Int32)) → Cl d 185 [.ref 216, .int i1] h4 (fun r8 h7 => ∃ x9, r8 = some (.int x9) ∧ Lay h7 ∧ (x9 = (0 : Int32) → Cl d 184 [.ref 216, .int i1] h7 (fun r11 h10 => ∃ x12, r11 = some (.int x12) ∧ Lay h10 ∧ Ev (d + 1) 186 50 [.ref 216, .int i1, .int x12, .int (0 : Int32)] [] h10 Q)) ∧ (¬ x9 = (0 : Int32) → ((¬ (am_gi h7 216 14) = (60 : Int32)) → Cl d 184 [.ref 216, .int i1] h7 (fun r14 h13 => ∃ x15, r14 = some (.int x15) ∧ Lay h13 ∧ Ev (d + 1) 186 50 [.ref 216, .int i1, .int x15, .int (0 : Int32)] [] h13 Q)) ∧ (¬ (¬ (am_gi h7 216 14) = (60 : Int32)) → Q (some (.int (-4 : Int32))) h7)))) ∧ (¬ (¬ x6 = (0 : Int32)) → Q (some (.int (-3 : Int32))) h4))) ∧ (¬ (¬ x3 = (0 : Int32)) → Q (some (.int (-2 : Int32))) h1))) : Cl (d + 1) 186 [.ref 216, .int i1] h Q := by
  show Ev (d + 1) 186 0 [.ref 216, .int i1, .null, .null] [] h Q
  refine ev_p (pc' := 2) (loc' := [.ref 216, .int i1, .null, .null]) (st' := [.int i1, .ref 216]) 2 am_q186 rfl ?_
  refine ev_c (vs := [.ref 216, .int i1]) (rest := []) 169 am_q186 rfl rfl rfl rfl rfl rfl rfl rfl rfl rfl rfl rfl (Or.inr (congrArg some (lk216 Ly))) (Cl.mono H (Nat.le_refl _) (fun r2 h1 H => ?_))
  obtain ⟨x3, rfl, Ly, H⟩ := H
  refine ev_jz (t := 11) am_q186 rfl rfl (fun hq => ?_) (fun hq => ?_)
  · replace H := H.1 hq
    refine ev_p (pc' := 13) (loc' := [.ref 216, .int i1, .null, .null]) (st' := [.int i1, .ref 216]) 2 am_q186 rfl ?_
    refine ev_c (vs := [.ref 216, .int i1]) (rest := []) 170 am_q186 rfl rfl rfl rfl rfl rfl rfl rfl rfl rfl rfl rfl (Or.inr (congrArg some (lk216 Ly))) (Cl.mono H (Nat.le_refl _) (fun r5 h4 H => ?_))
    obtain ⟨x6, rfl, Ly, H⟩ := H
    refine ev_jz (t := 22) am_q186 rfl rfl (fun hq => ?_) (fun hq => ?_)
    · replace H := H.1 hq
      refine ev_p (pc' := 24) (loc' := [.ref 216, .int i1, .null, .null]) (st' := [.int i1, .ref 216]) 2 am_q186 rfl ?_
      refine ev_c (vs := [.ref 216, .int i1]) (rest := []) 185 am_q186 rfl rfl rfl rfl rfl rfl rfl rfl rfl rfl rfl rfl (Or.inr (congrArg some (lk216 Ly))) (Cl.mono H (Nat.le_refl _) (fun r8 h7 H => ?_))
      obtain ⟨x9, rfl, Ly, H⟩ := H
      refine ev_jz (t := 42) am_q186 rfl rfl (fun hq => ?_) (fun hq => ?_)
      · replace H := H.1 hq
        refine ev_p (pc' := 44) (loc' := [.ref 216, .int i1, .null, .null]) (st' := [.int i1, .ref 216]) 2 am_q186 rfl ?_
        refine ev_c (vs := [.ref 216, .int i1]) (rest := []) 184 am_q186 rfl rfl rfl rfl rfl rfl rfl rfl rfl rfl rfl rfl (Or.inr (congrArg some (lk216 Ly))) (Cl.mono H (Nat.le_refl _) (fun r11 h10 H => ?_))
        obtain ⟨x12, rfl, Ly, H⟩ := H
        refine ev_p (pc' := 50) (loc' := [.ref 216, .int i1, .int x12, .int (0 : Int32)]) (st' := []) 3 am_q186 rfl ?_
        exact ev_m (loc' := [.ref 216, .int i1, .int x12, .int (0 : Int32)]) am_q186 rfl rfl H
      · replace H := H.2 hq
        refine ev_p (pc' := 31) (loc' := [.ref 216, .int i1, .null, .null]) (st' := [.ref 216]) 1 am_q186 rfl ?_
        refine ev_s (pc' := 34) (loc' := [.ref 216, .int i1, .null, .null]) (st' := [.int (am_gi h7 216 14)]) (h1 := h7) am_q186 rfl rfl rfl (if_pos (e := none) (lk216 Ly)) ?_
        refine ev_p (pc' := 36) (loc' := [.ref 216, .int i1, .null, .null]) (st' := [.int (60 : Int32), .int (am_gi h7 216 14)]) 1 am_q186 rfl ?_
        refine ev_jc (t := 42) am_q186 rfl rfl (fun hq => ?_) (fun hq => ?_)
        · replace H := H.1 hq
          refine ev_p (pc' := 44) (loc' := [.ref 216, .int i1, .null, .null]) (st' := [.int i1, .ref 216]) 2 am_q186 rfl ?_
          refine ev_c (vs := [.ref 216, .int i1]) (rest := []) 184 am_q186 rfl rfl rfl rfl rfl rfl rfl rfl rfl rfl rfl rfl (Or.inr (congrArg some (lk216 Ly))) (Cl.mono H (Nat.le_refl _) (fun r14 h13 H => ?_))
          obtain ⟨x15, rfl, Ly, H⟩ := H
          refine ev_p (pc' := 50) (loc' := [.ref 216, .int i1, .int x15, .int (0 : Int32)]) (st' := []) 3 am_q186 rfl ?_
          exact ev_m (loc' := [.ref 216, .int i1, .int x15, .int (0 : Int32)]) am_q186 rfl rfl H
        · replace H := H.2 hq
          refine ev_p (pc' := 41) (loc' := [.ref 216, .int i1, .null, .null]) (st' := [.int (-4 : Int32)]) 1 am_q186 rfl ?_
          exact ev_r (v := some (.int (-4 : Int32))) am_q186 rfl rfl rfl rfl H
    · replace H := H.2 hq
      refine ev_p (pc' := 21) (loc' := [.ref 216, .int i1, .null, .null]) (st' := [.int (-3 : Int32)]) 1 am_q186 rfl ?_
      exact ev_r (v := some (.int (-3 : Int32))) am_q186 rfl rfl rfl rfl H
  · replace H := H.2 hq
    refine ev_p (pc' := 10) (loc' := [.ref 216, .int i1, .null, .null]) (st' := [.int (-2 : Int32)]) 1 am_q186 rfl ?_
    exact ev_r (v := some (.int (-2 : Int32))) am_q186 rfl rfl rfl rfl H
set_option maxRecDepth 20000 in
set_option maxHeartbeats 2000000 in
theorem ws186_50 {d : Nat}  (i1 : Int32) (i2 : Int32) (i3 : Int32) {h : AH} {Q : Option Value → AH → Prop} (Ly : Lay h) (H : ((am_gi h 216 14) ≤ i3 → am_in i1 24 ∧ ∀ h2, h2 = am_si h 224 (Int32.toNatClampNeg i1) (am_gi h 216 0) → am_in i1 24 ∧ ∀ h4, h4 = am_si h2 225 (Int32.toNatClampNeg i1) (-1 : Int32) → am_in i1 24 ∧ ∀ h6, h6 = am_si h4 226 (Int32.toNatClampNeg i1) (0 : Int32) → Q (some (.int i2)) h6) ∧ (¬ (am_gi h 216 14) ≤ i3 → am_in i3 60 ∧ ((¬ (am_gi h 228 (Int32.toNatClampNeg i3)) = (2 : Int32)) → Ev (d + 1) 186 50 [.ref 216, .int i1, .int i2, .int (i3 + (1 : Int32))] [] h Q) ∧ (¬ (¬ (am_gi h 228 (Int32.toNatClampNeg i3)) = (2 : Int32)) → am_in i3 60 ∧ ((¬ (am_gi h 230 (Int32.toNatClampNeg i3)) = i1) → Ev (d + 1) 186 50 [.ref 216, .int i1, .int i2, .int (i3 + (1 : Int32))] [] h Q) ∧ (¬ (¬ (am_gi h 230 (Int32.toNatClampNeg i3)) = i1) → Cl d 171 [.ref 216, .int i3, .int (am_gi h 216 0)] h (fun r10 h9 => ∃ x11, r10 = some (.int x11) ∧ Lay h9 ∧ (x11 = (0 : Int32) → Ev (d + 1) 186 50 [.ref 216, .int i1, .int i2, .int (i3 + (1 : Int32))] [] h9 Q) ∧ (¬ x11 = (0 : Int32) → am_in i3 60 ∧ ∀ h13, h13 = am_si h9 233 (Int32.toNatClampNeg i3) (am_gi h9 216 0) → Ev (d + 1) 186 50 [.ref 216, .int i1, .int i2, .int (i3 + (1 : Int32))] [] h13 Q)))))) : Ev (d + 1) 186 50 [.ref 216, .int i1, .int i2, .int i3] [] h Q := by
  refine ev_p (pc' := 52) (loc' := [.ref 216, .int i1, .int i2, .int i3]) (st' := [.ref 216, .int i3]) 2 am_q186 rfl ?_
  refine ev_s (pc' := 55) (loc' := [.ref 216, .int i1, .int i2, .int i3]) (st' := [.int (am_gi h 216 14), .int i3]) (h1 := h) am_q186 rfl rfl rfl (if_pos (e := none) (lk216 Ly)) ?_
  refine ev_jc (t := 106) am_q186 rfl rfl (fun hq => ?_) (fun hq => ?_)
  · replace H := H.1 hq
    refine ev_p (pc' := 107) (loc' := [.ref 216, .int i1, .int i2, .int i3]) (st' := [.ref 216]) 1 am_q186 rfl ?_
    refine ev_s (pc' := 110) (loc' := [.ref 216, .int i1, .int i2, .int i3]) (st' := [.ref 224]) (h1 := h) am_q186 rfl rfl rfl (am_gf2 (lk216 Ly) (lr216_10 Ly)) ?_
    refine ev_p (pc' := 112) (loc' := [.ref 216, .int i1, .int i2, .int i3]) (st' := [.ref 216, .int i1, .ref 224]) 2 am_q186 rfl ?_
    refine ev_s (pc' := 115) (loc' := [.ref 216, .int i1, .int i2, .int i3]) (st' := [.int (am_gi h 216 0), .int i1, .ref 224]) (h1 := h) am_q186 rfl rfl rfl (if_pos (e := none) (lk216 Ly)) ?_
    obtain ⟨g1, H⟩ := H
    refine ev_s (pc' := 116) (loc' := [.ref 216, .int i1, .int i2, .int i3]) (st' := []) (h1 := am_si h 224 (Int32.toNatClampNeg i1) (am_gi h 216 0)) am_q186 rfl rfl rfl (am_xx ⟨lk224 Ly, (Nat.le_of_ble_eq_true rfl)⟩ (am_inl (ln224 Ly) g1)) ?_
    replace H := H _ rfl
    replace Ly : Lay (am_si h 224 (Int32.toNatClampNeg i1) (am_gi h 216 0)) := Ly.si _ _ _
    generalize am_si h 224 (Int32.toNatClampNeg i1) (am_gi h 216 0) = h2 at H Ly ⊢
    refine ev_p (pc' := 117) (loc' := [.ref 216, .int i1, .int i2, .int i3]) (st' := [.ref 216]) 1 am_q186 rfl ?_
    refine ev_s (pc' := 120) (loc' := [.ref 216, .int i1, .int i2, .int i3]) (st' := [.ref 225]) (h1 := h2) am_q186 rfl rfl rfl (am_gf2 (lk216 Ly) (lr216_11 Ly)) ?_
    refine ev_p (pc' := 122) (loc' := [.ref 216, .int i1, .int i2, .int i3]) (st' := [.int (-1 : Int32), .int i1, .ref 225]) 2 am_q186 rfl ?_
    obtain ⟨g3, H⟩ := H
    refine ev_s (pc' := 123) (loc' := [.ref 216, .int i1, .int i2, .int i3]) (st' := []) (h1 := am_si h2 225 (Int32.toNatClampNeg i1) (-1 : Int32)) am_q186 rfl rfl rfl (am_xx ⟨lk225 Ly, (Nat.le_of_ble_eq_true rfl)⟩ (am_inl (ln225 Ly) g3)) ?_
    replace H := H _ rfl
    replace Ly : Lay (am_si h2 225 (Int32.toNatClampNeg i1) (-1 : Int32)) := Ly.si _ _ _
    generalize am_si h2 225 (Int32.toNatClampNeg i1) (-1 : Int32) = h4 at H Ly ⊢
    refine ev_p (pc' := 124) (loc' := [.ref 216, .int i1, .int i2, .int i3]) (st' := [.ref 216]) 1 am_q186 rfl ?_
    refine ev_s (pc' := 127) (loc' := [.ref 216, .int i1, .int i2, .int i3]) (st' := [.ref 226]) (h1 := h4) am_q186 rfl rfl rfl (am_gf2 (lk216 Ly) (lr216_12 Ly)) ?_
    refine ev_p (pc' := 129) (loc' := [.ref 216, .int i1, .int i2, .int i3]) (st' := [.int (0 : Int32), .int i1, .ref 226]) 2 am_q186 rfl ?_
    obtain ⟨g5, H⟩ := H
    refine ev_s (pc' := 130) (loc' := [.ref 216, .int i1, .int i2, .int i3]) (st' := []) (h1 := am_si h4 226 (Int32.toNatClampNeg i1) (0 : Int32)) am_q186 rfl rfl rfl (am_xx ⟨lk226 Ly, (Nat.le_of_ble_eq_true rfl)⟩ (am_inl (ln226 Ly) g5)) ?_
    replace H := H _ rfl
    replace Ly : Lay (am_si h4 226 (Int32.toNatClampNeg i1) (0 : Int32)) := Ly.si _ _ _
    generalize am_si h4 226 (Int32.toNatClampNeg i1) (0 : Int32) = h6 at H Ly ⊢
    refine ev_p (pc' := 131) (loc' := [.ref 216, .int i1, .int i2, .int i3]) (st' := [.int i2]) 1 am_q186 rfl ?_
    exact ev_r (v := some (.int i2)) am_q186 rfl rfl rfl rfl H
  · replace H := H.2 hq
    refine ev_p (pc' := 59) (loc' := [.ref 216, .int i1, .int i2, .int i3]) (st' := [.ref 216]) 1 am_q186 rfl ?_
    refine ev_s (pc' := 62) (loc' := [.ref 216, .int i1, .int i2, .int i3]) (st' := [.ref 228]) (h1 := h) am_q186 rfl rfl rfl (am_gf2 (lk216 Ly) (lr216_15 Ly)) ?_
    refine ev_p (pc' := 63) (loc' := [.ref 216, .int i1, .int i2, .int i3]) (st' := [.int i3, .ref 228]) 1 am_q186 rfl ?_
    obtain ⟨g7, H⟩ := H
    refine ev_s (pc' := 64) (loc' := [.ref 216, .int i1, .int i2, .int i3]) (st' := [.int (am_gi h 228 (Int32.toNatClampNeg i3))]) (h1 := h) am_q186 rfl rfl rfl (am_xx (lk228 Ly) (am_inl (ln228 Ly) g7)) ?_
    refine ev_p (pc' := 65) (loc' := [.ref 216, .int i1, .int i2, .int i3]) (st' := [.int (2 : Int32), .int (am_gi h 228 (Int32.toNatClampNeg i3))]) 1 am_q186 rfl ?_
    refine ev_jc (t := 100) am_q186 rfl rfl (fun hq => ?_) (fun hq => ?_)
    · replace H := H.1 hq
      refine ev_p (pc' := 50) (loc' := [.ref 216, .int i1, .int i2, .int (i3 + (1 : Int32))]) (st' := []) 2 am_q186 rfl ?_
      exact ev_m (loc' := [.ref 216, .int i1, .int i2, .int (i3 + (1 : Int32))]) am_q186 rfl rfl H
    · replace H := H.2 hq
      refine ev_p (pc' := 69) (loc' := [.ref 216, .int i1, .int i2, .int i3]) (st' := [.ref 216]) 1 am_q186 rfl ?_
      refine ev_s (pc' := 72) (loc' := [.ref 216, .int i1, .int i2, .int i3]) (st' := [.ref 230]) (h1 := h) am_q186 rfl rfl rfl (am_gf2 (lk216 Ly) (lr216_17 Ly)) ?_
      refine ev_p (pc' := 73) (loc' := [.ref 216, .int i1, .int i2, .int i3]) (st' := [.int i3, .ref 230]) 1 am_q186 rfl ?_
      obtain ⟨g8, H⟩ := H
      refine ev_s (pc' := 74) (loc' := [.ref 216, .int i1, .int i2, .int i3]) (st' := [.int (am_gi h 230 (Int32.toNatClampNeg i3))]) (h1 := h) am_q186 rfl rfl rfl (am_xx (lk230 Ly) (am_inl (ln230 Ly) g8)) ?_
      refine ev_p (pc' := 75) (loc' := [.ref 216, .int i1, .int i2, .int i3]) (st' := [.int i1, .int (am_gi h 230 (Int32.toNatClampNeg i3))]) 1 am_q186 rfl ?_
      refine ev_jc (t := 100) am_q186 rfl rfl (fun hq => ?_) (fun hq => ?_)
      · replace H := H.1 hq
        refine ev_p (pc' := 50) (loc' := [.ref 216, .int i1, .int i2, .int (i3 + (1 : Int32))]) (st' := []) 2 am_q186 rfl ?_
        exact ev_m (loc' := [.ref 216, .int i1, .int i2, .int (i3 + (1 : Int32))]) am_q186 rfl rfl H
      · replace H := H.2 hq
        refine ev_p (pc' := 81) (loc' := [.ref 216, .int i1, .int i2, .int i3]) (st' := [.ref 216, .int i3, .ref 216]) 3 am_q186 rfl ?_
        refine ev_s (pc' := 84) (loc' := [.ref 216, .int i1, .int i2, .int i3]) (st' := [.int (am_gi h 216 0), .int i3, .ref 216]) (h1 := h) am_q186 rfl rfl rfl (if_pos (e := none) (lk216 Ly)) ?_
        refine ev_c (vs := [.ref 216, .int i3, .int (am_gi h 216 0)]) (rest := []) 171 am_q186 rfl rfl rfl rfl rfl rfl rfl rfl rfl rfl rfl rfl (Or.inr (congrArg some (lk216 Ly))) (Cl.mono H (Nat.le_refl _) (fun r10 h9 H => ?_))
        obtain ⟨x11, rfl, Ly, H⟩ := H
        refine ev_jz (t := 100) am_q186 rfl rfl (fun hq => ?_) (fun hq => ?_)
        · replace H := H.1 hq
          refine ev_p (pc' := 50) (loc' := [.ref 216, .int i1, .int i2, .int (i3 + (1 : Int32))]) (st' := []) 2 am_q186 rfl ?_
          exact ev_m (loc' := [.ref 216, .int i1, .int i2, .int (i3 + (1 : Int32))]) am_q186 rfl rfl H
        · replace H := H.2 hq
          refine ev_p (pc' := 91) (loc' := [.ref 216, .int i1, .int i2, .int i3]) (st' := [.ref 216]) 1 am_q186 rfl ?_
          refine ev_s (pc' := 94) (loc' := [.ref 216, .int i1, .int i2, .int i3]) (st' := [.ref 233]) (h1 := h9) am_q186 rfl rfl rfl (am_gf2 (lk216 Ly) (lr216_20 Ly)) ?_
          refine ev_p (pc' := 96) (loc' := [.ref 216, .int i1, .int i2, .int i3]) (st' := [.ref 216, .int i3, .ref 233]) 2 am_q186 rfl ?_
          refine ev_s (pc' := 99) (loc' := [.ref 216, .int i1, .int i2, .int i3]) (st' := [.int (am_gi h9 216 0), .int i3, .ref 233]) (h1 := h9) am_q186 rfl rfl rfl (if_pos (e := none) (lk216 Ly)) ?_
          obtain ⟨g12, H⟩ := H
          refine ev_s (pc' := 100) (loc' := [.ref 216, .int i1, .int i2, .int i3]) (st' := []) (h1 := am_si h9 233 (Int32.toNatClampNeg i3) (am_gi h9 216 0)) am_q186 rfl rfl rfl (am_xx ⟨lk233 Ly, (Nat.le_of_ble_eq_true rfl)⟩ (am_inl (ln233 Ly) g12)) ?_
          replace H := H _ rfl
          replace Ly : Lay (am_si h9 233 (Int32.toNatClampNeg i3) (am_gi h9 216 0)) := Ly.si _ _ _
          generalize am_si h9 233 (Int32.toNatClampNeg i3) (am_gi h9 216 0) = h13 at H Ly ⊢
          refine ev_p (pc' := 50) (loc' := [.ref 216, .int i1, .int i2, .int (i3 + (1 : Int32))]) (st' := []) 2 am_q186 rfl ?_
          exact ev_m (loc' := [.ref 216, .int i1, .int i2, .int (i3 + (1 : Int32))]) am_q186 rfl rfl H
/-! 187: X12_rightTold -/
set_option maxRecDepth 20000 in
set_option maxHeartbeats 2000000 in
theorem ws187 {d : Nat}  (i1 : Int32) (i2 : Int32) {h : AH} {Q : Option Value → AH → Prop} (Ly : Lay h) (H : Cl d 181 [.ref 216, .int i1] h (fun r2 h1 => ∃ x3, r2 = some (.int x3) ∧ Lay h1 ∧ (x3 = (0 : Int32) → Q (some (.int (-2 : Int32))) h1) ∧ (¬ x3 = (0 : Int32) → Cl d 167 [.int i2, .int (0 : Int32), .int (6 : Int32)] h1 (fun r5 h4 => ∃ x6, r5 = some (.int x6) ∧ Lay h4 ∧ ((¬ x6 = (0 : Int32)) → (i2 = (0 : Int32) → am_in i1 60 ∧ Q (some (.int (am_gi h4 228 (Int32.toNatClampNeg i1)))) h4) ∧ (i2 = (1 : Int32) → am_in i1 60 ∧ Q (some (.int (am_gi h4 229 (Int32.toNatClampNeg i1)))) h4) ∧ (i2 = (2 : Int32) → am_in i1 60 ∧ Q (some (.int (am_gi h4 230 (Int32.toNatClampNeg i1)))) h4) ∧ (i2 = (3 : Int32) → am_in i1 60 ∧ Q (some (.int (am_gi h4 231 (Int32.toNatClampNeg i1)))) h4) ∧ (i2 = (4 : Int32) → am_in i1 60 ∧ Q (some (.int (am_gi h4 232 (Int32.toNatClampNeg i1)))) h4) ∧ (i2 = (5 : Int32) → am_in i1 60 ∧ Q (some (.int (am_gi h4 233 (Int32.toNatClampNeg i1)))) h4) ∧ (¬ i2 = (0 : Int32) ∧ ¬ i2 = (1 : Int32) ∧ ¬ i2 = (2 : Int32) ∧ ¬ i2 = (3 : Int32) ∧ ¬ i2 = (4 : Int32) ∧ ¬ i2 = (5 : Int32) → Cl d 171 [.ref 216, .int i1, .int (am_gi h4 216 0)] h4 (fun r20 h19 => ∃ x21, r20 = some (.int x21) ∧ Lay h19 ∧ (x21 = (0 : Int32) → Q (some (.int (0 : Int32))) h19) ∧ (¬ x21 = (0 : Int32) → Q (some (.int (1 : Int32))) h19)))) ∧ (¬ (¬ x6 = (0 : Int32)) → Q (some (.int (-2 : Int32))) h4))))) : Cl (d + 1) 187 [.ref 216, .int i1, .int i2] h Q := by
  show Ev (d + 1) 187 0 [.ref 216, .int i1, .int i2] [] h Q
  refine ev_p (pc' := 2) (loc' := [.ref 216, .int i1, .int i2]) (st' := [.int i1, .ref 216]) 2 am_q187 rfl ?_
  refine ev_c (vs := [.ref 216, .int i1]) (rest := []) 181 am_q187 rfl rfl rfl rfl rfl rfl rfl rfl rfl rfl rfl rfl (Or.inr (congrArg some (lk216 Ly))) (Cl.mono H (Nat.le_refl _) (fun r2 h1 H => ?_))
  obtain ⟨x3, rfl, Ly, H⟩ := H
  refine ev_jz (t := 18) am_q187 rfl rfl (fun hq => ?_) (fun hq => ?_)
  · replace H := H.1 hq
    refine ev_p (pc' := 20) (loc' := [.null, .null, .null]) (st' := [.int (-2 : Int32)]) 1 am_q187 rfl ?_
    exact ev_r (v := some (.int (-2 : Int32))) am_q187 rfl rfl rfl rfl H
  · replace H := H.2 hq
    refine ev_p (pc' := 12) (loc' := [.ref 216, .int i1, .int i2]) (st' := [.int (6 : Int32), .int (0 : Int32), .int i2]) 3 am_q187 rfl ?_
    refine ev_c (vs := [.int i2, .int (0 : Int32), .int (6 : Int32)]) (rest := []) 167 am_q187 rfl rfl rfl rfl rfl rfl rfl rfl rfl rfl rfl rfl (Or.inl rfl) (Cl.mono H (Nat.le_refl _) (fun r5 h4 H => ?_))
    obtain ⟨x6, rfl, Ly, H⟩ := H
    refine ev_jz (t := 21) am_q187 rfl rfl (fun hq => ?_) (fun hq => ?_)
    · replace H := H.1 hq
      refine ev_p (pc' := 22) (loc' := [.ref 216, .int i1, .int i2]) (st' := [.int i2]) 1 am_q187 rfl ?_
      by_cases k8 : i2 = (0 : Int32)
      · replace H := H.1 k8
        refine ev_s (pc' := 60) (loc' := [.ref 216, .int i1, .int i2]) (st' := []) (h1 := h4) am_q187 rfl rfl rfl (by rw [k8]; rfl) ?_
        refine ev_p (pc' := 61) (loc' := [.ref 216, .int i1, .int i2]) (st' := [.ref 216]) 1 am_q187 rfl ?_
        refine ev_s (pc' := 64) (loc' := [.ref 216, .int i1, .int i2]) (st' := [.ref 228]) (h1 := h4) am_q187 rfl rfl rfl (am_gf2 (lk216 Ly) (lr216_15 Ly)) ?_
        refine ev_p (pc' := 65) (loc' := [.ref 216, .int i1, .int i2]) (st' := [.int i1, .ref 228]) 1 am_q187 rfl ?_
        obtain ⟨g7, H⟩ := H
        refine ev_s (pc' := 66) (loc' := [.ref 216, .int i1, .int i2]) (st' := [.int (am_gi h4 228 (Int32.toNatClampNeg i1))]) (h1 := h4) am_q187 rfl rfl rfl (am_xx (lk228 Ly) (am_inl (ln228 Ly) g7)) ?_
        exact ev_r (v := some (.int (am_gi h4 228 (Int32.toNatClampNeg i1)))) am_q187 rfl rfl rfl rfl H
      replace H := H.2
      by_cases k10 : i2 = (1 : Int32)
      · replace H := H.1 k10
        refine ev_s (pc' := 67) (loc' := [.ref 216, .int i1, .int i2]) (st' := []) (h1 := h4) am_q187 rfl rfl rfl (by rw [k10]; rfl) ?_
        refine ev_p (pc' := 68) (loc' := [.ref 216, .int i1, .int i2]) (st' := [.ref 216]) 1 am_q187 rfl ?_
        refine ev_s (pc' := 71) (loc' := [.ref 216, .int i1, .int i2]) (st' := [.ref 229]) (h1 := h4) am_q187 rfl rfl rfl (am_gf2 (lk216 Ly) (lr216_16 Ly)) ?_
        refine ev_p (pc' := 72) (loc' := [.ref 216, .int i1, .int i2]) (st' := [.int i1, .ref 229]) 1 am_q187 rfl ?_
        obtain ⟨g9, H⟩ := H
        refine ev_s (pc' := 73) (loc' := [.ref 216, .int i1, .int i2]) (st' := [.int (am_gi h4 229 (Int32.toNatClampNeg i1))]) (h1 := h4) am_q187 rfl rfl rfl (am_xx (lk229 Ly) (am_inl (ln229 Ly) g9)) ?_
        exact ev_r (v := some (.int (am_gi h4 229 (Int32.toNatClampNeg i1)))) am_q187 rfl rfl rfl rfl H
      replace H := H.2
      by_cases k12 : i2 = (2 : Int32)
      · replace H := H.1 k12
        refine ev_s (pc' := 74) (loc' := [.ref 216, .int i1, .int i2]) (st' := []) (h1 := h4) am_q187 rfl rfl rfl (by rw [k12]; rfl) ?_
        refine ev_p (pc' := 75) (loc' := [.ref 216, .int i1, .int i2]) (st' := [.ref 216]) 1 am_q187 rfl ?_
        refine ev_s (pc' := 78) (loc' := [.ref 216, .int i1, .int i2]) (st' := [.ref 230]) (h1 := h4) am_q187 rfl rfl rfl (am_gf2 (lk216 Ly) (lr216_17 Ly)) ?_
        refine ev_p (pc' := 79) (loc' := [.ref 216, .int i1, .int i2]) (st' := [.int i1, .ref 230]) 1 am_q187 rfl ?_
        obtain ⟨g11, H⟩ := H
        refine ev_s (pc' := 80) (loc' := [.ref 216, .int i1, .int i2]) (st' := [.int (am_gi h4 230 (Int32.toNatClampNeg i1))]) (h1 := h4) am_q187 rfl rfl rfl (am_xx (lk230 Ly) (am_inl (ln230 Ly) g11)) ?_
        exact ev_r (v := some (.int (am_gi h4 230 (Int32.toNatClampNeg i1)))) am_q187 rfl rfl rfl rfl H
      replace H := H.2
      by_cases k14 : i2 = (3 : Int32)
      · replace H := H.1 k14
        refine ev_s (pc' := 81) (loc' := [.ref 216, .int i1, .int i2]) (st' := []) (h1 := h4) am_q187 rfl rfl rfl (by rw [k14]; rfl) ?_
        refine ev_p (pc' := 82) (loc' := [.ref 216, .int i1, .int i2]) (st' := [.ref 216]) 1 am_q187 rfl ?_
        refine ev_s (pc' := 85) (loc' := [.ref 216, .int i1, .int i2]) (st' := [.ref 231]) (h1 := h4) am_q187 rfl rfl rfl (am_gf2 (lk216 Ly) (lr216_18 Ly)) ?_
        refine ev_p (pc' := 86) (loc' := [.ref 216, .int i1, .int i2]) (st' := [.int i1, .ref 231]) 1 am_q187 rfl ?_
        obtain ⟨g13, H⟩ := H
        refine ev_s (pc' := 87) (loc' := [.ref 216, .int i1, .int i2]) (st' := [.int (am_gi h4 231 (Int32.toNatClampNeg i1))]) (h1 := h4) am_q187 rfl rfl rfl (am_xx (lk231 Ly) (am_inl (ln231 Ly) g13)) ?_
        exact ev_r (v := some (.int (am_gi h4 231 (Int32.toNatClampNeg i1)))) am_q187 rfl rfl rfl rfl H
      replace H := H.2
      by_cases k16 : i2 = (4 : Int32)
      · replace H := H.1 k16
        refine ev_s (pc' := 88) (loc' := [.ref 216, .int i1, .int i2]) (st' := []) (h1 := h4) am_q187 rfl rfl rfl (by rw [k16]; rfl) ?_
        refine ev_p (pc' := 89) (loc' := [.ref 216, .int i1, .int i2]) (st' := [.ref 216]) 1 am_q187 rfl ?_
        refine ev_s (pc' := 92) (loc' := [.ref 216, .int i1, .int i2]) (st' := [.ref 232]) (h1 := h4) am_q187 rfl rfl rfl (am_gf2 (lk216 Ly) (lr216_19 Ly)) ?_
        refine ev_p (pc' := 93) (loc' := [.ref 216, .int i1, .int i2]) (st' := [.int i1, .ref 232]) 1 am_q187 rfl ?_
        obtain ⟨g15, H⟩ := H
        refine ev_s (pc' := 94) (loc' := [.ref 216, .int i1, .int i2]) (st' := [.int (am_gi h4 232 (Int32.toNatClampNeg i1))]) (h1 := h4) am_q187 rfl rfl rfl (am_xx (lk232 Ly) (am_inl (ln232 Ly) g15)) ?_
        exact ev_r (v := some (.int (am_gi h4 232 (Int32.toNatClampNeg i1)))) am_q187 rfl rfl rfl rfl H
      replace H := H.2
      by_cases k18 : i2 = (5 : Int32)
      · replace H := H.1 k18
        refine ev_s (pc' := 95) (loc' := [.ref 216, .int i1, .int i2]) (st' := []) (h1 := h4) am_q187 rfl rfl rfl (by rw [k18]; rfl) ?_
        refine ev_p (pc' := 96) (loc' := [.ref 216, .int i1, .int i2]) (st' := [.ref 216]) 1 am_q187 rfl ?_
        refine ev_s (pc' := 99) (loc' := [.ref 216, .int i1, .int i2]) (st' := [.ref 233]) (h1 := h4) am_q187 rfl rfl rfl (am_gf2 (lk216 Ly) (lr216_20 Ly)) ?_
        refine ev_p (pc' := 100) (loc' := [.ref 216, .int i1, .int i2]) (st' := [.int i1, .ref 233]) 1 am_q187 rfl ?_
        obtain ⟨g17, H⟩ := H
        refine ev_s (pc' := 101) (loc' := [.ref 216, .int i1, .int i2]) (st' := [.int (am_gi h4 233 (Int32.toNatClampNeg i1))]) (h1 := h4) am_q187 rfl rfl rfl (am_xx (lk233 Ly) (am_inl (ln233 Ly) g17)) ?_
        exact ev_r (v := some (.int (am_gi h4 233 (Int32.toNatClampNeg i1)))) am_q187 rfl rfl rfl rfl H
      replace H := H.2
      replace H := H ⟨k8, k10, k12, k14, k16, k18⟩
      refine ev_s (pc' := 102) (loc' := [.ref 216, .int i1, .int i2]) (st' := []) (h1 := h4) am_q187 rfl rfl rfl (am_tso (x := (i2).toInt) (by have z0 : (i2).toInt ≠ 0 := am_tn k8 (by decide); have z1 : (i2).toInt ≠ 1 := am_tn k10 (by decide); have z2 : (i2).toInt ≠ 2 := am_tn k12 (by decide); have z3 : (i2).toInt ≠ 3 := am_tn k14 (by decide); have z4 : (i2).toInt ≠ 4 := am_tn k16 (by decide); have z5 : (i2).toInt ≠ 5 := am_tn k18 (by decide); omega)) ?_
      refine ev_p (pc' := 105) (loc' := [.ref 216, .int i1, .int i2]) (st' := [.ref 216, .int i1, .ref 216]) 3 am_q187 rfl ?_
      refine ev_s (pc' := 108) (loc' := [.ref 216, .int i1, .int i2]) (st' := [.int (am_gi h4 216 0), .int i1, .ref 216]) (h1 := h4) am_q187 rfl rfl rfl (if_pos (e := none) (lk216 Ly)) ?_
      refine ev_c (vs := [.ref 216, .int i1, .int (am_gi h4 216 0)]) (rest := []) 171 am_q187 rfl rfl rfl rfl rfl rfl rfl rfl rfl rfl rfl rfl (Or.inr (congrArg some (lk216 Ly))) (Cl.mono H (Nat.le_refl _) (fun r20 h19 H => ?_))
      obtain ⟨x21, rfl, Ly, H⟩ := H
      refine ev_jz (t := 118) am_q187 rfl rfl (fun hq => ?_) (fun hq => ?_)
      · replace H := H.1 hq
        refine ev_p (pc' := 119) (loc' := [.ref 216, .int i1, .int i2]) (st' := [.int (0 : Int32)]) 1 am_q187 rfl ?_
        exact ev_r (v := some (.int (0 : Int32))) am_q187 rfl rfl rfl rfl H
      · replace H := H.2 hq
        refine ev_p (pc' := 119) (loc' := [.ref 216, .int i1, .int i2]) (st' := [.int (1 : Int32)]) 2 am_q187 rfl ?_
        exact ev_r (v := some (.int (1 : Int32))) am_q187 rfl rfl rfl rfl H
    · replace H := H.2 hq
      refine ev_p (pc' := 20) (loc' := [.null, .null, .null]) (st' := [.int (-2 : Int32)]) 1 am_q187 rfl ?_
      exact ev_r (v := some (.int (-2 : Int32))) am_q187 rfl rfl rfl rfl H
/-! 188: X12_inForce -/
set_option maxRecDepth 20000 in
set_option maxHeartbeats 2000000 in
theorem ws188 {d : Nat}  (i1 : Int32) (i2 : Int32) (i3 : Int32) {h : AH} {Q : Option Value → AH → Prop} (Ly : Lay h) (H : ((¬ i1 = (0 : Int32)) → ((¬ i1 = (1 : Int32)) → Ev (d + 1) 188 30 [.ref 216, .int i1, .int i2, .int i3, .null] [.int (0 : Int32)] h Q) ∧ (¬ (¬ i1 = (1 : Int32)) → Cl d 169 [.ref 216, .int i2] h (fun r2 h1 => ∃ x3, r2 = some (.int x3) ∧ Lay h1 ∧ (x3 = (0 : Int32) → Ev (d + 1) 188 30 [.ref 216, .int i1, .int i2, .int i3, .null] [.int (0 : Int32)] h1 Q) ∧ (¬ x3 = (0 : Int32) → Ev (d + 1) 188 30 [.ref 216, .int i1, .int i2, .int i3, .null] [.int (1 : Int32)] h1 Q)))) ∧ (¬ (¬ i1 = (0 : Int32)) → Cl d 168 [.ref 216, .int i2] h (fun r5 h4 => ∃ x6, r5 = some (.int x6) ∧ Lay h4 ∧ ((¬ x6 = (0 : Int32)) → Ev (d + 1) 188 30 [.ref 216, .int i1, .int i2, .int i3, .null] [.int (1 : Int32)] h4 Q) ∧ (¬ (¬ x6 = (0 : Int32)) → ((¬ i1 = (1 : Int32)) → Ev (d + 1) 188 30 [.ref 216, .int i1, .int i2, .int i3, .null] [.int (0 : Int32)] h4 Q) ∧ (¬ (¬ i1 = (1 : Int32)) → Cl d 169 [.ref 216, .int i2] h4 (fun r8 h7 => ∃ x9, r8 = some (.int x9) ∧ Lay h7 ∧ (x9 = (0 : Int32) → Ev (d + 1) 188 30 [.ref 216, .int i1, .int i2, .int i3, .null] [.int (0 : Int32)] h7 Q) ∧ (¬ x9 = (0 : Int32) → Ev (d + 1) 188 30 [.ref 216, .int i1, .int i2, .int i3, .null] [.int (1 : Int32)] h7 Q))))))) : Cl (d + 1) 188 [.ref 216, .int i1, .int i2, .int i3] h Q := by
  show Ev (d + 1) 188 0 [.ref 216, .int i1, .int i2, .int i3, .null] [] h Q
  refine ev_p (pc' := 1) (loc' := [.ref 216, .int i1, .int i2, .int i3, .null]) (st' := [.int i1]) 1 am_q188 rfl ?_
  refine ev_jz (t := 12) am_q188 rfl rfl (fun hq => ?_) (fun hq => ?_)
  · replace H := H.1 hq
    refine ev_p (pc' := 14) (loc' := [.ref 216, .int i1, .int i2, .int i3, .null]) (st' := [.int (1 : Int32), .int i1]) 2 am_q188 rfl ?_
    refine ev_jc (t := 29) am_q188 rfl rfl (fun hq => ?_) (fun hq => ?_)
    · replace H := H.1 hq
      refine ev_p (pc' := 30) (loc' := [.ref 216, .int i1, .int i2, .int i3, .null]) (st' := [.int (0 : Int32)]) 1 am_q188 rfl ?_
      exact ev_m (loc' := [.ref 216, .int i1, .int i2, .int i3, .null]) am_q188 rfl rfl H
    · replace H := H.2 hq
      refine ev_p (pc' := 19) (loc' := [.ref 216, .int i1, .int i2, .int i3, .null]) (st' := [.int i2, .ref 216]) 2 am_q188 rfl ?_
      refine ev_c (vs := [.ref 216, .int i2]) (rest := []) 169 am_q188 rfl rfl rfl rfl rfl rfl rfl rfl rfl rfl rfl rfl (Or.inr (congrArg some (lk216 Ly))) (Cl.mono H (Nat.le_refl _) (fun r2 h1 H => ?_))
      obtain ⟨x3, rfl, Ly, H⟩ := H
      refine ev_jz (t := 29) am_q188 rfl rfl (fun hq => ?_) (fun hq => ?_)
      · replace H := H.1 hq
        refine ev_p (pc' := 30) (loc' := [.ref 216, .int i1, .int i2, .int i3, .null]) (st' := [.int (0 : Int32)]) 1 am_q188 rfl ?_
        exact ev_m (loc' := [.ref 216, .int i1, .int i2, .int i3, .null]) am_q188 rfl rfl H
      · replace H := H.2 hq
        refine ev_p (pc' := 30) (loc' := [.ref 216, .int i1, .int i2, .int i3, .null]) (st' := [.int (1 : Int32)]) 2 am_q188 rfl ?_
        exact ev_m (loc' := [.ref 216, .int i1, .int i2, .int i3, .null]) am_q188 rfl rfl H
  · replace H := H.2 hq
    refine ev_p (pc' := 6) (loc' := [.ref 216, .int i1, .int i2, .int i3, .null]) (st' := [.int i2, .ref 216]) 2 am_q188 rfl ?_
    refine ev_c (vs := [.ref 216, .int i2]) (rest := []) 168 am_q188 rfl rfl rfl rfl rfl rfl rfl rfl rfl rfl rfl rfl (Or.inr (congrArg some (lk216 Ly))) (Cl.mono H (Nat.le_refl _) (fun r5 h4 H => ?_))
    obtain ⟨x6, rfl, Ly, H⟩ := H
    refine ev_jz (t := 25) am_q188 rfl rfl (fun hq => ?_) (fun hq => ?_)
    · replace H := H.1 hq
      refine ev_p (pc' := 30) (loc' := [.ref 216, .int i1, .int i2, .int i3, .null]) (st' := [.int (1 : Int32)]) 2 am_q188 rfl ?_
      exact ev_m (loc' := [.ref 216, .int i1, .int i2, .int i3, .null]) am_q188 rfl rfl H
    · replace H := H.2 hq
      refine ev_p (pc' := 14) (loc' := [.ref 216, .int i1, .int i2, .int i3, .null]) (st' := [.int (1 : Int32), .int i1]) 2 am_q188 rfl ?_
      refine ev_jc (t := 29) am_q188 rfl rfl (fun hq => ?_) (fun hq => ?_)
      · replace H := H.1 hq
        refine ev_p (pc' := 30) (loc' := [.ref 216, .int i1, .int i2, .int i3, .null]) (st' := [.int (0 : Int32)]) 1 am_q188 rfl ?_
        exact ev_m (loc' := [.ref 216, .int i1, .int i2, .int i3, .null]) am_q188 rfl rfl H
      · replace H := H.2 hq
        refine ev_p (pc' := 19) (loc' := [.ref 216, .int i1, .int i2, .int i3, .null]) (st' := [.int i2, .ref 216]) 2 am_q188 rfl ?_
        refine ev_c (vs := [.ref 216, .int i2]) (rest := []) 169 am_q188 rfl rfl rfl rfl rfl rfl rfl rfl rfl rfl rfl rfl (Or.inr (congrArg some (lk216 Ly))) (Cl.mono H (Nat.le_refl _) (fun r8 h7 H => ?_))
        obtain ⟨x9, rfl, Ly, H⟩ := H
        refine ev_jz (t := 29) am_q188 rfl rfl (fun hq => ?_) (fun hq => ?_)
        · replace H := H.1 hq
          refine ev_p (pc' := 30) (loc' := [.ref 216, .int i1, .int i2, .int i3, .null]) (st' := [.int (0 : Int32)]) 1 am_q188 rfl ?_
          exact ev_m (loc' := [.ref 216, .int i1, .int i2, .int i3, .null]) am_q188 rfl rfl H
        · replace H := H.2 hq
          refine ev_p (pc' := 30) (loc' := [.ref 216, .int i1, .int i2, .int i3, .null]) (st' := [.int (1 : Int32)]) 2 am_q188 rfl ?_
          exact ev_m (loc' := [.ref 216, .int i1, .int i2, .int i3, .null]) am_q188 rfl rfl H
set_option maxRecDepth 20000 in
set_option maxHeartbeats 2000000 in
theorem ws188_30 {d : Nat}  (i1 : Int32) (i2 : Int32) (i3 : Int32) (s0 : Int32) {h : AH} {Q : Option Value → AH → Prop} (Ly : Lay h) (H : (s0 = (0 : Int32) → Q (some (.int (-2 : Int32))) h) ∧ (¬ s0 = (0 : Int32) → Cl d 167 [.int i3, .int (0 : Int32), .int (2000000 : Int32)] h (fun r2 h1 => ∃ x3, r2 = some (.int x3) ∧ Lay h1 ∧ ((¬ x3 = (0 : Int32)) → ((¬ i1 = (0 : Int32)) → Cl d 174 [.ref 216, .int i2, .int i3] h1 (fun r5 h4 => ∃ x6, r5 = some (.int x6) ∧ Lay h4 ∧ Q (some (.int x6)) h4)) ∧ (¬ (¬ i1 = (0 : Int32)) → Cl d 173 [.ref 216, .int i2, .int i3] h1 (fun r8 h7 => ∃ x9, r8 = some (.int x9) ∧ Lay h7 ∧ Q (some (.int x9)) h7))) ∧ (¬ (¬ x3 = (0 : Int32)) → Q (some (.int (-2 : Int32))) h1)))) : Ev (d + 1) 188 30 [.ref 216, .int i1, .int i2, .int i3, .null] [.int s0] h Q := by
  refine ev_p (pc' := 34) (loc' := [.ref 216, .int i1, .int i2, .int i3, .int s0]) (st' := [.int s0]) 2 am_q188 rfl ?_
  refine ev_jz (t := 47) am_q188 rfl rfl (fun hq => ?_) (fun hq => ?_)
  · replace H := H.1 hq
    refine ev_p (pc' := 49) (loc' := [.null, .null, .null, .null, .null]) (st' := [.int (-2 : Int32)]) 1 am_q188 rfl ?_
    exact ev_r (v := some (.int (-2 : Int32))) am_q188 rfl rfl rfl rfl H
  · replace H := H.2 hq
    refine ev_p (pc' := 41) (loc' := [.ref 216, .int i1, .int i2, .int i3, .int s0]) (st' := [.int (2000000 : Int32), .int (0 : Int32), .int i3]) 3 am_q188 rfl ?_
    refine ev_c (vs := [.int i3, .int (0 : Int32), .int (2000000 : Int32)]) (rest := []) 167 am_q188 rfl rfl rfl rfl rfl rfl rfl rfl rfl rfl rfl rfl (Or.inl rfl) (Cl.mono H (Nat.le_refl _) (fun r2 h1 H => ?_))
    obtain ⟨x3, rfl, Ly, H⟩ := H
    refine ev_jz (t := 50) am_q188 rfl rfl (fun hq => ?_) (fun hq => ?_)
    · replace H := H.1 hq
      refine ev_p (pc' := 51) (loc' := [.ref 216, .int i1, .int i2, .int i3, .int s0]) (st' := [.int i1]) 1 am_q188 rfl ?_
      refine ev_jz (t := 63) am_q188 rfl rfl (fun hq => ?_) (fun hq => ?_)
      · replace H := H.1 hq
        refine ev_p (pc' := 66) (loc' := [.ref 216, .int i1, .int i2, .int i3, .int s0]) (st' := [.int i3, .int i2, .ref 216]) 3 am_q188 rfl ?_
        refine ev_c (vs := [.ref 216, .int i2, .int i3]) (rest := []) 174 am_q188 rfl rfl rfl rfl rfl rfl rfl rfl rfl rfl rfl rfl (Or.inr (congrArg some (lk216 Ly))) (Cl.mono H (Nat.le_refl _) (fun r5 h4 H => ?_))
        obtain ⟨x6, rfl, Ly, H⟩ := H
        exact ev_r (v := some (.int x6)) am_q188 rfl rfl rfl rfl H
      · replace H := H.2 hq
        refine ev_p (pc' := 57) (loc' := [.ref 216, .int i1, .int i2, .int i3, .int s0]) (st' := [.int i3, .int i2, .ref 216]) 3 am_q188 rfl ?_
        refine ev_c (vs := [.ref 216, .int i2, .int i3]) (rest := []) 173 am_q188 rfl rfl rfl rfl rfl rfl rfl rfl rfl rfl rfl rfl (Or.inr (congrArg some (lk216 Ly))) (Cl.mono H (Nat.le_refl _) (fun r8 h7 H => ?_))
        obtain ⟨x9, rfl, Ly, H⟩ := H
        refine ev_p (pc' := 69) (loc' := [.ref 216, .int i1, .int i2, .int i3, .int s0]) (st' := [.int x9]) 1 am_q188 rfl ?_
        exact ev_r (v := some (.int x9)) am_q188 rfl rfl rfl rfl H
    · replace H := H.2 hq
      refine ev_p (pc' := 49) (loc' := [.null, .null, .null, .null, .null]) (st' := [.int (-2 : Int32)]) 1 am_q188 rfl ?_
      exact ev_r (v := some (.int (-2 : Int32))) am_q188 rfl rfl rfl rfl H
/-! 189: X12_homeTold -/
set_option maxRecDepth 20000 in
set_option maxHeartbeats 2000000 in
theorem ws189 {d : Nat}  (i1 : Int32) (i2 : Int32) {h : AH} {Q : Option Value → AH → Prop} (Ly : Lay h) (H : Cl d 168 [.ref 216, .int i1] h (fun r2 h1 => ∃ x3, r2 = some (.int x3) ∧ Lay h1 ∧ (x3 = (0 : Int32) → Q (some (.int (-2 : Int32))) h1) ∧ (¬ x3 = (0 : Int32) → Cl d 167 [.int i2, .int (0 : Int32), .int (6 : Int32)] h1 (fun r5 h4 => ∃ x6, r5 = some (.int x6) ∧ Lay h4 ∧ ((¬ x6 = (0 : Int32)) → (i2 = (0 : Int32) → am_in i1 12 ∧ Q (some (.int (am_gi h4 217 (Int32.toNatClampNeg i1)))) h4) ∧ (i2 = (1 : Int32) → am_in i1 12 ∧ Q (some (.int (am_gi h4 218 (Int32.toNatClampNeg i1)))) h4) ∧ (i2 = (2 : Int32) → am_in i1 12 ∧ Q (some (.int (am_gi h4 219 (Int32.toNatClampNeg i1)))) h4) ∧ (i2 = (3 : Int32) → Cl d 173 [.ref 216, .int i1, .int (am_gi h4 216 0)] h4 (fun r14 h13 => ∃ x15, r14 = some (.int x15) ∧ Lay h13 ∧ ((¬ x15 = (-1 : Int32)) → Q (some (.int (0 : Int32))) h13) ∧ (¬ (¬ x15 = (-1 : Int32)) → Q (some (.int (1 : Int32))) h13))) ∧ (i2 = (4 : Int32) → Cl d 231 [.ref 216, .int i1] h4 (fun r18 h17 => ∃ x19, r18 = some (.int x19) ∧ Lay h17 ∧ Q (some (.int x19)) h17)) ∧ (i2 = (5 : Int32) → am_in i1 12 ∧ ((am_gi h4 220 (Int32.toNatClampNeg i1)) = (0 : Int32) → Q (some (.int (0 : Int32))) h4) ∧ (¬ (am_gi h4 220 (Int32.toNatClampNeg i1)) = (0 : Int32) → Q (some (.int (1 : Int32))) h4)) ∧ (¬ i2 = (0 : Int32) ∧ ¬ i2 = (1 : Int32) ∧ ¬ i2 = (2 : Int32) ∧ ¬ i2 = (3 : Int32) ∧ ¬ i2 = (4 : Int32) ∧ ¬ i2 = (5 : Int32) → Ev (d + 1) 189 126 [.ref 216, .int i1, .null, .int (0 : Int32), .int (0 : Int32)] [] h4 Q)) ∧ (¬ (¬ x6 = (0 : Int32)) → Q (some (.int (-2 : Int32))) h4))))) : Cl (d + 1) 189 [.ref 216, .int i1, .int i2] h Q := by
  show Ev (d + 1) 189 0 [.ref 216, .int i1, .int i2, .null, .null] [] h Q
  refine ev_p (pc' := 2) (loc' := [.ref 216, .int i1, .int i2, .null, .null]) (st' := [.int i1, .ref 216]) 2 am_q189 rfl ?_
  refine ev_c (vs := [.ref 216, .int i1]) (rest := []) 168 am_q189 rfl rfl rfl rfl rfl rfl rfl rfl rfl rfl rfl rfl (Or.inr (congrArg some (lk216 Ly))) (Cl.mono H (Nat.le_refl _) (fun r2 h1 H => ?_))
  obtain ⟨x3, rfl, Ly, H⟩ := H
  refine ev_jz (t := 18) am_q189 rfl rfl (fun hq => ?_) (fun hq => ?_)
  · replace H := H.1 hq
    refine ev_p (pc' := 20) (loc' := [.null, .null, .null, .null, .null]) (st' := [.int (-2 : Int32)]) 1 am_q189 rfl ?_
    exact ev_r (v := some (.int (-2 : Int32))) am_q189 rfl rfl rfl rfl H
  · replace H := H.2 hq
    refine ev_p (pc' := 12) (loc' := [.ref 216, .int i1, .int i2, .null, .null]) (st' := [.int (6 : Int32), .int (0 : Int32), .int i2]) 3 am_q189 rfl ?_
    refine ev_c (vs := [.int i2, .int (0 : Int32), .int (6 : Int32)]) (rest := []) 167 am_q189 rfl rfl rfl rfl rfl rfl rfl rfl rfl rfl rfl rfl (Or.inl rfl) (Cl.mono H (Nat.le_refl _) (fun r5 h4 H => ?_))
    obtain ⟨x6, rfl, Ly, H⟩ := H
    refine ev_jz (t := 21) am_q189 rfl rfl (fun hq => ?_) (fun hq => ?_)
    · replace H := H.1 hq
      refine ev_p (pc' := 22) (loc' := [.ref 216, .int i1, .int i2, .null, .null]) (st' := [.int i2]) 1 am_q189 rfl ?_
      by_cases k8 : i2 = (0 : Int32)
      · replace H := H.1 k8
        refine ev_s (pc' := 60) (loc' := [.ref 216, .int i1, .int i2, .null, .null]) (st' := []) (h1 := h4) am_q189 rfl rfl rfl (by rw [k8]; rfl) ?_
        refine ev_p (pc' := 61) (loc' := [.ref 216, .int i1, .int i2, .null, .null]) (st' := [.ref 216]) 1 am_q189 rfl ?_
        refine ev_s (pc' := 64) (loc' := [.ref 216, .int i1, .int i2, .null, .null]) (st' := [.ref 217]) (h1 := h4) am_q189 rfl rfl rfl (am_gf2 (lk216 Ly) (lr216_2 Ly)) ?_
        refine ev_p (pc' := 65) (loc' := [.ref 216, .int i1, .int i2, .null, .null]) (st' := [.int i1, .ref 217]) 1 am_q189 rfl ?_
        obtain ⟨g7, H⟩ := H
        refine ev_s (pc' := 66) (loc' := [.ref 216, .int i1, .int i2, .null, .null]) (st' := [.int (am_gi h4 217 (Int32.toNatClampNeg i1))]) (h1 := h4) am_q189 rfl rfl rfl (am_xx (lk217 Ly) (am_inl (ln217 Ly) g7)) ?_
        exact ev_r (v := some (.int (am_gi h4 217 (Int32.toNatClampNeg i1)))) am_q189 rfl rfl rfl rfl H
      replace H := H.2
      by_cases k10 : i2 = (1 : Int32)
      · replace H := H.1 k10
        refine ev_s (pc' := 67) (loc' := [.ref 216, .int i1, .int i2, .null, .null]) (st' := []) (h1 := h4) am_q189 rfl rfl rfl (by rw [k10]; rfl) ?_
        refine ev_p (pc' := 68) (loc' := [.ref 216, .int i1, .int i2, .null, .null]) (st' := [.ref 216]) 1 am_q189 rfl ?_
        refine ev_s (pc' := 71) (loc' := [.ref 216, .int i1, .int i2, .null, .null]) (st' := [.ref 218]) (h1 := h4) am_q189 rfl rfl rfl (am_gf2 (lk216 Ly) (lr216_3 Ly)) ?_
        refine ev_p (pc' := 72) (loc' := [.ref 216, .int i1, .int i2, .null, .null]) (st' := [.int i1, .ref 218]) 1 am_q189 rfl ?_
        obtain ⟨g9, H⟩ := H
        refine ev_s (pc' := 73) (loc' := [.ref 216, .int i1, .int i2, .null, .null]) (st' := [.int (am_gi h4 218 (Int32.toNatClampNeg i1))]) (h1 := h4) am_q189 rfl rfl rfl (am_xx (lk218 Ly) (am_inl (ln218 Ly) g9)) ?_
        exact ev_r (v := some (.int (am_gi h4 218 (Int32.toNatClampNeg i1)))) am_q189 rfl rfl rfl rfl H
      replace H := H.2
      by_cases k12 : i2 = (2 : Int32)
      · replace H := H.1 k12
        refine ev_s (pc' := 74) (loc' := [.ref 216, .int i1, .int i2, .null, .null]) (st' := []) (h1 := h4) am_q189 rfl rfl rfl (by rw [k12]; rfl) ?_
        refine ev_p (pc' := 75) (loc' := [.ref 216, .int i1, .int i2, .null, .null]) (st' := [.ref 216]) 1 am_q189 rfl ?_
        refine ev_s (pc' := 78) (loc' := [.ref 216, .int i1, .int i2, .null, .null]) (st' := [.ref 219]) (h1 := h4) am_q189 rfl rfl rfl (am_gf2 (lk216 Ly) (lr216_4 Ly)) ?_
        refine ev_p (pc' := 79) (loc' := [.ref 216, .int i1, .int i2, .null, .null]) (st' := [.int i1, .ref 219]) 1 am_q189 rfl ?_
        obtain ⟨g11, H⟩ := H
        refine ev_s (pc' := 80) (loc' := [.ref 216, .int i1, .int i2, .null, .null]) (st' := [.int (am_gi h4 219 (Int32.toNatClampNeg i1))]) (h1 := h4) am_q189 rfl rfl rfl (am_xx (lk219 Ly) (am_inl (ln219 Ly) g11)) ?_
        exact ev_r (v := some (.int (am_gi h4 219 (Int32.toNatClampNeg i1)))) am_q189 rfl rfl rfl rfl H
      replace H := H.2
      by_cases k16 : i2 = (3 : Int32)
      · replace H := H.1 k16
        refine ev_s (pc' := 81) (loc' := [.ref 216, .int i1, .int i2, .null, .null]) (st' := []) (h1 := h4) am_q189 rfl rfl rfl (by rw [k16]; rfl) ?_
        refine ev_p (pc' := 84) (loc' := [.ref 216, .int i1, .int i2, .null, .null]) (st' := [.ref 216, .int i1, .ref 216]) 3 am_q189 rfl ?_
        refine ev_s (pc' := 87) (loc' := [.ref 216, .int i1, .int i2, .null, .null]) (st' := [.int (am_gi h4 216 0), .int i1, .ref 216]) (h1 := h4) am_q189 rfl rfl rfl (if_pos (e := none) (lk216 Ly)) ?_
        refine ev_c (vs := [.ref 216, .int i1, .int (am_gi h4 216 0)]) (rest := []) 173 am_q189 rfl rfl rfl rfl rfl rfl rfl rfl rfl rfl rfl rfl (Or.inr (congrArg some (lk216 Ly))) (Cl.mono H (Nat.le_refl _) (fun r14 h13 H => ?_))
        obtain ⟨x15, rfl, Ly, H⟩ := H
        refine ev_p (pc' := 91) (loc' := [.ref 216, .int i1, .int i2, .null, .null]) (st' := [.int (-1 : Int32), .int x15]) 1 am_q189 rfl ?_
        refine ev_jc (t := 98) am_q189 rfl rfl (fun hq => ?_) (fun hq => ?_)
        · replace H := H.1 hq
          refine ev_p (pc' := 99) (loc' := [.ref 216, .int i1, .int i2, .null, .null]) (st' := [.int (0 : Int32)]) 1 am_q189 rfl ?_
          exact ev_r (v := some (.int (0 : Int32))) am_q189 rfl rfl rfl rfl H
        · replace H := H.2 hq
          refine ev_p (pc' := 99) (loc' := [.ref 216, .int i1, .int i2, .null, .null]) (st' := [.int (1 : Int32)]) 2 am_q189 rfl ?_
          exact ev_r (v := some (.int (1 : Int32))) am_q189 rfl rfl rfl rfl H
      replace H := H.2
      by_cases k20 : i2 = (4 : Int32)
      · replace H := H.1 k20
        refine ev_s (pc' := 100) (loc' := [.ref 216, .int i1, .int i2, .null, .null]) (st' := []) (h1 := h4) am_q189 rfl rfl rfl (by rw [k20]; rfl) ?_
        refine ev_p (pc' := 102) (loc' := [.ref 216, .int i1, .int i2, .null, .null]) (st' := [.int i1, .ref 216]) 2 am_q189 rfl ?_
        refine ev_c (vs := [.ref 216, .int i1]) (rest := []) 231 am_q189 rfl rfl rfl rfl rfl rfl rfl rfl rfl rfl rfl rfl (Or.inr (congrArg some (lk216 Ly))) (Cl.mono H (Nat.le_refl _) (fun r18 h17 H => ?_))
        obtain ⟨x19, rfl, Ly, H⟩ := H
        exact ev_r (v := some (.int x19)) am_q189 rfl rfl rfl rfl H
      replace H := H.2
      by_cases k22 : i2 = (5 : Int32)
      · replace H := H.1 k22
        refine ev_s (pc' := 106) (loc' := [.ref 216, .int i1, .int i2, .null, .null]) (st' := []) (h1 := h4) am_q189 rfl rfl rfl (by rw [k22]; rfl) ?_
        refine ev_p (pc' := 107) (loc' := [.ref 216, .int i1, .int i2, .null, .null]) (st' := [.ref 216]) 1 am_q189 rfl ?_
        refine ev_s (pc' := 110) (loc' := [.ref 216, .int i1, .int i2, .null, .null]) (st' := [.ref 220]) (h1 := h4) am_q189 rfl rfl rfl (am_gf2 (lk216 Ly) (lr216_5 Ly)) ?_
        refine ev_p (pc' := 111) (loc' := [.ref 216, .int i1, .int i2, .null, .null]) (st' := [.int i1, .ref 220]) 1 am_q189 rfl ?_
        obtain ⟨g21, H⟩ := H
        refine ev_s (pc' := 112) (loc' := [.ref 216, .int i1, .int i2, .null, .null]) (st' := [.int (am_gi h4 220 (Int32.toNatClampNeg i1))]) (h1 := h4) am_q189 rfl rfl rfl (am_xx (Or.inr (lk220 Ly)) (am_inl (ln220 Ly) g21)) ?_
        refine ev_jz (t := 119) am_q189 rfl rfl (fun hq => ?_) (fun hq => ?_)
        · replace H := H.1 hq
          refine ev_p (pc' := 120) (loc' := [.ref 216, .int i1, .int i2, .null, .null]) (st' := [.int (0 : Int32)]) 1 am_q189 rfl ?_
          exact ev_r (v := some (.int (0 : Int32))) am_q189 rfl rfl rfl rfl H
        · replace H := H.2 hq
          refine ev_p (pc' := 120) (loc' := [.ref 216, .int i1, .int i2, .null, .null]) (st' := [.int (1 : Int32)]) 2 am_q189 rfl ?_
          exact ev_r (v := some (.int (1 : Int32))) am_q189 rfl rfl rfl rfl H
      replace H := H.2
      replace H := H ⟨k8, k10, k12, k16, k20, k22⟩
      refine ev_s (pc' := 121) (loc' := [.ref 216, .int i1, .int i2, .null, .null]) (st' := []) (h1 := h4) am_q189 rfl rfl rfl (am_tso (x := (i2).toInt) (by have z0 : (i2).toInt ≠ 0 := am_tn k8 (by decide); have z1 : (i2).toInt ≠ 1 := am_tn k10 (by decide); have z2 : (i2).toInt ≠ 2 := am_tn k12 (by decide); have z3 : (i2).toInt ≠ 3 := am_tn k16 (by decide); have z4 : (i2).toInt ≠ 4 := am_tn k20 (by decide); have z5 : (i2).toInt ≠ 5 := am_tn k22 (by decide); omega)) ?_
      refine ev_p (pc' := 126) (loc' := [.ref 216, .int i1, .int i2, .int (0 : Int32), .int (0 : Int32)]) (st' := []) 4 am_q189 rfl ?_
      exact ev_m (loc' := [.ref 216, .int i1, .null, .int (0 : Int32), .int (0 : Int32)]) am_q189 rfl rfl H
    · replace H := H.2 hq
      refine ev_p (pc' := 20) (loc' := [.null, .null, .null, .null, .null]) (st' := [.int (-2 : Int32)]) 1 am_q189 rfl ?_
      exact ev_r (v := some (.int (-2 : Int32))) am_q189 rfl rfl rfl rfl H
set_option maxRecDepth 20000 in
set_option maxHeartbeats 2000000 in
theorem ws189_126 {d : Nat}  (i1 : Int32) (i3 : Int32) (i4 : Int32) {h : AH} {Q : Option Value → AH → Prop} (Ly : Lay h) (H : ((am_gi h 216 14) ≤ i4 → Q (some (.int i3)) h) ∧ (¬ (am_gi h 216 14) ≤ i4 → am_in i4 60 ∧ ((¬ (am_gi h 228 (Int32.toNatClampNeg i4)) = (2 : Int32)) → Ev (d + 1) 189 126 [.ref 216, .int i1, .null, .int (i3 + (0 : Int32)), .int (i4 + (1 : Int32))] [] h Q) ∧ (¬ (¬ (am_gi h 228 (Int32.toNatClampNeg i4)) = (2 : Int32)) → am_in i4 60 ∧ ((¬ (am_gi h 229 (Int32.toNatClampNeg i4)) = i1) → Ev (d + 1) 189 126 [.ref 216, .int i1, .null, .int (i3 + (0 : Int32)), .int (i4 + (1 : Int32))] [] h Q) ∧ (¬ (¬ (am_gi h 229 (Int32.toNatClampNeg i4)) = i1) → Cl d 171 [.ref 216, .int i4, .int (am_gi h 216 0)] h (fun r4 h3 => ∃ x5, r4 = some (.int x5) ∧ Lay h3 ∧ (x5 = (0 : Int32) → Ev (d + 1) 189 126 [.ref 216, .int i1, .null, .int (i3 + (0 : Int32)), .int (i4 + (1 : Int32))] [] h3 Q) ∧ (¬ x5 = (0 : Int32) → Ev (d + 1) 189 126 [.ref 216, .int i1, .null, .int (i3 + (1 : Int32)), .int (i4 + (1 : Int32))] [] h3 Q)))))) : Ev (d + 1) 189 126 [.ref 216, .int i1, .null, .int i3, .int i4] [] h Q := by
  refine ev_p (pc' := 129) (loc' := [.ref 216, .int i1, .null, .int i3, .int i4]) (st' := [.ref 216, .int i4]) 2 am_q189 rfl ?_
  refine ev_s (pc' := 132) (loc' := [.ref 216, .int i1, .null, .int i3, .int i4]) (st' := [.int (am_gi h 216 14), .int i4]) (h1 := h) am_q189 rfl rfl rfl (if_pos (e := none) (lk216 Ly)) ?_
  refine ev_jc (t := 184) am_q189 rfl rfl (fun hq => ?_) (fun hq => ?_)
  · replace H := H.1 hq
    refine ev_p (pc' := 185) (loc' := [.ref 216, .int i1, .null, .int i3, .int i4]) (st' := [.int i3]) 1 am_q189 rfl ?_
    exact ev_r (v := some (.int i3)) am_q189 rfl rfl rfl rfl H
  · replace H := H.2 hq
    refine ev_p (pc' := 137) (loc' := [.ref 216, .int i1, .null, .int i3, .int i4]) (st' := [.ref 216, .int i3]) 2 am_q189 rfl ?_
    refine ev_s (pc' := 140) (loc' := [.ref 216, .int i1, .null, .int i3, .int i4]) (st' := [.ref 228, .int i3]) (h1 := h) am_q189 rfl rfl rfl (am_gf2 (lk216 Ly) (lr216_15 Ly)) ?_
    refine ev_p (pc' := 142) (loc' := [.ref 216, .int i1, .null, .int i3, .int i4]) (st' := [.int i4, .ref 228, .int i3]) 1 am_q189 rfl ?_
    obtain ⟨g1, H⟩ := H
    refine ev_s (pc' := 143) (loc' := [.ref 216, .int i1, .null, .int i3, .int i4]) (st' := [.int (am_gi h 228 (Int32.toNatClampNeg i4)), .int i3]) (h1 := h) am_q189 rfl rfl rfl (am_xx (lk228 Ly) (am_inl (ln228 Ly) g1)) ?_
    refine ev_p (pc' := 144) (loc' := [.ref 216, .int i1, .null, .int i3, .int i4]) (st' := [.int (2 : Int32), .int (am_gi h 228 (Int32.toNatClampNeg i4)), .int i3]) 1 am_q189 rfl ?_
    refine ev_jc (t := 175) am_q189 rfl rfl (fun hq => ?_) (fun hq => ?_)
    · replace H := H.1 hq
      refine ev_p (pc' := 126) (loc' := [.ref 216, .int i1, .null, .int (i3 + (0 : Int32)), .int (i4 + (1 : Int32))]) (st' := []) 5 am_q189 rfl ?_
      exact ev_m (loc' := [.ref 216, .int i1, .null, .int (i3 + (0 : Int32)), .int (i4 + (1 : Int32))]) am_q189 rfl rfl H
    · replace H := H.2 hq
      refine ev_p (pc' := 148) (loc' := [.ref 216, .int i1, .null, .int i3, .int i4]) (st' := [.ref 216, .int i3]) 1 am_q189 rfl ?_
      refine ev_s (pc' := 151) (loc' := [.ref 216, .int i1, .null, .int i3, .int i4]) (st' := [.ref 229, .int i3]) (h1 := h) am_q189 rfl rfl rfl (am_gf2 (lk216 Ly) (lr216_16 Ly)) ?_
      refine ev_p (pc' := 153) (loc' := [.ref 216, .int i1, .null, .int i3, .int i4]) (st' := [.int i4, .ref 229, .int i3]) 1 am_q189 rfl ?_
      obtain ⟨g2, H⟩ := H
      refine ev_s (pc' := 154) (loc' := [.ref 216, .int i1, .null, .int i3, .int i4]) (st' := [.int (am_gi h 229 (Int32.toNatClampNeg i4)), .int i3]) (h1 := h) am_q189 rfl rfl rfl (am_xx (lk229 Ly) (am_inl (ln229 Ly) g2)) ?_
      refine ev_p (pc' := 155) (loc' := [.ref 216, .int i1, .null, .int i3, .int i4]) (st' := [.int i1, .int (am_gi h 229 (Int32.toNatClampNeg i4)), .int i3]) 1 am_q189 rfl ?_
      refine ev_jc (t := 175) am_q189 rfl rfl (fun hq => ?_) (fun hq => ?_)
      · replace H := H.1 hq
        refine ev_p (pc' := 126) (loc' := [.ref 216, .int i1, .null, .int (i3 + (0 : Int32)), .int (i4 + (1 : Int32))]) (st' := []) 5 am_q189 rfl ?_
        exact ev_m (loc' := [.ref 216, .int i1, .null, .int (i3 + (0 : Int32)), .int (i4 + (1 : Int32))]) am_q189 rfl rfl H
      · replace H := H.2 hq
        refine ev_p (pc' := 162) (loc' := [.ref 216, .int i1, .null, .int i3, .int i4]) (st' := [.ref 216, .int i4, .ref 216, .int i3]) 3 am_q189 rfl ?_
        refine ev_s (pc' := 165) (loc' := [.ref 216, .int i1, .null, .int i3, .int i4]) (st' := [.int (am_gi h 216 0), .int i4, .ref 216, .int i3]) (h1 := h) am_q189 rfl rfl rfl (if_pos (e := none) (lk216 Ly)) ?_
        refine ev_c (vs := [.ref 216, .int i4, .int (am_gi h 216 0)]) (rest := [.int i3]) 171 am_q189 rfl rfl rfl rfl rfl rfl rfl rfl rfl rfl rfl rfl (Or.inr (congrArg some (lk216 Ly))) (Cl.mono H (Nat.le_refl _) (fun r4 h3 H => ?_))
        obtain ⟨x5, rfl, Ly, H⟩ := H
        refine ev_jz (t := 175) am_q189 rfl rfl (fun hq => ?_) (fun hq => ?_)
        · replace H := H.1 hq
          refine ev_p (pc' := 126) (loc' := [.ref 216, .int i1, .null, .int (i3 + (0 : Int32)), .int (i4 + (1 : Int32))]) (st' := []) 5 am_q189 rfl ?_
          exact ev_m (loc' := [.ref 216, .int i1, .null, .int (i3 + (0 : Int32)), .int (i4 + (1 : Int32))]) am_q189 rfl rfl H
        · replace H := H.2 hq
          refine ev_p (pc' := 126) (loc' := [.ref 216, .int i1, .null, .int (i3 + (1 : Int32)), .int (i4 + (1 : Int32))]) (st' := []) 6 am_q189 rfl ?_
          exact ev_m (loc' := [.ref 216, .int i1, .null, .int (i3 + (1 : Int32)), .int (i4 + (1 : Int32))]) am_q189 rfl rfl H
/-! 190: X12_bits -/
set_option maxRecDepth 20000 in
set_option maxHeartbeats 2000000 in
theorem ws190 {d : Nat}  (i0 : Int32) {h : AH} {Q : Option Value → AH → Prop} (Ly : Lay h) (H : Ev d 190 4 [.int i0, .int (0 : Int32), .int (0 : Int32)] [] h Q) : Cl d 190 [.int i0] h Q := by
  show Ev d 190 0 [.int i0, .null, .null] [] h Q
  refine ev_p (pc' := 4) (loc' := [.int i0, .int (0 : Int32), .int (0 : Int32)]) (st' := []) 4 am_q190 rfl ?_
  exact ev_m (loc' := [.int i0, .int (0 : Int32), .int (0 : Int32)]) am_q190 rfl rfl H
set_option maxRecDepth 20000 in
set_option maxHeartbeats 2000000 in
theorem ws190_4 {d : Nat}  (i0 : Int32) (i1 : Int32) (i2 : Int32) {h : AH} {Q : Option Value → AH → Prop} (Ly : Lay h) (H : ((31 : Int32) ≤ i2 → Q (some (.int i1)) h) ∧ (¬ (31 : Int32) ≤ i2 → Ev d 190 4 [.int i0, .int (i1 + ((i0 >>> (i2 &&& 31)) &&& (1 : Int32))), .int (i2 + (1 : Int32))] [] h Q)) : Ev d 190 4 [.int i0, .int i1, .int i2] [] h Q := by
  refine ev_p (pc' := 7) (loc' := [.int i0, .int i1, .int i2]) (st' := [.int (31 : Int32), .int i2]) 2 am_q190 rfl ?_
  refine ev_jc (t := 24) am_q190 rfl rfl (fun hq => ?_) (fun hq => ?_)
  · replace H := H.1 hq
    refine ev_p (pc' := 25) (loc' := [.int i0, .int i1, .int i2]) (st' := [.int i1]) 1 am_q190 rfl ?_
    exact ev_r (v := some (.int i1)) am_q190 rfl rfl rfl rfl H
  · replace H := H.2 hq
    refine ev_p (pc' := 4) (loc' := [.int i0, .int (i1 + ((i0 >>> (i2 &&& 31)) &&& (1 : Int32))), .int (i2 + (1 : Int32))]) (st' := []) 10 am_q190 rfl ?_
    exact ev_m (loc' := [.int i0, .int (i1 + ((i0 >>> (i2 &&& 31)) &&& (1 : Int32))), .int (i2 + (1 : Int32))]) am_q190 rfl rfl H
/-! 191: X12_memberTold -/
set_option maxRecDepth 20000 in
set_option maxHeartbeats 2000000 in
theorem ws191 {d : Nat}  (i1 : Int32) (i2 : Int32) {h : AH} {Q : Option Value → AH → Prop} (Ly : Lay h) (H : Cl d 169 [.ref 216, .int i1] h (fun r2 h1 => ∃ x3, r2 = some (.int x3) ∧ Lay h1 ∧ (x3 = (0 : Int32) → Q (some (.int (-2 : Int32))) h1) ∧ (¬ x3 = (0 : Int32) → Cl d 167 [.int i2, .int (0 : Int32), .int (6 : Int32)] h1 (fun r5 h4 => ∃ x6, r5 = some (.int x6) ∧ Lay h4 ∧ ((¬ x6 = (0 : Int32)) → (i2 = (0 : Int32) → am_in i1 24 ∧ Q (some (.int (am_gi h4 222 (Int32.toNatClampNeg i1)))) h4) ∧ (i2 = (1 : Int32) → am_in i1 24 ∧ Q (some (.int (am_gi h4 223 (Int32.toNatClampNeg i1)))) h4) ∧ (i2 = (2 : Int32) → am_in i1 24 ∧ Q (some (.int (am_gi h4 224 (Int32.toNatClampNeg i1)))) h4) ∧ (i2 = (3 : Int32) → am_in i1 24 ∧ Q (some (.int (am_gi h4 225 (Int32.toNatClampNeg i1)))) h4) ∧ (i2 = (4 : Int32) → Cl d 174 [.ref 216, .int i1, .int (am_gi h4 216 0)] h4 (fun r16 h15 => ∃ x17, r16 = some (.int x17) ∧ Lay h15 ∧ ((¬ x17 = (-1 : Int32)) → am_in x17 60 ∧ Q (some (.int (am_gi h15 229 (Int32.toNatClampNeg x17)))) h15) ∧ (¬ (¬ x17 = (-1 : Int32)) → Q (some (.int (-1 : Int32))) h15))) ∧ (i2 = (5 : Int32) → am_in i1 24 ∧ Cl d 190 [.int (am_gi h4 226 (Int32.toNatClampNeg i1))] h4 (fun r22 h21 => ∃ x23, r22 = some (.int x23) ∧ Lay h21 ∧ Q (some (.int x23)) h21)) ∧ (¬ i2 = (0 : Int32) ∧ ¬ i2 = (1 : Int32) ∧ ¬ i2 = (2 : Int32) ∧ ¬ i2 = (3 : Int32) ∧ ¬ i2 = (4 : Int32) ∧ ¬ i2 = (5 : Int32) → Cl d 170 [.ref 216, .int i1] h4 (fun r26 h25 => ∃ x27, r26 = some (.int x27) ∧ Lay h25 ∧ (x27 = (0 : Int32) → Q (some (.int (0 : Int32))) h25) ∧ (¬ x27 = (0 : Int32) → Q (some (.int (1 : Int32))) h25)))) ∧ (¬ (¬ x6 = (0 : Int32)) → Q (some (.int (-2 : Int32))) h4))))) : Cl (d + 1) 191 [.ref 216, .int i1, .int i2] h Q := by
  show Ev (d + 1) 191 0 [.ref 216, .int i1, .int i2, .null] [] h Q
  refine ev_p (pc' := 2) (loc' := [.ref 216, .int i1, .int i2, .null]) (st' := [.int i1, .ref 216]) 2 am_q191 rfl ?_
  refine ev_c (vs := [.ref 216, .int i1]) (rest := []) 169 am_q191 rfl rfl rfl rfl rfl rfl rfl rfl rfl rfl rfl rfl (Or.inr (congrArg some (lk216 Ly))) (Cl.mono H (Nat.le_refl _) (fun r2 h1 H => ?_))
  obtain ⟨x3, rfl, Ly, H⟩ := H
  refine ev_jz (t := 18) am_q191 rfl rfl (fun hq => ?_) (fun hq => ?_)
  · replace H := H.1 hq
    refine ev_p (pc' := 20) (loc' := [.null, .null, .null, .null]) (st' := [.int (-2 : Int32)]) 1 am_q191 rfl ?_
    exact ev_r (v := some (.int (-2 : Int32))) am_q191 rfl rfl rfl rfl H
  · replace H := H.2 hq
    refine ev_p (pc' := 12) (loc' := [.ref 216, .int i1, .int i2, .null]) (st' := [.int (6 : Int32), .int (0 : Int32), .int i2]) 3 am_q191 rfl ?_
    refine ev_c (vs := [.int i2, .int (0 : Int32), .int (6 : Int32)]) (rest := []) 167 am_q191 rfl rfl rfl rfl rfl rfl rfl rfl rfl rfl rfl rfl (Or.inl rfl) (Cl.mono H (Nat.le_refl _) (fun r5 h4 H => ?_))
    obtain ⟨x6, rfl, Ly, H⟩ := H
    refine ev_jz (t := 21) am_q191 rfl rfl (fun hq => ?_) (fun hq => ?_)
    · replace H := H.1 hq
      refine ev_p (pc' := 22) (loc' := [.ref 216, .int i1, .int i2, .null]) (st' := [.int i2]) 1 am_q191 rfl ?_
      by_cases k8 : i2 = (0 : Int32)
      · replace H := H.1 k8
        refine ev_s (pc' := 60) (loc' := [.ref 216, .int i1, .int i2, .null]) (st' := []) (h1 := h4) am_q191 rfl rfl rfl (by rw [k8]; rfl) ?_
        refine ev_p (pc' := 61) (loc' := [.ref 216, .int i1, .int i2, .null]) (st' := [.ref 216]) 1 am_q191 rfl ?_
        refine ev_s (pc' := 64) (loc' := [.ref 216, .int i1, .int i2, .null]) (st' := [.ref 222]) (h1 := h4) am_q191 rfl rfl rfl (am_gf2 (lk216 Ly) (lr216_8 Ly)) ?_
        refine ev_p (pc' := 65) (loc' := [.ref 216, .int i1, .int i2, .null]) (st' := [.int i1, .ref 222]) 1 am_q191 rfl ?_
        obtain ⟨g7, H⟩ := H
        refine ev_s (pc' := 66) (loc' := [.ref 216, .int i1, .int i2, .null]) (st' := [.int (am_gi h4 222 (Int32.toNatClampNeg i1))]) (h1 := h4) am_q191 rfl rfl rfl (am_xx (lk222 Ly) (am_inl (ln222 Ly) g7)) ?_
        exact ev_r (v := some (.int (am_gi h4 222 (Int32.toNatClampNeg i1)))) am_q191 rfl rfl rfl rfl H
      replace H := H.2
      by_cases k10 : i2 = (1 : Int32)
      · replace H := H.1 k10
        refine ev_s (pc' := 67) (loc' := [.ref 216, .int i1, .int i2, .null]) (st' := []) (h1 := h4) am_q191 rfl rfl rfl (by rw [k10]; rfl) ?_
        refine ev_p (pc' := 68) (loc' := [.ref 216, .int i1, .int i2, .null]) (st' := [.ref 216]) 1 am_q191 rfl ?_
        refine ev_s (pc' := 71) (loc' := [.ref 216, .int i1, .int i2, .null]) (st' := [.ref 223]) (h1 := h4) am_q191 rfl rfl rfl (am_gf2 (lk216 Ly) (lr216_9 Ly)) ?_
        refine ev_p (pc' := 72) (loc' := [.ref 216, .int i1, .int i2, .null]) (st' := [.int i1, .ref 223]) 1 am_q191 rfl ?_
        obtain ⟨g9, H⟩ := H
        refine ev_s (pc' := 73) (loc' := [.ref 216, .int i1, .int i2, .null]) (st' := [.int (am_gi h4 223 (Int32.toNatClampNeg i1))]) (h1 := h4) am_q191 rfl rfl rfl (am_xx (lk223 Ly) (am_inl (ln223 Ly) g9)) ?_
        exact ev_r (v := some (.int (am_gi h4 223 (Int32.toNatClampNeg i1)))) am_q191 rfl rfl rfl rfl H
      replace H := H.2
      by_cases k12 : i2 = (2 : Int32)
      · replace H := H.1 k12
        refine ev_s (pc' := 74) (loc' := [.ref 216, .int i1, .int i2, .null]) (st' := []) (h1 := h4) am_q191 rfl rfl rfl (by rw [k12]; rfl) ?_
        refine ev_p (pc' := 75) (loc' := [.ref 216, .int i1, .int i2, .null]) (st' := [.ref 216]) 1 am_q191 rfl ?_
        refine ev_s (pc' := 78) (loc' := [.ref 216, .int i1, .int i2, .null]) (st' := [.ref 224]) (h1 := h4) am_q191 rfl rfl rfl (am_gf2 (lk216 Ly) (lr216_10 Ly)) ?_
        refine ev_p (pc' := 79) (loc' := [.ref 216, .int i1, .int i2, .null]) (st' := [.int i1, .ref 224]) 1 am_q191 rfl ?_
        obtain ⟨g11, H⟩ := H
        refine ev_s (pc' := 80) (loc' := [.ref 216, .int i1, .int i2, .null]) (st' := [.int (am_gi h4 224 (Int32.toNatClampNeg i1))]) (h1 := h4) am_q191 rfl rfl rfl (am_xx (lk224 Ly) (am_inl (ln224 Ly) g11)) ?_
        exact ev_r (v := some (.int (am_gi h4 224 (Int32.toNatClampNeg i1)))) am_q191 rfl rfl rfl rfl H
      replace H := H.2
      by_cases k14 : i2 = (3 : Int32)
      · replace H := H.1 k14
        refine ev_s (pc' := 81) (loc' := [.ref 216, .int i1, .int i2, .null]) (st' := []) (h1 := h4) am_q191 rfl rfl rfl (by rw [k14]; rfl) ?_
        refine ev_p (pc' := 82) (loc' := [.ref 216, .int i1, .int i2, .null]) (st' := [.ref 216]) 1 am_q191 rfl ?_
        refine ev_s (pc' := 85) (loc' := [.ref 216, .int i1, .int i2, .null]) (st' := [.ref 225]) (h1 := h4) am_q191 rfl rfl rfl (am_gf2 (lk216 Ly) (lr216_11 Ly)) ?_
        refine ev_p (pc' := 86) (loc' := [.ref 216, .int i1, .int i2, .null]) (st' := [.int i1, .ref 225]) 1 am_q191 rfl ?_
        obtain ⟨g13, H⟩ := H
        refine ev_s (pc' := 87) (loc' := [.ref 216, .int i1, .int i2, .null]) (st' := [.int (am_gi h4 225 (Int32.toNatClampNeg i1))]) (h1 := h4) am_q191 rfl rfl rfl (am_xx (lk225 Ly) (am_inl (ln225 Ly) g13)) ?_
        exact ev_r (v := some (.int (am_gi h4 225 (Int32.toNatClampNeg i1)))) am_q191 rfl rfl rfl rfl H
      replace H := H.2
      by_cases k19 : i2 = (4 : Int32)
      · replace H := H.1 k19
        refine ev_s (pc' := 88) (loc' := [.ref 216, .int i1, .int i2, .null]) (st' := []) (h1 := h4) am_q191 rfl rfl rfl (by rw [k19]; rfl) ?_
        refine ev_p (pc' := 91) (loc' := [.ref 216, .int i1, .int i2, .null]) (st' := [.ref 216, .int i1, .ref 216]) 3 am_q191 rfl ?_
        refine ev_s (pc' := 94) (loc' := [.ref 216, .int i1, .int i2, .null]) (st' := [.int (am_gi h4 216 0), .int i1, .ref 216]) (h1 := h4) am_q191 rfl rfl rfl (if_pos (e := none) (lk216 Ly)) ?_
        refine ev_c (vs := [.ref 216, .int i1, .int (am_gi h4 216 0)]) (rest := []) 174 am_q191 rfl rfl rfl rfl rfl rfl rfl rfl rfl rfl rfl rfl (Or.inr (congrArg some (lk216 Ly))) (Cl.mono H (Nat.le_refl _) (fun r16 h15 H => ?_))
        obtain ⟨x17, rfl, Ly, H⟩ := H
        refine ev_p (pc' := 100) (loc' := [.ref 216, .int i1, .int i2, .int x17]) (st' := [.int (-1 : Int32), .int x17]) 3 am_q191 rfl ?_
        refine ev_jc (t := 107) am_q191 rfl rfl (fun hq => ?_) (fun hq => ?_)
        · replace H := H.1 hq
          refine ev_p (pc' := 108) (loc' := [.ref 216, .int i1, .int i2, .int x17]) (st' := [.ref 216]) 1 am_q191 rfl ?_
          refine ev_s (pc' := 111) (loc' := [.ref 216, .int i1, .int i2, .int x17]) (st' := [.ref 229]) (h1 := h15) am_q191 rfl rfl rfl (am_gf2 (lk216 Ly) (lr216_16 Ly)) ?_
          refine ev_p (pc' := 112) (loc' := [.ref 216, .int i1, .int i2, .int x17]) (st' := [.int x17, .ref 229]) 1 am_q191 rfl ?_
          obtain ⟨g18, H⟩ := H
          refine ev_s (pc' := 113) (loc' := [.ref 216, .int i1, .int i2, .int x17]) (st' := [.int (am_gi h15 229 (Int32.toNatClampNeg x17))]) (h1 := h15) am_q191 rfl rfl rfl (am_xx (lk229 Ly) (am_inl (ln229 Ly) g18)) ?_
          exact ev_r (v := some (.int (am_gi h15 229 (Int32.toNatClampNeg x17)))) am_q191 rfl rfl rfl rfl H
        · replace H := H.2 hq
          refine ev_p (pc' := 113) (loc' := [.ref 216, .int i1, .int i2, .int x17]) (st' := [.int (-1 : Int32)]) 2 am_q191 rfl ?_
          exact ev_r (v := some (.int (-1 : Int32))) am_q191 rfl rfl rfl rfl H
      replace H := H.2
      by_cases k24 : i2 = (5 : Int32)
      · replace H := H.1 k24
        refine ev_s (pc' := 114) (loc' := [.ref 216, .int i1, .int i2, .null]) (st' := []) (h1 := h4) am_q191 rfl rfl rfl (by rw [k24]; rfl) ?_
        refine ev_p (pc' := 115) (loc' := [.ref 216, .int i1, .int i2, .null]) (st' := [.ref 216]) 1 am_q191 rfl ?_
        refine ev_s (pc' := 118) (loc' := [.ref 216, .int i1, .int i2, .null]) (st' := [.ref 226]) (h1 := h4) am_q191 rfl rfl rfl (am_gf2 (lk216 Ly) (lr216_12 Ly)) ?_
        refine ev_p (pc' := 119) (loc' := [.ref 216, .int i1, .int i2, .null]) (st' := [.int i1, .ref 226]) 1 am_q191 rfl ?_
        obtain ⟨g20, H⟩ := H
        refine ev_s (pc' := 120) (loc' := [.ref 216, .int i1, .int i2, .null]) (st' := [.int (am_gi h4 226 (Int32.toNatClampNeg i1))]) (h1 := h4) am_q191 rfl rfl rfl (am_xx (lk226 Ly) (am_inl (ln226 Ly) g20)) ?_
        refine ev_c (vs := [.int (am_gi h4 226 (Int32.toNatClampNeg i1))]) (rest := []) 190 am_q191 rfl rfl rfl rfl rfl rfl rfl rfl rfl rfl rfl rfl (Or.inl rfl) (Cl.mono H (Nat.le_refl _) (fun r22 h21 H => ?_))
        obtain ⟨x23, rfl, Ly, H⟩ := H
        exact ev_r (v := some (.int x23)) am_q191 rfl rfl rfl rfl H
      replace H := H.2
      replace H := H ⟨k8, k10, k12, k14, k19, k24⟩
      refine ev_s (pc' := 124) (loc' := [.ref 216, .int i1, .int i2, .null]) (st' := []) (h1 := h4) am_q191 rfl rfl rfl (am_tso (x := (i2).toInt) (by have z0 : (i2).toInt ≠ 0 := am_tn k8 (by decide); have z1 : (i2).toInt ≠ 1 := am_tn k10 (by decide); have z2 : (i2).toInt ≠ 2 := am_tn k12 (by decide); have z3 : (i2).toInt ≠ 3 := am_tn k14 (by decide); have z4 : (i2).toInt ≠ 4 := am_tn k19 (by decide); have z5 : (i2).toInt ≠ 5 := am_tn k24 (by decide); omega)) ?_
      refine ev_p (pc' := 126) (loc' := [.ref 216, .int i1, .int i2, .null]) (st' := [.int i1, .ref 216]) 2 am_q191 rfl ?_
      refine ev_c (vs := [.ref 216, .int i1]) (rest := []) 170 am_q191 rfl rfl rfl rfl rfl rfl rfl rfl rfl rfl rfl rfl (Or.inr (congrArg some (lk216 Ly))) (Cl.mono H (Nat.le_refl _) (fun r26 h25 H => ?_))
      obtain ⟨x27, rfl, Ly, H⟩ := H
      refine ev_jz (t := 136) am_q191 rfl rfl (fun hq => ?_) (fun hq => ?_)
      · replace H := H.1 hq
        refine ev_p (pc' := 137) (loc' := [.ref 216, .int i1, .int i2, .null]) (st' := [.int (0 : Int32)]) 1 am_q191 rfl ?_
        exact ev_r (v := some (.int (0 : Int32))) am_q191 rfl rfl rfl rfl H
      · replace H := H.2 hq
        refine ev_p (pc' := 137) (loc' := [.ref 216, .int i1, .int i2, .null]) (st' := [.int (1 : Int32)]) 2 am_q191 rfl ?_
        exact ev_r (v := some (.int (1 : Int32))) am_q191 rfl rfl rfl rfl H
    · replace H := H.2 hq
      refine ev_p (pc' := 20) (loc' := [.null, .null, .null, .null]) (st' := [.int (-2 : Int32)]) 1 am_q191 rfl ?_
      exact ev_r (v := some (.int (-2 : Int32))) am_q191 rfl rfl rfl rfl H
/-! 192: X12_byteAt -/
set_option maxRecDepth 20000 in
set_option maxHeartbeats 2000000 in
theorem ws192 {d : Nat}  (i1 : Int32) {h : AH} {Q : Option Value → AH → Prop} (Ly : Lay h) (H : am_in (am_gi h 216 50) 13 ∧ ((am_gi h 235 (Int32.toNatClampNeg (am_gi h 216 50))) ≤ i1 → Q (some (.int (-1 : Int32))) h) ∧ (¬ (am_gi h 235 (Int32.toNatClampNeg (am_gi h 216 50))) ≤ i1 → am_in (((400 : Int32) * (am_gi h 216 50)) + i1) 5200 ∧ Q (some (.int (am_gi h 236 (Int32.toNatClampNeg (((400 : Int32) * (am_gi h 216 50)) + i1))))) h)) : Cl d 192 [.ref 216, .int i1] h Q := by
  show Ev d 192 0 [.ref 216, .int i1] [] h Q
  refine ev_p (pc' := 2) (loc' := [.ref 216, .int i1]) (st' := [.ref 216, .int i1]) 2 am_q192 rfl ?_
  refine ev_s (pc' := 5) (loc' := [.ref 216, .int i1]) (st' := [.ref 235, .int i1]) (h1 := h) am_q192 rfl rfl rfl (am_gf2 (lk216 Ly) (lr216_24 Ly)) ?_
  refine ev_p (pc' := 6) (loc' := [.ref 216, .int i1]) (st' := [.ref 216, .ref 235, .int i1]) 1 am_q192 rfl ?_
  refine ev_s (pc' := 9) (loc' := [.ref 216, .int i1]) (st' := [.int (am_gi h 216 50), .ref 235, .int i1]) (h1 := h) am_q192 rfl rfl rfl (if_pos (e := none) (lk216 Ly)) ?_
  obtain ⟨g1, H⟩ := H
  refine ev_s (pc' := 10) (loc' := [.ref 216, .int i1]) (st' := [.int (am_gi h 235 (Int32.toNatClampNeg (am_gi h 216 50))), .int i1]) (h1 := h) am_q192 rfl rfl rfl (am_xx (lk235 Ly) (am_inl (ln235 Ly) g1)) ?_
  refine ev_jc (t := 31) am_q192 rfl rfl (fun hq => ?_) (fun hq => ?_)
  · replace H := H.1 hq
    refine ev_p (pc' := 32) (loc' := [.ref 216, .int i1]) (st' := [.int (-1 : Int32)]) 1 am_q192 rfl ?_
    exact ev_r (v := some (.int (-1 : Int32))) am_q192 rfl rfl rfl rfl H
  · replace H := H.2 hq
    refine ev_p (pc' := 14) (loc' := [.ref 216, .int i1]) (st' := [.ref 216]) 1 am_q192 rfl ?_
    refine ev_s (pc' := 17) (loc' := [.ref 216, .int i1]) (st' := [.ref 236]) (h1 := h) am_q192 rfl rfl rfl (am_gf2 (lk216 Ly) (lr216_25 Ly)) ?_
    refine ev_p (pc' := 21) (loc' := [.ref 216, .int i1]) (st' := [.ref 216, .int (400 : Int32), .ref 236]) 2 am_q192 rfl ?_
    refine ev_s (pc' := 24) (loc' := [.ref 216, .int i1]) (st' := [.int (am_gi h 216 50), .int (400 : Int32), .ref 236]) (h1 := h) am_q192 rfl rfl rfl (if_pos (e := none) (lk216 Ly)) ?_
    refine ev_p (pc' := 27) (loc' := [.ref 216, .int i1]) (st' := [.int (((400 : Int32) * (am_gi h 216 50)) + i1), .ref 236]) 3 am_q192 rfl ?_
    obtain ⟨g2, H⟩ := H
    refine ev_s (pc' := 28) (loc' := [.ref 216, .int i1]) (st' := [.int (am_gi h 236 (Int32.toNatClampNeg (((400 : Int32) * (am_gi h 216 50)) + i1)))]) (h1 := h) am_q192 rfl rfl rfl (am_xx (lk236 Ly) (am_inl (ln236 Ly) g2)) ?_
    refine ev_p (pc' := 32) (loc' := [.ref 216, .int i1]) (st' := [.int (am_gi h 236 (Int32.toNatClampNeg (((400 : Int32) * (am_gi h 216 50)) + i1)))]) 1 am_q192 rfl ?_
    exact ev_r (v := some (.int (am_gi h 236 (Int32.toNatClampNeg (((400 : Int32) * (am_gi h 216 50)) + i1))))) am_q192 rfl rfl rfl rfl H
/-! 193: X12_isLetter -/
set_option maxRecDepth 20000 in
set_option maxHeartbeats 2000000 in
theorem ws193 {d : Nat}  (i0 : Int32) {h : AH} {Q : Option Value → AH → Prop} (Ly : Lay h) (H : (i0 < (97 : Int32) → Q (some (.int (0 : Int32))) h) ∧ (¬ i0 < (97 : Int32) → ((122 : Int32) < i0 → Q (some (.int (0 : Int32))) h) ∧ (¬ (122 : Int32) < i0 → Q (some (.int (1 : Int32))) h))) : Cl d 193 [.int i0] h Q := by
  show Ev d 193 0 [.int i0] [] h Q
  refine ev_p (pc' := 3) (loc' := [.int i0]) (st' := [.int (97 : Int32), .int i0]) 2 am_q193 rfl ?_
  refine ev_jc (t := 16) am_q193 rfl rfl (fun hq => ?_) (fun hq => ?_)
  · replace H := H.1 hq
    refine ev_p (pc' := 17) (loc' := [.null]) (st' := [.int (0 : Int32)]) 1 am_q193 rfl ?_
    exact ev_r (v := some (.int (0 : Int32))) am_q193 rfl rfl rfl rfl H
  · replace H := H.2 hq
    refine ev_p (pc' := 9) (loc' := [.int i0]) (st' := [.int (122 : Int32), .int i0]) 2 am_q193 rfl ?_
    refine ev_jc (t := 16) am_q193 rfl rfl (fun hq => ?_) (fun hq => ?_)
    · replace H := H.1 hq
      refine ev_p (pc' := 17) (loc' := [.null]) (st' := [.int (0 : Int32)]) 1 am_q193 rfl ?_
      exact ev_r (v := some (.int (0 : Int32))) am_q193 rfl rfl rfl rfl H
    · replace H := H.2 hq
      refine ev_p (pc' := 17) (loc' := [.int i0]) (st' := [.int (1 : Int32)]) 2 am_q193 rfl ?_
      exact ev_r (v := some (.int (1 : Int32))) am_q193 rfl rfl rfl rfl H
/-! 194: X12_isDigit -/
set_option maxRecDepth 20000 in
set_option maxHeartbeats 2000000 in
theorem ws194 {d : Nat}  (i0 : Int32) {h : AH} {Q : Option Value → AH → Prop} (Ly : Lay h) (H : (i0 < (48 : Int32) → Q (some (.int (0 : Int32))) h) ∧ (¬ i0 < (48 : Int32) → ((57 : Int32) < i0 → Q (some (.int (0 : Int32))) h) ∧ (¬ (57 : Int32) < i0 → Q (some (.int (1 : Int32))) h))) : Cl d 194 [.int i0] h Q := by
  show Ev d 194 0 [.int i0] [] h Q
  refine ev_p (pc' := 3) (loc' := [.int i0]) (st' := [.int (48 : Int32), .int i0]) 2 am_q194 rfl ?_
  refine ev_jc (t := 16) am_q194 rfl rfl (fun hq => ?_) (fun hq => ?_)
  · replace H := H.1 hq
    refine ev_p (pc' := 17) (loc' := [.null]) (st' := [.int (0 : Int32)]) 1 am_q194 rfl ?_
    exact ev_r (v := some (.int (0 : Int32))) am_q194 rfl rfl rfl rfl H
  · replace H := H.2 hq
    refine ev_p (pc' := 9) (loc' := [.int i0]) (st' := [.int (57 : Int32), .int i0]) 2 am_q194 rfl ?_
    refine ev_jc (t := 16) am_q194 rfl rfl (fun hq => ?_) (fun hq => ?_)
    · replace H := H.1 hq
      refine ev_p (pc' := 17) (loc' := [.null]) (st' := [.int (0 : Int32)]) 1 am_q194 rfl ?_
      exact ev_r (v := some (.int (0 : Int32))) am_q194 rfl rfl rfl rfl H
    · replace H := H.2 hq
      refine ev_p (pc' := 17) (loc' := [.int i0]) (st' := [.int (1 : Int32)]) 2 am_q194 rfl ?_
      exact ev_r (v := some (.int (1 : Int32))) am_q194 rfl rfl rfl rfl H
/-! 195: X12_next -/
set_option maxRecDepth 20000 in
set_option maxHeartbeats 2000000 in
theorem ws195 {d : Nat}   {h : AH} {Q : Option Value → AH → Prop} (Ly : Lay h) (H : Cl d 192 [.ref 216, .int (am_gi h 216 51)] h (fun r2 h1 => ∃ x3, r2 = some (.int x3) ∧ Lay h1 ∧ (x3 = (32 : Int32) → ∀ h4, h4 = am_si h1 216 51 ((am_gi h1 216 51) + (1 : Int32)) → Ev (d + 1) 195 0 [.ref 216, .null, .null] [] h4 Q) ∧ (¬ x3 = (32 : Int32) → Cl d 192 [.ref 216, .int (am_gi h1 216 51)] h1 (fun r6 h5 => ∃ x7, r6 = some (.int x7) ∧ Lay h5 ∧ ((¬ x7 = (10 : Int32)) → ∀ h8, h8 = am_si h5 216 52 (am_gi h5 216 51) → Cl d 192 [.ref 216, .int (am_gi h8 216 51)] h8 (fun r10 h9 => ∃ x11, r10 = some (.int x11) ∧ Lay h9 ∧ ((¬ x11 = (-1 : Int32)) → Cl d 193 [.int x11] h9 (fun r13 h12 => ∃ x14, r13 = some (.int x14) ∧ Lay h12 ∧ (x14 = (0 : Int32) → Cl d 194 [.int x11] h12 (fun r16 h15 => ∃ x17, r16 = some (.int x17) ∧ Lay h15 ∧ (x17 = (0 : Int32) → (x11 = (40 : Int32) → Ev (d + 1) 195 150 [.ref 216, .int x11, .null] [.int (1 : Int32)] h15 Q) ∧ (¬ x11 = (40 : Int32) → (x11 = (41 : Int32) → Ev (d + 1) 195 150 [.ref 216, .int x11, .null] [.int (1 : Int32)] h15 Q) ∧ (¬ x11 = (41 : Int32) → (x11 = (59 : Int32) → Ev (d + 1) 195 150 [.ref 216, .int x11, .null] [.int (1 : Int32)] h15 Q) ∧ (¬ x11 = (59 : Int32) → (x11 = (43 : Int32) → Ev (d + 1) 195 150 [.ref 216, .int x11, .null] [.int (1 : Int32)] h15 Q) ∧ (¬ x11 = (43 : Int32) → (x11 = (45 : Int32) → Ev (d + 1) 195 150 [.ref 216, .int x11, .null] [.int (1 : Int32)] h15 Q) ∧ (¬ x11 = (45 : Int32) → (x11 = (42 : Int32) → Ev (d + 1) 195 150 [.ref 216, .int x11, .null] [.int (1 : Int32)] h15 Q) ∧ (¬ x11 = (42 : Int32) → (x11 = (60 : Int32) → Ev (d + 1) 195 150 [.ref 216, .int x11, .null] [.int (1 : Int32)] h15 Q) ∧ (¬ x11 = (60 : Int32) → ((¬ x11 = (61 : Int32)) → Ev (d + 1) 195 150 [.ref 216, .int x11, .null] [.int (0 : Int32)] h15 Q) ∧ (¬ (¬ x11 = (61 : Int32)) → Ev (d + 1) 195 150 [.ref 216, .int x11, .null] [.int (1 : Int32)] h15 Q))))))))) ∧ (¬ x17 = (0 : Int32) → Cl d 196 [.ref 216] h15 (fun r19 h18 => r19 = none ∧ Lay h18 ∧ Q none h18)))) ∧ (¬ x14 = (0 : Int32) → Cl d 197 [.ref 216] h12 (fun r21 h20 => r21 = none ∧ Lay h20 ∧ Q none h20)))) ∧ (¬ (¬ x11 = (-1 : Int32)) → ∀ h22, h22 = am_si h9 216 53 (0 : Int32) → Q none h22))) ∧ (¬ (¬ x7 = (10 : Int32)) → ∀ h23, h23 = am_si h5 216 51 ((am_gi h5 216 51) + (1 : Int32)) → Ev (d + 1) 195 0 [.ref 216, .null, .null] [] h23 Q))))) : Cl (d + 1) 195 [.ref 216] h Q := by
  show Ev (d + 1) 195 0 [.ref 216, .null, .null] [] h Q
  refine ev_p (pc' := 2) (loc' := [.ref 216, .null, .null]) (st' := [.ref 216, .ref 216]) 2 am_q195 rfl ?_
  refine ev_s (pc' := 5) (loc' := [.ref 216, .null, .null]) (st' := [.int (am_gi h 216 51), .ref 216]) (h1 := h) am_q195 rfl rfl rfl (if_pos (e := none) (lk216 Ly)) ?_
  refine ev_c (vs := [.ref 216, .int (am_gi h 216 51)]) (rest := []) 192 am_q195 rfl rfl rfl rfl rfl rfl rfl rfl rfl rfl rfl rfl (Or.inr (congrArg some (lk216 Ly))) (Cl.mono H (Nat.le_refl _) (fun r2 h1 H => ?_))
  obtain ⟨x3, rfl, Ly, H⟩ := H
  refine ev_p (pc' := 10) (loc' := [.ref 216, .null, .null]) (st' := [.int (32 : Int32), .int x3]) 1 am_q195 rfl ?_
  refine ev_jc (t := 26) am_q195 rfl rfl (fun hq => ?_) (fun hq => ?_)
  · replace H := H.1 hq
    refine ev_p (pc' := 28) (loc' := [.ref 216, .null, .null]) (st' := [.ref 216, .ref 216]) 2 am_q195 rfl ?_
    refine ev_s (pc' := 31) (loc' := [.ref 216, .null, .null]) (st' := [.int (am_gi h1 216 51), .ref 216]) (h1 := h1) am_q195 rfl rfl rfl (if_pos (e := none) (lk216 Ly)) ?_
    refine ev_p (pc' := 33) (loc' := [.ref 216, .null, .null]) (st' := [.int ((am_gi h1 216 51) + (1 : Int32)), .ref 216]) 2 am_q195 rfl ?_
    refine ev_s (pc' := 36) (loc' := [.ref 216, .null, .null]) (st' := []) (h1 := am_si h1 216 51 ((am_gi h1 216 51) + (1 : Int32))) am_q195 rfl rfl rfl (if_pos (e := none) (lk216 Ly)) ?_
    replace H := H _ rfl
    replace Ly : Lay (am_si h1 216 51 ((am_gi h1 216 51) + (1 : Int32))) := Ly.si _ _ _
    generalize am_si h1 216 51 ((am_gi h1 216 51) + (1 : Int32)) = h4 at H Ly ⊢
    refine ev_p (pc' := 0) (loc' := [.ref 216, .null, .null]) (st' := []) 1 am_q195 rfl ?_
    exact ev_m (loc' := [.ref 216, .null, .null]) am_q195 rfl rfl H
  · replace H := H.2 hq
    refine ev_p (pc' := 15) (loc' := [.ref 216, .null, .null]) (st' := [.ref 216, .ref 216]) 2 am_q195 rfl ?_
    refine ev_s (pc' := 18) (loc' := [.ref 216, .null, .null]) (st' := [.int (am_gi h1 216 51), .ref 216]) (h1 := h1) am_q195 rfl rfl rfl (if_pos (e := none) (lk216 Ly)) ?_
    refine ev_c (vs := [.ref 216, .int (am_gi h1 216 51)]) (rest := []) 192 am_q195 rfl rfl rfl rfl rfl rfl rfl rfl rfl rfl rfl rfl (Or.inr (congrArg some (lk216 Ly))) (Cl.mono H (Nat.le_refl _) (fun r6 h5 H => ?_))
    obtain ⟨x7, rfl, Ly, H⟩ := H
    refine ev_p (pc' := 23) (loc' := [.ref 216, .null, .null]) (st' := [.int (10 : Int32), .int x7]) 1 am_q195 rfl ?_
    refine ev_jc (t := 39) am_q195 rfl rfl (fun hq => ?_) (fun hq => ?_)
    · replace H := H.1 hq
      refine ev_p (pc' := 41) (loc' := [.ref 216, .null, .null]) (st' := [.ref 216, .ref 216]) 2 am_q195 rfl ?_
      refine ev_s (pc' := 44) (loc' := [.ref 216, .null, .null]) (st' := [.int (am_gi h5 216 51), .ref 216]) (h1 := h5) am_q195 rfl rfl rfl (if_pos (e := none) (lk216 Ly)) ?_
      refine ev_s (pc' := 47) (loc' := [.ref 216, .null, .null]) (st' := []) (h1 := am_si h5 216 52 (am_gi h5 216 51)) am_q195 rfl rfl rfl (if_pos (e := none) (lk216 Ly)) ?_
      replace H := H _ rfl
      replace Ly : Lay (am_si h5 216 52 (am_gi h5 216 51)) := Ly.si _ _ _
      generalize am_si h5 216 52 (am_gi h5 216 51) = h8 at H Ly ⊢
      refine ev_p (pc' := 49) (loc' := [.ref 216, .null, .null]) (st' := [.ref 216, .ref 216]) 2 am_q195 rfl ?_
      refine ev_s (pc' := 52) (loc' := [.ref 216, .null, .null]) (st' := [.int (am_gi h8 216 51), .ref 216]) (h1 := h8) am_q195 rfl rfl rfl (if_pos (e := none) (lk216 Ly)) ?_
      refine ev_c (vs := [.ref 216, .int (am_gi h8 216 51)]) (rest := []) 192 am_q195 rfl rfl rfl rfl rfl rfl rfl rfl rfl rfl rfl rfl (Or.inr (congrArg some (lk216 Ly))) (Cl.mono H (Nat.le_refl _) (fun r10 h9 H => ?_))
      obtain ⟨x11, rfl, Ly, H⟩ := H
      refine ev_p (pc' := 58) (loc' := [.ref 216, .int x11, .null]) (st' := [.int (-1 : Int32), .int x11]) 3 am_q195 rfl ?_
      refine ev_jc (t := 69) am_q195 rfl rfl (fun hq => ?_) (fun hq => ?_)
      · replace H := H.1 hq
        refine ev_p (pc' := 70) (loc' := [.ref 216, .int x11, .null]) (st' := [.int x11]) 1 am_q195 rfl ?_
        refine ev_c (vs := [.int x11]) (rest := []) 193 am_q195 rfl rfl rfl rfl rfl rfl rfl rfl rfl rfl rfl rfl (Or.inl rfl) (Cl.mono H (Nat.le_refl _) (fun r13 h12 H => ?_))
        obtain ⟨x14, rfl, Ly, H⟩ := H
        refine ev_jz (t := 83) am_q195 rfl rfl (fun hq => ?_) (fun hq => ?_)
        · replace H := H.1 hq
          refine ev_p (pc' := 84) (loc' := [.ref 216, .int x11, .null]) (st' := [.int x11]) 1 am_q195 rfl ?_
          refine ev_c (vs := [.int x11]) (rest := []) 194 am_q195 rfl rfl rfl rfl rfl rfl rfl rfl rfl rfl rfl rfl (Or.inl rfl) (Cl.mono H (Nat.le_refl _) (fun r16 h15 H => ?_))
          obtain ⟨x17, rfl, Ly, H⟩ := H
          refine ev_jz (t := 97) am_q195 rfl rfl (fun hq => ?_) (fun hq => ?_)
          · replace H := H.1 hq
            refine ev_p (pc' := 100) (loc' := [.ref 216, .int x11, .null]) (st' := [.int (40 : Int32), .int x11]) 2 am_q195 rfl ?_
            refine ev_jc (t := 145) am_q195 rfl rfl (fun hq => ?_) (fun hq => ?_)
            · replace H := H.1 hq
              refine ev_p (pc' := 150) (loc' := [.ref 216, .int x11, .null]) (st' := [.int (1 : Int32)]) 2 am_q195 rfl ?_
              exact ev_m (loc' := [.ref 216, .int x11, .null]) am_q195 rfl rfl H
            · replace H := H.2 hq
              refine ev_p (pc' := 106) (loc' := [.ref 216, .int x11, .null]) (st' := [.int (41 : Int32), .int x11]) 2 am_q195 rfl ?_
              refine ev_jc (t := 145) am_q195 rfl rfl (fun hq => ?_) (fun hq => ?_)
              · replace H := H.1 hq
                refine ev_p (pc' := 150) (loc' := [.ref 216, .int x11, .null]) (st' := [.int (1 : Int32)]) 2 am_q195 rfl ?_
                exact ev_m (loc' := [.ref 216, .int x11, .null]) am_q195 rfl rfl H
              · replace H := H.2 hq
                refine ev_p (pc' := 112) (loc' := [.ref 216, .int x11, .null]) (st' := [.int (59 : Int32), .int x11]) 2 am_q195 rfl ?_
                refine ev_jc (t := 145) am_q195 rfl rfl (fun hq => ?_) (fun hq => ?_)
                · replace H := H.1 hq
                  refine ev_p (pc' := 150) (loc' := [.ref 216, .int x11, .null]) (st' := [.int (1 : Int32)]) 2 am_q195 rfl ?_
                  exact ev_m (loc' := [.ref 216, .int x11, .null]) am_q195 rfl rfl H
                · replace H := H.2 hq
                  refine ev_p (pc' := 118) (loc' := [.ref 216, .int x11, .null]) (st' := [.int (43 : Int32), .int x11]) 2 am_q195 rfl ?_
                  refine ev_jc (t := 145) am_q195 rfl rfl (fun hq => ?_) (fun hq => ?_)
                  · replace H := H.1 hq
                    refine ev_p (pc' := 150) (loc' := [.ref 216, .int x11, .null]) (st' := [.int (1 : Int32)]) 2 am_q195 rfl ?_
                    exact ev_m (loc' := [.ref 216, .int x11, .null]) am_q195 rfl rfl H
                  · replace H := H.2 hq
                    refine ev_p (pc' := 124) (loc' := [.ref 216, .int x11, .null]) (st' := [.int (45 : Int32), .int x11]) 2 am_q195 rfl ?_
                    refine ev_jc (t := 145) am_q195 rfl rfl (fun hq => ?_) (fun hq => ?_)
                    · replace H := H.1 hq
                      refine ev_p (pc' := 150) (loc' := [.ref 216, .int x11, .null]) (st' := [.int (1 : Int32)]) 2 am_q195 rfl ?_
                      exact ev_m (loc' := [.ref 216, .int x11, .null]) am_q195 rfl rfl H
                    · replace H := H.2 hq
                      refine ev_p (pc' := 130) (loc' := [.ref 216, .int x11, .null]) (st' := [.int (42 : Int32), .int x11]) 2 am_q195 rfl ?_
                      refine ev_jc (t := 145) am_q195 rfl rfl (fun hq => ?_) (fun hq => ?_)
                      · replace H := H.1 hq
                        refine ev_p (pc' := 150) (loc' := [.ref 216, .int x11, .null]) (st' := [.int (1 : Int32)]) 2 am_q195 rfl ?_
                        exact ev_m (loc' := [.ref 216, .int x11, .null]) am_q195 rfl rfl H
                      · replace H := H.2 hq
                        refine ev_p (pc' := 136) (loc' := [.ref 216, .int x11, .null]) (st' := [.int (60 : Int32), .int x11]) 2 am_q195 rfl ?_
                        refine ev_jc (t := 145) am_q195 rfl rfl (fun hq => ?_) (fun hq => ?_)
                        · replace H := H.1 hq
                          refine ev_p (pc' := 150) (loc' := [.ref 216, .int x11, .null]) (st' := [.int (1 : Int32)]) 2 am_q195 rfl ?_
                          exact ev_m (loc' := [.ref 216, .int x11, .null]) am_q195 rfl rfl H
                        · replace H := H.2 hq
                          refine ev_p (pc' := 142) (loc' := [.ref 216, .int x11, .null]) (st' := [.int (61 : Int32), .int x11]) 2 am_q195 rfl ?_
                          refine ev_jc (t := 149) am_q195 rfl rfl (fun hq => ?_) (fun hq => ?_)
                          · replace H := H.1 hq
                            refine ev_p (pc' := 150) (loc' := [.ref 216, .int x11, .null]) (st' := [.int (0 : Int32)]) 1 am_q195 rfl ?_
                            exact ev_m (loc' := [.ref 216, .int x11, .null]) am_q195 rfl rfl H
                          · replace H := H.2 hq
                            refine ev_p (pc' := 150) (loc' := [.ref 216, .int x11, .null]) (st' := [.int (1 : Int32)]) 2 am_q195 rfl ?_
                            exact ev_m (loc' := [.ref 216, .int x11, .null]) am_q195 rfl rfl H
          · replace H := H.2 hq
            refine ev_p (pc' := 91) (loc' := [.ref 216, .int x11, .null]) (st' := [.ref 216]) 1 am_q195 rfl ?_
            refine ev_c (vs := [.ref 216]) (rest := []) 196 am_q195 rfl rfl rfl rfl rfl rfl rfl rfl rfl rfl rfl rfl (Or.inr (congrArg some (lk216 Ly))) (Cl.mono H (Nat.le_refl _) (fun r19 h18 H => ?_))
            obtain ⟨rfl, Ly, H⟩ := H
            refine ev_p (pc' := 174) (loc' := [.ref 216, .int x11, .null]) (st' := []) 1 am_q195 rfl ?_
            exact ev_r (v := none) am_q195 rfl rfl rfl rfl H
        · replace H := H.2 hq
          refine ev_p (pc' := 77) (loc' := [.ref 216, .int x11, .null]) (st' := [.ref 216]) 1 am_q195 rfl ?_
          refine ev_c (vs := [.ref 216]) (rest := []) 197 am_q195 rfl rfl rfl rfl rfl rfl rfl rfl rfl rfl rfl rfl (Or.inr (congrArg some (lk216 Ly))) (Cl.mono H (Nat.le_refl _) (fun r21 h20 H => ?_))
          obtain ⟨rfl, Ly, H⟩ := H
          refine ev_p (pc' := 174) (loc' := [.ref 216, .int x11, .null]) (st' := []) 1 am_q195 rfl ?_
          exact ev_r (v := none) am_q195 rfl rfl rfl rfl H
      · replace H := H.2 hq
        refine ev_p (pc' := 63) (loc' := [.ref 216, .int x11, .null]) (st' := [.int (0 : Int32), .ref 216]) 2 am_q195 rfl ?_
        refine ev_s (pc' := 66) (loc' := [.ref 216, .int x11, .null]) (st' := []) (h1 := am_si h9 216 53 (0 : Int32)) am_q195 rfl rfl rfl (if_pos (e := none) (lk216 Ly)) ?_
        replace H := H _ rfl
        replace Ly : Lay (am_si h9 216 53 (0 : Int32)) := Ly.si _ _ _
        generalize am_si h9 216 53 (0 : Int32) = h22 at H Ly ⊢
        refine ev_p (pc' := 174) (loc' := [.ref 216, .int x11, .null]) (st' := []) 1 am_q195 rfl ?_
        exact ev_r (v := none) am_q195 rfl rfl rfl rfl H
    · replace H := H.2 hq
      refine ev_p (pc' := 28) (loc' := [.ref 216, .null, .null]) (st' := [.ref 216, .ref 216]) 2 am_q195 rfl ?_
      refine ev_s (pc' := 31) (loc' := [.ref 216, .null, .null]) (st' := [.int (am_gi h5 216 51), .ref 216]) (h1 := h5) am_q195 rfl rfl rfl (if_pos (e := none) (lk216 Ly)) ?_
      refine ev_p (pc' := 33) (loc' := [.ref 216, .null, .null]) (st' := [.int ((am_gi h5 216 51) + (1 : Int32)), .ref 216]) 2 am_q195 rfl ?_
      refine ev_s (pc' := 36) (loc' := [.ref 216, .null, .null]) (st' := []) (h1 := am_si h5 216 51 ((am_gi h5 216 51) + (1 : Int32))) am_q195 rfl rfl rfl (if_pos (e := none) (lk216 Ly)) ?_
      replace H := H _ rfl
      replace Ly : Lay (am_si h5 216 51 ((am_gi h5 216 51) + (1 : Int32))) := Ly.si _ _ _
      generalize am_si h5 216 51 ((am_gi h5 216 51) + (1 : Int32)) = h23 at H Ly ⊢
      refine ev_p (pc' := 0) (loc' := [.ref 216, .null, .null]) (st' := []) 1 am_q195 rfl ?_
      exact ev_m (loc' := [.ref 216, .null, .null]) am_q195 rfl rfl H
set_option maxRecDepth 20000 in
set_option maxHeartbeats 2000000 in
theorem ws195_150 {d : Nat}  (i1 : Int32) (s0 : Int32) {h : AH} {Q : Option Value → AH → Prop} (Ly : Lay h) (H : (s0 = (0 : Int32) → ∀ h1, h1 = am_si h 216 53 (2 : Int32) → ∀ h2, h2 = am_si h1 216 51 ((am_gi h1 216 51) + (1 : Int32)) → Q none h2) ∧ (¬ s0 = (0 : Int32) → ∀ h3, h3 = am_si h 216 53 i1 → ∀ h4, h4 = am_si h3 216 51 ((am_gi h3 216 51) + (1 : Int32)) → Q none h4)) : Ev (d + 1) 195 150 [.ref 216, .int i1, .null] [.int s0] h Q := by
  refine ev_p (pc' := 153) (loc' := [.ref 216, .int i1, .int s0]) (st' := [.int s0, .ref 216]) 3 am_q195 rfl ?_
  refine ev_jz (t := 160) am_q195 rfl rfl (fun hq => ?_) (fun hq => ?_)
  · replace H := H.1 hq
    refine ev_p (pc' := 161) (loc' := [.ref 216, .int i1, .int s0]) (st' := [.int (2 : Int32), .ref 216]) 1 am_q195 rfl ?_
    refine ev_s (pc' := 164) (loc' := [.ref 216, .null, .null]) (st' := []) (h1 := am_si h 216 53 (2 : Int32)) am_q195 rfl rfl rfl (if_pos (e := none) (lk216 Ly)) ?_
    replace H := H _ rfl
    replace Ly : Lay (am_si h 216 53 (2 : Int32)) := Ly.si _ _ _
    generalize am_si h 216 53 (2 : Int32) = h1 at H Ly ⊢
    refine ev_p (pc' := 166) (loc' := [.ref 216, .null, .null]) (st' := [.ref 216, .ref 216]) 2 am_q195 rfl ?_
    refine ev_s (pc' := 169) (loc' := [.ref 216, .null, .null]) (st' := [.int (am_gi h1 216 51), .ref 216]) (h1 := h1) am_q195 rfl rfl rfl (if_pos (e := none) (lk216 Ly)) ?_
    refine ev_p (pc' := 171) (loc' := [.ref 216, .null, .null]) (st' := [.int ((am_gi h1 216 51) + (1 : Int32)), .ref 216]) 2 am_q195 rfl ?_
    refine ev_s (pc' := 174) (loc' := [.ref 216, .null, .null]) (st' := []) (h1 := am_si h1 216 51 ((am_gi h1 216 51) + (1 : Int32))) am_q195 rfl rfl rfl (if_pos (e := none) (lk216 Ly)) ?_
    replace H := H _ rfl
    replace Ly : Lay (am_si h1 216 51 ((am_gi h1 216 51) + (1 : Int32))) := Ly.si _ _ _
    generalize am_si h1 216 51 ((am_gi h1 216 51) + (1 : Int32)) = h2 at H Ly ⊢
    exact ev_r (v := none) am_q195 rfl rfl rfl rfl H
  · replace H := H.2 hq
    refine ev_p (pc' := 161) (loc' := [.ref 216, .int i1, .int s0]) (st' := [.int i1, .ref 216]) 2 am_q195 rfl ?_
    refine ev_s (pc' := 164) (loc' := [.ref 216, .null, .null]) (st' := []) (h1 := am_si h 216 53 i1) am_q195 rfl rfl rfl (if_pos (e := none) (lk216 Ly)) ?_
    replace H := H _ rfl
    replace Ly : Lay (am_si h 216 53 i1) := Ly.si _ _ _
    generalize am_si h 216 53 i1 = h3 at H Ly ⊢
    refine ev_p (pc' := 166) (loc' := [.ref 216, .null, .null]) (st' := [.ref 216, .ref 216]) 2 am_q195 rfl ?_
    refine ev_s (pc' := 169) (loc' := [.ref 216, .null, .null]) (st' := [.int (am_gi h3 216 51), .ref 216]) (h1 := h3) am_q195 rfl rfl rfl (if_pos (e := none) (lk216 Ly)) ?_
    refine ev_p (pc' := 171) (loc' := [.ref 216, .null, .null]) (st' := [.int ((am_gi h3 216 51) + (1 : Int32)), .ref 216]) 2 am_q195 rfl ?_
    refine ev_s (pc' := 174) (loc' := [.ref 216, .null, .null]) (st' := []) (h1 := am_si h3 216 51 ((am_gi h3 216 51) + (1 : Int32))) am_q195 rfl rfl rfl (if_pos (e := none) (lk216 Ly)) ?_
    replace H := H _ rfl
    replace Ly : Lay (am_si h3 216 51 ((am_gi h3 216 51) + (1 : Int32))) := Ly.si _ _ _
    generalize am_si h3 216 51 ((am_gi h3 216 51) + (1 : Int32)) = h4 at H Ly ⊢
    exact ev_r (v := none) am_q195 rfl rfl rfl rfl H
/-! 196: X12_number -/
set_option maxRecDepth 20000 in
set_option maxHeartbeats 2000000 in
theorem ws196 {d : Nat}   {h : AH} {Q : Option Value → AH → Prop} (Ly : Lay h) (H : ∀ h1, h1 = am_si h 216 54 (0 : Int32) → Ev (d + 1) 196 5 [.ref 216] [] h1 Q) : Cl (d + 1) 196 [.ref 216] h Q := by
  show Ev (d + 1) 196 0 [.ref 216] [] h Q
  refine ev_p (pc' := 2) (loc' := [.ref 216]) (st' := [.int (0 : Int32), .ref 216]) 2 am_q196 rfl ?_
  refine ev_s (pc' := 5) (loc' := [.ref 216]) (st' := []) (h1 := am_si h 216 54 (0 : Int32)) am_q196 rfl rfl rfl (if_pos (e := none) (lk216 Ly)) ?_
  replace H := H _ rfl
  replace Ly : Lay (am_si h 216 54 (0 : Int32)) := Ly.si _ _ _
  generalize am_si h 216 54 (0 : Int32) = h1 at H Ly ⊢
  exact ev_m (loc' := [.ref 216]) am_q196 rfl rfl H
set_option maxRecDepth 20000 in
set_option maxHeartbeats 2000000 in
theorem ws196_5 {d : Nat}   {h : AH} {Q : Option Value → AH → Prop} (Ly : Lay h) (H : Cl d 192 [.ref 216, .int (am_gi h 216 51)] h (fun r2 h1 => ∃ x3, r2 = some (.int x3) ∧ Lay h1 ∧ Cl d 194 [.int x3] h1 (fun r5 h4 => ∃ x6, r5 = some (.int x6) ∧ Lay h4 ∧ (x6 = (0 : Int32) → (((am_gi h4 216 51) - (am_gi h4 216 52)) ≤ (6 : Int32) → ∀ h7, h7 = am_si h4 216 53 (1 : Int32) → Q none h7) ∧ (¬ ((am_gi h4 216 51) - (am_gi h4 216 52)) ≤ (6 : Int32) → ∀ h8, h8 = am_si h4 216 53 (2 : Int32) → Q none h8)) ∧ (¬ x6 = (0 : Int32) → ((6 : Int32) ≤ ((am_gi h4 216 51) - (am_gi h4 216 52)) → ∀ h9, h9 = am_si h4 216 54 (am_gi h4 216 54) → ∀ h10, h10 = am_si h9 216 51 ((am_gi h9 216 51) + (1 : Int32)) → Ev (d + 1) 196 5 [.ref 216] [] h10 Q) ∧ (¬ (6 : Int32) ≤ ((am_gi h4 216 51) - (am_gi h4 216 52)) → Cl d 192 [.ref 216, .int (am_gi h4 216 51)] h4 (fun r12 h11 => ∃ x13, r12 = some (.int x13) ∧ Lay h11 ∧ ∀ h14, h14 = am_si h11 216 54 ((((10 : Int32) * (am_gi h4 216 54)) + x13) - (48 : Int32)) → ∀ h15, h15 = am_si h14 216 51 ((am_gi h14 216 51) + (1 : Int32)) → Ev (d + 1) 196 5 [.ref 216] [] h15 Q)))))) : Ev (d + 1) 196 5 [.ref 216] [] h Q := by
  refine ev_p (pc' := 7) (loc' := [.ref 216]) (st' := [.ref 216, .ref 216]) 2 am_q196 rfl ?_
  refine ev_s (pc' := 10) (loc' := [.ref 216]) (st' := [.int (am_gi h 216 51), .ref 216]) (h1 := h) am_q196 rfl rfl rfl (if_pos (e := none) (lk216 Ly)) ?_
  refine ev_c (vs := [.ref 216, .int (am_gi h 216 51)]) (rest := []) 192 am_q196 rfl rfl rfl rfl rfl rfl rfl rfl rfl rfl rfl rfl (Or.inr (congrArg some (lk216 Ly))) (Cl.mono H (Nat.le_refl _) (fun r2 h1 H => ?_))
  obtain ⟨x3, rfl, Ly, H⟩ := H
  refine ev_c (vs := [.int x3]) (rest := []) 194 am_q196 rfl rfl rfl rfl rfl rfl rfl rfl rfl rfl rfl rfl (Or.inl rfl) (Cl.mono H (Nat.le_refl _) (fun r5 h4 H => ?_))
  obtain ⟨x6, rfl, Ly, H⟩ := H
  refine ev_jz (t := 76) am_q196 rfl rfl (fun hq => ?_) (fun hq => ?_)
  · replace H := H.1 hq
    refine ev_p (pc' := 78) (loc' := [.ref 216]) (st' := [.ref 216, .ref 216]) 2 am_q196 rfl ?_
    refine ev_s (pc' := 81) (loc' := [.ref 216]) (st' := [.int (am_gi h4 216 51), .ref 216]) (h1 := h4) am_q196 rfl rfl rfl (if_pos (e := none) (lk216 Ly)) ?_
    refine ev_p (pc' := 82) (loc' := [.ref 216]) (st' := [.ref 216, .int (am_gi h4 216 51), .ref 216]) 1 am_q196 rfl ?_
    refine ev_s (pc' := 85) (loc' := [.ref 216]) (st' := [.int (am_gi h4 216 52), .int (am_gi h4 216 51), .ref 216]) (h1 := h4) am_q196 rfl rfl rfl (if_pos (e := none) (lk216 Ly)) ?_
    refine ev_p (pc' := 88) (loc' := [.ref 216]) (st' := [.int (6 : Int32), .int ((am_gi h4 216 51) - (am_gi h4 216 52)), .ref 216]) 2 am_q196 rfl ?_
    refine ev_jc (t := 95) am_q196 rfl rfl (fun hq => ?_) (fun hq => ?_)
    · replace H := H.1 hq
      refine ev_p (pc' := 96) (loc' := [.ref 216]) (st' := [.int (1 : Int32), .ref 216]) 1 am_q196 rfl ?_
      refine ev_s (pc' := 99) (loc' := [.null]) (st' := []) (h1 := am_si h4 216 53 (1 : Int32)) am_q196 rfl rfl rfl (if_pos (e := none) (lk216 Ly)) ?_
      replace H := H _ rfl
      replace Ly : Lay (am_si h4 216 53 (1 : Int32)) := Ly.si _ _ _
      generalize am_si h4 216 53 (1 : Int32) = h7 at H Ly ⊢
      exact ev_r (v := none) am_q196 rfl rfl rfl rfl H
    · replace H := H.2 hq
      refine ev_p (pc' := 96) (loc' := [.ref 216]) (st' := [.int (2 : Int32), .ref 216]) 2 am_q196 rfl ?_
      refine ev_s (pc' := 99) (loc' := [.null]) (st' := []) (h1 := am_si h4 216 53 (2 : Int32)) am_q196 rfl rfl rfl (if_pos (e := none) (lk216 Ly)) ?_
      replace H := H _ rfl
      replace Ly : Lay (am_si h4 216 53 (2 : Int32)) := Ly.si _ _ _
      generalize am_si h4 216 53 (2 : Int32) = h8 at H Ly ⊢
      exact ev_r (v := none) am_q196 rfl rfl rfl rfl H
  · replace H := H.2 hq
    refine ev_p (pc' := 21) (loc' := [.ref 216]) (st' := [.ref 216, .ref 216]) 2 am_q196 rfl ?_
    refine ev_s (pc' := 24) (loc' := [.ref 216]) (st' := [.int (am_gi h4 216 51), .ref 216]) (h1 := h4) am_q196 rfl rfl rfl (if_pos (e := none) (lk216 Ly)) ?_
    refine ev_p (pc' := 25) (loc' := [.ref 216]) (st' := [.ref 216, .int (am_gi h4 216 51), .ref 216]) 1 am_q196 rfl ?_
    refine ev_s (pc' := 28) (loc' := [.ref 216]) (st' := [.int (am_gi h4 216 52), .int (am_gi h4 216 51), .ref 216]) (h1 := h4) am_q196 rfl rfl rfl (if_pos (e := none) (lk216 Ly)) ?_
    refine ev_p (pc' := 31) (loc' := [.ref 216]) (st' := [.int (6 : Int32), .int ((am_gi h4 216 51) - (am_gi h4 216 52)), .ref 216]) 2 am_q196 rfl ?_
    refine ev_jc (t := 56) am_q196 rfl rfl (fun hq => ?_) (fun hq => ?_)
    · replace H := H.1 hq
      refine ev_p (pc' := 57) (loc' := [.ref 216]) (st' := [.ref 216, .ref 216]) 1 am_q196 rfl ?_
      refine ev_s (pc' := 60) (loc' := [.ref 216]) (st' := [.int (am_gi h4 216 54), .ref 216]) (h1 := h4) am_q196 rfl rfl rfl (if_pos (e := none) (lk216 Ly)) ?_
      refine ev_s (pc' := 63) (loc' := [.ref 216]) (st' := []) (h1 := am_si h4 216 54 (am_gi h4 216 54)) am_q196 rfl rfl rfl (if_pos (e := none) (lk216 Ly)) ?_
      replace H := H _ rfl
      replace Ly : Lay (am_si h4 216 54 (am_gi h4 216 54)) := Ly.si _ _ _
      generalize am_si h4 216 54 (am_gi h4 216 54) = h9 at H Ly ⊢
      refine ev_p (pc' := 65) (loc' := [.ref 216]) (st' := [.ref 216, .ref 216]) 2 am_q196 rfl ?_
      refine ev_s (pc' := 68) (loc' := [.ref 216]) (st' := [.int (am_gi h9 216 51), .ref 216]) (h1 := h9) am_q196 rfl rfl rfl (if_pos (e := none) (lk216 Ly)) ?_
      refine ev_p (pc' := 70) (loc' := [.ref 216]) (st' := [.int ((am_gi h9 216 51) + (1 : Int32)), .ref 216]) 2 am_q196 rfl ?_
      refine ev_s (pc' := 73) (loc' := [.ref 216]) (st' := []) (h1 := am_si h9 216 51 ((am_gi h9 216 51) + (1 : Int32))) am_q196 rfl rfl rfl (if_pos (e := none) (lk216 Ly)) ?_
      replace H := H _ rfl
      replace Ly : Lay (am_si h9 216 51 ((am_gi h9 216 51) + (1 : Int32))) := Ly.si _ _ _
      generalize am_si h9 216 51 ((am_gi h9 216 51) + (1 : Int32)) = h10 at H Ly ⊢
      refine ev_p (pc' := 5) (loc' := [.ref 216]) (st' := []) 1 am_q196 rfl ?_
      exact ev_m (loc' := [.ref 216]) am_q196 rfl rfl H
    · replace H := H.2 hq
      refine ev_p (pc' := 37) (loc' := [.ref 216]) (st' := [.ref 216, .int (10 : Int32), .ref 216]) 2 am_q196 rfl ?_
      refine ev_s (pc' := 40) (loc' := [.ref 216]) (st' := [.int (am_gi h4 216 54), .int (10 : Int32), .ref 216]) (h1 := h4) am_q196 rfl rfl rfl (if_pos (e := none) (lk216 Ly)) ?_
      refine ev_p (pc' := 43) (loc' := [.ref 216]) (st' := [.ref 216, .ref 216, .int ((10 : Int32) * (am_gi h4 216 54)), .ref 216]) 3 am_q196 rfl ?_
      refine ev_s (pc' := 46) (loc' := [.ref 216]) (st' := [.int (am_gi h4 216 51), .ref 216, .int ((10 : Int32) * (am_gi h4 216 54)), .ref 216]) (h1 := h4) am_q196 rfl rfl rfl (if_pos (e := none) (lk216 Ly)) ?_
      refine ev_c (vs := [.ref 216, .int (am_gi h4 216 51)]) (rest := [.int ((10 : Int32) * (am_gi h4 216 54)), .ref 216]) 192 am_q196 rfl rfl rfl rfl rfl rfl rfl rfl rfl rfl rfl rfl (Or.inr (congrArg some (lk216 Ly))) (Cl.mono H (Nat.le_refl _) (fun r12 h11 H => ?_))
      obtain ⟨x13, rfl, Ly, H⟩ := H
      refine ev_p (pc' := 60) (loc' := [.ref 216]) (st' := [.int ((((10 : Int32) * (am_gi h4 216 54)) + x13) - (48 : Int32)), .ref 216]) 4 am_q196 rfl ?_
      refine ev_s (pc' := 63) (loc' := [.ref 216]) (st' := []) (h1 := am_si h11 216 54 ((((10 : Int32) * (am_gi h4 216 54)) + x13) - (48 : Int32))) am_q196 rfl rfl rfl (if_pos (e := none) (lk216 Ly)) ?_
      replace H := H _ rfl
      replace Ly : Lay (am_si h11 216 54 ((((10 : Int32) * (am_gi h4 216 54)) + x13) - (48 : Int32))) := Ly.si _ _ _
      generalize am_si h11 216 54 ((((10 : Int32) * (am_gi h4 216 54)) + x13) - (48 : Int32)) = h14 at H Ly ⊢
      refine ev_p (pc' := 65) (loc' := [.ref 216]) (st' := [.ref 216, .ref 216]) 2 am_q196 rfl ?_
      refine ev_s (pc' := 68) (loc' := [.ref 216]) (st' := [.int (am_gi h14 216 51), .ref 216]) (h1 := h14) am_q196 rfl rfl rfl (if_pos (e := none) (lk216 Ly)) ?_
      refine ev_p (pc' := 70) (loc' := [.ref 216]) (st' := [.int ((am_gi h14 216 51) + (1 : Int32)), .ref 216]) 2 am_q196 rfl ?_
      refine ev_s (pc' := 73) (loc' := [.ref 216]) (st' := []) (h1 := am_si h14 216 51 ((am_gi h14 216 51) + (1 : Int32))) am_q196 rfl rfl rfl (if_pos (e := none) (lk216 Ly)) ?_
      replace H := H _ rfl
      replace Ly : Lay (am_si h14 216 51 ((am_gi h14 216 51) + (1 : Int32))) := Ly.si _ _ _
      generalize am_si h14 216 51 ((am_gi h14 216 51) + (1 : Int32)) = h15 at H Ly ⊢
      refine ev_p (pc' := 5) (loc' := [.ref 216]) (st' := []) 1 am_q196 rfl ?_
      exact ev_m (loc' := [.ref 216]) am_q196 rfl rfl H
/-! 197: X12_word -/
set_option maxRecDepth 20000 in
set_option maxHeartbeats 2000000 in
theorem ws197 {d : Nat}   {h : AH} {Q : Option Value → AH → Prop} (Ly : Lay h) (H : Cl d 192 [.ref 216, .int (am_gi h 216 51)] h (fun r2 h1 => ∃ x3, r2 = some (.int x3) ∧ Lay h1 ∧ Cl d 193 [.int x3] h1 (fun r5 h4 => ∃ x6, r5 = some (.int x6) ∧ Lay h4 ∧ (x6 = (0 : Int32) → ∀ h7, h7 = am_si h4 216 53 (2 : Int32) → Ev (d + 1) 197 41 [.ref 216, .int (0 : Int32), .int (0 : Int32), .int (1 : Int32), .int (0 : Int32)] [] h7 Q) ∧ (¬ x6 = (0 : Int32) → ∀ h8, h8 = am_si h4 216 51 ((am_gi h4 216 51) + (1 : Int32)) → Ev (d + 1) 197 0 [.ref 216, .null, .null, .null, .null] [] h8 Q)))) : Cl (d + 1) 197 [.ref 216] h Q := by
  show Ev (d + 1) 197 0 [.ref 216, .null, .null, .null, .null] [] h Q
  refine ev_p (pc' := 2) (loc' := [.ref 216, .null, .null, .null, .null]) (st' := [.ref 216, .ref 216]) 2 am_q197 rfl ?_
  refine ev_s (pc' := 5) (loc' := [.ref 216, .null, .null, .null, .null]) (st' := [.int (am_gi h 216 51), .ref 216]) (h1 := h) am_q197 rfl rfl rfl (if_pos (e := none) (lk216 Ly)) ?_
  refine ev_c (vs := [.ref 216, .int (am_gi h 216 51)]) (rest := []) 192 am_q197 rfl rfl rfl rfl rfl rfl rfl rfl rfl rfl rfl rfl (Or.inr (congrArg some (lk216 Ly))) (Cl.mono H (Nat.le_refl _) (fun r2 h1 H => ?_))
  obtain ⟨x3, rfl, Ly, H⟩ := H
  refine ev_c (vs := [.int x3]) (rest := []) 193 am_q197 rfl rfl rfl rfl rfl rfl rfl rfl rfl rfl rfl rfl (Or.inl rfl) (Cl.mono H (Nat.le_refl _) (fun r5 h4 H => ?_))
  obtain ⟨x6, rfl, Ly, H⟩ := H
  refine ev_jz (t := 27) am_q197 rfl rfl (fun hq => ?_) (fun hq => ?_)
  · replace H := H.1 hq
    refine ev_p (pc' := 35) (loc' := [.ref 216, .int (0 : Int32), .int (0 : Int32), .int (1 : Int32), .null]) (st' := [.int (2 : Int32), .ref 216]) 8 am_q197 rfl ?_
    refine ev_s (pc' := 38) (loc' := [.ref 216, .int (0 : Int32), .int (0 : Int32), .int (1 : Int32), .null]) (st' := []) (h1 := am_si h4 216 53 (2 : Int32)) am_q197 rfl rfl rfl (if_pos (e := none) (lk216 Ly)) ?_
    replace H := H _ rfl
    replace Ly : Lay (am_si h4 216 53 (2 : Int32)) := Ly.si _ _ _
    generalize am_si h4 216 53 (2 : Int32) = h7 at H Ly ⊢
    refine ev_p (pc' := 41) (loc' := [.ref 216, .int (0 : Int32), .int (0 : Int32), .int (1 : Int32), .int (0 : Int32)]) (st' := []) 2 am_q197 rfl ?_
    exact ev_m (loc' := [.ref 216, .int (0 : Int32), .int (0 : Int32), .int (1 : Int32), .int (0 : Int32)]) am_q197 rfl rfl H
  · replace H := H.2 hq
    refine ev_p (pc' := 16) (loc' := [.ref 216, .null, .null, .null, .null]) (st' := [.ref 216, .ref 216]) 2 am_q197 rfl ?_
    refine ev_s (pc' := 19) (loc' := [.ref 216, .null, .null, .null, .null]) (st' := [.int (am_gi h4 216 51), .ref 216]) (h1 := h4) am_q197 rfl rfl rfl (if_pos (e := none) (lk216 Ly)) ?_
    refine ev_p (pc' := 21) (loc' := [.ref 216, .null, .null, .null, .null]) (st' := [.int ((am_gi h4 216 51) + (1 : Int32)), .ref 216]) 2 am_q197 rfl ?_
    refine ev_s (pc' := 24) (loc' := [.ref 216, .null, .null, .null, .null]) (st' := []) (h1 := am_si h4 216 51 ((am_gi h4 216 51) + (1 : Int32))) am_q197 rfl rfl rfl (if_pos (e := none) (lk216 Ly)) ?_
    replace H := H _ rfl
    replace Ly : Lay (am_si h4 216 51 ((am_gi h4 216 51) + (1 : Int32))) := Ly.si _ _ _
    generalize am_si h4 216 51 ((am_gi h4 216 51) + (1 : Int32)) = h8 at H Ly ⊢
    refine ev_p (pc' := 0) (loc' := [.ref 216, .null, .null, .null, .null]) (st' := []) 1 am_q197 rfl ?_
    exact ev_m (loc' := [.ref 216, .null, .null, .null, .null]) am_q197 rfl rfl H
set_option maxRecDepth 20000 in
set_option maxHeartbeats 2000000 in
theorem ws197_41 {d : Nat}  (i1 : Int32) (i2 : Int32) (i3 : Int32) (i4 : Int32) {h : AH} {Q : Option Value → AH → Prop} (Ly : Lay h) (H : ((Int32.ofNat (am_ln h 254)) ≤ i4 → Q none h) ∧ (¬ (Int32.ofNat (am_ln h 254)) ≤ i4 → am_in i4 85 ∧ ((¬ (am_gi h 254 (Int32.toNatClampNeg i4)) = (0 : Int32)) → (i3 = (0 : Int32) → Ev (d + 1) 197 41 [.ref 216, .int i1, .int (i2 + (1 : Int32)), .int (0 : Int32), .int (i4 + (1 : Int32))] [] h Q) ∧ (¬ i3 = (0 : Int32) → Cl d 192 [.ref 216, .int ((am_gi h 216 52) + i2)] h (fun r3 h2 => ∃ x4, r3 = some (.int x4) ∧ Lay h2 ∧ am_in i4 85 ∧ ((¬ x4 = (am_gi h2 254 (Int32.toNatClampNeg i4))) → Ev (d + 1) 197 41 [.ref 216, .int i1, .int (i2 + (1 : Int32)), .int (0 : Int32), .int (i4 + (1 : Int32))] [] h2 Q) ∧ (¬ (¬ x4 = (am_gi h2 254 (Int32.toNatClampNeg i4))) → (((am_gi h2 216 51) - (am_gi h2 216 52)) ≤ i2 → Ev (d + 1) 197 41 [.ref 216, .int i1, .int (i2 + (1 : Int32)), .int (0 : Int32), .int (i4 + (1 : Int32))] [] h2 Q) ∧ (¬ ((am_gi h2 216 51) - (am_gi h2 216 52)) ≤ i2 → Ev (d + 1) 197 41 [.ref 216, .int i1, .int (i2 + (1 : Int32)), .int (1 : Int32), .int (i4 + (1 : Int32))] [] h2 Q))))) ∧ (¬ (¬ (am_gi h 254 (Int32.toNatClampNeg i4)) = (0 : Int32)) → (i3 = (0 : Int32) → Ev (d + 1) 197 105 [.ref 216, .int i1, .null, .null, .int i4] [] h Q) ∧ (¬ i3 = (0 : Int32) → ((¬ i2 = ((am_gi h 216 51) - (am_gi h 216 52))) → Ev (d + 1) 197 105 [.ref 216, .int i1, .null, .null, .int i4] [] h Q) ∧ (¬ (¬ i2 = ((am_gi h 216 51) - (am_gi h 216 52))) → ((8 : Int32) ≤ i1 → ∀ h6, h6 = am_si h 216 53 (((300 : Int32) + i1) - (8 : Int32)) → ∀ h7, h7 = am_si h6 216 54 i1 → Ev (d + 1) 197 105 [.ref 216, .int i1, .null, .null, .int i4] [] h7 Q) ∧ (¬ (8 : Int32) ≤ i1 → ∀ h8, h8 = am_si h 216 53 (3 : Int32) → ∀ h9, h9 = am_si h8 216 54 i1 → Ev (d + 1) 197 105 [.ref 216, .int i1, .null, .null, .int i4] [] h9 Q)))))) : Ev (d + 1) 197 41 [.ref 216, .int i1, .int i2, .int i3, .int i4] [] h Q := by
  refine ev_p (pc' := 44) (loc' := [.ref 216, .int i1, .int i2, .int i3, .int i4]) (st' := [.ref 216, .int i4]) 2 am_q197 rfl ?_
  refine ev_s (pc' := 47) (loc' := [.ref 216, .int i1, .int i2, .int i3, .int i4]) (st' := [.ref 254, .int i4]) (h1 := h) am_q197 rfl rfl rfl (am_gf2 (lk216 Ly) (lr216_49 Ly)) ?_
  refine ev_s (pc' := 48) (loc' := [.ref 216, .int i1, .int i2, .int i3, .int i4]) (st' := [.int (Int32.ofNat (am_ln h 254)), .int i4]) (h1 := h) am_q197 rfl rfl rfl (if_pos (e := none) (am_rng (lk254 Ly) (by decide))) ?_
  refine ev_jc (t := 167) am_q197 rfl rfl (fun hq => ?_) (fun hq => ?_)
  · replace H := H.1 hq
    exact ev_r (v := none) am_q197 rfl rfl rfl rfl H
  · replace H := H.2 hq
    refine ev_p (pc' := 52) (loc' := [.ref 216, .int i1, .int i2, .int i3, .int i4]) (st' := [.ref 216]) 1 am_q197 rfl ?_
    refine ev_s (pc' := 55) (loc' := [.ref 216, .int i1, .int i2, .int i3, .int i4]) (st' := [.ref 254]) (h1 := h) am_q197 rfl rfl rfl (am_gf2 (lk216 Ly) (lr216_49 Ly)) ?_
    refine ev_p (pc' := 57) (loc' := [.ref 216, .int i1, .int i2, .int i3, .int i4]) (st' := [.int i4, .ref 254]) 1 am_q197 rfl ?_
    obtain ⟨g1, H⟩ := H
    refine ev_s (pc' := 58) (loc' := [.ref 216, .int i1, .int i2, .int i3, .int i4]) (st' := [.int (am_gi h 254 (Int32.toNatClampNeg i4))]) (h1 := h) am_q197 rfl rfl rfl (am_xx (lk254 Ly) (am_inl (ln254 Ly) g1)) ?_
    refine ev_jz (t := 115) am_q197 rfl rfl (fun hq => ?_) (fun hq => ?_)
    · replace H := H.1 hq
      refine ev_p (pc' := 116) (loc' := [.ref 216, .int i1, .int i2, .int i3, .int i4]) (st' := [.int i3]) 1 am_q197 rfl ?_
      refine ev_jz (t := 156) am_q197 rfl rfl (fun hq => ?_) (fun hq => ?_)
      · replace H := H.1 hq
        refine ev_p (pc' := 41) (loc' := [.ref 216, .int i1, .int (i2 + (1 : Int32)), .int (0 : Int32), .int (i4 + (1 : Int32))]) (st' := []) 5 am_q197 rfl ?_
        exact ev_m (loc' := [.ref 216, .int i1, .int (i2 + (1 : Int32)), .int (0 : Int32), .int (i4 + (1 : Int32))]) am_q197 rfl rfl H
      · replace H := H.2 hq
        refine ev_p (pc' := 121) (loc' := [.ref 216, .int i1, .int i2, .int i3, .int i4]) (st' := [.ref 216, .ref 216]) 2 am_q197 rfl ?_
        refine ev_s (pc' := 124) (loc' := [.ref 216, .int i1, .int i2, .int i3, .int i4]) (st' := [.int (am_gi h 216 52), .ref 216]) (h1 := h) am_q197 rfl rfl rfl (if_pos (e := none) (lk216 Ly)) ?_
        refine ev_p (pc' := 126) (loc' := [.ref 216, .int i1, .int i2, .int i3, .int i4]) (st' := [.int ((am_gi h 216 52) + i2), .ref 216]) 2 am_q197 rfl ?_
        refine ev_c (vs := [.ref 216, .int ((am_gi h 216 52) + i2)]) (rest := []) 192 am_q197 rfl rfl rfl rfl rfl rfl rfl rfl rfl rfl rfl rfl (Or.inr (congrArg some (lk216 Ly))) (Cl.mono H (Nat.le_refl _) (fun r3 h2 H => ?_))
        obtain ⟨x4, rfl, Ly, H⟩ := H
        refine ev_p (pc' := 130) (loc' := [.ref 216, .int i1, .int i2, .int i3, .int i4]) (st' := [.ref 216, .int x4]) 1 am_q197 rfl ?_
        refine ev_s (pc' := 133) (loc' := [.ref 216, .int i1, .int i2, .int i3, .int i4]) (st' := [.ref 254, .int x4]) (h1 := h2) am_q197 rfl rfl rfl (am_gf2 (lk216 Ly) (lr216_49 Ly)) ?_
        refine ev_p (pc' := 135) (loc' := [.ref 216, .int i1, .int i2, .int i3, .int i4]) (st' := [.int i4, .ref 254, .int x4]) 1 am_q197 rfl ?_
        obtain ⟨g5, H⟩ := H
        refine ev_s (pc' := 136) (loc' := [.ref 216, .int i1, .int i2, .int i3, .int i4]) (st' := [.int (am_gi h2 254 (Int32.toNatClampNeg i4)), .int x4]) (h1 := h2) am_q197 rfl rfl rfl (am_xx (lk254 Ly) (am_inl (ln254 Ly) g5)) ?_
        refine ev_jc (t := 156) am_q197 rfl rfl (fun hq => ?_) (fun hq => ?_)
        · replace H := H.1 hq
          refine ev_p (pc' := 41) (loc' := [.ref 216, .int i1, .int (i2 + (1 : Int32)), .int (0 : Int32), .int (i4 + (1 : Int32))]) (st' := []) 5 am_q197 rfl ?_
          exact ev_m (loc' := [.ref 216, .int i1, .int (i2 + (1 : Int32)), .int (0 : Int32), .int (i4 + (1 : Int32))]) am_q197 rfl rfl H
        · replace H := H.2 hq
          refine ev_p (pc' := 141) (loc' := [.ref 216, .int i1, .int i2, .int i3, .int i4]) (st' := [.ref 216, .int i2]) 2 am_q197 rfl ?_
          refine ev_s (pc' := 144) (loc' := [.ref 216, .int i1, .int i2, .int i3, .int i4]) (st' := [.int (am_gi h2 216 51), .int i2]) (h1 := h2) am_q197 rfl rfl rfl (if_pos (e := none) (lk216 Ly)) ?_
          refine ev_p (pc' := 145) (loc' := [.ref 216, .int i1, .int i2, .int i3, .int i4]) (st' := [.ref 216, .int (am_gi h2 216 51), .int i2]) 1 am_q197 rfl ?_
          refine ev_s (pc' := 148) (loc' := [.ref 216, .int i1, .int i2, .int i3, .int i4]) (st' := [.int (am_gi h2 216 52), .int (am_gi h2 216 51), .int i2]) (h1 := h2) am_q197 rfl rfl rfl (if_pos (e := none) (lk216 Ly)) ?_
          refine ev_p (pc' := 149) (loc' := [.ref 216, .int i1, .int i2, .int i3, .int i4]) (st' := [.int ((am_gi h2 216 51) - (am_gi h2 216 52)), .int i2]) 1 am_q197 rfl ?_
          refine ev_jc (t := 156) am_q197 rfl rfl (fun hq => ?_) (fun hq => ?_)
          · replace H := H.1 hq
            refine ev_p (pc' := 41) (loc' := [.ref 216, .int i1, .int (i2 + (1 : Int32)), .int (0 : Int32), .int (i4 + (1 : Int32))]) (st' := []) 5 am_q197 rfl ?_
            exact ev_m (loc' := [.ref 216, .int i1, .int (i2 + (1 : Int32)), .int (0 : Int32), .int (i4 + (1 : Int32))]) am_q197 rfl rfl H
          · replace H := H.2 hq
            refine ev_p (pc' := 41) (loc' := [.ref 216, .int i1, .int (i2 + (1 : Int32)), .int (1 : Int32), .int (i4 + (1 : Int32))]) (st' := []) 6 am_q197 rfl ?_
            exact ev_m (loc' := [.ref 216, .int i1, .int (i2 + (1 : Int32)), .int (1 : Int32), .int (i4 + (1 : Int32))]) am_q197 rfl rfl H
    · replace H := H.2 hq
      refine ev_p (pc' := 62) (loc' := [.ref 216, .int i1, .int i2, .int i3, .int i4]) (st' := [.int i3]) 1 am_q197 rfl ?_
      refine ev_jz (t := 105) am_q197 rfl rfl (fun hq => ?_) (fun hq => ?_)
      · replace H := H.1 hq
        exact ev_m (loc' := [.ref 216, .int i1, .null, .null, .int i4]) am_q197 rfl rfl H
      · replace H := H.2 hq
        refine ev_p (pc' := 67) (loc' := [.ref 216, .int i1, .int i2, .int i3, .int i4]) (st' := [.ref 216, .int i2]) 2 am_q197 rfl ?_
        refine ev_s (pc' := 70) (loc' := [.ref 216, .int i1, .int i2, .int i3, .int i4]) (st' := [.int (am_gi h 216 51), .int i2]) (h1 := h) am_q197 rfl rfl rfl (if_pos (e := none) (lk216 Ly)) ?_
        refine ev_p (pc' := 71) (loc' := [.ref 216, .int i1, .int i2, .int i3, .int i4]) (st' := [.ref 216, .int (am_gi h 216 51), .int i2]) 1 am_q197 rfl ?_
        refine ev_s (pc' := 74) (loc' := [.ref 216, .int i1, .int i2, .int i3, .int i4]) (st' := [.int (am_gi h 216 52), .int (am_gi h 216 51), .int i2]) (h1 := h) am_q197 rfl rfl rfl (if_pos (e := none) (lk216 Ly)) ?_
        refine ev_p (pc' := 75) (loc' := [.ref 216, .int i1, .int i2, .int i3, .int i4]) (st' := [.int ((am_gi h 216 51) - (am_gi h 216 52)), .int i2]) 1 am_q197 rfl ?_
        refine ev_jc (t := 105) am_q197 rfl rfl (fun hq => ?_) (fun hq => ?_)
        · replace H := H.1 hq
          exact ev_m (loc' := [.ref 216, .int i1, .null, .null, .int i4]) am_q197 rfl rfl H
        · replace H := H.2 hq
          refine ev_p (pc' := 82) (loc' := [.ref 216, .int i1, .int i2, .int i3, .int i4]) (st' := [.int (8 : Int32), .int i1, .ref 216]) 3 am_q197 rfl ?_
          refine ev_jc (t := 89) am_q197 rfl rfl (fun hq => ?_) (fun hq => ?_)
          · replace H := H.1 hq
            refine ev_p (pc' := 97) (loc' := [.ref 216, .int i1, .int i2, .int i3, .int i4]) (st' := [.int (((300 : Int32) + i1) - (8 : Int32)), .ref 216]) 5 am_q197 rfl ?_
            refine ev_s (pc' := 100) (loc' := [.ref 216, .int i1, .null, .null, .int i4]) (st' := []) (h1 := am_si h 216 53 (((300 : Int32) + i1) - (8 : Int32))) am_q197 rfl rfl rfl (if_pos (e := none) (lk216 Ly)) ?_
            replace H := H _ rfl
            replace Ly : Lay (am_si h 216 53 (((300 : Int32) + i1) - (8 : Int32))) := Ly.si _ _ _
            generalize am_si h 216 53 (((300 : Int32) + i1) - (8 : Int32)) = h6 at H Ly ⊢
            refine ev_p (pc' := 102) (loc' := [.ref 216, .int i1, .null, .null, .int i4]) (st' := [.int i1, .ref 216]) 2 am_q197 rfl ?_
            refine ev_s (pc' := 105) (loc' := [.ref 216, .int i1, .null, .null, .int i4]) (st' := []) (h1 := am_si h6 216 54 i1) am_q197 rfl rfl rfl (if_pos (e := none) (lk216 Ly)) ?_
            replace H := H _ rfl
            replace Ly : Lay (am_si h6 216 54 i1) := Ly.si _ _ _
            generalize am_si h6 216 54 i1 = h7 at H Ly ⊢
            exact ev_m (loc' := [.ref 216, .int i1, .null, .null, .int i4]) am_q197 rfl rfl H
          · replace H := H.2 hq
            refine ev_p (pc' := 97) (loc' := [.ref 216, .int i1, .int i2, .int i3, .int i4]) (st' := [.int (3 : Int32), .ref 216]) 2 am_q197 rfl ?_
            refine ev_s (pc' := 100) (loc' := [.ref 216, .int i1, .null, .null, .int i4]) (st' := []) (h1 := am_si h 216 53 (3 : Int32)) am_q197 rfl rfl rfl (if_pos (e := none) (lk216 Ly)) ?_
            replace H := H _ rfl
            replace Ly : Lay (am_si h 216 53 (3 : Int32)) := Ly.si _ _ _
            generalize am_si h 216 53 (3 : Int32) = h8 at H Ly ⊢
            refine ev_p (pc' := 102) (loc' := [.ref 216, .int i1, .null, .null, .int i4]) (st' := [.int i1, .ref 216]) 2 am_q197 rfl ?_
            refine ev_s (pc' := 105) (loc' := [.ref 216, .int i1, .null, .null, .int i4]) (st' := []) (h1 := am_si h8 216 54 i1) am_q197 rfl rfl rfl (if_pos (e := none) (lk216 Ly)) ?_
            replace H := H _ rfl
            replace Ly : Lay (am_si h8 216 54 i1) := Ly.si _ _ _
            generalize am_si h8 216 54 i1 = h9 at H Ly ⊢
            exact ev_m (loc' := [.ref 216, .int i1, .null, .null, .int i4]) am_q197 rfl rfl H
set_option maxRecDepth 20000 in
set_option maxHeartbeats 2000000 in
theorem ws197_105 {d : Nat}  (i1 : Int32) (i4 : Int32) {h : AH} {Q : Option Value → AH → Prop} (Ly : Lay h) (H : Ev (d + 1) 197 41 [.ref 216, .int (i1 + (1 : Int32)), .int (0 : Int32), .int (1 : Int32), .int (i4 + (1 : Int32))] [] h Q) : Ev (d + 1) 197 105 [.ref 216, .int i1, .null, .null, .int i4] [] h Q := by
  refine ev_p (pc' := 41) (loc' := [.ref 216, .int (i1 + (1 : Int32)), .int (0 : Int32), .int (1 : Int32), .int (i4 + (1 : Int32))]) (st' := []) 8 am_q197 rfl ?_
  exact ev_m (loc' := [.ref 216, .int (i1 + (1 : Int32)), .int (0 : Int32), .int (1 : Int32), .int (i4 + (1 : Int32))]) am_q197 rfl rfl H
/-! 198: X12_isWrong -/
set_option maxRecDepth 20000 in
set_option maxHeartbeats 2000000 in
theorem ws198 {d : Nat}   {h : AH} {Q : Option Value → AH → Prop} (Ly : Lay h) (H : ((am_gi h 216 55) = (-1 : Int32) → Q (some (.int (0 : Int32))) h) ∧ (¬ (am_gi h 216 55) = (-1 : Int32) → Q (some (.int (1 : Int32))) h)) : Cl d 198 [.ref 216] h Q := by
  show Ev d 198 0 [.ref 216] [] h Q
  refine ev_p (pc' := 1) (loc' := [.ref 216]) (st' := [.ref 216]) 1 am_q198 rfl ?_
  refine ev_s (pc' := 4) (loc' := [.ref 216]) (st' := [.int (am_gi h 216 55)]) (h1 := h) am_q198 rfl rfl rfl (if_pos (e := none) (lk216 Ly)) ?_
  refine ev_p (pc' := 5) (loc' := [.ref 216]) (st' := [.int (-1 : Int32), .int (am_gi h 216 55)]) 1 am_q198 rfl ?_
  refine ev_jc (t := 12) am_q198 rfl rfl (fun hq => ?_) (fun hq => ?_)
  · replace H := H.1 hq
    refine ev_p (pc' := 13) (loc' := [.ref 216]) (st' := [.int (0 : Int32)]) 1 am_q198 rfl ?_
    exact ev_r (v := some (.int (0 : Int32))) am_q198 rfl rfl rfl rfl H
  · replace H := H.2 hq
    refine ev_p (pc' := 13) (loc' := [.ref 216]) (st' := [.int (1 : Int32)]) 2 am_q198 rfl ?_
    exact ev_r (v := some (.int (1 : Int32))) am_q198 rfl rfl rfl rfl H
/-! 199: X12_cannot -/
set_option maxRecDepth 20000 in
set_option maxHeartbeats 2000000 in
theorem ws199 {d : Nat}   {h : AH} {Q : Option Value → AH → Prop} (Ly : Lay h) (H : ((¬ (am_gi h 216 55) = (-1 : Int32)) → ∀ h1, h1 = am_si h 216 55 (am_gi h 216 55) → Q none h1) ∧ (¬ (¬ (am_gi h 216 55) = (-1 : Int32)) → ∀ h2, h2 = am_si h 216 55 (am_gi h 216 52) → Q none h2)) : Cl d 199 [.ref 216] h Q := by
  show Ev d 199 0 [.ref 216] [] h Q
  refine ev_p (pc' := 2) (loc' := [.ref 216]) (st' := [.ref 216, .ref 216]) 2 am_q199 rfl ?_
  refine ev_s (pc' := 5) (loc' := [.ref 216]) (st' := [.int (am_gi h 216 55), .ref 216]) (h1 := h) am_q199 rfl rfl rfl (if_pos (e := none) (lk216 Ly)) ?_
  refine ev_p (pc' := 6) (loc' := [.ref 216]) (st' := [.int (-1 : Int32), .int (am_gi h 216 55), .ref 216]) 1 am_q199 rfl ?_
  refine ev_jc (t := 16) am_q199 rfl rfl (fun hq => ?_) (fun hq => ?_)
  · replace H := H.1 hq
    refine ev_p (pc' := 17) (loc' := [.ref 216]) (st' := [.ref 216, .ref 216]) 1 am_q199 rfl ?_
    refine ev_s (pc' := 20) (loc' := [.ref 216]) (st' := [.int (am_gi h 216 55), .ref 216]) (h1 := h) am_q199 rfl rfl rfl (if_pos (e := none) (lk216 Ly)) ?_
    refine ev_s (pc' := 23) (loc' := [.null]) (st' := []) (h1 := am_si h 216 55 (am_gi h 216 55)) am_q199 rfl rfl rfl (if_pos (e := none) (lk216 Ly)) ?_
    replace H := H _ rfl
    replace Ly : Lay (am_si h 216 55 (am_gi h 216 55)) := Ly.si _ _ _
    generalize am_si h 216 55 (am_gi h 216 55) = h1 at H Ly ⊢
    exact ev_r (v := none) am_q199 rfl rfl rfl rfl H
  · replace H := H.2 hq
    refine ev_p (pc' := 10) (loc' := [.ref 216]) (st' := [.ref 216, .ref 216]) 1 am_q199 rfl ?_
    refine ev_s (pc' := 13) (loc' := [.ref 216]) (st' := [.int (am_gi h 216 52), .ref 216]) (h1 := h) am_q199 rfl rfl rfl (if_pos (e := none) (lk216 Ly)) ?_
    refine ev_p (pc' := 20) (loc' := [.ref 216]) (st' := [.int (am_gi h 216 52), .ref 216]) 1 am_q199 rfl ?_
    refine ev_s (pc' := 23) (loc' := [.null]) (st' := []) (h1 := am_si h 216 55 (am_gi h 216 52)) am_q199 rfl rfl rfl (if_pos (e := none) (lk216 Ly)) ?_
    replace H := H _ rfl
    replace Ly : Lay (am_si h 216 55 (am_gi h 216 52)) := Ly.si _ _ _
    generalize am_si h 216 55 (am_gi h 216 52) = h2 at H Ly ⊢
    exact ev_r (v := none) am_q199 rfl rfl rfl rfl H
/-! 200: X12_need -/
set_option maxRecDepth 20000 in
set_option maxHeartbeats 2000000 in
theorem ws200 {d : Nat}  (i1 : Int32) {h : AH} {Q : Option Value → AH → Prop} (Ly : Lay h) (H : Cl d 198 [.ref 216] h (fun r2 h1 => ∃ x3, r2 = some (.int x3) ∧ Lay h1 ∧ (x3 = (0 : Int32) → ((am_gi h1 216 53) = i1 → Cl d 195 [.ref 216] h1 (fun r5 h4 => r5 = none ∧ Lay h4 ∧ Q none h4)) ∧ (¬ (am_gi h1 216 53) = i1 → Cl d 199 [.ref 216] h1 (fun r7 h6 => r7 = none ∧ Lay h6 ∧ Q none h6))) ∧ (¬ x3 = (0 : Int32) → Q none h1))) : Cl (d + 1) 200 [.ref 216, .int i1] h Q := by
  show Ev (d + 1) 200 0 [.ref 216, .int i1] [] h Q
  refine ev_p (pc' := 1) (loc' := [.ref 216, .int i1]) (st' := [.ref 216]) 1 am_q200 rfl ?_
  refine ev_c (vs := [.ref 216]) (rest := []) 198 am_q200 rfl rfl rfl rfl rfl rfl rfl rfl rfl rfl rfl rfl (Or.inr (congrArg some (lk216 Ly))) (Cl.mono H (Nat.le_refl _) (fun r2 h1 H => ?_))
  obtain ⟨x3, rfl, Ly, H⟩ := H
  refine ev_jz (t := 8) am_q200 rfl rfl (fun hq => ?_) (fun hq => ?_)
  · replace H := H.1 hq
    refine ev_p (pc' := 9) (loc' := [.ref 216, .int i1]) (st' := [.ref 216]) 1 am_q200 rfl ?_
    refine ev_s (pc' := 12) (loc' := [.ref 216, .int i1]) (st' := [.int (am_gi h1 216 53)]) (h1 := h1) am_q200 rfl rfl rfl (if_pos (e := none) (lk216 Ly)) ?_
    refine ev_p (pc' := 13) (loc' := [.ref 216, .int i1]) (st' := [.int i1, .int (am_gi h1 216 53)]) 1 am_q200 rfl ?_
    refine ev_jc (t := 23) am_q200 rfl rfl (fun hq => ?_) (fun hq => ?_)
    · replace H := H.1 hq
      refine ev_p (pc' := 24) (loc' := [.ref 216, .int i1]) (st' := [.ref 216]) 1 am_q200 rfl ?_
      refine ev_c (vs := [.ref 216]) (rest := []) 195 am_q200 rfl rfl rfl rfl rfl rfl rfl rfl rfl rfl rfl rfl (Or.inr (congrArg some (lk216 Ly))) (Cl.mono H (Nat.le_refl _) (fun r5 h4 H => ?_))
      obtain ⟨rfl, Ly, H⟩ := H
      exact ev_r (v := none) am_q200 rfl rfl rfl rfl H
    · replace H := H.2 hq
      refine ev_p (pc' := 17) (loc' := [.ref 216, .int i1]) (st' := [.ref 216]) 1 am_q200 rfl ?_
      refine ev_c (vs := [.ref 216]) (rest := []) 199 am_q200 rfl rfl rfl rfl rfl rfl rfl rfl rfl rfl rfl rfl (Or.inr (congrArg some (lk216 Ly))) (Cl.mono H (Nat.le_refl _) (fun r7 h6 H => ?_))
      obtain ⟨rfl, Ly, H⟩ := H
      refine ev_p (pc' := 27) (loc' := [.ref 216, .int i1]) (st' := []) 1 am_q200 rfl ?_
      exact ev_r (v := none) am_q200 rfl rfl rfl rfl H
  · replace H := H.2 hq
    exact ev_r (v := none) am_q200 rfl rfl rfl rfl H
/-! 201: X12_opens -/
set_option maxRecDepth 20000 in
set_option maxHeartbeats 2000000 in
theorem ws201 {d : Nat}   {h : AH} {Q : Option Value → AH → Prop} (Ly : Lay h) (H : ((¬ (am_gi h 216 57) = (8 : Int32)) → ∀ h1, h1 = am_si h 216 57 ((am_gi h 216 57) + (1 : Int32)) → Cl d 198 [.ref 216] h1 (fun r3 h2 => ∃ x4, r3 = some (.int x4) ∧ Lay h2 ∧ ((¬ x4 = (0 : Int32)) → Q none h2) ∧ (¬ (¬ x4 = (0 : Int32)) → Cl d 195 [.ref 216] h2 (fun r6 h5 => r6 = none ∧ Lay h5 ∧ Q none h5)))) ∧ (¬ (¬ (am_gi h 216 57) = (8 : Int32)) → Cl d 199 [.ref 216] h (fun r8 h7 => r8 = none ∧ Lay h7 ∧ ∀ h9, h9 = am_si h7 216 57 ((am_gi h7 216 57) + (1 : Int32)) → Cl d 198 [.ref 216] h9 (fun r11 h10 => ∃ x12, r11 = some (.int x12) ∧ Lay h10 ∧ ((¬ x12 = (0 : Int32)) → Q none h10) ∧ (¬ (¬ x12 = (0 : Int32)) → Cl d 195 [.ref 216] h10 (fun r14 h13 => r14 = none ∧ Lay h13 ∧ Q none h13)))))) : Cl (d + 1) 201 [.ref 216] h Q := by
  show Ev (d + 1) 201 0 [.ref 216] [] h Q
  refine ev_p (pc' := 1) (loc' := [.ref 216]) (st' := [.ref 216]) 1 am_q201 rfl ?_
  refine ev_s (pc' := 4) (loc' := [.ref 216]) (st' := [.int (am_gi h 216 57)]) (h1 := h) am_q201 rfl rfl rfl (if_pos (e := none) (lk216 Ly)) ?_
  refine ev_p (pc' := 6) (loc' := [.ref 216]) (st' := [.int (8 : Int32), .int (am_gi h 216 57)]) 1 am_q201 rfl ?_
  refine ev_jc (t := 13) am_q201 rfl rfl (fun hq => ?_) (fun hq => ?_)
  · replace H := H.1 hq
    refine ev_p (pc' := 15) (loc' := [.ref 216]) (st' := [.ref 216, .ref 216]) 2 am_q201 rfl ?_
    refine ev_s (pc' := 18) (loc' := [.ref 216]) (st' := [.int (am_gi h 216 57), .ref 216]) (h1 := h) am_q201 rfl rfl rfl (if_pos (e := none) (lk216 Ly)) ?_
    refine ev_p (pc' := 20) (loc' := [.ref 216]) (st' := [.int ((am_gi h 216 57) + (1 : Int32)), .ref 216]) 2 am_q201 rfl ?_
    refine ev_s (pc' := 23) (loc' := [.ref 216]) (st' := []) (h1 := am_si h 216 57 ((am_gi h 216 57) + (1 : Int32))) am_q201 rfl rfl rfl (if_pos (e := none) (lk216 Ly)) ?_
    replace H := H _ rfl
    replace Ly : Lay (am_si h 216 57 ((am_gi h 216 57) + (1 : Int32))) := Ly.si _ _ _
    generalize am_si h 216 57 ((am_gi h 216 57) + (1 : Int32)) = h1 at H Ly ⊢
    refine ev_p (pc' := 24) (loc' := [.ref 216]) (st' := [.ref 216]) 1 am_q201 rfl ?_
    refine ev_c (vs := [.ref 216]) (rest := []) 198 am_q201 rfl rfl rfl rfl rfl rfl rfl rfl rfl rfl rfl rfl (Or.inr (congrArg some (lk216 Ly))) (Cl.mono H (Nat.le_refl _) (fun r3 h2 H => ?_))
    obtain ⟨x4, rfl, Ly, H⟩ := H
    refine ev_jz (t := 34) am_q201 rfl rfl (fun hq => ?_) (fun hq => ?_)
    · replace H := H.1 hq
      exact ev_r (v := none) am_q201 rfl rfl rfl rfl H
    · replace H := H.2 hq
      refine ev_p (pc' := 31) (loc' := [.ref 216]) (st' := [.ref 216]) 1 am_q201 rfl ?_
      refine ev_c (vs := [.ref 216]) (rest := []) 195 am_q201 rfl rfl rfl rfl rfl rfl rfl rfl rfl rfl rfl rfl (Or.inr (congrArg some (lk216 Ly))) (Cl.mono H (Nat.le_refl _) (fun r6 h5 H => ?_))
      obtain ⟨rfl, Ly, H⟩ := H
      exact ev_r (v := none) am_q201 rfl rfl rfl rfl H
  · replace H := H.2 hq
    refine ev_p (pc' := 10) (loc' := [.ref 216]) (st' := [.ref 216]) 1 am_q201 rfl ?_
    refine ev_c (vs := [.ref 216]) (rest := []) 199 am_q201 rfl rfl rfl rfl rfl rfl rfl rfl rfl rfl rfl rfl (Or.inr (congrArg some (lk216 Ly))) (Cl.mono H (Nat.le_refl _) (fun r8 h7 H => ?_))
    obtain ⟨rfl, Ly, H⟩ := H
    refine ev_p (pc' := 15) (loc' := [.ref 216]) (st' := [.ref 216, .ref 216]) 2 am_q201 rfl ?_
    refine ev_s (pc' := 18) (loc' := [.ref 216]) (st' := [.int (am_gi h7 216 57), .ref 216]) (h1 := h7) am_q201 rfl rfl rfl (if_pos (e := none) (lk216 Ly)) ?_
    refine ev_p (pc' := 20) (loc' := [.ref 216]) (st' := [.int ((am_gi h7 216 57) + (1 : Int32)), .ref 216]) 2 am_q201 rfl ?_
    refine ev_s (pc' := 23) (loc' := [.ref 216]) (st' := []) (h1 := am_si h7 216 57 ((am_gi h7 216 57) + (1 : Int32))) am_q201 rfl rfl rfl (if_pos (e := none) (lk216 Ly)) ?_
    replace H := H _ rfl
    replace Ly : Lay (am_si h7 216 57 ((am_gi h7 216 57) + (1 : Int32))) := Ly.si _ _ _
    generalize am_si h7 216 57 ((am_gi h7 216 57) + (1 : Int32)) = h9 at H Ly ⊢
    refine ev_p (pc' := 24) (loc' := [.ref 216]) (st' := [.ref 216]) 1 am_q201 rfl ?_
    refine ev_c (vs := [.ref 216]) (rest := []) 198 am_q201 rfl rfl rfl rfl rfl rfl rfl rfl rfl rfl rfl rfl (Or.inr (congrArg some (lk216 Ly))) (Cl.mono H (Nat.le_refl _) (fun r11 h10 H => ?_))
    obtain ⟨x12, rfl, Ly, H⟩ := H
    refine ev_jz (t := 34) am_q201 rfl rfl (fun hq => ?_) (fun hq => ?_)
    · replace H := H.1 hq
      exact ev_r (v := none) am_q201 rfl rfl rfl rfl H
    · replace H := H.2 hq
      refine ev_p (pc' := 31) (loc' := [.ref 216]) (st' := [.ref 216]) 1 am_q201 rfl ?_
      refine ev_c (vs := [.ref 216]) (rest := []) 195 am_q201 rfl rfl rfl rfl rfl rfl rfl rfl rfl rfl rfl rfl (Or.inr (congrArg some (lk216 Ly))) (Cl.mono H (Nat.le_refl _) (fun r14 h13 H => ?_))
      obtain ⟨rfl, Ly, H⟩ := H
      exact ev_r (v := none) am_q201 rfl rfl rfl rfl H
/-! 202: X12_emit -/
set_option maxRecDepth 20000 in
set_option maxHeartbeats 2000000 in
theorem ws202 {d : Nat}  (i1 : Int32) (i2 : Int32) {h : AH} {Q : Option Value → AH → Prop} (Ly : Lay h) (H : am_in (((400 : Int32) * (am_gi h 216 50)) + (am_gi h 216 58)) 5200 ∧ ∀ h2, h2 = am_si h 237 (Int32.toNatClampNeg (((400 : Int32) * (am_gi h 216 50)) + (am_gi h 216 58))) i1 → am_in (((400 : Int32) * (am_gi h2 216 50)) + (am_gi h2 216 58)) 5200 ∧ ∀ h4, h4 = am_si h2 238 (Int32.toNatClampNeg (((400 : Int32) * (am_gi h2 216 50)) + (am_gi h2 216 58))) i2 → ∀ h5, h5 = am_si h4 216 58 ((am_gi h4 216 58) + (1 : Int32)) → Q none h5) : Cl d 202 [.ref 216, .int i1, .int i2] h Q := by
  show Ev d 202 0 [.ref 216, .int i1, .int i2] [] h Q
  refine ev_p (pc' := 1) (loc' := [.ref 216, .int i1, .int i2]) (st' := [.ref 216]) 1 am_q202 rfl ?_
  refine ev_s (pc' := 4) (loc' := [.ref 216, .int i1, .int i2]) (st' := [.ref 237]) (h1 := h) am_q202 rfl rfl rfl (am_gf2 (lk216 Ly) (lr216_26 Ly)) ?_
  refine ev_p (pc' := 8) (loc' := [.ref 216, .int i1, .int i2]) (st' := [.ref 216, .int (400 : Int32), .ref 237]) 2 am_q202 rfl ?_
  refine ev_s (pc' := 11) (loc' := [.ref 216, .int i1, .int i2]) (st' := [.int (am_gi h 216 50), .int (400 : Int32), .ref 237]) (h1 := h) am_q202 rfl rfl rfl (if_pos (e := none) (lk216 Ly)) ?_
  refine ev_p (pc' := 13) (loc' := [.ref 216, .int i1, .int i2]) (st' := [.ref 216, .int ((400 : Int32) * (am_gi h 216 50)), .ref 237]) 2 am_q202 rfl ?_
  refine ev_s (pc' := 16) (loc' := [.ref 216, .int i1, .int i2]) (st' := [.int (am_gi h 216 58), .int ((400 : Int32) * (am_gi h 216 50)), .ref 237]) (h1 := h) am_q202 rfl rfl rfl (if_pos (e := none) (lk216 Ly)) ?_
  refine ev_p (pc' := 18) (loc' := [.ref 216, .int i1, .int i2]) (st' := [.int i1, .int (((400 : Int32) * (am_gi h 216 50)) + (am_gi h 216 58)), .ref 237]) 2 am_q202 rfl ?_
  obtain ⟨g1, H⟩ := H
  refine ev_s (pc' := 19) (loc' := [.ref 216, .int i1, .int i2]) (st' := []) (h1 := am_si h 237 (Int32.toNatClampNeg (((400 : Int32) * (am_gi h 216 50)) + (am_gi h 216 58))) i1) am_q202 rfl rfl rfl (am_xx ⟨lk237 Ly, (Nat.le_of_ble_eq_true rfl)⟩ (am_inl (ln237 Ly) g1)) ?_
  replace H := H _ rfl
  replace Ly : Lay (am_si h 237 (Int32.toNatClampNeg (((400 : Int32) * (am_gi h 216 50)) + (am_gi h 216 58))) i1) := Ly.si _ _ _
  generalize am_si h 237 (Int32.toNatClampNeg (((400 : Int32) * (am_gi h 216 50)) + (am_gi h 216 58))) i1 = h2 at H Ly ⊢
  refine ev_p (pc' := 20) (loc' := [.ref 216, .int i1, .int i2]) (st' := [.ref 216]) 1 am_q202 rfl ?_
  refine ev_s (pc' := 23) (loc' := [.ref 216, .int i1, .int i2]) (st' := [.ref 238]) (h1 := h2) am_q202 rfl rfl rfl (am_gf2 (lk216 Ly) (lr216_27 Ly)) ?_
  refine ev_p (pc' := 27) (loc' := [.ref 216, .int i1, .int i2]) (st' := [.ref 216, .int (400 : Int32), .ref 238]) 2 am_q202 rfl ?_
  refine ev_s (pc' := 30) (loc' := [.ref 216, .int i1, .int i2]) (st' := [.int (am_gi h2 216 50), .int (400 : Int32), .ref 238]) (h1 := h2) am_q202 rfl rfl rfl (if_pos (e := none) (lk216 Ly)) ?_
  refine ev_p (pc' := 32) (loc' := [.ref 216, .int i1, .int i2]) (st' := [.ref 216, .int ((400 : Int32) * (am_gi h2 216 50)), .ref 238]) 2 am_q202 rfl ?_
  refine ev_s (pc' := 35) (loc' := [.ref 216, .int i1, .int i2]) (st' := [.int (am_gi h2 216 58), .int ((400 : Int32) * (am_gi h2 216 50)), .ref 238]) (h1 := h2) am_q202 rfl rfl rfl (if_pos (e := none) (lk216 Ly)) ?_
  refine ev_p (pc' := 37) (loc' := [.ref 216, .int i1, .int i2]) (st' := [.int i2, .int (((400 : Int32) * (am_gi h2 216 50)) + (am_gi h2 216 58)), .ref 238]) 2 am_q202 rfl ?_
  obtain ⟨g3, H⟩ := H
  refine ev_s (pc' := 38) (loc' := [.ref 216, .int i1, .int i2]) (st' := []) (h1 := am_si h2 238 (Int32.toNatClampNeg (((400 : Int32) * (am_gi h2 216 50)) + (am_gi h2 216 58))) i2) am_q202 rfl rfl rfl (am_xx ⟨lk238 Ly, (Nat.le_of_ble_eq_true rfl)⟩ (am_inl (ln238 Ly) g3)) ?_
  replace H := H _ rfl
  replace Ly : Lay (am_si h2 238 (Int32.toNatClampNeg (((400 : Int32) * (am_gi h2 216 50)) + (am_gi h2 216 58))) i2) := Ly.si _ _ _
  generalize am_si h2 238 (Int32.toNatClampNeg (((400 : Int32) * (am_gi h2 216 50)) + (am_gi h2 216 58))) i2 = h4 at H Ly ⊢
  refine ev_p (pc' := 40) (loc' := [.ref 216, .int i1, .int i2]) (st' := [.ref 216, .ref 216]) 2 am_q202 rfl ?_
  refine ev_s (pc' := 43) (loc' := [.ref 216, .int i1, .int i2]) (st' := [.int (am_gi h4 216 58), .ref 216]) (h1 := h4) am_q202 rfl rfl rfl (if_pos (e := none) (lk216 Ly)) ?_
  refine ev_p (pc' := 45) (loc' := [.ref 216, .int i1, .int i2]) (st' := [.int ((am_gi h4 216 58) + (1 : Int32)), .ref 216]) 2 am_q202 rfl ?_
  refine ev_s (pc' := 48) (loc' := [.ref 216, .int i1, .int i2]) (st' := []) (h1 := am_si h4 216 58 ((am_gi h4 216 58) + (1 : Int32))) am_q202 rfl rfl rfl (if_pos (e := none) (lk216 Ly)) ?_
  replace H := H _ rfl
  replace Ly : Lay (am_si h4 216 58 ((am_gi h4 216 58) + (1 : Int32))) := Ly.si _ _ _
  generalize am_si h4 216 58 ((am_gi h4 216 58) + (1 : Int32)) = h5 at H Ly ⊢
  exact ev_r (v := none) am_q202 rfl rfl rfl rfl H
/-! 203: X12_reads -/
set_option maxRecDepth 20000 in
set_option maxHeartbeats 2000000 in
theorem ws203 {d : Nat}  (i1 : Int32) {h : AH} {Q : Option Value → AH → Prop} (Ly : Lay h) (H : ∀ h1, h1 = am_si h 216 50 i1 → ∀ h2, h2 = am_si h1 216 51 (0 : Int32) → ∀ h3, h3 = am_si h2 216 55 (-1 : Int32) → ∀ h4, h4 = am_si h3 216 56 (-1 : Int32) → ∀ h5, h5 = am_si h4 216 57 (0 : Int32) → ∀ h6, h6 = am_si h5 216 58 (0 : Int32) → Cl d 195 [.ref 216] h6 (fun r8 h7 => r8 = none ∧ Lay h7 ∧ Ev (d + 1) 203 36 [.ref 216, .int i1, .int (0 : Int32)] [] h7 Q)) : Cl (d + 1) 203 [.ref 216, .int i1] h Q := by
  show Ev (d + 1) 203 0 [.ref 216, .int i1, .null] [] h Q
  refine ev_p (pc' := 2) (loc' := [.ref 216, .int i1, .null]) (st' := [.int i1, .ref 216]) 2 am_q203 rfl ?_
  refine ev_s (pc' := 5) (loc' := [.ref 216, .int i1, .null]) (st' := []) (h1 := am_si h 216 50 i1) am_q203 rfl rfl rfl (if_pos (e := none) (lk216 Ly)) ?_
  replace H := H _ rfl
  replace Ly : Lay (am_si h 216 50 i1) := Ly.si _ _ _
  generalize am_si h 216 50 i1 = h1 at H Ly ⊢
  refine ev_p (pc' := 7) (loc' := [.ref 216, .int i1, .null]) (st' := [.int (0 : Int32), .ref 216]) 2 am_q203 rfl ?_
  refine ev_s (pc' := 10) (loc' := [.ref 216, .int i1, .null]) (st' := []) (h1 := am_si h1 216 51 (0 : Int32)) am_q203 rfl rfl rfl (if_pos (e := none) (lk216 Ly)) ?_
  replace H := H _ rfl
  replace Ly : Lay (am_si h1 216 51 (0 : Int32)) := Ly.si _ _ _
  generalize am_si h1 216 51 (0 : Int32) = h2 at H Ly ⊢
  refine ev_p (pc' := 12) (loc' := [.ref 216, .int i1, .null]) (st' := [.int (-1 : Int32), .ref 216]) 2 am_q203 rfl ?_
  refine ev_s (pc' := 15) (loc' := [.ref 216, .int i1, .null]) (st' := []) (h1 := am_si h2 216 55 (-1 : Int32)) am_q203 rfl rfl rfl (if_pos (e := none) (lk216 Ly)) ?_
  replace H := H _ rfl
  replace Ly : Lay (am_si h2 216 55 (-1 : Int32)) := Ly.si _ _ _
  generalize am_si h2 216 55 (-1 : Int32) = h3 at H Ly ⊢
  refine ev_p (pc' := 17) (loc' := [.ref 216, .int i1, .null]) (st' := [.int (-1 : Int32), .ref 216]) 2 am_q203 rfl ?_
  refine ev_s (pc' := 20) (loc' := [.ref 216, .int i1, .null]) (st' := []) (h1 := am_si h3 216 56 (-1 : Int32)) am_q203 rfl rfl rfl (if_pos (e := none) (lk216 Ly)) ?_
  replace H := H _ rfl
  replace Ly : Lay (am_si h3 216 56 (-1 : Int32)) := Ly.si _ _ _
  generalize am_si h3 216 56 (-1 : Int32) = h4 at H Ly ⊢
  refine ev_p (pc' := 22) (loc' := [.ref 216, .int i1, .null]) (st' := [.int (0 : Int32), .ref 216]) 2 am_q203 rfl ?_
  refine ev_s (pc' := 25) (loc' := [.ref 216, .int i1, .null]) (st' := []) (h1 := am_si h4 216 57 (0 : Int32)) am_q203 rfl rfl rfl (if_pos (e := none) (lk216 Ly)) ?_
  replace H := H _ rfl
  replace Ly : Lay (am_si h4 216 57 (0 : Int32)) := Ly.si _ _ _
  generalize am_si h4 216 57 (0 : Int32) = h5 at H Ly ⊢
  refine ev_p (pc' := 27) (loc' := [.ref 216, .int i1, .null]) (st' := [.int (0 : Int32), .ref 216]) 2 am_q203 rfl ?_
  refine ev_s (pc' := 30) (loc' := [.ref 216, .int i1, .null]) (st' := []) (h1 := am_si h5 216 58 (0 : Int32)) am_q203 rfl rfl rfl (if_pos (e := none) (lk216 Ly)) ?_
  replace H := H _ rfl
  replace Ly : Lay (am_si h5 216 58 (0 : Int32)) := Ly.si _ _ _
  generalize am_si h5 216 58 (0 : Int32) = h6 at H Ly ⊢
  refine ev_p (pc' := 31) (loc' := [.ref 216, .int i1, .null]) (st' := [.ref 216]) 1 am_q203 rfl ?_
  refine ev_c (vs := [.ref 216]) (rest := []) 195 am_q203 rfl rfl rfl rfl rfl rfl rfl rfl rfl rfl rfl rfl (Or.inr (congrArg some (lk216 Ly))) (Cl.mono H (Nat.le_refl _) (fun r8 h7 H => ?_))
  obtain ⟨rfl, Ly, H⟩ := H
  refine ev_p (pc' := 36) (loc' := [.ref 216, .int i1, .int (0 : Int32)]) (st' := []) 2 am_q203 rfl ?_
  exact ev_m (loc' := [.ref 216, .int i1, .int (0 : Int32)]) am_q203 rfl rfl H
set_option maxRecDepth 20000 in
set_option maxHeartbeats 2000000 in
theorem ws203_36 {d : Nat}  (i1 : Int32) (i2 : Int32) {h : AH} {Q : Option Value → AH → Prop} (Ly : Lay h) (H : ((4 : Int32) ≤ i2 → am_in (((5 : Int32) * i1) + (4 : Int32)) 65 ∧ ∀ h2, h2 = am_si h 239 (Int32.toNatClampNeg (((5 : Int32) * i1) + (4 : Int32))) (am_gi h 216 58) → Cl d 200 [.ref 216, .int (0 : Int32)] h2 (fun r4 h3 => r4 = none ∧ Lay h3 ∧ Q none h3)) ∧ (¬ (4 : Int32) ≤ i2 → am_in (((5 : Int32) * i1) + i2) 65 ∧ ∀ h6, h6 = am_si h 239 (Int32.toNatClampNeg (((5 : Int32) * i1) + i2)) (am_gi h 216 58) → ∀ h7, h7 = am_si h6 216 59 i2 → Cl d 200 [.ref 216, .int ((300 : Int32) + i2)] h7 (fun r9 h8 => r9 = none ∧ Lay h8 ∧ Cl d 204 [.ref 216] h8 (fun r11 h10 => r11 = none ∧ Lay h10 ∧ Cl d 200 [.ref 216, .int (59 : Int32)] h10 (fun r13 h12 => r13 = none ∧ Lay h12 ∧ Ev (d + 1) 203 36 [.ref 216, .int i1, .int (i2 + (1 : Int32))] [] h12 Q))))) : Ev (d + 1) 203 36 [.ref 216, .int i1, .int i2] [] h Q := by
  refine ev_p (pc' := 38) (loc' := [.ref 216, .int i1, .int i2]) (st' := [.int (4 : Int32), .int i2]) 2 am_q203 rfl ?_
  refine ev_jc (t := 85) am_q203 rfl rfl (fun hq => ?_) (fun hq => ?_)
  · replace H := H.1 hq
    refine ev_p (pc' := 86) (loc' := [.ref 216, .int i1, .int i2]) (st' := [.ref 216]) 1 am_q203 rfl ?_
    refine ev_s (pc' := 89) (loc' := [.ref 216, .int i1, .int i2]) (st' := [.ref 239]) (h1 := h) am_q203 rfl rfl rfl (am_gf2 (lk216 Ly) (lr216_28 Ly)) ?_
    refine ev_p (pc' := 95) (loc' := [.ref 216, .int i1, .int i2]) (st' := [.ref 216, .int (((5 : Int32) * i1) + (4 : Int32)), .ref 239]) 6 am_q203 rfl ?_
    refine ev_s (pc' := 98) (loc' := [.ref 216, .int i1, .int i2]) (st' := [.int (am_gi h 216 58), .int (((5 : Int32) * i1) + (4 : Int32)), .ref 239]) (h1 := h) am_q203 rfl rfl rfl (if_pos (e := none) (lk216 Ly)) ?_
    obtain ⟨g1, H⟩ := H
    refine ev_s (pc' := 99) (loc' := [.ref 216, .int i1, .int i2]) (st' := []) (h1 := am_si h 239 (Int32.toNatClampNeg (((5 : Int32) * i1) + (4 : Int32))) (am_gi h 216 58)) am_q203 rfl rfl rfl (am_xx ⟨lk239 Ly, (Nat.le_of_ble_eq_true rfl)⟩ (am_inl (ln239 Ly) g1)) ?_
    replace H := H _ rfl
    replace Ly : Lay (am_si h 239 (Int32.toNatClampNeg (((5 : Int32) * i1) + (4 : Int32))) (am_gi h 216 58)) := Ly.si _ _ _
    generalize am_si h 239 (Int32.toNatClampNeg (((5 : Int32) * i1) + (4 : Int32))) (am_gi h 216 58) = h2 at H Ly ⊢
    refine ev_p (pc' := 101) (loc' := [.ref 216, .int i1, .int i2]) (st' := [.int (0 : Int32), .ref 216]) 2 am_q203 rfl ?_
    refine ev_c (vs := [.ref 216, .int (0 : Int32)]) (rest := []) 200 am_q203 rfl rfl rfl rfl rfl rfl rfl rfl rfl rfl rfl rfl (Or.inr (congrArg some (lk216 Ly))) (Cl.mono H (Nat.le_refl _) (fun r4 h3 H => ?_))
    obtain ⟨rfl, Ly, H⟩ := H
    exact ev_r (v := none) am_q203 rfl rfl rfl rfl H
  · replace H := H.2 hq
    refine ev_p (pc' := 42) (loc' := [.ref 216, .int i1, .int i2]) (st' := [.ref 216]) 1 am_q203 rfl ?_
    refine ev_s (pc' := 45) (loc' := [.ref 216, .int i1, .int i2]) (st' := [.ref 239]) (h1 := h) am_q203 rfl rfl rfl (am_gf2 (lk216 Ly) (lr216_28 Ly)) ?_
    refine ev_p (pc' := 51) (loc' := [.ref 216, .int i1, .int i2]) (st' := [.ref 216, .int (((5 : Int32) * i1) + i2), .ref 239]) 6 am_q203 rfl ?_
    refine ev_s (pc' := 54) (loc' := [.ref 216, .int i1, .int i2]) (st' := [.int (am_gi h 216 58), .int (((5 : Int32) * i1) + i2), .ref 239]) (h1 := h) am_q203 rfl rfl rfl (if_pos (e := none) (lk216 Ly)) ?_
    obtain ⟨g5, H⟩ := H
    refine ev_s (pc' := 55) (loc' := [.ref 216, .int i1, .int i2]) (st' := []) (h1 := am_si h 239 (Int32.toNatClampNeg (((5 : Int32) * i1) + i2)) (am_gi h 216 58)) am_q203 rfl rfl rfl (am_xx ⟨lk239 Ly, (Nat.le_of_ble_eq_true rfl)⟩ (am_inl (ln239 Ly) g5)) ?_
    replace H := H _ rfl
    replace Ly : Lay (am_si h 239 (Int32.toNatClampNeg (((5 : Int32) * i1) + i2)) (am_gi h 216 58)) := Ly.si _ _ _
    generalize am_si h 239 (Int32.toNatClampNeg (((5 : Int32) * i1) + i2)) (am_gi h 216 58) = h6 at H Ly ⊢
    refine ev_p (pc' := 57) (loc' := [.ref 216, .int i1, .int i2]) (st' := [.int i2, .ref 216]) 2 am_q203 rfl ?_
    refine ev_s (pc' := 60) (loc' := [.ref 216, .int i1, .int i2]) (st' := []) (h1 := am_si h6 216 59 i2) am_q203 rfl rfl rfl (if_pos (e := none) (lk216 Ly)) ?_
    replace H := H _ rfl
    replace Ly : Lay (am_si h6 216 59 i2) := Ly.si _ _ _
    generalize am_si h6 216 59 i2 = h7 at H Ly ⊢
    refine ev_p (pc' := 66) (loc' := [.ref 216, .int i1, .int i2]) (st' := [.int ((300 : Int32) + i2), .ref 216]) 4 am_q203 rfl ?_
    refine ev_c (vs := [.ref 216, .int ((300 : Int32) + i2)]) (rest := []) 200 am_q203 rfl rfl rfl rfl rfl rfl rfl rfl rfl rfl rfl rfl (Or.inr (congrArg some (lk216 Ly))) (Cl.mono H (Nat.le_refl _) (fun r9 h8 H => ?_))
    obtain ⟨rfl, Ly, H⟩ := H
    refine ev_p (pc' := 70) (loc' := [.ref 216, .int i1, .int i2]) (st' := [.ref 216]) 1 am_q203 rfl ?_
    refine ev_c (vs := [.ref 216]) (rest := []) 204 am_q203 rfl rfl rfl rfl rfl rfl rfl rfl rfl rfl rfl rfl (Or.inr (congrArg some (lk216 Ly))) (Cl.mono H (Nat.le_refl _) (fun r11 h10 H => ?_))
    obtain ⟨rfl, Ly, H⟩ := H
    refine ev_p (pc' := 76) (loc' := [.ref 216, .int i1, .int i2]) (st' := [.int (59 : Int32), .ref 216]) 2 am_q203 rfl ?_
    refine ev_c (vs := [.ref 216, .int (59 : Int32)]) (rest := []) 200 am_q203 rfl rfl rfl rfl rfl rfl rfl rfl rfl rfl rfl rfl (Or.inr (congrArg some (lk216 Ly))) (Cl.mono H (Nat.le_refl _) (fun r13 h12 H => ?_))
    obtain ⟨rfl, Ly, H⟩ := H
    refine ev_p (pc' := 36) (loc' := [.ref 216, .int i1, .int (i2 + (1 : Int32))]) (st' := []) 2 am_q203 rfl ?_
    exact ev_m (loc' := [.ref 216, .int i1, .int (i2 + (1 : Int32))]) am_q203 rfl rfl H
/-! 204: X12_either -/
set_option maxRecDepth 20000 in
set_option maxHeartbeats 2000000 in
theorem ws204 {d : Nat}   {h : AH} {Q : Option Value → AH → Prop} (Ly : Lay h) (H : Cl d 205 [.ref 216] h (fun r2 h1 => r2 = none ∧ Lay h1 ∧ Ev (d + 1) 204 4 [.ref 216] [] h1 Q)) : Cl (d + 1) 204 [.ref 216] h Q := by
  show Ev (d + 1) 204 0 [.ref 216] [] h Q
  refine ev_p (pc' := 1) (loc' := [.ref 216]) (st' := [.ref 216]) 1 am_q204 rfl ?_
  refine ev_c (vs := [.ref 216]) (rest := []) 205 am_q204 rfl rfl rfl rfl rfl rfl rfl rfl rfl rfl rfl rfl (Or.inr (congrArg some (lk216 Ly))) (Cl.mono H (Nat.le_refl _) (fun r2 h1 H => ?_))
  obtain ⟨rfl, Ly, H⟩ := H
  exact ev_m (loc' := [.ref 216]) am_q204 rfl rfl H
set_option maxRecDepth 20000 in
set_option maxHeartbeats 2000000 in
theorem ws204_4 {d : Nat}   {h : AH} {Q : Option Value → AH → Prop} (Ly : Lay h) (H : Cl d 198 [.ref 216] h (fun r2 h1 => ∃ x3, r2 = some (.int x3) ∧ Lay h1 ∧ ((¬ x3 = (0 : Int32)) → Q none h1) ∧ (¬ (¬ x3 = (0 : Int32)) → ((¬ (am_gi h1 216 53) = (304 : Int32)) → Q none h1) ∧ (¬ (¬ (am_gi h1 216 53) = (304 : Int32)) → Cl d 195 [.ref 216] h1 (fun r5 h4 => r5 = none ∧ Lay h4 ∧ Cl d 205 [.ref 216] h4 (fun r7 h6 => r7 = none ∧ Lay h6 ∧ Cl d 202 [.ref 216, .int (2 : Int32), .int (0 : Int32)] h6 (fun r9 h8 => r9 = none ∧ Lay h8 ∧ Ev (d + 1) 204 4 [.ref 216] [] h8 Q))))))) : Ev (d + 1) 204 4 [.ref 216] [] h Q := by
  refine ev_p (pc' := 5) (loc' := [.ref 216]) (st' := [.ref 216]) 1 am_q204 rfl ?_
  refine ev_c (vs := [.ref 216]) (rest := []) 198 am_q204 rfl rfl rfl rfl rfl rfl rfl rfl rfl rfl rfl rfl (Or.inr (congrArg some (lk216 Ly))) (Cl.mono H (Nat.le_refl _) (fun r2 h1 H => ?_))
  obtain ⟨x3, rfl, Ly, H⟩ := H
  refine ev_jz (t := 38) am_q204 rfl rfl (fun hq => ?_) (fun hq => ?_)
  · replace H := H.1 hq
    exact ev_r (v := none) am_q204 rfl rfl rfl rfl H
  · replace H := H.2 hq
    refine ev_p (pc' := 12) (loc' := [.ref 216]) (st' := [.ref 216]) 1 am_q204 rfl ?_
    refine ev_s (pc' := 15) (loc' := [.ref 216]) (st' := [.int (am_gi h1 216 53)]) (h1 := h1) am_q204 rfl rfl rfl (if_pos (e := none) (lk216 Ly)) ?_
    refine ev_p (pc' := 18) (loc' := [.ref 216]) (st' := [.int (304 : Int32), .int (am_gi h1 216 53)]) 1 am_q204 rfl ?_
    refine ev_jc (t := 38) am_q204 rfl rfl (fun hq => ?_) (fun hq => ?_)
    · replace H := H.1 hq
      exact ev_r (v := none) am_q204 rfl rfl rfl rfl H
    · replace H := H.2 hq
      refine ev_p (pc' := 22) (loc' := [.ref 216]) (st' := [.ref 216]) 1 am_q204 rfl ?_
      refine ev_c (vs := [.ref 216]) (rest := []) 195 am_q204 rfl rfl rfl rfl rfl rfl rfl rfl rfl rfl rfl rfl (Or.inr (congrArg some (lk216 Ly))) (Cl.mono H (Nat.le_refl _) (fun r5 h4 H => ?_))
      obtain ⟨rfl, Ly, H⟩ := H
      refine ev_p (pc' := 26) (loc' := [.ref 216]) (st' := [.ref 216]) 1 am_q204 rfl ?_
      refine ev_c (vs := [.ref 216]) (rest := []) 205 am_q204 rfl rfl rfl rfl rfl rfl rfl rfl rfl rfl rfl rfl (Or.inr (congrArg some (lk216 Ly))) (Cl.mono H (Nat.le_refl _) (fun r7 h6 H => ?_))
      obtain ⟨rfl, Ly, H⟩ := H
      refine ev_p (pc' := 32) (loc' := [.ref 216]) (st' := [.int (0 : Int32), .int (2 : Int32), .ref 216]) 3 am_q204 rfl ?_
      refine ev_c (vs := [.ref 216, .int (2 : Int32), .int (0 : Int32)]) (rest := []) 202 am_q204 rfl rfl rfl rfl rfl rfl rfl rfl rfl rfl rfl rfl (Or.inr (congrArg some (lk216 Ly))) (Cl.mono H (Nat.le_refl _) (fun r9 h8 H => ?_))
      obtain ⟨rfl, Ly, H⟩ := H
      refine ev_p (pc' := 4) (loc' := [.ref 216]) (st' := []) 1 am_q204 rfl ?_
      exact ev_m (loc' := [.ref 216]) am_q204 rfl rfl H
/-! 205: X12_both -/
set_option maxRecDepth 20000 in
set_option maxHeartbeats 2000000 in
theorem ws205 {d : Nat}   {h : AH} {Q : Option Value → AH → Prop} (Ly : Lay h) (H : Cl d 206 [.ref 216] h (fun r2 h1 => r2 = none ∧ Lay h1 ∧ Ev (d + 1) 205 4 [.ref 216] [] h1 Q)) : Cl (d + 1) 205 [.ref 216] h Q := by
  show Ev (d + 1) 205 0 [.ref 216] [] h Q
  refine ev_p (pc' := 1) (loc' := [.ref 216]) (st' := [.ref 216]) 1 am_q205 rfl ?_
  refine ev_c (vs := [.ref 216]) (rest := []) 206 am_q205 rfl rfl rfl rfl rfl rfl rfl rfl rfl rfl rfl rfl (Or.inr (congrArg some (lk216 Ly))) (Cl.mono H (Nat.le_refl _) (fun r2 h1 H => ?_))
  obtain ⟨rfl, Ly, H⟩ := H
  exact ev_m (loc' := [.ref 216]) am_q205 rfl rfl H
set_option maxRecDepth 20000 in
set_option maxHeartbeats 2000000 in
theorem ws205_4 {d : Nat}   {h : AH} {Q : Option Value → AH → Prop} (Ly : Lay h) (H : Cl d 198 [.ref 216] h (fun r2 h1 => ∃ x3, r2 = some (.int x3) ∧ Lay h1 ∧ ((¬ x3 = (0 : Int32)) → Q none h1) ∧ (¬ (¬ x3 = (0 : Int32)) → ((¬ (am_gi h1 216 53) = (305 : Int32)) → Q none h1) ∧ (¬ (¬ (am_gi h1 216 53) = (305 : Int32)) → Cl d 195 [.ref 216] h1 (fun r5 h4 => r5 = none ∧ Lay h4 ∧ Cl d 206 [.ref 216] h4 (fun r7 h6 => r7 = none ∧ Lay h6 ∧ Cl d 202 [.ref 216, .int (3 : Int32), .int (0 : Int32)] h6 (fun r9 h8 => r9 = none ∧ Lay h8 ∧ Ev (d + 1) 205 4 [.ref 216] [] h8 Q))))))) : Ev (d + 1) 205 4 [.ref 216] [] h Q := by
  refine ev_p (pc' := 5) (loc' := [.ref 216]) (st' := [.ref 216]) 1 am_q205 rfl ?_
  refine ev_c (vs := [.ref 216]) (rest := []) 198 am_q205 rfl rfl rfl rfl rfl rfl rfl rfl rfl rfl rfl rfl (Or.inr (congrArg some (lk216 Ly))) (Cl.mono H (Nat.le_refl _) (fun r2 h1 H => ?_))
  obtain ⟨x3, rfl, Ly, H⟩ := H
  refine ev_jz (t := 38) am_q205 rfl rfl (fun hq => ?_) (fun hq => ?_)
  · replace H := H.1 hq
    exact ev_r (v := none) am_q205 rfl rfl rfl rfl H
  · replace H := H.2 hq
    refine ev_p (pc' := 12) (loc' := [.ref 216]) (st' := [.ref 216]) 1 am_q205 rfl ?_
    refine ev_s (pc' := 15) (loc' := [.ref 216]) (st' := [.int (am_gi h1 216 53)]) (h1 := h1) am_q205 rfl rfl rfl (if_pos (e := none) (lk216 Ly)) ?_
    refine ev_p (pc' := 18) (loc' := [.ref 216]) (st' := [.int (305 : Int32), .int (am_gi h1 216 53)]) 1 am_q205 rfl ?_
    refine ev_jc (t := 38) am_q205 rfl rfl (fun hq => ?_) (fun hq => ?_)
    · replace H := H.1 hq
      exact ev_r (v := none) am_q205 rfl rfl rfl rfl H
    · replace H := H.2 hq
      refine ev_p (pc' := 22) (loc' := [.ref 216]) (st' := [.ref 216]) 1 am_q205 rfl ?_
      refine ev_c (vs := [.ref 216]) (rest := []) 195 am_q205 rfl rfl rfl rfl rfl rfl rfl rfl rfl rfl rfl rfl (Or.inr (congrArg some (lk216 Ly))) (Cl.mono H (Nat.le_refl _) (fun r5 h4 H => ?_))
      obtain ⟨rfl, Ly, H⟩ := H
      refine ev_p (pc' := 26) (loc' := [.ref 216]) (st' := [.ref 216]) 1 am_q205 rfl ?_
      refine ev_c (vs := [.ref 216]) (rest := []) 206 am_q205 rfl rfl rfl rfl rfl rfl rfl rfl rfl rfl rfl rfl (Or.inr (congrArg some (lk216 Ly))) (Cl.mono H (Nat.le_refl _) (fun r7 h6 H => ?_))
      obtain ⟨rfl, Ly, H⟩ := H
      refine ev_p (pc' := 32) (loc' := [.ref 216]) (st' := [.int (0 : Int32), .int (3 : Int32), .ref 216]) 3 am_q205 rfl ?_
      refine ev_c (vs := [.ref 216, .int (3 : Int32), .int (0 : Int32)]) (rest := []) 202 am_q205 rfl rfl rfl rfl rfl rfl rfl rfl rfl rfl rfl rfl (Or.inr (congrArg some (lk216 Ly))) (Cl.mono H (Nat.le_refl _) (fun r9 h8 H => ?_))
      obtain ⟨rfl, Ly, H⟩ := H
      refine ev_p (pc' := 4) (loc' := [.ref 216]) (st' := []) 1 am_q205 rfl ?_
      exact ev_m (loc' := [.ref 216]) am_q205 rfl rfl H
/-! 206: X12_not -/
set_option maxRecDepth 20000 in
set_option maxHeartbeats 2000000 in
theorem ws206 {d : Nat}   {h : AH} {Q : Option Value → AH → Prop} (Ly : Lay h) (H : Cl d 198 [.ref 216] h (fun r2 h1 => ∃ x3, r2 = some (.int x3) ∧ Lay h1 ∧ (x3 = (0 : Int32) → ((¬ (am_gi h1 216 53) = (306 : Int32)) → Cl d 207 [.ref 216] h1 (fun r5 h4 => r5 = none ∧ Lay h4 ∧ Cl d 198 [.ref 216] h4 (fun r7 h6 => ∃ x8, r7 = some (.int x8) ∧ Lay h6 ∧ ((¬ x8 = (0 : Int32)) → Q none h6) ∧ (¬ (¬ x8 = (0 : Int32)) → ((am_gi h6 216 53) = (60 : Int32) → Ev (d + 1) 206 72 [.ref 216, .null] [] h6 Q) ∧ (¬ (am_gi h6 216 53) = (60 : Int32) → ((¬ (am_gi h6 216 53) = (61 : Int32)) → Q none h6) ∧ (¬ (¬ (am_gi h6 216 53) = (61 : Int32)) → Ev (d + 1) 206 72 [.ref 216, .null] [] h6 Q)))))) ∧ (¬ (¬ (am_gi h1 216 53) = (306 : Int32)) → Cl d 201 [.ref 216] h1 (fun r10 h9 => r10 = none ∧ Lay h9 ∧ Cl d 206 [.ref 216] h9 (fun r12 h11 => r12 = none ∧ Lay h11 ∧ ∀ h13, h13 = am_si h11 216 57 ((am_gi h11 216 57) - (1 : Int32)) → Cl d 202 [.ref 216, .int (4 : Int32), .int (0 : Int32)] h13 (fun r15 h14 => r15 = none ∧ Lay h14 ∧ Q none h14))))) ∧ (¬ x3 = (0 : Int32) → Q none h1))) : Cl (d + 1) 206 [.ref 216] h Q := by
  show Ev (d + 1) 206 0 [.ref 216, .null] [] h Q
  refine ev_p (pc' := 1) (loc' := [.ref 216, .null]) (st' := [.ref 216]) 1 am_q206 rfl ?_
  refine ev_c (vs := [.ref 216]) (rest := []) 198 am_q206 rfl rfl rfl rfl rfl rfl rfl rfl rfl rfl rfl rfl (Or.inr (congrArg some (lk216 Ly))) (Cl.mono H (Nat.le_refl _) (fun r2 h1 H => ?_))
  obtain ⟨x3, rfl, Ly, H⟩ := H
  refine ev_jz (t := 8) am_q206 rfl rfl (fun hq => ?_) (fun hq => ?_)
  · replace H := H.1 hq
    refine ev_p (pc' := 9) (loc' := [.ref 216, .null]) (st' := [.ref 216]) 1 am_q206 rfl ?_
    refine ev_s (pc' := 12) (loc' := [.ref 216, .null]) (st' := [.int (am_gi h1 216 53)]) (h1 := h1) am_q206 rfl rfl rfl (if_pos (e := none) (lk216 Ly)) ?_
    refine ev_p (pc' := 15) (loc' := [.ref 216, .null]) (st' := [.int (306 : Int32), .int (am_gi h1 216 53)]) 1 am_q206 rfl ?_
    refine ev_jc (t := 43) am_q206 rfl rfl (fun hq => ?_) (fun hq => ?_)
    · replace H := H.1 hq
      refine ev_p (pc' := 44) (loc' := [.ref 216, .null]) (st' := [.ref 216]) 1 am_q206 rfl ?_
      refine ev_c (vs := [.ref 216]) (rest := []) 207 am_q206 rfl rfl rfl rfl rfl rfl rfl rfl rfl rfl rfl rfl (Or.inr (congrArg some (lk216 Ly))) (Cl.mono H (Nat.le_refl _) (fun r5 h4 H => ?_))
      obtain ⟨rfl, Ly, H⟩ := H
      refine ev_p (pc' := 48) (loc' := [.ref 216, .null]) (st' := [.ref 216]) 1 am_q206 rfl ?_
      refine ev_c (vs := [.ref 216]) (rest := []) 198 am_q206 rfl rfl rfl rfl rfl rfl rfl rfl rfl rfl rfl rfl (Or.inr (congrArg some (lk216 Ly))) (Cl.mono H (Nat.le_refl _) (fun r7 h6 H => ?_))
      obtain ⟨x8, rfl, Ly, H⟩ := H
      refine ev_jz (t := 102) am_q206 rfl rfl (fun hq => ?_) (fun hq => ?_)
      · replace H := H.1 hq
        exact ev_r (v := none) am_q206 rfl rfl rfl rfl H
      · replace H := H.2 hq
        refine ev_p (pc' := 55) (loc' := [.ref 216, .null]) (st' := [.ref 216]) 1 am_q206 rfl ?_
        refine ev_s (pc' := 58) (loc' := [.ref 216, .null]) (st' := [.int (am_gi h6 216 53)]) (h1 := h6) am_q206 rfl rfl rfl (if_pos (e := none) (lk216 Ly)) ?_
        refine ev_p (pc' := 60) (loc' := [.ref 216, .null]) (st' := [.int (60 : Int32), .int (am_gi h6 216 53)]) 1 am_q206 rfl ?_
        refine ev_jc (t := 72) am_q206 rfl rfl (fun hq => ?_) (fun hq => ?_)
        · replace H := H.1 hq
          exact ev_m (loc' := [.ref 216, .null]) am_q206 rfl rfl H
        · replace H := H.2 hq
          refine ev_p (pc' := 64) (loc' := [.ref 216, .null]) (st' := [.ref 216]) 1 am_q206 rfl ?_
          refine ev_s (pc' := 67) (loc' := [.ref 216, .null]) (st' := [.int (am_gi h6 216 53)]) (h1 := h6) am_q206 rfl rfl rfl (if_pos (e := none) (lk216 Ly)) ?_
          refine ev_p (pc' := 69) (loc' := [.ref 216, .null]) (st' := [.int (61 : Int32), .int (am_gi h6 216 53)]) 1 am_q206 rfl ?_
          refine ev_jc (t := 102) am_q206 rfl rfl (fun hq => ?_) (fun hq => ?_)
          · replace H := H.1 hq
            exact ev_r (v := none) am_q206 rfl rfl rfl rfl H
          · replace H := H.2 hq
            exact ev_m (loc' := [.ref 216, .null]) am_q206 rfl rfl H
    · replace H := H.2 hq
      refine ev_p (pc' := 19) (loc' := [.ref 216, .null]) (st' := [.ref 216]) 1 am_q206 rfl ?_
      refine ev_c (vs := [.ref 216]) (rest := []) 201 am_q206 rfl rfl rfl rfl rfl rfl rfl rfl rfl rfl rfl rfl (Or.inr (congrArg some (lk216 Ly))) (Cl.mono H (Nat.le_refl _) (fun r10 h9 H => ?_))
      obtain ⟨rfl, Ly, H⟩ := H
      refine ev_p (pc' := 23) (loc' := [.ref 216, .null]) (st' := [.ref 216]) 1 am_q206 rfl ?_
      refine ev_c (vs := [.ref 216]) (rest := []) 206 am_q206 rfl rfl rfl rfl rfl rfl rfl rfl rfl rfl rfl rfl (Or.inr (congrArg some (lk216 Ly))) (Cl.mono H (Nat.le_refl _) (fun r12 h11 H => ?_))
      obtain ⟨rfl, Ly, H⟩ := H
      refine ev_p (pc' := 28) (loc' := [.ref 216, .null]) (st' := [.ref 216, .ref 216]) 2 am_q206 rfl ?_
      refine ev_s (pc' := 31) (loc' := [.ref 216, .null]) (st' := [.int (am_gi h11 216 57), .ref 216]) (h1 := h11) am_q206 rfl rfl rfl (if_pos (e := none) (lk216 Ly)) ?_
      refine ev_p (pc' := 33) (loc' := [.ref 216, .null]) (st' := [.int ((am_gi h11 216 57) - (1 : Int32)), .ref 216]) 2 am_q206 rfl ?_
      refine ev_s (pc' := 36) (loc' := [.ref 216, .null]) (st' := []) (h1 := am_si h11 216 57 ((am_gi h11 216 57) - (1 : Int32))) am_q206 rfl rfl rfl (if_pos (e := none) (lk216 Ly)) ?_
      replace H := H _ rfl
      replace Ly : Lay (am_si h11 216 57 ((am_gi h11 216 57) - (1 : Int32))) := Ly.si _ _ _
      generalize am_si h11 216 57 ((am_gi h11 216 57) - (1 : Int32)) = h13 at H Ly ⊢
      refine ev_p (pc' := 39) (loc' := [.ref 216, .null]) (st' := [.int (0 : Int32), .int (4 : Int32), .ref 216]) 3 am_q206 rfl ?_
      refine ev_c (vs := [.ref 216, .int (4 : Int32), .int (0 : Int32)]) (rest := []) 202 am_q206 rfl rfl rfl rfl rfl rfl rfl rfl rfl rfl rfl rfl (Or.inr (congrArg some (lk216 Ly))) (Cl.mono H (Nat.le_refl _) (fun r15 h14 H => ?_))
      obtain ⟨rfl, Ly, H⟩ := H
      exact ev_r (v := none) am_q206 rfl rfl rfl rfl H
  · replace H := H.2 hq
    exact ev_r (v := none) am_q206 rfl rfl rfl rfl H
set_option maxRecDepth 20000 in
set_option maxHeartbeats 2000000 in
theorem ws206_72 {d : Nat}   {h : AH} {Q : Option Value → AH → Prop} (Ly : Lay h) (H : ((¬ (am_gi h 216 53) = (60 : Int32)) → Cl d 195 [.ref 216] h (fun r2 h1 => r2 = none ∧ Lay h1 ∧ Cl d 207 [.ref 216] h1 (fun r4 h3 => r4 = none ∧ Lay h3 ∧ Cl d 202 [.ref 216, .int (6 : Int32), .int (0 : Int32)] h3 (fun r6 h5 => r6 = none ∧ Lay h5 ∧ Q none h5)))) ∧ (¬ (¬ (am_gi h 216 53) = (60 : Int32)) → Cl d 195 [.ref 216] h (fun r8 h7 => r8 = none ∧ Lay h7 ∧ Cl d 207 [.ref 216] h7 (fun r10 h9 => r10 = none ∧ Lay h9 ∧ Cl d 202 [.ref 216, .int (5 : Int32), .int (0 : Int32)] h9 (fun r12 h11 => r12 = none ∧ Lay h11 ∧ Q none h11))))) : Ev (d + 1) 206 72 [.ref 216, .null] [] h Q := by
  refine ev_p (pc' := 73) (loc' := [.ref 216, .null]) (st' := [.ref 216]) 1 am_q206 rfl ?_
  refine ev_s (pc' := 76) (loc' := [.ref 216, .null]) (st' := [.int (am_gi h 216 53)]) (h1 := h) am_q206 rfl rfl rfl (if_pos (e := none) (lk216 Ly)) ?_
  refine ev_p (pc' := 78) (loc' := [.ref 216, .null]) (st' := [.int (60 : Int32), .int (am_gi h 216 53)]) 1 am_q206 rfl ?_
  refine ev_jc (t := 85) am_q206 rfl rfl (fun hq => ?_) (fun hq => ?_)
  · replace H := H.1 hq
    refine ev_p (pc' := 89) (loc' := [.ref 216, .int (6 : Int32)]) (st' := [.ref 216]) 3 am_q206 rfl ?_
    refine ev_c (vs := [.ref 216]) (rest := []) 195 am_q206 rfl rfl rfl rfl rfl rfl rfl rfl rfl rfl rfl rfl (Or.inr (congrArg some (lk216 Ly))) (Cl.mono H (Nat.le_refl _) (fun r2 h1 H => ?_))
    obtain ⟨rfl, Ly, H⟩ := H
    refine ev_p (pc' := 93) (loc' := [.ref 216, .int (6 : Int32)]) (st' := [.ref 216]) 1 am_q206 rfl ?_
    refine ev_c (vs := [.ref 216]) (rest := []) 207 am_q206 rfl rfl rfl rfl rfl rfl rfl rfl rfl rfl rfl rfl (Or.inr (congrArg some (lk216 Ly))) (Cl.mono H (Nat.le_refl _) (fun r4 h3 H => ?_))
    obtain ⟨rfl, Ly, H⟩ := H
    refine ev_p (pc' := 99) (loc' := [.ref 216, .int (6 : Int32)]) (st' := [.int (0 : Int32), .int (6 : Int32), .ref 216]) 3 am_q206 rfl ?_
    refine ev_c (vs := [.ref 216, .int (6 : Int32), .int (0 : Int32)]) (rest := []) 202 am_q206 rfl rfl rfl rfl rfl rfl rfl rfl rfl rfl rfl rfl (Or.inr (congrArg some (lk216 Ly))) (Cl.mono H (Nat.le_refl _) (fun r6 h5 H => ?_))
    obtain ⟨rfl, Ly, H⟩ := H
    exact ev_r (v := none) am_q206 rfl rfl rfl rfl H
  · replace H := H.2 hq
    refine ev_p (pc' := 89) (loc' := [.ref 216, .int (5 : Int32)]) (st' := [.ref 216]) 4 am_q206 rfl ?_
    refine ev_c (vs := [.ref 216]) (rest := []) 195 am_q206 rfl rfl rfl rfl rfl rfl rfl rfl rfl rfl rfl rfl (Or.inr (congrArg some (lk216 Ly))) (Cl.mono H (Nat.le_refl _) (fun r8 h7 H => ?_))
    obtain ⟨rfl, Ly, H⟩ := H
    refine ev_p (pc' := 93) (loc' := [.ref 216, .int (5 : Int32)]) (st' := [.ref 216]) 1 am_q206 rfl ?_
    refine ev_c (vs := [.ref 216]) (rest := []) 207 am_q206 rfl rfl rfl rfl rfl rfl rfl rfl rfl rfl rfl rfl (Or.inr (congrArg some (lk216 Ly))) (Cl.mono H (Nat.le_refl _) (fun r10 h9 H => ?_))
    obtain ⟨rfl, Ly, H⟩ := H
    refine ev_p (pc' := 99) (loc' := [.ref 216, .int (5 : Int32)]) (st' := [.int (0 : Int32), .int (5 : Int32), .ref 216]) 3 am_q206 rfl ?_
    refine ev_c (vs := [.ref 216, .int (5 : Int32), .int (0 : Int32)]) (rest := []) 202 am_q206 rfl rfl rfl rfl rfl rfl rfl rfl rfl rfl rfl rfl (Or.inr (congrArg some (lk216 Ly))) (Cl.mono H (Nat.le_refl _) (fun r12 h11 H => ?_))
    obtain ⟨rfl, Ly, H⟩ := H
    exact ev_r (v := none) am_q206 rfl rfl rfl rfl H
/-! 207: X12_sum -/
set_option maxRecDepth 20000 in
set_option maxHeartbeats 2000000 in
theorem ws207 {d : Nat}   {h : AH} {Q : Option Value → AH → Prop} (Ly : Lay h) (H : Cl d 208 [.ref 216] h (fun r2 h1 => r2 = none ∧ Lay h1 ∧ Ev (d + 1) 207 4 [.ref 216, .null] [] h1 Q)) : Cl (d + 1) 207 [.ref 216] h Q := by
  show Ev (d + 1) 207 0 [.ref 216, .null] [] h Q
  refine ev_p (pc' := 1) (loc' := [.ref 216, .null]) (st' := [.ref 216]) 1 am_q207 rfl ?_
  refine ev_c (vs := [.ref 216]) (rest := []) 208 am_q207 rfl rfl rfl rfl rfl rfl rfl rfl rfl rfl rfl rfl (Or.inr (congrArg some (lk216 Ly))) (Cl.mono H (Nat.le_refl _) (fun r2 h1 H => ?_))
  obtain ⟨rfl, Ly, H⟩ := H
  exact ev_m (loc' := [.ref 216, .null]) am_q207 rfl rfl H
set_option maxRecDepth 20000 in
set_option maxHeartbeats 2000000 in
theorem ws207_4 {d : Nat}   {h : AH} {Q : Option Value → AH → Prop} (Ly : Lay h) (H : Cl d 198 [.ref 216] h (fun r2 h1 => ∃ x3, r2 = some (.int x3) ∧ Lay h1 ∧ ((¬ x3 = (0 : Int32)) → Q none h1) ∧ (¬ (¬ x3 = (0 : Int32)) → ((am_gi h1 216 53) = (43 : Int32) → Ev (d + 1) 207 29 [.ref 216, .null] [] h1 Q) ∧ (¬ (am_gi h1 216 53) = (43 : Int32) → ((¬ (am_gi h1 216 53) = (45 : Int32)) → Q none h1) ∧ (¬ (¬ (am_gi h1 216 53) = (45 : Int32)) → Ev (d + 1) 207 29 [.ref 216, .null] [] h1 Q))))) : Ev (d + 1) 207 4 [.ref 216, .null] [] h Q := by
  refine ev_p (pc' := 5) (loc' := [.ref 216, .null]) (st' := [.ref 216]) 1 am_q207 rfl ?_
  refine ev_c (vs := [.ref 216]) (rest := []) 198 am_q207 rfl rfl rfl rfl rfl rfl rfl rfl rfl rfl rfl rfl (Or.inr (congrArg some (lk216 Ly))) (Cl.mono H (Nat.le_refl _) (fun r2 h1 H => ?_))
  obtain ⟨x3, rfl, Ly, H⟩ := H
  refine ev_jz (t := 63) am_q207 rfl rfl (fun hq => ?_) (fun hq => ?_)
  · replace H := H.1 hq
    exact ev_r (v := none) am_q207 rfl rfl rfl rfl H
  · replace H := H.2 hq
    refine ev_p (pc' := 12) (loc' := [.ref 216, .null]) (st' := [.ref 216]) 1 am_q207 rfl ?_
    refine ev_s (pc' := 15) (loc' := [.ref 216, .null]) (st' := [.int (am_gi h1 216 53)]) (h1 := h1) am_q207 rfl rfl rfl (if_pos (e := none) (lk216 Ly)) ?_
    refine ev_p (pc' := 17) (loc' := [.ref 216, .null]) (st' := [.int (43 : Int32), .int (am_gi h1 216 53)]) 1 am_q207 rfl ?_
    refine ev_jc (t := 29) am_q207 rfl rfl (fun hq => ?_) (fun hq => ?_)
    · replace H := H.1 hq
      exact ev_m (loc' := [.ref 216, .null]) am_q207 rfl rfl H
    · replace H := H.2 hq
      refine ev_p (pc' := 21) (loc' := [.ref 216, .null]) (st' := [.ref 216]) 1 am_q207 rfl ?_
      refine ev_s (pc' := 24) (loc' := [.ref 216, .null]) (st' := [.int (am_gi h1 216 53)]) (h1 := h1) am_q207 rfl rfl rfl (if_pos (e := none) (lk216 Ly)) ?_
      refine ev_p (pc' := 26) (loc' := [.ref 216, .null]) (st' := [.int (45 : Int32), .int (am_gi h1 216 53)]) 1 am_q207 rfl ?_
      refine ev_jc (t := 63) am_q207 rfl rfl (fun hq => ?_) (fun hq => ?_)
      · replace H := H.1 hq
        exact ev_r (v := none) am_q207 rfl rfl rfl rfl H
      · replace H := H.2 hq
        exact ev_m (loc' := [.ref 216, .null]) am_q207 rfl rfl H
set_option maxRecDepth 20000 in
set_option maxHeartbeats 2000000 in
theorem ws207_29 {d : Nat}   {h : AH} {Q : Option Value → AH → Prop} (Ly : Lay h) (H : ((¬ (am_gi h 216 53) = (43 : Int32)) → Cl d 195 [.ref 216] h (fun r2 h1 => r2 = none ∧ Lay h1 ∧ Cl d 208 [.ref 216] h1 (fun r4 h3 => r4 = none ∧ Lay h3 ∧ Cl d 202 [.ref 216, .int (8 : Int32), .int (0 : Int32)] h3 (fun r6 h5 => r6 = none ∧ Lay h5 ∧ Ev (d + 1) 207 4 [.ref 216, .null] [] h5 Q)))) ∧ (¬ (¬ (am_gi h 216 53) = (43 : Int32)) → Cl d 195 [.ref 216] h (fun r8 h7 => r8 = none ∧ Lay h7 ∧ Cl d 208 [.ref 216] h7 (fun r10 h9 => r10 = none ∧ Lay h9 ∧ Cl d 202 [.ref 216, .int (7 : Int32), .int (0 : Int32)] h9 (fun r12 h11 => r12 = none ∧ Lay h11 ∧ Ev (d + 1) 207 4 [.ref 216, .null] [] h11 Q))))) : Ev (d + 1) 207 29 [.ref 216, .null] [] h Q := by
  refine ev_p (pc' := 30) (loc' := [.ref 216, .null]) (st' := [.ref 216]) 1 am_q207 rfl ?_
  refine ev_s (pc' := 33) (loc' := [.ref 216, .null]) (st' := [.int (am_gi h 216 53)]) (h1 := h) am_q207 rfl rfl rfl (if_pos (e := none) (lk216 Ly)) ?_
  refine ev_p (pc' := 35) (loc' := [.ref 216, .null]) (st' := [.int (43 : Int32), .int (am_gi h 216 53)]) 1 am_q207 rfl ?_
  refine ev_jc (t := 43) am_q207 rfl rfl (fun hq => ?_) (fun hq => ?_)
  · replace H := H.1 hq
    refine ev_p (pc' := 47) (loc' := [.ref 216, .int (8 : Int32)]) (st' := [.ref 216]) 3 am_q207 rfl ?_
    refine ev_c (vs := [.ref 216]) (rest := []) 195 am_q207 rfl rfl rfl rfl rfl rfl rfl rfl rfl rfl rfl rfl (Or.inr (congrArg some (lk216 Ly))) (Cl.mono H (Nat.le_refl _) (fun r2 h1 H => ?_))
    obtain ⟨rfl, Ly, H⟩ := H
    refine ev_p (pc' := 51) (loc' := [.ref 216, .int (8 : Int32)]) (st' := [.ref 216]) 1 am_q207 rfl ?_
    refine ev_c (vs := [.ref 216]) (rest := []) 208 am_q207 rfl rfl rfl rfl rfl rfl rfl rfl rfl rfl rfl rfl (Or.inr (congrArg some (lk216 Ly))) (Cl.mono H (Nat.le_refl _) (fun r4 h3 H => ?_))
    obtain ⟨rfl, Ly, H⟩ := H
    refine ev_p (pc' := 57) (loc' := [.ref 216, .int (8 : Int32)]) (st' := [.int (0 : Int32), .int (8 : Int32), .ref 216]) 3 am_q207 rfl ?_
    refine ev_c (vs := [.ref 216, .int (8 : Int32), .int (0 : Int32)]) (rest := []) 202 am_q207 rfl rfl rfl rfl rfl rfl rfl rfl rfl rfl rfl rfl (Or.inr (congrArg some (lk216 Ly))) (Cl.mono H (Nat.le_refl _) (fun r6 h5 H => ?_))
    obtain ⟨rfl, Ly, H⟩ := H
    refine ev_p (pc' := 4) (loc' := [.ref 216, .int (8 : Int32)]) (st' := []) 1 am_q207 rfl ?_
    exact ev_m (loc' := [.ref 216, .null]) am_q207 rfl rfl H
  · replace H := H.2 hq
    refine ev_p (pc' := 47) (loc' := [.ref 216, .int (7 : Int32)]) (st' := [.ref 216]) 4 am_q207 rfl ?_
    refine ev_c (vs := [.ref 216]) (rest := []) 195 am_q207 rfl rfl rfl rfl rfl rfl rfl rfl rfl rfl rfl rfl (Or.inr (congrArg some (lk216 Ly))) (Cl.mono H (Nat.le_refl _) (fun r8 h7 H => ?_))
    obtain ⟨rfl, Ly, H⟩ := H
    refine ev_p (pc' := 51) (loc' := [.ref 216, .int (7 : Int32)]) (st' := [.ref 216]) 1 am_q207 rfl ?_
    refine ev_c (vs := [.ref 216]) (rest := []) 208 am_q207 rfl rfl rfl rfl rfl rfl rfl rfl rfl rfl rfl rfl (Or.inr (congrArg some (lk216 Ly))) (Cl.mono H (Nat.le_refl _) (fun r10 h9 H => ?_))
    obtain ⟨rfl, Ly, H⟩ := H
    refine ev_p (pc' := 57) (loc' := [.ref 216, .int (7 : Int32)]) (st' := [.int (0 : Int32), .int (7 : Int32), .ref 216]) 3 am_q207 rfl ?_
    refine ev_c (vs := [.ref 216, .int (7 : Int32), .int (0 : Int32)]) (rest := []) 202 am_q207 rfl rfl rfl rfl rfl rfl rfl rfl rfl rfl rfl rfl (Or.inr (congrArg some (lk216 Ly))) (Cl.mono H (Nat.le_refl _) (fun r12 h11 H => ?_))
    obtain ⟨rfl, Ly, H⟩ := H
    refine ev_p (pc' := 4) (loc' := [.ref 216, .int (7 : Int32)]) (st' := []) 1 am_q207 rfl ?_
    exact ev_m (loc' := [.ref 216, .null]) am_q207 rfl rfl H
/-! 208: X12_term -/
set_option maxRecDepth 20000 in
set_option maxHeartbeats 2000000 in
theorem ws208 {d : Nat}   {h : AH} {Q : Option Value → AH → Prop} (Ly : Lay h) (H : Cl d 210 [.ref 216] h (fun r2 h1 => r2 = none ∧ Lay h1 ∧ Ev (d + 1) 208 4 [.ref 216] [] h1 Q)) : Cl (d + 1) 208 [.ref 216] h Q := by
  show Ev (d + 1) 208 0 [.ref 216] [] h Q
  refine ev_p (pc' := 1) (loc' := [.ref 216]) (st' := [.ref 216]) 1 am_q208 rfl ?_
  refine ev_c (vs := [.ref 216]) (rest := []) 210 am_q208 rfl rfl rfl rfl rfl rfl rfl rfl rfl rfl rfl rfl (Or.inr (congrArg some (lk216 Ly))) (Cl.mono H (Nat.le_refl _) (fun r2 h1 H => ?_))
  obtain ⟨rfl, Ly, H⟩ := H
  exact ev_m (loc' := [.ref 216]) am_q208 rfl rfl H
set_option maxRecDepth 20000 in
set_option maxHeartbeats 2000000 in
theorem ws208_4 {d : Nat}   {h : AH} {Q : Option Value → AH → Prop} (Ly : Lay h) (H : Cl d 198 [.ref 216] h (fun r2 h1 => ∃ x3, r2 = some (.int x3) ∧ Lay h1 ∧ ((¬ x3 = (0 : Int32)) → Q none h1) ∧ (¬ (¬ x3 = (0 : Int32)) → ((¬ (am_gi h1 216 53) = (42 : Int32)) → Q none h1) ∧ (¬ (¬ (am_gi h1 216 53) = (42 : Int32)) → Cl d 195 [.ref 216] h1 (fun r5 h4 => r5 = none ∧ Lay h4 ∧ Cl d 210 [.ref 216] h4 (fun r7 h6 => r7 = none ∧ Lay h6 ∧ Cl d 202 [.ref 216, .int (9 : Int32), .int (0 : Int32)] h6 (fun r9 h8 => r9 = none ∧ Lay h8 ∧ Ev (d + 1) 208 4 [.ref 216] [] h8 Q))))))) : Ev (d + 1) 208 4 [.ref 216] [] h Q := by
  refine ev_p (pc' := 5) (loc' := [.ref 216]) (st' := [.ref 216]) 1 am_q208 rfl ?_
  refine ev_c (vs := [.ref 216]) (rest := []) 198 am_q208 rfl rfl rfl rfl rfl rfl rfl rfl rfl rfl rfl rfl (Or.inr (congrArg some (lk216 Ly))) (Cl.mono H (Nat.le_refl _) (fun r2 h1 H => ?_))
  obtain ⟨x3, rfl, Ly, H⟩ := H
  refine ev_jz (t := 38) am_q208 rfl rfl (fun hq => ?_) (fun hq => ?_)
  · replace H := H.1 hq
    exact ev_r (v := none) am_q208 rfl rfl rfl rfl H
  · replace H := H.2 hq
    refine ev_p (pc' := 12) (loc' := [.ref 216]) (st' := [.ref 216]) 1 am_q208 rfl ?_
    refine ev_s (pc' := 15) (loc' := [.ref 216]) (st' := [.int (am_gi h1 216 53)]) (h1 := h1) am_q208 rfl rfl rfl (if_pos (e := none) (lk216 Ly)) ?_
    refine ev_p (pc' := 17) (loc' := [.ref 216]) (st' := [.int (42 : Int32), .int (am_gi h1 216 53)]) 1 am_q208 rfl ?_
    refine ev_jc (t := 38) am_q208 rfl rfl (fun hq => ?_) (fun hq => ?_)
    · replace H := H.1 hq
      exact ev_r (v := none) am_q208 rfl rfl rfl rfl H
    · replace H := H.2 hq
      refine ev_p (pc' := 21) (loc' := [.ref 216]) (st' := [.ref 216]) 1 am_q208 rfl ?_
      refine ev_c (vs := [.ref 216]) (rest := []) 195 am_q208 rfl rfl rfl rfl rfl rfl rfl rfl rfl rfl rfl rfl (Or.inr (congrArg some (lk216 Ly))) (Cl.mono H (Nat.le_refl _) (fun r5 h4 H => ?_))
      obtain ⟨rfl, Ly, H⟩ := H
      refine ev_p (pc' := 25) (loc' := [.ref 216]) (st' := [.ref 216]) 1 am_q208 rfl ?_
      refine ev_c (vs := [.ref 216]) (rest := []) 210 am_q208 rfl rfl rfl rfl rfl rfl rfl rfl rfl rfl rfl rfl (Or.inr (congrArg some (lk216 Ly))) (Cl.mono H (Nat.le_refl _) (fun r7 h6 H => ?_))
      obtain ⟨rfl, Ly, H⟩ := H
      refine ev_p (pc' := 32) (loc' := [.ref 216]) (st' := [.int (0 : Int32), .int (9 : Int32), .ref 216]) 3 am_q208 rfl ?_
      refine ev_c (vs := [.ref 216, .int (9 : Int32), .int (0 : Int32)]) (rest := []) 202 am_q208 rfl rfl rfl rfl rfl rfl rfl rfl rfl rfl rfl rfl (Or.inr (congrArg some (lk216 Ly))) (Cl.mono H (Nat.le_refl _) (fun r9 h8 H => ?_))
      obtain ⟨rfl, Ly, H⟩ := H
      refine ev_p (pc' := 4) (loc' := [.ref 216]) (st' := []) 1 am_q208 rfl ?_
      exact ev_m (loc' := [.ref 216]) am_q208 rfl rfl H
/-! 209: X12_mayHave -/
set_option maxRecDepth 20000 in
set_option maxHeartbeats 2000000 in
theorem ws209 {d : Nat}  (i1 : Int32) {h : AH} {Q : Option Value → AH → Prop} (Ly : Lay h) (H : ((2 : Int32) ≤ (am_gi h 216 59) → ((¬ (am_gi h 216 59) = (2 : Int32)) → (i1 = (1 : Int32) → Q (some (.int (1 : Int32))) h) ∧ (¬ i1 = (1 : Int32) → (i1 = (2 : Int32) → Q (some (.int (1 : Int32))) h) ∧ (¬ i1 = (2 : Int32) → (i1 = (5 : Int32) → Q (some (.int (1 : Int32))) h) ∧ (¬ i1 = (5 : Int32) → ((¬ i1 = (6 : Int32)) → Q (some (.int (0 : Int32))) h) ∧ (¬ (¬ i1 = (6 : Int32)) → Q (some (.int (1 : Int32))) h))))) ∧ (¬ (¬ (am_gi h 216 59) = (2 : Int32)) → ((¬ i1 = (7 : Int32)) → Q (some (.int (0 : Int32))) h) ∧ (¬ (¬ i1 = (7 : Int32)) → Q (some (.int (1 : Int32))) h))) ∧ (¬ (2 : Int32) ≤ (am_gi h 216 59) → (i1 = (7 : Int32) → Q (some (.int (0 : Int32))) h) ∧ (¬ i1 = (7 : Int32) → Q (some (.int (1 : Int32))) h))) : Cl d 209 [.ref 216, .int i1] h Q := by
  show Ev d 209 0 [.ref 216, .int i1] [] h Q
  refine ev_p (pc' := 1) (loc' := [.ref 216, .int i1]) (st' := [.ref 216]) 1 am_q209 rfl ?_
  refine ev_s (pc' := 4) (loc' := [.ref 216, .int i1]) (st' := [.int (am_gi h 216 59)]) (h1 := h) am_q209 rfl rfl rfl (if_pos (e := none) (lk216 Ly)) ?_
  refine ev_p (pc' := 5) (loc' := [.ref 216, .int i1]) (st' := [.int (2 : Int32), .int (am_gi h 216 59)]) 1 am_q209 rfl ?_
  refine ev_jc (t := 20) am_q209 rfl rfl (fun hq => ?_) (fun hq => ?_)
  · replace H := H.1 hq
    refine ev_p (pc' := 21) (loc' := [.ref 216, .int i1]) (st' := [.ref 216]) 1 am_q209 rfl ?_
    refine ev_s (pc' := 24) (loc' := [.ref 216, .int i1]) (st' := [.int (am_gi h 216 59)]) (h1 := h) am_q209 rfl rfl rfl (if_pos (e := none) (lk216 Ly)) ?_
    refine ev_p (pc' := 25) (loc' := [.ref 216, .int i1]) (st' := [.int (2 : Int32), .int (am_gi h 216 59)]) 1 am_q209 rfl ?_
    refine ev_jc (t := 42) am_q209 rfl rfl (fun hq => ?_) (fun hq => ?_)
    · replace H := H.1 hq
      refine ev_p (pc' := 44) (loc' := [.ref 216, .int i1]) (st' := [.int (1 : Int32), .int i1]) 2 am_q209 rfl ?_
      refine ev_jc (t := 63) am_q209 rfl rfl (fun hq => ?_) (fun hq => ?_)
      · replace H := H.1 hq
        refine ev_p (pc' := 68) (loc' := [.null, .null]) (st' := [.int (1 : Int32)]) 2 am_q209 rfl ?_
        exact ev_r (v := some (.int (1 : Int32))) am_q209 rfl rfl rfl rfl H
      · replace H := H.2 hq
        refine ev_p (pc' := 49) (loc' := [.ref 216, .int i1]) (st' := [.int (2 : Int32), .int i1]) 2 am_q209 rfl ?_
        refine ev_jc (t := 63) am_q209 rfl rfl (fun hq => ?_) (fun hq => ?_)
        · replace H := H.1 hq
          refine ev_p (pc' := 68) (loc' := [.null, .null]) (st' := [.int (1 : Int32)]) 2 am_q209 rfl ?_
          exact ev_r (v := some (.int (1 : Int32))) am_q209 rfl rfl rfl rfl H
        · replace H := H.2 hq
          refine ev_p (pc' := 54) (loc' := [.ref 216, .int i1]) (st' := [.int (5 : Int32), .int i1]) 2 am_q209 rfl ?_
          refine ev_jc (t := 63) am_q209 rfl rfl (fun hq => ?_) (fun hq => ?_)
          · replace H := H.1 hq
            refine ev_p (pc' := 68) (loc' := [.null, .null]) (st' := [.int (1 : Int32)]) 2 am_q209 rfl ?_
            exact ev_r (v := some (.int (1 : Int32))) am_q209 rfl rfl rfl rfl H
          · replace H := H.2 hq
            refine ev_p (pc' := 60) (loc' := [.ref 216, .int i1]) (st' := [.int (6 : Int32), .int i1]) 2 am_q209 rfl ?_
            refine ev_jc (t := 67) am_q209 rfl rfl (fun hq => ?_) (fun hq => ?_)
            · replace H := H.1 hq
              refine ev_p (pc' := 68) (loc' := [.ref 216, .int i1]) (st' := [.int (0 : Int32)]) 1 am_q209 rfl ?_
              exact ev_r (v := some (.int (0 : Int32))) am_q209 rfl rfl rfl rfl H
            · replace H := H.2 hq
              refine ev_p (pc' := 68) (loc' := [.null, .null]) (st' := [.int (1 : Int32)]) 2 am_q209 rfl ?_
              exact ev_r (v := some (.int (1 : Int32))) am_q209 rfl rfl rfl rfl H
    · replace H := H.2 hq
      refine ev_p (pc' := 31) (loc' := [.ref 216, .int i1]) (st' := [.int (7 : Int32), .int i1]) 2 am_q209 rfl ?_
      refine ev_jc (t := 38) am_q209 rfl rfl (fun hq => ?_) (fun hq => ?_)
      · replace H := H.1 hq
        refine ev_p (pc' := 68) (loc' := [.ref 216, .int i1]) (st' := [.int (0 : Int32)]) 2 am_q209 rfl ?_
        exact ev_r (v := some (.int (0 : Int32))) am_q209 rfl rfl rfl rfl H
      · replace H := H.2 hq
        refine ev_p (pc' := 68) (loc' := [.ref 216, .int i1]) (st' := [.int (1 : Int32)]) 2 am_q209 rfl ?_
        exact ev_r (v := some (.int (1 : Int32))) am_q209 rfl rfl rfl rfl H
  · replace H := H.2 hq
    refine ev_p (pc' := 11) (loc' := [.ref 216, .int i1]) (st' := [.int (7 : Int32), .int i1]) 2 am_q209 rfl ?_
    refine ev_jc (t := 18) am_q209 rfl rfl (fun hq => ?_) (fun hq => ?_)
    · replace H := H.1 hq
      refine ev_p (pc' := 19) (loc' := [.ref 216, .int i1]) (st' := [.int (0 : Int32)]) 1 am_q209 rfl ?_
      exact ev_r (v := some (.int (0 : Int32))) am_q209 rfl rfl rfl rfl H
    · replace H := H.2 hq
      refine ev_p (pc' := 19) (loc' := [.ref 216, .int i1]) (st' := [.int (1 : Int32)]) 2 am_q209 rfl ?_
      exact ev_r (v := some (.int (1 : Int32))) am_q209 rfl rfl rfl rfl H
/-! 210: X12_one -/
set_option maxRecDepth 20000 in
set_option maxHeartbeats 2000000 in
theorem ws210 {d : Nat}   {h : AH} {Q : Option Value → AH → Prop} (Ly : Lay h) (H : Cl d 198 [.ref 216] h (fun r2 h1 => ∃ x3, r2 = some (.int x3) ∧ Lay h1 ∧ (x3 = (0 : Int32) → ((¬ (am_gi h1 216 53) = (1 : Int32)) → ((¬ (am_gi h1 216 53) = (3 : Int32)) → ((¬ (am_gi h1 216 53) = (45 : Int32)) → ((¬ (am_gi h1 216 53) = (40 : Int32)) → Cl d 199 [.ref 216] h1 (fun r5 h4 => r5 = none ∧ Lay h4 ∧ Q none h4)) ∧ (¬ (¬ (am_gi h1 216 53) = (40 : Int32)) → Cl d 201 [.ref 216] h1 (fun r7 h6 => r7 = none ∧ Lay h6 ∧ Cl d 204 [.ref 216] h6 (fun r9 h8 => r9 = none ∧ Lay h8 ∧ Cl d 200 [.ref 216, .int (41 : Int32)] h8 (fun r11 h10 => r11 = none ∧ Lay h10 ∧ ∀ h12, h12 = am_si h10 216 57 ((am_gi h10 216 57) - (1 : Int32)) → Q none h12))))) ∧ (¬ (¬ (am_gi h1 216 53) = (45 : Int32)) → Cl d 201 [.ref 216] h1 (fun r14 h13 => r14 = none ∧ Lay h13 ∧ Cl d 210 [.ref 216] h13 (fun r16 h15 => r16 = none ∧ Lay h15 ∧ ∀ h17, h17 = am_si h15 216 57 ((am_gi h15 216 57) - (1 : Int32)) → Cl d 202 [.ref 216, .int (10 : Int32), .int (0 : Int32)] h17 (fun r19 h18 => r19 = none ∧ Lay h18 ∧ Q none h18))))) ∧ (¬ (¬ (am_gi h1 216 53) = (3 : Int32)) → ((¬ (am_gi h1 216 56) = (-1 : Int32)) → ∀ h20, h20 = am_si h1 216 56 (am_gi h1 216 56) → Cl d 202 [.ref 216, .int (1 : Int32), .int (am_gi h20 216 54)] h20 (fun r22 h21 => r22 = none ∧ Lay h21 ∧ Cl d 195 [.ref 216] h21 (fun r24 h23 => r24 = none ∧ Lay h23 ∧ Q none h23))) ∧ (¬ (¬ (am_gi h1 216 56) = (-1 : Int32)) → Cl d 209 [.ref 216, .int (am_gi h1 216 54)] h1 (fun r26 h25 => ∃ x27, r26 = some (.int x27) ∧ Lay h25 ∧ ((¬ x27 = (0 : Int32)) → ∀ h28, h28 = am_si h25 216 56 (am_gi h25 216 56) → Cl d 202 [.ref 216, .int (1 : Int32), .int (am_gi h28 216 54)] h28 (fun r30 h29 => r30 = none ∧ Lay h29 ∧ Cl d 195 [.ref 216] h29 (fun r32 h31 => r32 = none ∧ Lay h31 ∧ Q none h31))) ∧ (¬ (¬ x27 = (0 : Int32)) → ∀ h33, h33 = am_si h25 216 56 (am_gi h25 216 52) → Cl d 202 [.ref 216, .int (1 : Int32), .int (am_gi h33 216 54)] h33 (fun r35 h34 => r35 = none ∧ Lay h34 ∧ Cl d 195 [.ref 216] h34 (fun r37 h36 => r37 = none ∧ Lay h36 ∧ Q none h36))))))) ∧ (¬ (¬ (am_gi h1 216 53) = (1 : Int32)) → Cl d 202 [.ref 216, .int (0 : Int32), .int (am_gi h1 216 54)] h1 (fun r39 h38 => r39 = none ∧ Lay h38 ∧ Cl d 195 [.ref 216] h38 (fun r41 h40 => r41 = none ∧ Lay h40 ∧ Q none h40)))) ∧ (¬ x3 = (0 : Int32) → Q none h1))) : Cl (d + 1) 210 [.ref 216] h Q := by
  show Ev (d + 1) 210 0 [.ref 216] [] h Q
  refine ev_p (pc' := 1) (loc' := [.ref 216]) (st' := [.ref 216]) 1 am_q210 rfl ?_
  refine ev_c (vs := [.ref 216]) (rest := []) 198 am_q210 rfl rfl rfl rfl rfl rfl rfl rfl rfl rfl rfl rfl (Or.inr (congrArg some (lk216 Ly))) (Cl.mono H (Nat.le_refl _) (fun r2 h1 H => ?_))
  obtain ⟨x3, rfl, Ly, H⟩ := H
  refine ev_jz (t := 8) am_q210 rfl rfl (fun hq => ?_) (fun hq => ?_)
  · replace H := H.1 hq
    refine ev_p (pc' := 9) (loc' := [.ref 216]) (st' := [.ref 216]) 1 am_q210 rfl ?_
    refine ev_s (pc' := 12) (loc' := [.ref 216]) (st' := [.int (am_gi h1 216 53)]) (h1 := h1) am_q210 rfl rfl rfl (if_pos (e := none) (lk216 Ly)) ?_
    refine ev_p (pc' := 13) (loc' := [.ref 216]) (st' := [.int (1 : Int32), .int (am_gi h1 216 53)]) 1 am_q210 rfl ?_
    refine ev_jc (t := 32) am_q210 rfl rfl (fun hq => ?_) (fun hq => ?_)
    · replace H := H.1 hq
      refine ev_p (pc' := 33) (loc' := [.ref 216]) (st' := [.ref 216]) 1 am_q210 rfl ?_
      refine ev_s (pc' := 36) (loc' := [.ref 216]) (st' := [.int (am_gi h1 216 53)]) (h1 := h1) am_q210 rfl rfl rfl (if_pos (e := none) (lk216 Ly)) ?_
      refine ev_p (pc' := 37) (loc' := [.ref 216]) (st' := [.int (3 : Int32), .int (am_gi h1 216 53)]) 1 am_q210 rfl ?_
      refine ev_jc (t := 90) am_q210 rfl rfl (fun hq => ?_) (fun hq => ?_)
      · replace H := H.1 hq
        refine ev_p (pc' := 91) (loc' := [.ref 216]) (st' := [.ref 216]) 1 am_q210 rfl ?_
        refine ev_s (pc' := 94) (loc' := [.ref 216]) (st' := [.int (am_gi h1 216 53)]) (h1 := h1) am_q210 rfl rfl rfl (if_pos (e := none) (lk216 Ly)) ?_
        refine ev_p (pc' := 96) (loc' := [.ref 216]) (st' := [.int (45 : Int32), .int (am_gi h1 216 53)]) 1 am_q210 rfl ?_
        refine ev_jc (t := 127) am_q210 rfl rfl (fun hq => ?_) (fun hq => ?_)
        · replace H := H.1 hq
          refine ev_p (pc' := 128) (loc' := [.ref 216]) (st' := [.ref 216]) 1 am_q210 rfl ?_
          refine ev_s (pc' := 131) (loc' := [.ref 216]) (st' := [.int (am_gi h1 216 53)]) (h1 := h1) am_q210 rfl rfl rfl (if_pos (e := none) (lk216 Ly)) ?_
          refine ev_p (pc' := 133) (loc' := [.ref 216]) (st' := [.int (40 : Int32), .int (am_gi h1 216 53)]) 1 am_q210 rfl ?_
          refine ev_jc (t := 163) am_q210 rfl rfl (fun hq => ?_) (fun hq => ?_)
          · replace H := H.1 hq
            refine ev_p (pc' := 164) (loc' := [.ref 216]) (st' := [.ref 216]) 1 am_q210 rfl ?_
            refine ev_c (vs := [.ref 216]) (rest := []) 199 am_q210 rfl rfl rfl rfl rfl rfl rfl rfl rfl rfl rfl rfl (Or.inr (congrArg some (lk216 Ly))) (Cl.mono H (Nat.le_refl _) (fun r5 h4 H => ?_))
            obtain ⟨rfl, Ly, H⟩ := H
            exact ev_r (v := none) am_q210 rfl rfl rfl rfl H
          · replace H := H.2 hq
            refine ev_p (pc' := 137) (loc' := [.ref 216]) (st' := [.ref 216]) 1 am_q210 rfl ?_
            refine ev_c (vs := [.ref 216]) (rest := []) 201 am_q210 rfl rfl rfl rfl rfl rfl rfl rfl rfl rfl rfl rfl (Or.inr (congrArg some (lk216 Ly))) (Cl.mono H (Nat.le_refl _) (fun r7 h6 H => ?_))
            obtain ⟨rfl, Ly, H⟩ := H
            refine ev_p (pc' := 141) (loc' := [.ref 216]) (st' := [.ref 216]) 1 am_q210 rfl ?_
            refine ev_c (vs := [.ref 216]) (rest := []) 204 am_q210 rfl rfl rfl rfl rfl rfl rfl rfl rfl rfl rfl rfl (Or.inr (congrArg some (lk216 Ly))) (Cl.mono H (Nat.le_refl _) (fun r9 h8 H => ?_))
            obtain ⟨rfl, Ly, H⟩ := H
            refine ev_p (pc' := 147) (loc' := [.ref 216]) (st' := [.int (41 : Int32), .ref 216]) 2 am_q210 rfl ?_
            refine ev_c (vs := [.ref 216, .int (41 : Int32)]) (rest := []) 200 am_q210 rfl rfl rfl rfl rfl rfl rfl rfl rfl rfl rfl rfl (Or.inr (congrArg some (lk216 Ly))) (Cl.mono H (Nat.le_refl _) (fun r11 h10 H => ?_))
            obtain ⟨rfl, Ly, H⟩ := H
            refine ev_p (pc' := 152) (loc' := [.ref 216]) (st' := [.ref 216, .ref 216]) 2 am_q210 rfl ?_
            refine ev_s (pc' := 155) (loc' := [.ref 216]) (st' := [.int (am_gi h10 216 57), .ref 216]) (h1 := h10) am_q210 rfl rfl rfl (if_pos (e := none) (lk216 Ly)) ?_
            refine ev_p (pc' := 157) (loc' := [.ref 216]) (st' := [.int ((am_gi h10 216 57) - (1 : Int32)), .ref 216]) 2 am_q210 rfl ?_
            refine ev_s (pc' := 160) (loc' := [.ref 216]) (st' := []) (h1 := am_si h10 216 57 ((am_gi h10 216 57) - (1 : Int32))) am_q210 rfl rfl rfl (if_pos (e := none) (lk216 Ly)) ?_
            replace H := H _ rfl
            replace Ly : Lay (am_si h10 216 57 ((am_gi h10 216 57) - (1 : Int32))) := Ly.si _ _ _
            generalize am_si h10 216 57 ((am_gi h10 216 57) - (1 : Int32)) = h12 at H Ly ⊢
            refine ev_p (pc' := 167) (loc' := [.ref 216]) (st' := []) 1 am_q210 rfl ?_
            exact ev_r (v := none) am_q210 rfl rfl rfl rfl H
        · replace H := H.2 hq
          refine ev_p (pc' := 100) (loc' := [.ref 216]) (st' := [.ref 216]) 1 am_q210 rfl ?_
          refine ev_c (vs := [.ref 216]) (rest := []) 201 am_q210 rfl rfl rfl rfl rfl rfl rfl rfl rfl rfl rfl rfl (Or.inr (congrArg some (lk216 Ly))) (Cl.mono H (Nat.le_refl _) (fun r14 h13 H => ?_))
          obtain ⟨rfl, Ly, H⟩ := H
          refine ev_p (pc' := 104) (loc' := [.ref 216]) (st' := [.ref 216]) 1 am_q210 rfl ?_
          refine ev_c (vs := [.ref 216]) (rest := []) 210 am_q210 rfl rfl rfl rfl rfl rfl rfl rfl rfl rfl rfl rfl (Or.inr (congrArg some (lk216 Ly))) (Cl.mono H (Nat.le_refl _) (fun r16 h15 H => ?_))
          obtain ⟨rfl, Ly, H⟩ := H
          refine ev_p (pc' := 109) (loc' := [.ref 216]) (st' := [.ref 216, .ref 216]) 2 am_q210 rfl ?_
          refine ev_s (pc' := 112) (loc' := [.ref 216]) (st' := [.int (am_gi h15 216 57), .ref 216]) (h1 := h15) am_q210 rfl rfl rfl (if_pos (e := none) (lk216 Ly)) ?_
          refine ev_p (pc' := 114) (loc' := [.ref 216]) (st' := [.int ((am_gi h15 216 57) - (1 : Int32)), .ref 216]) 2 am_q210 rfl ?_
          refine ev_s (pc' := 117) (loc' := [.ref 216]) (st' := []) (h1 := am_si h15 216 57 ((am_gi h15 216 57) - (1 : Int32))) am_q210 rfl rfl rfl (if_pos (e := none) (lk216 Ly)) ?_
          replace H := H _ rfl
          replace Ly : Lay (am_si h15 216 57 ((am_gi h15 216 57) - (1 : Int32))) := Ly.si _ _ _
          generalize am_si h15 216 57 ((am_gi h15 216 57) - (1 : Int32)) = h17 at H Ly ⊢
          refine ev_p (pc' := 121) (loc' := [.ref 216]) (st' := [.int (0 : Int32), .int (10 : Int32), .ref 216]) 3 am_q210 rfl ?_
          refine ev_c (vs := [.ref 216, .int (10 : Int32), .int (0 : Int32)]) (rest := []) 202 am_q210 rfl rfl rfl rfl rfl rfl rfl rfl rfl rfl rfl rfl (Or.inr (congrArg some (lk216 Ly))) (Cl.mono H (Nat.le_refl _) (fun r19 h18 H => ?_))
          obtain ⟨rfl, Ly, H⟩ := H
          refine ev_p (pc' := 167) (loc' := [.ref 216]) (st' := []) 1 am_q210 rfl ?_
          exact ev_r (v := none) am_q210 rfl rfl rfl rfl H
      · replace H := H.2 hq
        refine ev_p (pc' := 42) (loc' := [.ref 216]) (st' := [.ref 216, .ref 216]) 2 am_q210 rfl ?_
        refine ev_s (pc' := 45) (loc' := [.ref 216]) (st' := [.int (am_gi h1 216 56), .ref 216]) (h1 := h1) am_q210 rfl rfl rfl (if_pos (e := none) (lk216 Ly)) ?_
        refine ev_p (pc' := 46) (loc' := [.ref 216]) (st' := [.int (-1 : Int32), .int (am_gi h1 216 56), .ref 216]) 1 am_q210 rfl ?_
        refine ev_jc (t := 67) am_q210 rfl rfl (fun hq => ?_) (fun hq => ?_)
        · replace H := H.1 hq
          refine ev_p (pc' := 68) (loc' := [.ref 216]) (st' := [.ref 216, .ref 216]) 1 am_q210 rfl ?_
          refine ev_s (pc' := 71) (loc' := [.ref 216]) (st' := [.int (am_gi h1 216 56), .ref 216]) (h1 := h1) am_q210 rfl rfl rfl (if_pos (e := none) (lk216 Ly)) ?_
          refine ev_s (pc' := 74) (loc' := [.ref 216]) (st' := []) (h1 := am_si h1 216 56 (am_gi h1 216 56)) am_q210 rfl rfl rfl (if_pos (e := none) (lk216 Ly)) ?_
          replace H := H _ rfl
          replace Ly : Lay (am_si h1 216 56 (am_gi h1 216 56)) := Ly.si _ _ _
          generalize am_si h1 216 56 (am_gi h1 216 56) = h20 at H Ly ⊢
          refine ev_p (pc' := 77) (loc' := [.ref 216]) (st' := [.ref 216, .int (1 : Int32), .ref 216]) 3 am_q210 rfl ?_
          refine ev_s (pc' := 80) (loc' := [.ref 216]) (st' := [.int (am_gi h20 216 54), .int (1 : Int32), .ref 216]) (h1 := h20) am_q210 rfl rfl rfl (if_pos (e := none) (lk216 Ly)) ?_
          refine ev_c (vs := [.ref 216, .int (1 : Int32), .int (am_gi h20 216 54)]) (rest := []) 202 am_q210 rfl rfl rfl rfl rfl rfl rfl rfl rfl rfl rfl rfl (Or.inr (congrArg some (lk216 Ly))) (Cl.mono H (Nat.le_refl _) (fun r22 h21 H => ?_))
          obtain ⟨rfl, Ly, H⟩ := H
          refine ev_p (pc' := 84) (loc' := [.ref 216]) (st' := [.ref 216]) 1 am_q210 rfl ?_
          refine ev_c (vs := [.ref 216]) (rest := []) 195 am_q210 rfl rfl rfl rfl rfl rfl rfl rfl rfl rfl rfl rfl (Or.inr (congrArg some (lk216 Ly))) (Cl.mono H (Nat.le_refl _) (fun r24 h23 H => ?_))
          obtain ⟨rfl, Ly, H⟩ := H
          refine ev_p (pc' := 167) (loc' := [.ref 216]) (st' := []) 1 am_q210 rfl ?_
          exact ev_r (v := none) am_q210 rfl rfl rfl rfl H
        · replace H := H.2 hq
          refine ev_p (pc' := 51) (loc' := [.ref 216]) (st' := [.ref 216, .ref 216, .ref 216]) 2 am_q210 rfl ?_
          refine ev_s (pc' := 54) (loc' := [.ref 216]) (st' := [.int (am_gi h1 216 54), .ref 216, .ref 216]) (h1 := h1) am_q210 rfl rfl rfl (if_pos (e := none) (lk216 Ly)) ?_
          refine ev_c (vs := [.ref 216, .int (am_gi h1 216 54)]) (rest := [.ref 216]) 209 am_q210 rfl rfl rfl rfl rfl rfl rfl rfl rfl rfl rfl rfl (Or.inr (congrArg some (lk216 Ly))) (Cl.mono H (Nat.le_refl _) (fun r26 h25 H => ?_))
          obtain ⟨x27, rfl, Ly, H⟩ := H
          refine ev_jz (t := 67) am_q210 rfl rfl (fun hq => ?_) (fun hq => ?_)
          · replace H := H.1 hq
            refine ev_p (pc' := 68) (loc' := [.ref 216]) (st' := [.ref 216, .ref 216]) 1 am_q210 rfl ?_
            refine ev_s (pc' := 71) (loc' := [.ref 216]) (st' := [.int (am_gi h25 216 56), .ref 216]) (h1 := h25) am_q210 rfl rfl rfl (if_pos (e := none) (lk216 Ly)) ?_
            refine ev_s (pc' := 74) (loc' := [.ref 216]) (st' := []) (h1 := am_si h25 216 56 (am_gi h25 216 56)) am_q210 rfl rfl rfl (if_pos (e := none) (lk216 Ly)) ?_
            replace H := H _ rfl
            replace Ly : Lay (am_si h25 216 56 (am_gi h25 216 56)) := Ly.si _ _ _
            generalize am_si h25 216 56 (am_gi h25 216 56) = h28 at H Ly ⊢
            refine ev_p (pc' := 77) (loc' := [.ref 216]) (st' := [.ref 216, .int (1 : Int32), .ref 216]) 3 am_q210 rfl ?_
            refine ev_s (pc' := 80) (loc' := [.ref 216]) (st' := [.int (am_gi h28 216 54), .int (1 : Int32), .ref 216]) (h1 := h28) am_q210 rfl rfl rfl (if_pos (e := none) (lk216 Ly)) ?_
            refine ev_c (vs := [.ref 216, .int (1 : Int32), .int (am_gi h28 216 54)]) (rest := []) 202 am_q210 rfl rfl rfl rfl rfl rfl rfl rfl rfl rfl rfl rfl (Or.inr (congrArg some (lk216 Ly))) (Cl.mono H (Nat.le_refl _) (fun r30 h29 H => ?_))
            obtain ⟨rfl, Ly, H⟩ := H
            refine ev_p (pc' := 84) (loc' := [.ref 216]) (st' := [.ref 216]) 1 am_q210 rfl ?_
            refine ev_c (vs := [.ref 216]) (rest := []) 195 am_q210 rfl rfl rfl rfl rfl rfl rfl rfl rfl rfl rfl rfl (Or.inr (congrArg some (lk216 Ly))) (Cl.mono H (Nat.le_refl _) (fun r32 h31 H => ?_))
            obtain ⟨rfl, Ly, H⟩ := H
            refine ev_p (pc' := 167) (loc' := [.ref 216]) (st' := []) 1 am_q210 rfl ?_
            exact ev_r (v := none) am_q210 rfl rfl rfl rfl H
          · replace H := H.2 hq
            refine ev_p (pc' := 61) (loc' := [.ref 216]) (st' := [.ref 216, .ref 216]) 1 am_q210 rfl ?_
            refine ev_s (pc' := 64) (loc' := [.ref 216]) (st' := [.int (am_gi h25 216 52), .ref 216]) (h1 := h25) am_q210 rfl rfl rfl (if_pos (e := none) (lk216 Ly)) ?_
            refine ev_p (pc' := 71) (loc' := [.ref 216]) (st' := [.int (am_gi h25 216 52), .ref 216]) 1 am_q210 rfl ?_
            refine ev_s (pc' := 74) (loc' := [.ref 216]) (st' := []) (h1 := am_si h25 216 56 (am_gi h25 216 52)) am_q210 rfl rfl rfl (if_pos (e := none) (lk216 Ly)) ?_
            replace H := H _ rfl
            replace Ly : Lay (am_si h25 216 56 (am_gi h25 216 52)) := Ly.si _ _ _
            generalize am_si h25 216 56 (am_gi h25 216 52) = h33 at H Ly ⊢
            refine ev_p (pc' := 77) (loc' := [.ref 216]) (st' := [.ref 216, .int (1 : Int32), .ref 216]) 3 am_q210 rfl ?_
            refine ev_s (pc' := 80) (loc' := [.ref 216]) (st' := [.int (am_gi h33 216 54), .int (1 : Int32), .ref 216]) (h1 := h33) am_q210 rfl rfl rfl (if_pos (e := none) (lk216 Ly)) ?_
            refine ev_c (vs := [.ref 216, .int (1 : Int32), .int (am_gi h33 216 54)]) (rest := []) 202 am_q210 rfl rfl rfl rfl rfl rfl rfl rfl rfl rfl rfl rfl (Or.inr (congrArg some (lk216 Ly))) (Cl.mono H (Nat.le_refl _) (fun r35 h34 H => ?_))
            obtain ⟨rfl, Ly, H⟩ := H
            refine ev_p (pc' := 84) (loc' := [.ref 216]) (st' := [.ref 216]) 1 am_q210 rfl ?_
            refine ev_c (vs := [.ref 216]) (rest := []) 195 am_q210 rfl rfl rfl rfl rfl rfl rfl rfl rfl rfl rfl rfl (Or.inr (congrArg some (lk216 Ly))) (Cl.mono H (Nat.le_refl _) (fun r37 h36 H => ?_))
            obtain ⟨rfl, Ly, H⟩ := H
            refine ev_p (pc' := 167) (loc' := [.ref 216]) (st' := []) 1 am_q210 rfl ?_
            exact ev_r (v := none) am_q210 rfl rfl rfl rfl H
    · replace H := H.2 hq
      refine ev_p (pc' := 19) (loc' := [.ref 216]) (st' := [.ref 216, .int (0 : Int32), .ref 216]) 3 am_q210 rfl ?_
      refine ev_s (pc' := 22) (loc' := [.ref 216]) (st' := [.int (am_gi h1 216 54), .int (0 : Int32), .ref 216]) (h1 := h1) am_q210 rfl rfl rfl (if_pos (e := none) (lk216 Ly)) ?_
      refine ev_c (vs := [.ref 216, .int (0 : Int32), .int (am_gi h1 216 54)]) (rest := []) 202 am_q210 rfl rfl rfl rfl rfl rfl rfl rfl rfl rfl rfl rfl (Or.inr (congrArg some (lk216 Ly))) (Cl.mono H (Nat.le_refl _) (fun r39 h38 H => ?_))
      obtain ⟨rfl, Ly, H⟩ := H
      refine ev_p (pc' := 26) (loc' := [.ref 216]) (st' := [.ref 216]) 1 am_q210 rfl ?_
      refine ev_c (vs := [.ref 216]) (rest := []) 195 am_q210 rfl rfl rfl rfl rfl rfl rfl rfl rfl rfl rfl rfl (Or.inr (congrArg some (lk216 Ly))) (Cl.mono H (Nat.le_refl _) (fun r41 h40 H => ?_))
      obtain ⟨rfl, Ly, H⟩ := H
      refine ev_p (pc' := 167) (loc' := [.ref 216]) (st' := []) 1 am_q210 rfl ?_
      exact ev_r (v := none) am_q210 rfl rfl rfl rfl H
  · replace H := H.2 hq
    exact ev_r (v := none) am_q210 rfl rfl rfl rfl H
/-! 211: X12_named -/
set_option maxRecDepth 20000 in
set_option maxHeartbeats 2000000 in
theorem ws211 {d : Nat}  (i1 : Int32) (i2 : Int32) (i3 : Int32) {h : AH} {Q : Option Value → AH → Prop} (Ly : Lay h) (H : (i1 = (0 : Int32) → am_in i2 24 ∧ ((¬ (am_gi h 225 (Int32.toNatClampNeg i2)) = (-1 : Int32)) → am_in i2 24 ∧ Q (some (.long (Int32.toInt64 ((am_gi h 216 0) - (am_gi h 225 (Int32.toNatClampNeg i2)))))) h) ∧ (¬ (¬ (am_gi h 225 (Int32.toNatClampNeg i2)) = (-1 : Int32)) → Q (some (.long (0 : Int64))) h)) ∧ (i1 = (1 : Int32) → ((¬ i2 = (-1 : Int32)) → am_in i2 24 ∧ Q (some (.long (Int32.toInt64 (am_gi h 222 (Int32.toNatClampNeg i2))))) h) ∧ (¬ (¬ i2 = (-1 : Int32)) → Q (some (.long (0 : Int64))) h)) ∧ (i1 = (2 : Int32) → am_in i3 12 ∧ Q (some (.long (Int32.toInt64 (am_gi h 218 (Int32.toNatClampNeg i3))))) h) ∧ (i1 = (3 : Int32) → am_in i2 24 ∧ Q (some (.long (Int32.toInt64 ((am_gi h 216 0) - (am_gi h 223 (Int32.toNatClampNeg i2)))))) h) ∧ (i1 = (4 : Int32) → am_in i2 24 ∧ Q (some (.long (am_gl h 227 (Int32.toNatClampNeg i2)))) h) ∧ (i1 = (5 : Int32) → am_in i3 12 ∧ Q (some (.long (Int32.toInt64 (am_gi h 217 (Int32.toNatClampNeg i3))))) h) ∧ (i1 = (6 : Int32) → am_in i3 12 ∧ Q (some (.long (Int32.toInt64 (am_gi h 219 (Int32.toNatClampNeg i3))))) h) ∧ (¬ i1 = (0 : Int32) ∧ ¬ i1 = (1 : Int32) ∧ ¬ i1 = (2 : Int32) ∧ ¬ i1 = (3 : Int32) ∧ ¬ i1 = (4 : Int32) ∧ ¬ i1 = (5 : Int32) ∧ ¬ i1 = (6 : Int32) → Cl d 214 [.ref 216] h (fun r17 h16 => ∃ x18, r17 = some (.int x18) ∧ Lay h16 ∧ Q (some (.long (Int32.toInt64 x18))) h16))) : Cl (d + 1) 211 [.ref 216, .int i1, .int i2, .int i3] h Q := by
  show Ev (d + 1) 211 0 [.ref 216, .int i1, .int i2, .int i3] [] h Q
  refine ev_p (pc' := 1) (loc' := [.ref 216, .int i1, .int i2, .int i3]) (st' := [.int i1]) 1 am_q211 rfl ?_
  by_cases k3 : i1 = (0 : Int32)
  · replace H := H.1 k3
    refine ev_s (pc' := 44) (loc' := [.ref 216, .int i1, .int i2, .int i3]) (st' := []) (h1 := h) am_q211 rfl rfl rfl (by rw [k3]; rfl) ?_
    refine ev_p (pc' := 45) (loc' := [.ref 216, .int i1, .int i2, .int i3]) (st' := [.ref 216]) 1 am_q211 rfl ?_
    refine ev_s (pc' := 48) (loc' := [.ref 216, .int i1, .int i2, .int i3]) (st' := [.ref 225]) (h1 := h) am_q211 rfl rfl rfl (am_gf2 (lk216 Ly) (lr216_11 Ly)) ?_
    refine ev_p (pc' := 49) (loc' := [.ref 216, .int i1, .int i2, .int i3]) (st' := [.int i2, .ref 225]) 1 am_q211 rfl ?_
    obtain ⟨g1, H⟩ := H
    refine ev_s (pc' := 50) (loc' := [.ref 216, .int i1, .int i2, .int i3]) (st' := [.int (am_gi h 225 (Int32.toNatClampNeg i2))]) (h1 := h) am_q211 rfl rfl rfl (am_xx (lk225 Ly) (am_inl (ln225 Ly) g1)) ?_
    refine ev_p (pc' := 51) (loc' := [.ref 216, .int i1, .int i2, .int i3]) (st' := [.int (-1 : Int32), .int (am_gi h 225 (Int32.toNatClampNeg i2))]) 1 am_q211 rfl ?_
    refine ev_jc (t := 58) am_q211 rfl rfl (fun hq => ?_) (fun hq => ?_)
    · replace H := H.1 hq
      refine ev_p (pc' := 59) (loc' := [.ref 216, .int i1, .int i2, .int i3]) (st' := [.ref 216]) 1 am_q211 rfl ?_
      refine ev_s (pc' := 62) (loc' := [.ref 216, .int i1, .int i2, .int i3]) (st' := [.int (am_gi h 216 0)]) (h1 := h) am_q211 rfl rfl rfl (if_pos (e := none) (lk216 Ly)) ?_
      refine ev_p (pc' := 63) (loc' := [.ref 216, .int i1, .int i2, .int i3]) (st' := [.ref 216, .int (am_gi h 216 0)]) 1 am_q211 rfl ?_
      refine ev_s (pc' := 66) (loc' := [.ref 216, .int i1, .int i2, .int i3]) (st' := [.ref 225, .int (am_gi h 216 0)]) (h1 := h) am_q211 rfl rfl rfl (am_gf2 (lk216 Ly) (lr216_11 Ly)) ?_
      refine ev_p (pc' := 67) (loc' := [.ref 216, .int i1, .int i2, .int i3]) (st' := [.int i2, .ref 225, .int (am_gi h 216 0)]) 1 am_q211 rfl ?_
      obtain ⟨g2, H⟩ := H
      refine ev_s (pc' := 68) (loc' := [.ref 216, .int i1, .int i2, .int i3]) (st' := [.int (am_gi h 225 (Int32.toNatClampNeg i2)), .int (am_gi h 216 0)]) (h1 := h) am_q211 rfl rfl rfl (am_xx (lk225 Ly) (am_inl (ln225 Ly) g2)) ?_
      refine ev_p (pc' := 70) (loc' := [.ref 216, .int i1, .int i2, .int i3]) (st' := [.long (Int32.toInt64 ((am_gi h 216 0) - (am_gi h 225 (Int32.toNatClampNeg i2))))]) 2 am_q211 rfl ?_
      exact ev_r (v := some (.long (Int32.toInt64 ((am_gi h 216 0) - (am_gi h 225 (Int32.toNatClampNeg i2)))))) am_q211 rfl rfl rfl rfl H
    · replace H := H.2 hq
      refine ev_p (pc' := 70) (loc' := [.ref 216, .int i1, .int i2, .int i3]) (st' := [.long (0 : Int64)]) 2 am_q211 rfl ?_
      exact ev_r (v := some (.long (0 : Int64))) am_q211 rfl rfl rfl rfl H
  replace H := H.2
  by_cases k5 : i1 = (1 : Int32)
  · replace H := H.1 k5
    refine ev_s (pc' := 71) (loc' := [.ref 216, .int i1, .int i2, .int i3]) (st' := []) (h1 := h) am_q211 rfl rfl rfl (by rw [k5]; rfl) ?_
    refine ev_p (pc' := 73) (loc' := [.ref 216, .int i1, .int i2, .int i3]) (st' := [.int (-1 : Int32), .int i2]) 2 am_q211 rfl ?_
    refine ev_jc (t := 80) am_q211 rfl rfl (fun hq => ?_) (fun hq => ?_)
    · replace H := H.1 hq
      refine ev_p (pc' := 81) (loc' := [.ref 216, .int i1, .int i2, .int i3]) (st' := [.ref 216]) 1 am_q211 rfl ?_
      refine ev_s (pc' := 84) (loc' := [.ref 216, .int i1, .int i2, .int i3]) (st' := [.ref 222]) (h1 := h) am_q211 rfl rfl rfl (am_gf2 (lk216 Ly) (lr216_8 Ly)) ?_
      refine ev_p (pc' := 85) (loc' := [.ref 216, .int i1, .int i2, .int i3]) (st' := [.int i2, .ref 222]) 1 am_q211 rfl ?_
      obtain ⟨g4, H⟩ := H
      refine ev_s (pc' := 86) (loc' := [.ref 216, .int i1, .int i2, .int i3]) (st' := [.int (am_gi h 222 (Int32.toNatClampNeg i2))]) (h1 := h) am_q211 rfl rfl rfl (am_xx (lk222 Ly) (am_inl (ln222 Ly) g4)) ?_
      refine ev_p (pc' := 87) (loc' := [.ref 216, .int i1, .int i2, .int i3]) (st' := [.long (Int32.toInt64 (am_gi h 222 (Int32.toNatClampNeg i2)))]) 1 am_q211 rfl ?_
      exact ev_r (v := some (.long (Int32.toInt64 (am_gi h 222 (Int32.toNatClampNeg i2))))) am_q211 rfl rfl rfl rfl H
    · replace H := H.2 hq
      refine ev_p (pc' := 87) (loc' := [.ref 216, .int i1, .int i2, .int i3]) (st' := [.long (0 : Int64)]) 2 am_q211 rfl ?_
      exact ev_r (v := some (.long (0 : Int64))) am_q211 rfl rfl rfl rfl H
  replace H := H.2
  by_cases k7 : i1 = (2 : Int32)
  · replace H := H.1 k7
    refine ev_s (pc' := 88) (loc' := [.ref 216, .int i1, .int i2, .int i3]) (st' := []) (h1 := h) am_q211 rfl rfl rfl (by rw [k7]; rfl) ?_
    refine ev_p (pc' := 89) (loc' := [.ref 216, .int i1, .int i2, .int i3]) (st' := [.ref 216]) 1 am_q211 rfl ?_
    refine ev_s (pc' := 92) (loc' := [.ref 216, .int i1, .int i2, .int i3]) (st' := [.ref 218]) (h1 := h) am_q211 rfl rfl rfl (am_gf2 (lk216 Ly) (lr216_3 Ly)) ?_
    refine ev_p (pc' := 93) (loc' := [.ref 216, .int i1, .int i2, .int i3]) (st' := [.int i3, .ref 218]) 1 am_q211 rfl ?_
    obtain ⟨g6, H⟩ := H
    refine ev_s (pc' := 94) (loc' := [.ref 216, .int i1, .int i2, .int i3]) (st' := [.int (am_gi h 218 (Int32.toNatClampNeg i3))]) (h1 := h) am_q211 rfl rfl rfl (am_xx (lk218 Ly) (am_inl (ln218 Ly) g6)) ?_
    refine ev_p (pc' := 95) (loc' := [.ref 216, .int i1, .int i2, .int i3]) (st' := [.long (Int32.toInt64 (am_gi h 218 (Int32.toNatClampNeg i3)))]) 1 am_q211 rfl ?_
    exact ev_r (v := some (.long (Int32.toInt64 (am_gi h 218 (Int32.toNatClampNeg i3))))) am_q211 rfl rfl rfl rfl H
  replace H := H.2
  by_cases k9 : i1 = (3 : Int32)
  · replace H := H.1 k9
    refine ev_s (pc' := 96) (loc' := [.ref 216, .int i1, .int i2, .int i3]) (st' := []) (h1 := h) am_q211 rfl rfl rfl (by rw [k9]; rfl) ?_
    refine ev_p (pc' := 97) (loc' := [.ref 216, .int i1, .int i2, .int i3]) (st' := [.ref 216]) 1 am_q211 rfl ?_
    refine ev_s (pc' := 100) (loc' := [.ref 216, .int i1, .int i2, .int i3]) (st' := [.int (am_gi h 216 0)]) (h1 := h) am_q211 rfl rfl rfl (if_pos (e := none) (lk216 Ly)) ?_
    refine ev_p (pc' := 101) (loc' := [.ref 216, .int i1, .int i2, .int i3]) (st' := [.ref 216, .int (am_gi h 216 0)]) 1 am_q211 rfl ?_
    refine ev_s (pc' := 104) (loc' := [.ref 216, .int i1, .int i2, .int i3]) (st' := [.ref 223, .int (am_gi h 216 0)]) (h1 := h) am_q211 rfl rfl rfl (am_gf2 (lk216 Ly) (lr216_9 Ly)) ?_
    refine ev_p (pc' := 105) (loc' := [.ref 216, .int i1, .int i2, .int i3]) (st' := [.int i2, .ref 223, .int (am_gi h 216 0)]) 1 am_q211 rfl ?_
    obtain ⟨g8, H⟩ := H
    refine ev_s (pc' := 106) (loc' := [.ref 216, .int i1, .int i2, .int i3]) (st' := [.int (am_gi h 223 (Int32.toNatClampNeg i2)), .int (am_gi h 216 0)]) (h1 := h) am_q211 rfl rfl rfl (am_xx (lk223 Ly) (am_inl (ln223 Ly) g8)) ?_
    refine ev_p (pc' := 108) (loc' := [.ref 216, .int i1, .int i2, .int i3]) (st' := [.long (Int32.toInt64 ((am_gi h 216 0) - (am_gi h 223 (Int32.toNatClampNeg i2))))]) 2 am_q211 rfl ?_
    exact ev_r (v := some (.long (Int32.toInt64 ((am_gi h 216 0) - (am_gi h 223 (Int32.toNatClampNeg i2)))))) am_q211 rfl rfl rfl rfl H
  replace H := H.2
  by_cases k11 : i1 = (4 : Int32)
  · replace H := H.1 k11
    refine ev_s (pc' := 109) (loc' := [.ref 216, .int i1, .int i2, .int i3]) (st' := []) (h1 := h) am_q211 rfl rfl rfl (by rw [k11]; rfl) ?_
    refine ev_p (pc' := 110) (loc' := [.ref 216, .int i1, .int i2, .int i3]) (st' := [.ref 216]) 1 am_q211 rfl ?_
    refine ev_s (pc' := 113) (loc' := [.ref 216, .int i1, .int i2, .int i3]) (st' := [.ref 227]) (h1 := h) am_q211 rfl rfl rfl (am_gf2 (lk216 Ly) (lr216_13 Ly)) ?_
    refine ev_p (pc' := 114) (loc' := [.ref 216, .int i1, .int i2, .int i3]) (st' := [.int i2, .ref 227]) 1 am_q211 rfl ?_
    obtain ⟨g10, H⟩ := H
    refine ev_s (pc' := 115) (loc' := [.ref 216, .int i1, .int i2, .int i3]) (st' := [.long (am_gl h 227 (Int32.toNatClampNeg i2))]) (h1 := h) am_q211 rfl rfl rfl (am_xx (lk227 Ly) (am_inl (ln227 Ly) g10)) ?_
    exact ev_r (v := some (.long (am_gl h 227 (Int32.toNatClampNeg i2)))) am_q211 rfl rfl rfl rfl H
  replace H := H.2
  by_cases k13 : i1 = (5 : Int32)
  · replace H := H.1 k13
    refine ev_s (pc' := 116) (loc' := [.ref 216, .int i1, .int i2, .int i3]) (st' := []) (h1 := h) am_q211 rfl rfl rfl (by rw [k13]; rfl) ?_
    refine ev_p (pc' := 117) (loc' := [.ref 216, .int i1, .int i2, .int i3]) (st' := [.ref 216]) 1 am_q211 rfl ?_
    refine ev_s (pc' := 120) (loc' := [.ref 216, .int i1, .int i2, .int i3]) (st' := [.ref 217]) (h1 := h) am_q211 rfl rfl rfl (am_gf2 (lk216 Ly) (lr216_2 Ly)) ?_
    refine ev_p (pc' := 121) (loc' := [.ref 216, .int i1, .int i2, .int i3]) (st' := [.int i3, .ref 217]) 1 am_q211 rfl ?_
    obtain ⟨g12, H⟩ := H
    refine ev_s (pc' := 122) (loc' := [.ref 216, .int i1, .int i2, .int i3]) (st' := [.int (am_gi h 217 (Int32.toNatClampNeg i3))]) (h1 := h) am_q211 rfl rfl rfl (am_xx (lk217 Ly) (am_inl (ln217 Ly) g12)) ?_
    refine ev_p (pc' := 123) (loc' := [.ref 216, .int i1, .int i2, .int i3]) (st' := [.long (Int32.toInt64 (am_gi h 217 (Int32.toNatClampNeg i3)))]) 1 am_q211 rfl ?_
    exact ev_r (v := some (.long (Int32.toInt64 (am_gi h 217 (Int32.toNatClampNeg i3))))) am_q211 rfl rfl rfl rfl H
  replace H := H.2
  by_cases k15 : i1 = (6 : Int32)
  · replace H := H.1 k15
    refine ev_s (pc' := 124) (loc' := [.ref 216, .int i1, .int i2, .int i3]) (st' := []) (h1 := h) am_q211 rfl rfl rfl (by rw [k15]; rfl) ?_
    refine ev_p (pc' := 125) (loc' := [.ref 216, .int i1, .int i2, .int i3]) (st' := [.ref 216]) 1 am_q211 rfl ?_
    refine ev_s (pc' := 128) (loc' := [.ref 216, .int i1, .int i2, .int i3]) (st' := [.ref 219]) (h1 := h) am_q211 rfl rfl rfl (am_gf2 (lk216 Ly) (lr216_4 Ly)) ?_
    refine ev_p (pc' := 129) (loc' := [.ref 216, .int i1, .int i2, .int i3]) (st' := [.int i3, .ref 219]) 1 am_q211 rfl ?_
    obtain ⟨g14, H⟩ := H
    refine ev_s (pc' := 130) (loc' := [.ref 216, .int i1, .int i2, .int i3]) (st' := [.int (am_gi h 219 (Int32.toNatClampNeg i3))]) (h1 := h) am_q211 rfl rfl rfl (am_xx (lk219 Ly) (am_inl (ln219 Ly) g14)) ?_
    refine ev_p (pc' := 131) (loc' := [.ref 216, .int i1, .int i2, .int i3]) (st' := [.long (Int32.toInt64 (am_gi h 219 (Int32.toNatClampNeg i3)))]) 1 am_q211 rfl ?_
    exact ev_r (v := some (.long (Int32.toInt64 (am_gi h 219 (Int32.toNatClampNeg i3))))) am_q211 rfl rfl rfl rfl H
  replace H := H.2
  replace H := H ⟨k3, k5, k7, k9, k11, k13, k15⟩
  refine ev_s (pc' := 132) (loc' := [.ref 216, .int i1, .int i2, .int i3]) (st' := []) (h1 := h) am_q211 rfl rfl rfl (am_tso (x := (i1).toInt) (by have z0 : (i1).toInt ≠ 0 := am_tn k3 (by decide); have z1 : (i1).toInt ≠ 1 := am_tn k5 (by decide); have z2 : (i1).toInt ≠ 2 := am_tn k7 (by decide); have z3 : (i1).toInt ≠ 3 := am_tn k9 (by decide); have z4 : (i1).toInt ≠ 4 := am_tn k11 (by decide); have z5 : (i1).toInt ≠ 5 := am_tn k13 (by decide); have z6 : (i1).toInt ≠ 6 := am_tn k15 (by decide); omega)) ?_
  refine ev_p (pc' := 133) (loc' := [.ref 216, .int i1, .int i2, .int i3]) (st' := [.ref 216]) 1 am_q211 rfl ?_
  refine ev_c (vs := [.ref 216]) (rest := []) 214 am_q211 rfl rfl rfl rfl rfl rfl rfl rfl rfl rfl rfl rfl (Or.inr (congrArg some (lk216 Ly))) (Cl.mono H (Nat.le_refl _) (fun r17 h16 H => ?_))
  obtain ⟨x18, rfl, Ly, H⟩ := H
  refine ev_p (pc' := 137) (loc' := [.ref 216, .int i1, .int i2, .int i3]) (st' := [.long (Int32.toInt64 x18)]) 1 am_q211 rfl ?_
  exact ev_r (v := some (.long (Int32.toInt64 x18))) am_q211 rfl rfl rfl rfl H
/-! 212: X12_two -/
set_option maxRecDepth 20000 in
set_option maxHeartbeats 2000000 in
theorem ws212 {d : Nat}  (i0 : Int32) (l1 : Int64) (l3 : Int64) {h : AH} {Q : Option Value → AH → Prop} (Ly : Lay h) (H : (i0 = (2 : Int32) → ((¬ (lg_cmp l1 (0 : Int64)) = (0 : Int32)) → Q (some (.long (1 : Int64))) h) ∧ (¬ (¬ (lg_cmp l1 (0 : Int64)) = (0 : Int32)) → ((lg_cmp l3 (0 : Int64)) = (0 : Int32) → Q (some (.long (0 : Int64))) h) ∧ (¬ (lg_cmp l3 (0 : Int64)) = (0 : Int32) → Q (some (.long (1 : Int64))) h))) ∧ (i0 = (3 : Int32) → ((lg_cmp l1 (0 : Int64)) = (0 : Int32) → Q (some (.long (0 : Int64))) h) ∧ (¬ (lg_cmp l1 (0 : Int64)) = (0 : Int32) → ((lg_cmp l3 (0 : Int64)) = (0 : Int32) → Q (some (.long (0 : Int64))) h) ∧ (¬ (lg_cmp l3 (0 : Int64)) = (0 : Int32) → Q (some (.long (1 : Int64))) h))) ∧ (i0 = (4 : Int32) → Q (some (.long (l1 * l3))) h) ∧ (i0 = (5 : Int32) → ((0 : Int32) ≤ (lg_cmp l1 l3) → Q (some (.long (0 : Int64))) h) ∧ (¬ (0 : Int32) ≤ (lg_cmp l1 l3) → Q (some (.long (1 : Int64))) h)) ∧ (i0 = (6 : Int32) → ((¬ (lg_cmp l1 l3) = (0 : Int32)) → Q (some (.long (0 : Int64))) h) ∧ (¬ (¬ (lg_cmp l1 l3) = (0 : Int32)) → Q (some (.long (1 : Int64))) h)) ∧ (i0 = (7 : Int32) → Q (some (.long (l1 + l3))) h) ∧ (i0 = (8 : Int32) → Q (some (.long (l1 - l3))) h) ∧ (¬ i0 = (2 : Int32) ∧ ¬ i0 = (3 : Int32) ∧ ¬ i0 = (4 : Int32) ∧ ¬ i0 = (5 : Int32) ∧ ¬ i0 = (6 : Int32) ∧ ¬ i0 = (7 : Int32) ∧ ¬ i0 = (8 : Int32) → Q (some (.long (l1 * l3))) h)) : Cl d 212 [.int i0, .long l1, .long l3] h Q := by
  show Ev d 212 0 [.int i0, .long l1, .null, .long l3, .null] [] h Q
  refine ev_p (pc' := 1) (loc' := [.int i0, .long l1, .null, .long l3, .null]) (st' := [.int i0]) 1 am_q212 rfl ?_
  by_cases k1 : i0 = (2 : Int32)
  · replace H := H.1 k1
    refine ev_s (pc' := 44) (loc' := [.int i0, .long l1, .null, .long l3, .null]) (st' := []) (h1 := h) am_q212 rfl rfl rfl (by rw [k1]; rfl) ?_
    refine ev_p (pc' := 47) (loc' := [.int i0, .long l1, .null, .long l3, .null]) (st' := [.int (lg_cmp l1 (0 : Int64))]) 3 am_q212 rfl ?_
    refine ev_jz (t := 56) am_q212 rfl rfl (fun hq => ?_) (fun hq => ?_)
    · replace H := H.1 hq
      refine ev_p (pc' := 61) (loc' := [.null, .null, .null, .null, .null]) (st' := [.long (1 : Int64)]) 2 am_q212 rfl ?_
      exact ev_r (v := some (.long (1 : Int64))) am_q212 rfl rfl rfl rfl H
    · replace H := H.2 hq
      refine ev_p (pc' := 53) (loc' := [.int i0, .long l1, .null, .long l3, .null]) (st' := [.int (lg_cmp l3 (0 : Int64))]) 3 am_q212 rfl ?_
      refine ev_jz (t := 60) am_q212 rfl rfl (fun hq => ?_) (fun hq => ?_)
      · replace H := H.1 hq
        refine ev_p (pc' := 61) (loc' := [.int i0, .long l1, .null, .long l3, .null]) (st' := [.long (0 : Int64)]) 1 am_q212 rfl ?_
        exact ev_r (v := some (.long (0 : Int64))) am_q212 rfl rfl rfl rfl H
      · replace H := H.2 hq
        refine ev_p (pc' := 61) (loc' := [.null, .null, .null, .null, .null]) (st' := [.long (1 : Int64)]) 2 am_q212 rfl ?_
        exact ev_r (v := some (.long (1 : Int64))) am_q212 rfl rfl rfl rfl H
  replace H := H.2
  by_cases k2 : i0 = (3 : Int32)
  · replace H := H.1 k2
    refine ev_s (pc' := 62) (loc' := [.int i0, .long l1, .null, .long l3, .null]) (st' := []) (h1 := h) am_q212 rfl rfl rfl (by rw [k2]; rfl) ?_
    refine ev_p (pc' := 65) (loc' := [.int i0, .long l1, .null, .long l3, .null]) (st' := [.int (lg_cmp l1 (0 : Int64))]) 3 am_q212 rfl ?_
    refine ev_jz (t := 78) am_q212 rfl rfl (fun hq => ?_) (fun hq => ?_)
    · replace H := H.1 hq
      refine ev_p (pc' := 79) (loc' := [.null, .null, .null, .null, .null]) (st' := [.long (0 : Int64)]) 1 am_q212 rfl ?_
      exact ev_r (v := some (.long (0 : Int64))) am_q212 rfl rfl rfl rfl H
    · replace H := H.2 hq
      refine ev_p (pc' := 71) (loc' := [.int i0, .long l1, .null, .long l3, .null]) (st' := [.int (lg_cmp l3 (0 : Int64))]) 3 am_q212 rfl ?_
      refine ev_jz (t := 78) am_q212 rfl rfl (fun hq => ?_) (fun hq => ?_)
      · replace H := H.1 hq
        refine ev_p (pc' := 79) (loc' := [.null, .null, .null, .null, .null]) (st' := [.long (0 : Int64)]) 1 am_q212 rfl ?_
        exact ev_r (v := some (.long (0 : Int64))) am_q212 rfl rfl rfl rfl H
      · replace H := H.2 hq
        refine ev_p (pc' := 79) (loc' := [.int i0, .long l1, .null, .long l3, .null]) (st' := [.long (1 : Int64)]) 2 am_q212 rfl ?_
        exact ev_r (v := some (.long (1 : Int64))) am_q212 rfl rfl rfl rfl H
  replace H := H.2
  by_cases k3 : i0 = (4 : Int32)
  · replace H := H.1 k3
    refine ev_s (pc' := 112) (loc' := [.int i0, .long l1, .null, .long l3, .null]) (st' := []) (h1 := h) am_q212 rfl rfl rfl (by rw [k3]; rfl) ?_
    refine ev_p (pc' := 115) (loc' := [.int i0, .long l1, .null, .long l3, .null]) (st' := [.long (l1 * l3)]) 3 am_q212 rfl ?_
    exact ev_r (v := some (.long (l1 * l3))) am_q212 rfl rfl rfl rfl H
  replace H := H.2
  by_cases k4 : i0 = (5 : Int32)
  · replace H := H.1 k4
    refine ev_s (pc' := 80) (loc' := [.int i0, .long l1, .null, .long l3, .null]) (st' := []) (h1 := h) am_q212 rfl rfl rfl (by rw [k4]; rfl) ?_
    refine ev_p (pc' := 83) (loc' := [.int i0, .long l1, .null, .long l3, .null]) (st' := [.int (lg_cmp l1 l3)]) 3 am_q212 rfl ?_
    refine ev_jz (t := 90) am_q212 rfl rfl (fun hq => ?_) (fun hq => ?_)
    · replace H := H.1 hq
      refine ev_p (pc' := 91) (loc' := [.int i0, .long l1, .null, .long l3, .null]) (st' := [.long (0 : Int64)]) 1 am_q212 rfl ?_
      exact ev_r (v := some (.long (0 : Int64))) am_q212 rfl rfl rfl rfl H
    · replace H := H.2 hq
      refine ev_p (pc' := 91) (loc' := [.int i0, .long l1, .null, .long l3, .null]) (st' := [.long (1 : Int64)]) 2 am_q212 rfl ?_
      exact ev_r (v := some (.long (1 : Int64))) am_q212 rfl rfl rfl rfl H
  replace H := H.2
  by_cases k5 : i0 = (6 : Int32)
  · replace H := H.1 k5
    refine ev_s (pc' := 92) (loc' := [.int i0, .long l1, .null, .long l3, .null]) (st' := []) (h1 := h) am_q212 rfl rfl rfl (by rw [k5]; rfl) ?_
    refine ev_p (pc' := 95) (loc' := [.int i0, .long l1, .null, .long l3, .null]) (st' := [.int (lg_cmp l1 l3)]) 3 am_q212 rfl ?_
    refine ev_jz (t := 102) am_q212 rfl rfl (fun hq => ?_) (fun hq => ?_)
    · replace H := H.1 hq
      refine ev_p (pc' := 103) (loc' := [.int i0, .long l1, .null, .long l3, .null]) (st' := [.long (0 : Int64)]) 1 am_q212 rfl ?_
      exact ev_r (v := some (.long (0 : Int64))) am_q212 rfl rfl rfl rfl H
    · replace H := H.2 hq
      refine ev_p (pc' := 103) (loc' := [.int i0, .long l1, .null, .long l3, .null]) (st' := [.long (1 : Int64)]) 2 am_q212 rfl ?_
      exact ev_r (v := some (.long (1 : Int64))) am_q212 rfl rfl rfl rfl H
  replace H := H.2
  by_cases k6 : i0 = (7 : Int32)
  · replace H := H.1 k6
    refine ev_s (pc' := 104) (loc' := [.int i0, .long l1, .null, .long l3, .null]) (st' := []) (h1 := h) am_q212 rfl rfl rfl (by rw [k6]; rfl) ?_
    refine ev_p (pc' := 107) (loc' := [.int i0, .long l1, .null, .long l3, .null]) (st' := [.long (l1 + l3)]) 3 am_q212 rfl ?_
    exact ev_r (v := some (.long (l1 + l3))) am_q212 rfl rfl rfl rfl H
  replace H := H.2
  by_cases k7 : i0 = (8 : Int32)
  · replace H := H.1 k7
    refine ev_s (pc' := 108) (loc' := [.int i0, .long l1, .null, .long l3, .null]) (st' := []) (h1 := h) am_q212 rfl rfl rfl (by rw [k7]; rfl) ?_
    refine ev_p (pc' := 111) (loc' := [.int i0, .long l1, .null, .long l3, .null]) (st' := [.long (l1 - l3)]) 3 am_q212 rfl ?_
    exact ev_r (v := some (.long (l1 - l3))) am_q212 rfl rfl rfl rfl H
  replace H := H.2
  replace H := H ⟨k1, k2, k3, k4, k5, k6, k7⟩
  refine ev_s (pc' := 112) (loc' := [.int i0, .long l1, .null, .long l3, .null]) (st' := []) (h1 := h) am_q212 rfl rfl rfl (am_tso (x := (i0).toInt) (by have z0 : (i0).toInt ≠ 2 := am_tn k1 (by decide); have z1 : (i0).toInt ≠ 3 := am_tn k2 (by decide); have z2 : (i0).toInt ≠ 4 := am_tn k3 (by decide); have z3 : (i0).toInt ≠ 5 := am_tn k4 (by decide); have z4 : (i0).toInt ≠ 6 := am_tn k5 (by decide); have z5 : (i0).toInt ≠ 7 := am_tn k6 (by decide); have z6 : (i0).toInt ≠ 8 := am_tn k7 (by decide); omega)) ?_
  refine ev_p (pc' := 115) (loc' := [.int i0, .long l1, .null, .long l3, .null]) (st' := [.long (l1 * l3)]) 3 am_q212 rfl ?_
  exact ev_r (v := some (.long (l1 * l3))) am_q212 rfl rfl rfl rfl H
/-! 213: X12_worthOf -/
set_option maxRecDepth 20000 in
set_option maxHeartbeats 2000000 in
theorem ws213 {d : Nat}  (i1 : Int32) (i2 : Int32) (i3 : Int32) {h : AH} {Q : Option Value → AH → Prop} (Ly : Lay h) (H : Cl d 215 [.ref 216, .int (am_gi h 216 0)] h (fun r2 h1 => ∃ x3, r2 = some (.int x3) ∧ Lay h1 ∧ am_in (((5 : Int32) * x3) + i1) 65 ∧ Ev (d + 1) 213 26 [.ref 216, .int i1, .int i2, .int i3, .int x3, .int (0 : Int32), .int (am_gi h1 239 (Int32.toNatClampNeg (((5 : Int32) * x3) + i1))), .null, .null] [] h1 Q)) : Cl (d + 1) 213 [.ref 216, .int i1, .int i2, .int i3] h Q := by
  show Ev (d + 1) 213 0 [.ref 216, .int i1, .int i2, .int i3, .null, .null, .null, .null, .null] [] h Q
  refine ev_p (pc' := 2) (loc' := [.ref 216, .int i1, .int i2, .int i3, .null, .null, .null, .null, .null]) (st' := [.ref 216, .ref 216]) 2 am_q213 rfl ?_
  refine ev_s (pc' := 5) (loc' := [.ref 216, .int i1, .int i2, .int i3, .null, .null, .null, .null, .null]) (st' := [.int (am_gi h 216 0), .ref 216]) (h1 := h) am_q213 rfl rfl rfl (if_pos (e := none) (lk216 Ly)) ?_
  refine ev_c (vs := [.ref 216, .int (am_gi h 216 0)]) (rest := []) 215 am_q213 rfl rfl rfl rfl rfl rfl rfl rfl rfl rfl rfl rfl (Or.inr (congrArg some (lk216 Ly))) (Cl.mono H (Nat.le_refl _) (fun r2 h1 H => ?_))
  obtain ⟨x3, rfl, Ly, H⟩ := H
  refine ev_p (pc' := 14) (loc' := [.ref 216, .int i1, .int i2, .int i3, .int x3, .int (0 : Int32), .null, .null, .null]) (st' := [.ref 216]) 4 am_q213 rfl ?_
  refine ev_s (pc' := 17) (loc' := [.ref 216, .int i1, .int i2, .int i3, .int x3, .int (0 : Int32), .null, .null, .null]) (st' := [.ref 239]) (h1 := h1) am_q213 rfl rfl rfl (am_gf2 (lk216 Ly) (lr216_28 Ly)) ?_
  refine ev_p (pc' := 23) (loc' := [.ref 216, .int i1, .int i2, .int i3, .int x3, .int (0 : Int32), .null, .null, .null]) (st' := [.int (((5 : Int32) * x3) + i1), .ref 239]) 5 am_q213 rfl ?_
  obtain ⟨g4, H⟩ := H
  refine ev_s (pc' := 24) (loc' := [.ref 216, .int i1, .int i2, .int i3, .int x3, .int (0 : Int32), .null, .null, .null]) (st' := [.int (am_gi h1 239 (Int32.toNatClampNeg (((5 : Int32) * x3) + i1)))]) (h1 := h1) am_q213 rfl rfl rfl (am_xx (lk239 Ly) (am_inl (ln239 Ly) g4)) ?_
  refine ev_p (pc' := 26) (loc' := [.ref 216, .int i1, .int i2, .int i3, .int x3, .int (0 : Int32), .int (am_gi h1 239 (Int32.toNatClampNeg (((5 : Int32) * x3) + i1))), .null, .null]) (st' := []) 1 am_q213 rfl ?_
  exact ev_m (loc' := [.ref 216, .int i1, .int i2, .int i3, .int x3, .int (0 : Int32), .int (am_gi h1 239 (Int32.toNatClampNeg (((5 : Int32) * x3) + i1))), .null, .null]) am_q213 rfl rfl H
set_option maxRecDepth 20000 in
set_option maxHeartbeats 2000000 in
theorem ws213_26 {d : Nat}  (i1 : Int32) (i2 : Int32) (i3 : Int32) (i4 : Int32) (i5 : Int32) (i6 : Int32) {h : AH} {Q : Option Value → AH → Prop} (Ly : Lay h) (H : am_in ((((5 : Int32) * i4) + i1) + (1 : Int32)) 65 ∧ ((am_gi h 239 (Int32.toNatClampNeg ((((5 : Int32) * i4) + i1) + (1 : Int32)))) ≤ i6 → am_in (0 : Int32) 420 ∧ Q (some (.long (am_gl h 255 (Int32.toNatClampNeg (0 : Int32))))) h) ∧ (¬ (am_gi h 239 (Int32.toNatClampNeg ((((5 : Int32) * i4) + i1) + (1 : Int32)))) ≤ i6 → am_in (((400 : Int32) * i4) + i6) 5200 ∧ am_in (((400 : Int32) * i4) + i6) 5200 ∧ ((am_gi h 237 (Int32.toNatClampNeg (((400 : Int32) * i4) + i6))) = (0 : Int32) → Ev (d + 1) 213 87 [.ref 216, .int i1, .int i2, .int i3, .int i4, .int i5, .int i6, .int (am_gi h 237 (Int32.toNatClampNeg (((400 : Int32) * i4) + i6))), .int (am_gi h 238 (Int32.toNatClampNeg (((400 : Int32) * i4) + i6)))] [] h Q) ∧ (¬ (am_gi h 237 (Int32.toNatClampNeg (((400 : Int32) * i4) + i6))) = (0 : Int32) → ((¬ (am_gi h 237 (Int32.toNatClampNeg (((400 : Int32) * i4) + i6))) = (1 : Int32)) → ((¬ (am_gi h 237 (Int32.toNatClampNeg (((400 : Int32) * i4) + i6))) = (4 : Int32)) → ((¬ (am_gi h 237 (Int32.toNatClampNeg (((400 : Int32) * i4) + i6))) = (10 : Int32)) → am_in ((i5 + (-1 : Int32)) - (1 : Int32)) 420 ∧ am_in (i5 + (-1 : Int32)) 420 ∧ Cl d 212 [.int (am_gi h 237 (Int32.toNatClampNeg (((400 : Int32) * i4) + i6))), .long (am_gl h 255 (Int32.toNatClampNeg ((i5 + (-1 : Int32)) - (1 : Int32)))), .long (am_gl h 255 (Int32.toNatClampNeg (i5 + (-1 : Int32))))] h (fun r8 h7 => ∃ y9, r8 = some (.long y9) ∧ Lay h7 ∧ am_in ((i5 + (-1 : Int32)) - (1 : Int32)) 420 ∧ ∀ h11, h11 = am_sl h7 255 (Int32.toNatClampNeg ((i5 + (-1 : Int32)) - (1 : Int32))) y9 → Ev (d + 1) 213 26 [.ref 216, .int i1, .int i2, .int i3, .int i4, .int (i5 + (-1 : Int32)), .int (i6 + (1 : Int32)), .null, .null] [] h11 Q)) ∧ (¬ (¬ (am_gi h 237 (Int32.toNatClampNeg (((400 : Int32) * i4) + i6))) = (10 : Int32)) → am_in (i5 - (1 : Int32)) 420 ∧ am_in (i5 - (1 : Int32)) 420 ∧ ∀ h14, h14 = am_sl h 255 (Int32.toNatClampNeg (i5 - (1 : Int32))) (-(am_gl h 255 (Int32.toNatClampNeg (i5 - (1 : Int32))))) → Ev (d + 1) 213 26 [.ref 216, .int i1, .int i2, .int i3, .int i4, .int i5, .int (i6 + (1 : Int32)), .null, .null] [] h14 Q)) ∧ (¬ (¬ (am_gi h 237 (Int32.toNatClampNeg (((400 : Int32) * i4) + i6))) = (4 : Int32)) → am_in (i5 - (1 : Int32)) 420 ∧ ((¬ (lg_cmp (am_gl h 255 (Int32.toNatClampNeg (i5 - (1 : Int32)))) (0 : Int64)) = (0 : Int32)) → am_in (i5 - (1 : Int32)) 420 ∧ ∀ h17, h17 = am_sl h 255 (Int32.toNatClampNeg (i5 - (1 : Int32))) (0 : Int64) → Ev (d + 1) 213 26 [.ref 216, .int i1, .int i2, .int i3, .int i4, .int i5, .int (i6 + (1 : Int32)), .null, .null] [] h17 Q) ∧ (¬ (¬ (lg_cmp (am_gl h 255 (Int32.toNatClampNeg (i5 - (1 : Int32)))) (0 : Int64)) = (0 : Int32)) → am_in (i5 - (1 : Int32)) 420 ∧ ∀ h19, h19 = am_sl h 255 (Int32.toNatClampNeg (i5 - (1 : Int32))) (1 : Int64) → Ev (d + 1) 213 26 [.ref 216, .int i1, .int i2, .int i3, .int i4, .int i5, .int (i6 + (1 : Int32)), .null, .null] [] h19 Q))) ∧ (¬ (¬ (am_gi h 237 (Int32.toNatClampNeg (((400 : Int32) * i4) + i6))) = (1 : Int32)) → Ev (d + 1) 213 87 [.ref 216, .int i1, .int i2, .int i3, .int i4, .int i5, .int i6, .int (am_gi h 237 (Int32.toNatClampNeg (((400 : Int32) * i4) + i6))), .int (am_gi h 238 (Int32.toNatClampNeg (((400 : Int32) * i4) + i6)))] [] h Q)))) : Ev (d + 1) 213 26 [.ref 216, .int i1, .int i2, .int i3, .int i4, .int i5, .int i6, .null, .null] [] h Q := by
  refine ev_p (pc' := 29) (loc' := [.ref 216, .int i1, .int i2, .int i3, .int i4, .int i5, .int i6, .null, .null]) (st' := [.ref 216, .int i6]) 2 am_q213 rfl ?_
  refine ev_s (pc' := 32) (loc' := [.ref 216, .int i1, .int i2, .int i3, .int i4, .int i5, .int i6, .null, .null]) (st' := [.ref 239, .int i6]) (h1 := h) am_q213 rfl rfl rfl (am_gf2 (lk216 Ly) (lr216_28 Ly)) ?_
  refine ev_p (pc' := 40) (loc' := [.ref 216, .int i1, .int i2, .int i3, .int i4, .int i5, .int i6, .null, .null]) (st' := [.int ((((5 : Int32) * i4) + i1) + (1 : Int32)), .ref 239, .int i6]) 7 am_q213 rfl ?_
  obtain ⟨g1, H⟩ := H
  refine ev_s (pc' := 41) (loc' := [.ref 216, .int i1, .int i2, .int i3, .int i4, .int i5, .int i6, .null, .null]) (st' := [.int (am_gi h 239 (Int32.toNatClampNeg ((((5 : Int32) * i4) + i1) + (1 : Int32)))), .int i6]) (h1 := h) am_q213 rfl rfl rfl (am_xx (lk239 Ly) (am_inl (ln239 Ly) g1)) ?_
  refine ev_jc (t := 224) am_q213 rfl rfl (fun hq => ?_) (fun hq => ?_)
  · replace H := H.1 hq
    refine ev_p (pc' := 225) (loc' := [.ref 216, .int i1, .int i2, .int i3, .int i4, .int i5, .int i6, .null, .null]) (st' := [.ref 216]) 1 am_q213 rfl ?_
    refine ev_s (pc' := 228) (loc' := [.ref 216, .int i1, .int i2, .int i3, .int i4, .int i5, .int i6, .null, .null]) (st' := [.ref 255]) (h1 := h) am_q213 rfl rfl rfl (am_gf2 (lk216 Ly) (lr216_60 Ly)) ?_
    refine ev_p (pc' := 229) (loc' := [.ref 216, .int i1, .int i2, .int i3, .int i4, .int i5, .int i6, .null, .null]) (st' := [.int (0 : Int32), .ref 255]) 1 am_q213 rfl ?_
    obtain ⟨g2, H⟩ := H
    refine ev_s (pc' := 230) (loc' := [.ref 216, .int i1, .int i2, .int i3, .int i4, .int i5, .int i6, .null, .null]) (st' := [.long (am_gl h 255 (Int32.toNatClampNeg (0 : Int32)))]) (h1 := h) am_q213 rfl rfl rfl (am_xx (lk255 Ly) (am_inl (ln255 Ly) g2)) ?_
    exact ev_r (v := some (.long (am_gl h 255 (Int32.toNatClampNeg (0 : Int32))))) am_q213 rfl rfl rfl rfl H
  · replace H := H.2 hq
    refine ev_p (pc' := 45) (loc' := [.ref 216, .int i1, .int i2, .int i3, .int i4, .int i5, .int i6, .null, .null]) (st' := [.ref 216]) 1 am_q213 rfl ?_
    refine ev_s (pc' := 48) (loc' := [.ref 216, .int i1, .int i2, .int i3, .int i4, .int i5, .int i6, .null, .null]) (st' := [.ref 237]) (h1 := h) am_q213 rfl rfl rfl (am_gf2 (lk216 Ly) (lr216_26 Ly)) ?_
    refine ev_p (pc' := 57) (loc' := [.ref 216, .int i1, .int i2, .int i3, .int i4, .int i5, .int i6, .null, .null]) (st' := [.int (((400 : Int32) * i4) + i6), .ref 237]) 5 am_q213 rfl ?_
    obtain ⟨g3, H⟩ := H
    refine ev_s (pc' := 58) (loc' := [.ref 216, .int i1, .int i2, .int i3, .int i4, .int i5, .int i6, .null, .null]) (st' := [.int (am_gi h 237 (Int32.toNatClampNeg (((400 : Int32) * i4) + i6)))]) (h1 := h) am_q213 rfl rfl rfl (am_xx (lk237 Ly) (am_inl (ln237 Ly) g3)) ?_
    refine ev_p (pc' := 61) (loc' := [.ref 216, .int i1, .int i2, .int i3, .int i4, .int i5, .int i6, .int (am_gi h 237 (Int32.toNatClampNeg (((400 : Int32) * i4) + i6))), .null]) (st' := [.ref 216]) 2 am_q213 rfl ?_
    refine ev_s (pc' := 64) (loc' := [.ref 216, .int i1, .int i2, .int i3, .int i4, .int i5, .int i6, .int (am_gi h 237 (Int32.toNatClampNeg (((400 : Int32) * i4) + i6))), .null]) (st' := [.ref 238]) (h1 := h) am_q213 rfl rfl rfl (am_gf2 (lk216 Ly) (lr216_27 Ly)) ?_
    refine ev_p (pc' := 73) (loc' := [.ref 216, .int i1, .int i2, .int i3, .int i4, .int i5, .int i6, .int (am_gi h 237 (Int32.toNatClampNeg (((400 : Int32) * i4) + i6))), .null]) (st' := [.int (((400 : Int32) * i4) + i6), .ref 238]) 5 am_q213 rfl ?_
    obtain ⟨g4, H⟩ := H
    refine ev_s (pc' := 74) (loc' := [.ref 216, .int i1, .int i2, .int i3, .int i4, .int i5, .int i6, .int (am_gi h 237 (Int32.toNatClampNeg (((400 : Int32) * i4) + i6))), .null]) (st' := [.int (am_gi h 238 (Int32.toNatClampNeg (((400 : Int32) * i4) + i6)))]) (h1 := h) am_q213 rfl rfl rfl (am_xx (lk238 Ly) (am_inl (ln238 Ly) g4)) ?_
    refine ev_p (pc' := 78) (loc' := [.ref 216, .int i1, .int i2, .int i3, .int i4, .int i5, .int i6, .int (am_gi h 237 (Int32.toNatClampNeg (((400 : Int32) * i4) + i6))), .int (am_gi h 238 (Int32.toNatClampNeg (((400 : Int32) * i4) + i6)))]) (st' := [.int (am_gi h 237 (Int32.toNatClampNeg (((400 : Int32) * i4) + i6)))]) 2 am_q213 rfl ?_
    refine ev_jz (t := 87) am_q213 rfl rfl (fun hq => ?_) (fun hq => ?_)
    · replace H := H.1 hq
      exact ev_m (loc' := [.ref 216, .int i1, .int i2, .int i3, .int i4, .int i5, .int i6, .int (am_gi h 237 (Int32.toNatClampNeg (((400 : Int32) * i4) + i6))), .int (am_gi h 238 (Int32.toNatClampNeg (((400 : Int32) * i4) + i6)))]) am_q213 rfl rfl H
    · replace H := H.2 hq
      refine ev_p (pc' := 84) (loc' := [.ref 216, .int i1, .int i2, .int i3, .int i4, .int i5, .int i6, .int (am_gi h 237 (Int32.toNatClampNeg (((400 : Int32) * i4) + i6))), .int (am_gi h 238 (Int32.toNatClampNeg (((400 : Int32) * i4) + i6)))]) (st' := [.int (1 : Int32), .int (am_gi h 237 (Int32.toNatClampNeg (((400 : Int32) * i4) + i6)))]) 2 am_q213 rfl ?_
      refine ev_jc (t := 119) am_q213 rfl rfl (fun hq => ?_) (fun hq => ?_)
      · replace H := H.1 hq
        refine ev_p (pc' := 122) (loc' := [.ref 216, .int i1, .int i2, .int i3, .int i4, .int i5, .int i6, .int (am_gi h 237 (Int32.toNatClampNeg (((400 : Int32) * i4) + i6))), .int (am_gi h 238 (Int32.toNatClampNeg (((400 : Int32) * i4) + i6)))]) (st' := [.int (4 : Int32), .int (am_gi h 237 (Int32.toNatClampNeg (((400 : Int32) * i4) + i6)))]) 2 am_q213 rfl ?_
        refine ev_jc (t := 156) am_q213 rfl rfl (fun hq => ?_) (fun hq => ?_)
        · replace H := H.1 hq
          refine ev_p (pc' := 160) (loc' := [.ref 216, .int i1, .int i2, .int i3, .int i4, .int i5, .int i6, .int (am_gi h 237 (Int32.toNatClampNeg (((400 : Int32) * i4) + i6))), .int (am_gi h 238 (Int32.toNatClampNeg (((400 : Int32) * i4) + i6)))]) (st' := [.int (10 : Int32), .int (am_gi h 237 (Int32.toNatClampNeg (((400 : Int32) * i4) + i6)))]) 2 am_q213 rfl ?_
          refine ev_jc (t := 185) am_q213 rfl rfl (fun hq => ?_) (fun hq => ?_)
          · replace H := H.1 hq
            refine ev_p (pc' := 189) (loc' := [.ref 216, .int i1, .int i2, .int i3, .int i4, .int (i5 + (-1 : Int32)), .int i6, .int (am_gi h 237 (Int32.toNatClampNeg (((400 : Int32) * i4) + i6))), .int (am_gi h 238 (Int32.toNatClampNeg (((400 : Int32) * i4) + i6)))]) (st' := [.ref 216]) 2 am_q213 rfl ?_
            refine ev_s (pc' := 192) (loc' := [.ref 216, .int i1, .int i2, .int i3, .int i4, .int (i5 + (-1 : Int32)), .int i6, .int (am_gi h 237 (Int32.toNatClampNeg (((400 : Int32) * i4) + i6))), .int (am_gi h 238 (Int32.toNatClampNeg (((400 : Int32) * i4) + i6)))]) (st' := [.ref 255]) (h1 := h) am_q213 rfl rfl rfl (am_gf2 (lk216 Ly) (lr216_60 Ly)) ?_
            refine ev_p (pc' := 199) (loc' := [.ref 216, .int i1, .int i2, .int i3, .int i4, .int (i5 + (-1 : Int32)), .int i6, .int (am_gi h 237 (Int32.toNatClampNeg (((400 : Int32) * i4) + i6))), .int (am_gi h 238 (Int32.toNatClampNeg (((400 : Int32) * i4) + i6)))]) (st' := [.ref 216, .int (am_gi h 237 (Int32.toNatClampNeg (((400 : Int32) * i4) + i6))), .int ((i5 + (-1 : Int32)) - (1 : Int32)), .ref 255]) 5 am_q213 rfl ?_
            refine ev_s (pc' := 202) (loc' := [.ref 216, .int i1, .int i2, .int i3, .int i4, .int (i5 + (-1 : Int32)), .int i6, .int (am_gi h 237 (Int32.toNatClampNeg (((400 : Int32) * i4) + i6))), .int (am_gi h 238 (Int32.toNatClampNeg (((400 : Int32) * i4) + i6)))]) (st' := [.ref 255, .int (am_gi h 237 (Int32.toNatClampNeg (((400 : Int32) * i4) + i6))), .int ((i5 + (-1 : Int32)) - (1 : Int32)), .ref 255]) (h1 := h) am_q213 rfl rfl rfl (am_gf2 (lk216 Ly) (lr216_60 Ly)) ?_
            refine ev_p (pc' := 206) (loc' := [.ref 216, .int i1, .int i2, .int i3, .int i4, .int (i5 + (-1 : Int32)), .int i6, .int (am_gi h 237 (Int32.toNatClampNeg (((400 : Int32) * i4) + i6))), .int (am_gi h 238 (Int32.toNatClampNeg (((400 : Int32) * i4) + i6)))]) (st' := [.int ((i5 + (-1 : Int32)) - (1 : Int32)), .ref 255, .int (am_gi h 237 (Int32.toNatClampNeg (((400 : Int32) * i4) + i6))), .int ((i5 + (-1 : Int32)) - (1 : Int32)), .ref 255]) 3 am_q213 rfl ?_
            obtain ⟨g5, H⟩ := H
            refine ev_s (pc' := 207) (loc' := [.ref 216, .int i1, .int i2, .int i3, .int i4, .int (i5 + (-1 : Int32)), .int i6, .int (am_gi h 237 (Int32.toNatClampNeg (((400 : Int32) * i4) + i6))), .int (am_gi h 238 (Int32.toNatClampNeg (((400 : Int32) * i4) + i6)))]) (st' := [.long (am_gl h 255 (Int32.toNatClampNeg ((i5 + (-1 : Int32)) - (1 : Int32)))), .int (am_gi h 237 (Int32.toNatClampNeg (((400 : Int32) * i4) + i6))), .int ((i5 + (-1 : Int32)) - (1 : Int32)), .ref 255]) (h1 := h) am_q213 rfl rfl rfl (am_xx (lk255 Ly) (am_inl (ln255 Ly) g5)) ?_
            refine ev_p (pc' := 208) (loc' := [.ref 216, .int i1, .int i2, .int i3, .int i4, .int (i5 + (-1 : Int32)), .int i6, .int (am_gi h 237 (Int32.toNatClampNeg (((400 : Int32) * i4) + i6))), .int (am_gi h 238 (Int32.toNatClampNeg (((400 : Int32) * i4) + i6)))]) (st' := [.ref 216, .long (am_gl h 255 (Int32.toNatClampNeg ((i5 + (-1 : Int32)) - (1 : Int32)))), .int (am_gi h 237 (Int32.toNatClampNeg (((400 : Int32) * i4) + i6))), .int ((i5 + (-1 : Int32)) - (1 : Int32)), .ref 255]) 1 am_q213 rfl ?_
            refine ev_s (pc' := 211) (loc' := [.ref 216, .int i1, .int i2, .int i3, .int i4, .int (i5 + (-1 : Int32)), .int i6, .int (am_gi h 237 (Int32.toNatClampNeg (((400 : Int32) * i4) + i6))), .int (am_gi h 238 (Int32.toNatClampNeg (((400 : Int32) * i4) + i6)))]) (st' := [.ref 255, .long (am_gl h 255 (Int32.toNatClampNeg ((i5 + (-1 : Int32)) - (1 : Int32)))), .int (am_gi h 237 (Int32.toNatClampNeg (((400 : Int32) * i4) + i6))), .int ((i5 + (-1 : Int32)) - (1 : Int32)), .ref 255]) (h1 := h) am_q213 rfl rfl rfl (am_gf2 (lk216 Ly) (lr216_60 Ly)) ?_
            refine ev_p (pc' := 213) (loc' := [.ref 216, .int i1, .int i2, .int i3, .int i4, .int (i5 + (-1 : Int32)), .int i6, .int (am_gi h 237 (Int32.toNatClampNeg (((400 : Int32) * i4) + i6))), .int (am_gi h 238 (Int32.toNatClampNeg (((400 : Int32) * i4) + i6)))]) (st' := [.int (i5 + (-1 : Int32)), .ref 255, .long (am_gl h 255 (Int32.toNatClampNeg ((i5 + (-1 : Int32)) - (1 : Int32)))), .int (am_gi h 237 (Int32.toNatClampNeg (((400 : Int32) * i4) + i6))), .int ((i5 + (-1 : Int32)) - (1 : Int32)), .ref 255]) 1 am_q213 rfl ?_
            obtain ⟨g6, H⟩ := H
            refine ev_s (pc' := 214) (loc' := [.ref 216, .int i1, .int i2, .int i3, .int i4, .int (i5 + (-1 : Int32)), .int i6, .int (am_gi h 237 (Int32.toNatClampNeg (((400 : Int32) * i4) + i6))), .int (am_gi h 238 (Int32.toNatClampNeg (((400 : Int32) * i4) + i6)))]) (st' := [.long (am_gl h 255 (Int32.toNatClampNeg (i5 + (-1 : Int32)))), .long (am_gl h 255 (Int32.toNatClampNeg ((i5 + (-1 : Int32)) - (1 : Int32)))), .int (am_gi h 237 (Int32.toNatClampNeg (((400 : Int32) * i4) + i6))), .int ((i5 + (-1 : Int32)) - (1 : Int32)), .ref 255]) (h1 := h) am_q213 rfl rfl rfl (am_xx (lk255 Ly) (am_inl (ln255 Ly) g6)) ?_
            refine ev_c (vs := [.int (am_gi h 237 (Int32.toNatClampNeg (((400 : Int32) * i4) + i6))), .long (am_gl h 255 (Int32.toNatClampNeg ((i5 + (-1 : Int32)) - (1 : Int32)))), .long (am_gl h 255 (Int32.toNatClampNeg (i5 + (-1 : Int32))))]) (rest := [.int ((i5 + (-1 : Int32)) - (1 : Int32)), .ref 255]) 212 am_q213 rfl rfl rfl rfl rfl rfl rfl rfl rfl rfl rfl rfl (Or.inl rfl) (Cl.mono H (Nat.le_refl _) (fun r8 h7 H => ?_))
            obtain ⟨y9, rfl, Ly, H⟩ := H
            obtain ⟨g10, H⟩ := H
            refine ev_s (pc' := 218) (loc' := [.ref 216, .int i1, .int i2, .int i3, .int i4, .int (i5 + (-1 : Int32)), .int i6, .int (am_gi h 237 (Int32.toNatClampNeg (((400 : Int32) * i4) + i6))), .int (am_gi h 238 (Int32.toNatClampNeg (((400 : Int32) * i4) + i6)))]) (st' := []) (h1 := am_sl h7 255 (Int32.toNatClampNeg ((i5 + (-1 : Int32)) - (1 : Int32))) y9) am_q213 rfl rfl rfl (am_xx (lk255 Ly) (am_inl (ln255 Ly) g10)) ?_
            replace H := H _ rfl
            replace Ly : Lay (am_sl h7 255 (Int32.toNatClampNeg ((i5 + (-1 : Int32)) - (1 : Int32))) y9) := Ly.sl _ _ _
            generalize am_sl h7 255 (Int32.toNatClampNeg ((i5 + (-1 : Int32)) - (1 : Int32))) y9 = h11 at H Ly ⊢
            refine ev_p (pc' := 26) (loc' := [.ref 216, .int i1, .int i2, .int i3, .int i4, .int (i5 + (-1 : Int32)), .int (i6 + (1 : Int32)), .null, .null]) (st' := []) 2 am_q213 rfl ?_
            exact ev_m (loc' := [.ref 216, .int i1, .int i2, .int i3, .int i4, .int (i5 + (-1 : Int32)), .int (i6 + (1 : Int32)), .null, .null]) am_q213 rfl rfl H
          · replace H := H.2 hq
            refine ev_p (pc' := 164) (loc' := [.ref 216, .int i1, .int i2, .int i3, .int i4, .int i5, .int i6, .int (am_gi h 237 (Int32.toNatClampNeg (((400 : Int32) * i4) + i6))), .int (am_gi h 238 (Int32.toNatClampNeg (((400 : Int32) * i4) + i6)))]) (st' := [.ref 216]) 1 am_q213 rfl ?_
            refine ev_s (pc' := 167) (loc' := [.ref 216, .int i1, .int i2, .int i3, .int i4, .int i5, .int i6, .int (am_gi h 237 (Int32.toNatClampNeg (((400 : Int32) * i4) + i6))), .int (am_gi h 238 (Int32.toNatClampNeg (((400 : Int32) * i4) + i6)))]) (st' := [.ref 255]) (h1 := h) am_q213 rfl rfl rfl (am_gf2 (lk216 Ly) (lr216_60 Ly)) ?_
            refine ev_p (pc' := 172) (loc' := [.ref 216, .int i1, .int i2, .int i3, .int i4, .int i5, .int i6, .int (am_gi h 237 (Int32.toNatClampNeg (((400 : Int32) * i4) + i6))), .int (am_gi h 238 (Int32.toNatClampNeg (((400 : Int32) * i4) + i6)))]) (st' := [.ref 216, .int (i5 - (1 : Int32)), .ref 255]) 4 am_q213 rfl ?_
            refine ev_s (pc' := 175) (loc' := [.ref 216, .int i1, .int i2, .int i3, .int i4, .int i5, .int i6, .int (am_gi h 237 (Int32.toNatClampNeg (((400 : Int32) * i4) + i6))), .int (am_gi h 238 (Int32.toNatClampNeg (((400 : Int32) * i4) + i6)))]) (st' := [.ref 255, .int (i5 - (1 : Int32)), .ref 255]) (h1 := h) am_q213 rfl rfl rfl (am_gf2 (lk216 Ly) (lr216_60 Ly)) ?_
            refine ev_p (pc' := 179) (loc' := [.ref 216, .int i1, .int i2, .int i3, .int i4, .int i5, .int i6, .int (am_gi h 237 (Int32.toNatClampNeg (((400 : Int32) * i4) + i6))), .int (am_gi h 238 (Int32.toNatClampNeg (((400 : Int32) * i4) + i6)))]) (st' := [.int (i5 - (1 : Int32)), .ref 255, .int (i5 - (1 : Int32)), .ref 255]) 3 am_q213 rfl ?_
            obtain ⟨g12, H⟩ := H
            refine ev_s (pc' := 180) (loc' := [.ref 216, .int i1, .int i2, .int i3, .int i4, .int i5, .int i6, .int (am_gi h 237 (Int32.toNatClampNeg (((400 : Int32) * i4) + i6))), .int (am_gi h 238 (Int32.toNatClampNeg (((400 : Int32) * i4) + i6)))]) (st' := [.long (am_gl h 255 (Int32.toNatClampNeg (i5 - (1 : Int32)))), .int (i5 - (1 : Int32)), .ref 255]) (h1 := h) am_q213 rfl rfl rfl (am_xx (lk255 Ly) (am_inl (ln255 Ly) g12)) ?_
            refine ev_p (pc' := 181) (loc' := [.ref 216, .int i1, .int i2, .int i3, .int i4, .int i5, .int i6, .int (am_gi h 237 (Int32.toNatClampNeg (((400 : Int32) * i4) + i6))), .int (am_gi h 238 (Int32.toNatClampNeg (((400 : Int32) * i4) + i6)))]) (st' := [.long (-(am_gl h 255 (Int32.toNatClampNeg (i5 - (1 : Int32))))), .int (i5 - (1 : Int32)), .ref 255]) 1 am_q213 rfl ?_
            obtain ⟨g13, H⟩ := H
            refine ev_s (pc' := 182) (loc' := [.ref 216, .int i1, .int i2, .int i3, .int i4, .int i5, .int i6, .int (am_gi h 237 (Int32.toNatClampNeg (((400 : Int32) * i4) + i6))), .int (am_gi h 238 (Int32.toNatClampNeg (((400 : Int32) * i4) + i6)))]) (st' := []) (h1 := am_sl h 255 (Int32.toNatClampNeg (i5 - (1 : Int32))) (-(am_gl h 255 (Int32.toNatClampNeg (i5 - (1 : Int32)))))) am_q213 rfl rfl rfl (am_xx (lk255 Ly) (am_inl (ln255 Ly) g13)) ?_
            replace H := H _ rfl
            replace Ly : Lay (am_sl h 255 (Int32.toNatClampNeg (i5 - (1 : Int32))) (-(am_gl h 255 (Int32.toNatClampNeg (i5 - (1 : Int32)))))) := Ly.sl _ _ _
            generalize am_sl h 255 (Int32.toNatClampNeg (i5 - (1 : Int32))) (-(am_gl h 255 (Int32.toNatClampNeg (i5 - (1 : Int32))))) = h14 at H Ly ⊢
            refine ev_p (pc' := 26) (loc' := [.ref 216, .int i1, .int i2, .int i3, .int i4, .int i5, .int (i6 + (1 : Int32)), .null, .null]) (st' := []) 3 am_q213 rfl ?_
            exact ev_m (loc' := [.ref 216, .int i1, .int i2, .int i3, .int i4, .int i5, .int (i6 + (1 : Int32)), .null, .null]) am_q213 rfl rfl H
        · replace H := H.2 hq
          refine ev_p (pc' := 126) (loc' := [.ref 216, .int i1, .int i2, .int i3, .int i4, .int i5, .int i6, .int (am_gi h 237 (Int32.toNatClampNeg (((400 : Int32) * i4) + i6))), .int (am_gi h 238 (Int32.toNatClampNeg (((400 : Int32) * i4) + i6)))]) (st' := [.ref 216]) 1 am_q213 rfl ?_
          refine ev_s (pc' := 129) (loc' := [.ref 216, .int i1, .int i2, .int i3, .int i4, .int i5, .int i6, .int (am_gi h 237 (Int32.toNatClampNeg (((400 : Int32) * i4) + i6))), .int (am_gi h 238 (Int32.toNatClampNeg (((400 : Int32) * i4) + i6)))]) (st' := [.ref 255]) (h1 := h) am_q213 rfl rfl rfl (am_gf2 (lk216 Ly) (lr216_60 Ly)) ?_
          refine ev_p (pc' := 134) (loc' := [.ref 216, .int i1, .int i2, .int i3, .int i4, .int i5, .int i6, .int (am_gi h 237 (Int32.toNatClampNeg (((400 : Int32) * i4) + i6))), .int (am_gi h 238 (Int32.toNatClampNeg (((400 : Int32) * i4) + i6)))]) (st' := [.ref 216, .int (i5 - (1 : Int32)), .ref 255]) 4 am_q213 rfl ?_
          refine ev_s (pc' := 137) (loc' := [.ref 216, .int i1, .int i2, .int i3, .int i4, .int i5, .int i6, .int (am_gi h 237 (Int32.toNatClampNeg (((400 : Int32) * i4) + i6))), .int (am_gi h 238 (Int32.toNatClampNeg (((400 : Int32) * i4) + i6)))]) (st' := [.ref 255, .int (i5 - (1 : Int32)), .ref 255]) (h1 := h) am_q213 rfl rfl rfl (am_gf2 (lk216 Ly) (lr216_60 Ly)) ?_
          refine ev_p (pc' := 141) (loc' := [.ref 216, .int i1, .int i2, .int i3, .int i4, .int i5, .int i6, .int (am_gi h 237 (Int32.toNatClampNeg (((400 : Int32) * i4) + i6))), .int (am_gi h 238 (Int32.toNatClampNeg (((400 : Int32) * i4) + i6)))]) (st' := [.int (i5 - (1 : Int32)), .ref 255, .int (i5 - (1 : Int32)), .ref 255]) 3 am_q213 rfl ?_
          obtain ⟨g15, H⟩ := H
          refine ev_s (pc' := 142) (loc' := [.ref 216, .int i1, .int i2, .int i3, .int i4, .int i5, .int i6, .int (am_gi h 237 (Int32.toNatClampNeg (((400 : Int32) * i4) + i6))), .int (am_gi h 238 (Int32.toNatClampNeg (((400 : Int32) * i4) + i6)))]) (st' := [.long (am_gl h 255 (Int32.toNatClampNeg (i5 - (1 : Int32)))), .int (i5 - (1 : Int32)), .ref 255]) (h1 := h) am_q213 rfl rfl rfl (am_xx (lk255 Ly) (am_inl (ln255 Ly) g15)) ?_
          refine ev_p (pc' := 144) (loc' := [.ref 216, .int i1, .int i2, .int i3, .int i4, .int i5, .int i6, .int (am_gi h 237 (Int32.toNatClampNeg (((400 : Int32) * i4) + i6))), .int (am_gi h 238 (Int32.toNatClampNeg (((400 : Int32) * i4) + i6)))]) (st' := [.int (lg_cmp (am_gl h 255 (Int32.toNatClampNeg (i5 - (1 : Int32)))) (0 : Int64)), .int (i5 - (1 : Int32)), .ref 255]) 2 am_q213 rfl ?_
          refine ev_jz (t := 151) am_q213 rfl rfl (fun hq => ?_) (fun hq => ?_)
          · replace H := H.1 hq
            refine ev_p (pc' := 152) (loc' := [.ref 216, .int i1, .int i2, .int i3, .int i4, .int i5, .int i6, .int (am_gi h 237 (Int32.toNatClampNeg (((400 : Int32) * i4) + i6))), .int (am_gi h 238 (Int32.toNatClampNeg (((400 : Int32) * i4) + i6)))]) (st' := [.long (0 : Int64), .int (i5 - (1 : Int32)), .ref 255]) 1 am_q213 rfl ?_
            obtain ⟨g16, H⟩ := H
            refine ev_s (pc' := 153) (loc' := [.ref 216, .int i1, .int i2, .int i3, .int i4, .int i5, .int i6, .null, .null]) (st' := []) (h1 := am_sl h 255 (Int32.toNatClampNeg (i5 - (1 : Int32))) (0 : Int64)) am_q213 rfl rfl rfl (am_xx (lk255 Ly) (am_inl (ln255 Ly) g16)) ?_
            replace H := H _ rfl
            replace Ly : Lay (am_sl h 255 (Int32.toNatClampNeg (i5 - (1 : Int32))) (0 : Int64)) := Ly.sl _ _ _
            generalize am_sl h 255 (Int32.toNatClampNeg (i5 - (1 : Int32))) (0 : Int64) = h17 at H Ly ⊢
            refine ev_p (pc' := 26) (loc' := [.ref 216, .int i1, .int i2, .int i3, .int i4, .int i5, .int (i6 + (1 : Int32)), .null, .null]) (st' := []) 3 am_q213 rfl ?_
            exact ev_m (loc' := [.ref 216, .int i1, .int i2, .int i3, .int i4, .int i5, .int (i6 + (1 : Int32)), .null, .null]) am_q213 rfl rfl H
          · replace H := H.2 hq
            refine ev_p (pc' := 152) (loc' := [.ref 216, .int i1, .int i2, .int i3, .int i4, .int i5, .int i6, .int (am_gi h 237 (Int32.toNatClampNeg (((400 : Int32) * i4) + i6))), .int (am_gi h 238 (Int32.toNatClampNeg (((400 : Int32) * i4) + i6)))]) (st' := [.long (1 : Int64), .int (i5 - (1 : Int32)), .ref 255]) 2 am_q213 rfl ?_
            obtain ⟨g18, H⟩ := H
            refine ev_s (pc' := 153) (loc' := [.ref 216, .int i1, .int i2, .int i3, .int i4, .int i5, .int i6, .null, .null]) (st' := []) (h1 := am_sl h 255 (Int32.toNatClampNeg (i5 - (1 : Int32))) (1 : Int64)) am_q213 rfl rfl rfl (am_xx (lk255 Ly) (am_inl (ln255 Ly) g18)) ?_
            replace H := H _ rfl
            replace Ly : Lay (am_sl h 255 (Int32.toNatClampNeg (i5 - (1 : Int32))) (1 : Int64)) := Ly.sl _ _ _
            generalize am_sl h 255 (Int32.toNatClampNeg (i5 - (1 : Int32))) (1 : Int64) = h19 at H Ly ⊢
            refine ev_p (pc' := 26) (loc' := [.ref 216, .int i1, .int i2, .int i3, .int i4, .int i5, .int (i6 + (1 : Int32)), .null, .null]) (st' := []) 3 am_q213 rfl ?_
            exact ev_m (loc' := [.ref 216, .int i1, .int i2, .int i3, .int i4, .int i5, .int (i6 + (1 : Int32)), .null, .null]) am_q213 rfl rfl H
      · replace H := H.2 hq
        exact ev_m (loc' := [.ref 216, .int i1, .int i2, .int i3, .int i4, .int i5, .int i6, .int (am_gi h 237 (Int32.toNatClampNeg (((400 : Int32) * i4) + i6))), .int (am_gi h 238 (Int32.toNatClampNeg (((400 : Int32) * i4) + i6)))]) am_q213 rfl rfl H
set_option maxRecDepth 20000 in
set_option maxHeartbeats 2000000 in
theorem ws213_87 {d : Nat}  (i1 : Int32) (i2 : Int32) (i3 : Int32) (i4 : Int32) (i5 : Int32) (i6 : Int32) (i7 : Int32) (i8 : Int32) {h : AH} {Q : Option Value → AH → Prop} (Ly : Lay h) (H : ((¬ i7 = (0 : Int32)) → Cl d 211 [.ref 216, .int i8, .int i2, .int i3] h (fun r2 h1 => ∃ y3, r2 = some (.long y3) ∧ Lay h1 ∧ am_in i5 420 ∧ ∀ h5, h5 = am_sl h1 255 (Int32.toNatClampNeg i5) y3 → Ev (d + 1) 213 26 [.ref 216, .int i1, .int i2, .int i3, .int i4, .int (i5 + (1 : Int32)), .int (i6 + (1 : Int32)), .null, .null] [] h5 Q)) ∧ (¬ (¬ i7 = (0 : Int32)) → am_in i5 420 ∧ ∀ h7, h7 = am_sl h 255 (Int32.toNatClampNeg i5) (Int32.toInt64 i8) → Ev (d + 1) 213 26 [.ref 216, .int i1, .int i2, .int i3, .int i4, .int (i5 + (1 : Int32)), .int (i6 + (1 : Int32)), .null, .null] [] h7 Q)) : Ev (d + 1) 213 87 [.ref 216, .int i1, .int i2, .int i3, .int i4, .int i5, .int i6, .int i7, .int i8] [] h Q := by
  refine ev_p (pc' := 88) (loc' := [.ref 216, .int i1, .int i2, .int i3, .int i4, .int i5, .int i6, .int i7, .int i8]) (st' := [.ref 216]) 1 am_q213 rfl ?_
  refine ev_s (pc' := 91) (loc' := [.ref 216, .int i1, .int i2, .int i3, .int i4, .int i5, .int i6, .int i7, .int i8]) (st' := [.ref 255]) (h1 := h) am_q213 rfl rfl rfl (am_gf2 (lk216 Ly) (lr216_60 Ly)) ?_
  refine ev_p (pc' := 95) (loc' := [.ref 216, .int i1, .int i2, .int i3, .int i4, .int i5, .int i6, .int i7, .int i8]) (st' := [.int i7, .int i5, .ref 255]) 2 am_q213 rfl ?_
  refine ev_jz (t := 104) am_q213 rfl rfl (fun hq => ?_) (fun hq => ?_)
  · replace H := H.1 hq
    refine ev_p (pc' := 109) (loc' := [.ref 216, .int i1, .int i2, .int i3, .int i4, .int i5, .int i6, .int i7, .int i8]) (st' := [.int i3, .int i2, .int i8, .ref 216, .int i5, .ref 255]) 4 am_q213 rfl ?_
    refine ev_c (vs := [.ref 216, .int i8, .int i2, .int i3]) (rest := [.int i5, .ref 255]) 211 am_q213 rfl rfl rfl rfl rfl rfl rfl rfl rfl rfl rfl rfl (Or.inr (congrArg some (lk216 Ly))) (Cl.mono H (Nat.le_refl _) (fun r2 h1 H => ?_))
    obtain ⟨y3, rfl, Ly, H⟩ := H
    obtain ⟨g4, H⟩ := H
    refine ev_s (pc' := 113) (loc' := [.ref 216, .int i1, .int i2, .int i3, .int i4, .int i5, .int i6, .null, .null]) (st' := []) (h1 := am_sl h1 255 (Int32.toNatClampNeg i5) y3) am_q213 rfl rfl rfl (am_xx (lk255 Ly) (am_inl (ln255 Ly) g4)) ?_
    replace H := H _ rfl
    replace Ly : Lay (am_sl h1 255 (Int32.toNatClampNeg i5) y3) := Ly.sl _ _ _
    generalize am_sl h1 255 (Int32.toNatClampNeg i5) y3 = h5 at H Ly ⊢
    refine ev_p (pc' := 26) (loc' := [.ref 216, .int i1, .int i2, .int i3, .int i4, .int (i5 + (1 : Int32)), .int (i6 + (1 : Int32)), .null, .null]) (st' := []) 4 am_q213 rfl ?_
    exact ev_m (loc' := [.ref 216, .int i1, .int i2, .int i3, .int i4, .int (i5 + (1 : Int32)), .int (i6 + (1 : Int32)), .null, .null]) am_q213 rfl rfl H
  · replace H := H.2 hq
    refine ev_p (pc' := 112) (loc' := [.ref 216, .int i1, .int i2, .int i3, .int i4, .int i5, .int i6, .int i7, .int i8]) (st' := [.long (Int32.toInt64 i8), .int i5, .ref 255]) 3 am_q213 rfl ?_
    obtain ⟨g6, H⟩ := H
    refine ev_s (pc' := 113) (loc' := [.ref 216, .int i1, .int i2, .int i3, .int i4, .int i5, .int i6, .null, .null]) (st' := []) (h1 := am_sl h 255 (Int32.toNatClampNeg i5) (Int32.toInt64 i8)) am_q213 rfl rfl rfl (am_xx (lk255 Ly) (am_inl (ln255 Ly) g6)) ?_
    replace H := H _ rfl
    replace Ly : Lay (am_sl h 255 (Int32.toNatClampNeg i5) (Int32.toInt64 i8)) := Ly.sl _ _ _
    generalize am_sl h 255 (Int32.toNatClampNeg i5) (Int32.toInt64 i8) = h7 at H Ly ⊢
    refine ev_p (pc' := 26) (loc' := [.ref 216, .int i1, .int i2, .int i3, .int i4, .int (i5 + (1 : Int32)), .int (i6 + (1 : Int32)), .null, .null]) (st' := []) 4 am_q213 rfl ?_
    exact ev_m (loc' := [.ref 216, .int i1, .int i2, .int i3, .int i4, .int (i5 + (1 : Int32)), .int (i6 + (1 : Int32)), .null, .null]) am_q213 rfl rfl H
/-! 214: X12_here -/
set_option maxRecDepth 20000 in
set_option maxHeartbeats 2000000 in
theorem ws214 {d : Nat}   {h : AH} {Q : Option Value → AH → Prop} (Ly : Lay h) (H : Ev (d + 1) 214 4 [.ref 216, .int (0 : Int32), .int (0 : Int32)] [] h Q) : Cl (d + 1) 214 [.ref 216] h Q := by
  show Ev (d + 1) 214 0 [.ref 216, .null, .null] [] h Q
  refine ev_p (pc' := 4) (loc' := [.ref 216, .int (0 : Int32), .int (0 : Int32)]) (st' := []) 4 am_q214 rfl ?_
  exact ev_m (loc' := [.ref 216, .int (0 : Int32), .int (0 : Int32)]) am_q214 rfl rfl H
set_option maxRecDepth 20000 in
set_option maxHeartbeats 2000000 in
theorem ws214_4 {d : Nat}  (i1 : Int32) (i2 : Int32) {h : AH} {Q : Option Value → AH → Prop} (Ly : Lay h) (H : ((am_gi h 216 7) ≤ i2 → Q (some (.int i1)) h) ∧ (¬ (am_gi h 216 7) ≤ i2 → Cl d 170 [.ref 216, .int i2] h (fun r2 h1 => ∃ x3, r2 = some (.int x3) ∧ Lay h1 ∧ (x3 = (0 : Int32) → Ev (d + 1) 214 4 [.ref 216, .int (i1 + (0 : Int32)), .int (i2 + (1 : Int32))] [] h1 Q) ∧ (¬ x3 = (0 : Int32) → Ev (d + 1) 214 4 [.ref 216, .int (i1 + (1 : Int32)), .int (i2 + (1 : Int32))] [] h1 Q)))) : Ev (d + 1) 214 4 [.ref 216, .int i1, .int i2] [] h Q := by
  refine ev_p (pc' := 6) (loc' := [.ref 216, .int i1, .int i2]) (st' := [.ref 216, .int i2]) 2 am_q214 rfl ?_
  refine ev_s (pc' := 9) (loc' := [.ref 216, .int i1, .int i2]) (st' := [.int (am_gi h 216 7), .int i2]) (h1 := h) am_q214 rfl rfl rfl (if_pos (e := none) (lk216 Ly)) ?_
  refine ev_jc (t := 34) am_q214 rfl rfl (fun hq => ?_) (fun hq => ?_)
  · replace H := H.1 hq
    refine ev_p (pc' := 35) (loc' := [.ref 216, .int i1, .int i2]) (st' := [.int i1]) 1 am_q214 rfl ?_
    exact ev_r (v := some (.int i1)) am_q214 rfl rfl rfl rfl H
  · replace H := H.2 hq
    refine ev_p (pc' := 15) (loc' := [.ref 216, .int i1, .int i2]) (st' := [.int i2, .ref 216, .int i1]) 3 am_q214 rfl ?_
    refine ev_c (vs := [.ref 216, .int i2]) (rest := [.int i1]) 170 am_q214 rfl rfl rfl rfl rfl rfl rfl rfl rfl rfl rfl rfl (Or.inr (congrArg some (lk216 Ly))) (Cl.mono H (Nat.le_refl _) (fun r2 h1 H => ?_))
    obtain ⟨x3, rfl, Ly, H⟩ := H
    refine ev_jz (t := 25) am_q214 rfl rfl (fun hq => ?_) (fun hq => ?_)
    · replace H := H.1 hq
      refine ev_p (pc' := 4) (loc' := [.ref 216, .int (i1 + (0 : Int32)), .int (i2 + (1 : Int32))]) (st' := []) 5 am_q214 rfl ?_
      exact ev_m (loc' := [.ref 216, .int (i1 + (0 : Int32)), .int (i2 + (1 : Int32))]) am_q214 rfl rfl H
    · replace H := H.2 hq
      refine ev_p (pc' := 4) (loc' := [.ref 216, .int (i1 + (1 : Int32)), .int (i2 + (1 : Int32))]) (st' := []) 6 am_q214 rfl ?_
      exact ev_m (loc' := [.ref 216, .int (i1 + (1 : Int32)), .int (i2 + (1 : Int32))]) am_q214 rfl rfl H
/-! 215: X12_textOn -/
set_option maxRecDepth 20000 in
set_option maxHeartbeats 2000000 in
theorem ws215 {d : Nat}  (i1 : Int32) {h : AH} {Q : Option Value → AH → Prop} (Ly : Lay h) (H : Ev d 215 4 [.ref 216, .int i1, .int (0 : Int32), .int (0 : Int32)] [] h Q) : Cl d 215 [.ref 216, .int i1] h Q := by
  show Ev d 215 0 [.ref 216, .int i1, .null, .null] [] h Q
  refine ev_p (pc' := 4) (loc' := [.ref 216, .int i1, .int (0 : Int32), .int (0 : Int32)]) (st' := []) 4 am_q215 rfl ?_
  exact ev_m (loc' := [.ref 216, .int i1, .int (0 : Int32), .int (0 : Int32)]) am_q215 rfl rfl H
set_option maxRecDepth 20000 in
set_option maxHeartbeats 2000000 in
theorem ws215_4 {d : Nat}  (i1 : Int32) (i2 : Int32) (i3 : Int32) {h : AH} {Q : Option Value → AH → Prop} (Ly : Lay h) (H : ((am_gi h 216 23) ≤ i3 → Q (some (.int i2)) h) ∧ (¬ (am_gi h 216 23) ≤ i3 → am_in i3 13 ∧ ((am_gi h 240 (Int32.toNatClampNeg i3)) = (0 : Int32) → Ev d 215 4 [.ref 216, .int i1, .int i2, .int (i3 + (1 : Int32))] [] h Q) ∧ (¬ (am_gi h 240 (Int32.toNatClampNeg i3)) = (0 : Int32) → am_in i3 13 ∧ ((¬ (am_gi h 241 (Int32.toNatClampNeg i3)) = (0 : Int32)) → Ev d 215 4 [.ref 216, .int i1, .int i2, .int (i3 + (1 : Int32))] [] h Q) ∧ (¬ (¬ (am_gi h 241 (Int32.toNatClampNeg i3)) = (0 : Int32)) → am_in i3 13 ∧ (i1 < (am_gi h 242 (Int32.toNatClampNeg i3)) → Ev d 215 4 [.ref 216, .int i1, .int i2, .int (i3 + (1 : Int32))] [] h Q) ∧ (¬ i1 < (am_gi h 242 (Int32.toNatClampNeg i3)) → am_in i3 13 ∧ am_in i2 13 ∧ ((am_gi h 243 (Int32.toNatClampNeg i3)) ≤ (am_gi h 243 (Int32.toNatClampNeg i2)) → Ev d 215 4 [.ref 216, .int i1, .int i2, .int (i3 + (1 : Int32))] [] h Q) ∧ (¬ (am_gi h 243 (Int32.toNatClampNeg i3)) ≤ (am_gi h 243 (Int32.toNatClampNeg i2)) → Ev d 215 4 [.ref 216, .int i1, .int i3, .int (i3 + (1 : Int32))] [] h Q)))))) : Ev d 215 4 [.ref 216, .int i1, .int i2, .int i3] [] h Q := by
  refine ev_p (pc' := 6) (loc' := [.ref 216, .int i1, .int i2, .int i3]) (st' := [.ref 216, .int i3]) 2 am_q215 rfl ?_
  refine ev_s (pc' := 9) (loc' := [.ref 216, .int i1, .int i2, .int i3]) (st' := [.int (am_gi h 216 23), .int i3]) (h1 := h) am_q215 rfl rfl rfl (if_pos (e := none) (lk216 Ly)) ?_
  refine ev_jc (t := 67) am_q215 rfl rfl (fun hq => ?_) (fun hq => ?_)
  · replace H := H.1 hq
    refine ev_p (pc' := 68) (loc' := [.ref 216, .int i1, .int i2, .int i3]) (st' := [.int i2]) 1 am_q215 rfl ?_
    exact ev_r (v := some (.int i2)) am_q215 rfl rfl rfl rfl H
  · replace H := H.2 hq
    refine ev_p (pc' := 13) (loc' := [.ref 216, .int i1, .int i2, .int i3]) (st' := [.ref 216]) 1 am_q215 rfl ?_
    refine ev_s (pc' := 16) (loc' := [.ref 216, .int i1, .int i2, .int i3]) (st' := [.ref 240]) (h1 := h) am_q215 rfl rfl rfl (am_gf2 (lk216 Ly) (lr216_29 Ly)) ?_
    refine ev_p (pc' := 17) (loc' := [.ref 216, .int i1, .int i2, .int i3]) (st' := [.int i3, .ref 240]) 1 am_q215 rfl ?_
    obtain ⟨g1, H⟩ := H
    refine ev_s (pc' := 18) (loc' := [.ref 216, .int i1, .int i2, .int i3]) (st' := [.int (am_gi h 240 (Int32.toNatClampNeg i3))]) (h1 := h) am_q215 rfl rfl rfl (am_xx (Or.inr (lk240 Ly)) (am_inl (ln240 Ly) g1)) ?_
    refine ev_jz (t := 59) am_q215 rfl rfl (fun hq => ?_) (fun hq => ?_)
    · replace H := H.1 hq
      refine ev_p (pc' := 4) (loc' := [.ref 216, .int i1, .int i2, .int (i3 + (1 : Int32))]) (st' := []) 4 am_q215 rfl ?_
      exact ev_m (loc' := [.ref 216, .int i1, .int i2, .int (i3 + (1 : Int32))]) am_q215 rfl rfl H
    · replace H := H.2 hq
      refine ev_p (pc' := 22) (loc' := [.ref 216, .int i1, .int i2, .int i3]) (st' := [.ref 216]) 1 am_q215 rfl ?_
      refine ev_s (pc' := 25) (loc' := [.ref 216, .int i1, .int i2, .int i3]) (st' := [.ref 241]) (h1 := h) am_q215 rfl rfl rfl (am_gf2 (lk216 Ly) (lr216_30 Ly)) ?_
      refine ev_p (pc' := 26) (loc' := [.ref 216, .int i1, .int i2, .int i3]) (st' := [.int i3, .ref 241]) 1 am_q215 rfl ?_
      obtain ⟨g2, H⟩ := H
      refine ev_s (pc' := 27) (loc' := [.ref 216, .int i1, .int i2, .int i3]) (st' := [.int (am_gi h 241 (Int32.toNatClampNeg i3))]) (h1 := h) am_q215 rfl rfl rfl (am_xx (Or.inr (lk241 Ly)) (am_inl (ln241 Ly) g2)) ?_
      refine ev_jz (t := 59) am_q215 rfl rfl (fun hq => ?_) (fun hq => ?_)
      · replace H := H.1 hq
        refine ev_p (pc' := 4) (loc' := [.ref 216, .int i1, .int i2, .int (i3 + (1 : Int32))]) (st' := []) 4 am_q215 rfl ?_
        exact ev_m (loc' := [.ref 216, .int i1, .int i2, .int (i3 + (1 : Int32))]) am_q215 rfl rfl H
      · replace H := H.2 hq
        refine ev_p (pc' := 31) (loc' := [.ref 216, .int i1, .int i2, .int i3]) (st' := [.ref 216]) 1 am_q215 rfl ?_
        refine ev_s (pc' := 34) (loc' := [.ref 216, .int i1, .int i2, .int i3]) (st' := [.ref 242]) (h1 := h) am_q215 rfl rfl rfl (am_gf2 (lk216 Ly) (lr216_31 Ly)) ?_
        refine ev_p (pc' := 35) (loc' := [.ref 216, .int i1, .int i2, .int i3]) (st' := [.int i3, .ref 242]) 1 am_q215 rfl ?_
        obtain ⟨g3, H⟩ := H
        refine ev_s (pc' := 36) (loc' := [.ref 216, .int i1, .int i2, .int i3]) (st' := [.int (am_gi h 242 (Int32.toNatClampNeg i3))]) (h1 := h) am_q215 rfl rfl rfl (am_xx (lk242 Ly) (am_inl (ln242 Ly) g3)) ?_
        refine ev_p (pc' := 37) (loc' := [.ref 216, .int i1, .int i2, .int i3]) (st' := [.int i1, .int (am_gi h 242 (Int32.toNatClampNeg i3))]) 1 am_q215 rfl ?_
        refine ev_jc (t := 59) am_q215 rfl rfl (fun hq => ?_) (fun hq => ?_)
        · replace H := H.1 hq
          refine ev_p (pc' := 4) (loc' := [.ref 216, .int i1, .int i2, .int (i3 + (1 : Int32))]) (st' := []) 4 am_q215 rfl ?_
          exact ev_m (loc' := [.ref 216, .int i1, .int i2, .int (i3 + (1 : Int32))]) am_q215 rfl rfl H
        · replace H := H.2 hq
          refine ev_p (pc' := 41) (loc' := [.ref 216, .int i1, .int i2, .int i3]) (st' := [.ref 216]) 1 am_q215 rfl ?_
          refine ev_s (pc' := 44) (loc' := [.ref 216, .int i1, .int i2, .int i3]) (st' := [.ref 243]) (h1 := h) am_q215 rfl rfl rfl (am_gf2 (lk216 Ly) (lr216_32 Ly)) ?_
          refine ev_p (pc' := 45) (loc' := [.ref 216, .int i1, .int i2, .int i3]) (st' := [.int i3, .ref 243]) 1 am_q215 rfl ?_
          obtain ⟨g4, H⟩ := H
          refine ev_s (pc' := 46) (loc' := [.ref 216, .int i1, .int i2, .int i3]) (st' := [.int (am_gi h 243 (Int32.toNatClampNeg i3))]) (h1 := h) am_q215 rfl rfl rfl (am_xx (lk243 Ly) (am_inl (ln243 Ly) g4)) ?_
          refine ev_p (pc' := 47) (loc' := [.ref 216, .int i1, .int i2, .int i3]) (st' := [.ref 216, .int (am_gi h 243 (Int32.toNatClampNeg i3))]) 1 am_q215 rfl ?_
          refine ev_s (pc' := 50) (loc' := [.ref 216, .int i1, .int i2, .int i3]) (st' := [.ref 243, .int (am_gi h 243 (Int32.toNatClampNeg i3))]) (h1 := h) am_q215 rfl rfl rfl (am_gf2 (lk216 Ly) (lr216_32 Ly)) ?_
          refine ev_p (pc' := 51) (loc' := [.ref 216, .int i1, .int i2, .int i3]) (st' := [.int i2, .ref 243, .int (am_gi h 243 (Int32.toNatClampNeg i3))]) 1 am_q215 rfl ?_
          obtain ⟨g5, H⟩ := H
          refine ev_s (pc' := 52) (loc' := [.ref 216, .int i1, .int i2, .int i3]) (st' := [.int (am_gi h 243 (Int32.toNatClampNeg i2)), .int (am_gi h 243 (Int32.toNatClampNeg i3))]) (h1 := h) am_q215 rfl rfl rfl (am_xx (lk243 Ly) (am_inl (ln243 Ly) g5)) ?_
          refine ev_jc (t := 59) am_q215 rfl rfl (fun hq => ?_) (fun hq => ?_)
          · replace H := H.1 hq
            refine ev_p (pc' := 4) (loc' := [.ref 216, .int i1, .int i2, .int (i3 + (1 : Int32))]) (st' := []) 4 am_q215 rfl ?_
            exact ev_m (loc' := [.ref 216, .int i1, .int i2, .int (i3 + (1 : Int32))]) am_q215 rfl rfl H
          · replace H := H.2 hq
            refine ev_p (pc' := 4) (loc' := [.ref 216, .int i1, .int i3, .int (i3 + (1 : Int32))]) (st' := []) 5 am_q215 rfl ?_
            exact ev_m (loc' := [.ref 216, .int i1, .int i3, .int (i3 + (1 : Int32))]) am_q215 rfl rfl H
