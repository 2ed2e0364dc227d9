/-! BUILDING 4: the class's first text -/
def FZ (h4 h9 : AH) (n m : Nat) : Prop := (am_sz h9 = 216 ∧ am_sn h9 = am_sn h4 + n + m) ∧ (∀ a, ¬ a = 214 → ¬ a = 215 → am_kd h9 a = am_kd h4 a ∧ am_ln h9 a = am_ln h4 a ∧ (∀ k, am_gl h9 a k = am_gl h4 a k) ∧ (∀ k, ¬ (a = 148 ∧ k < 2) → am_gr h9 a k = am_gr h4 a k) ∧ ∀ k, ¬ a = 151 → am_gi h9 a k = am_gi h4 a k) ∧ (am_gr h9 148 0 = some 214 ∧ am_gr h9 148 1 = some 215) ∧ (am_kd h9 214 = 102 ∧ am_ln h9 214 = n ∧ am_kd h9 215 = 100 ∧ am_ln h9 215 = m) ∧ (∀ k, am_gi h9 214 k = am_gi h4 72 k) ∧ (∀ k, am_gi h9 215 k = am_gi h4 73 k) ∧ ∀ k, k < 5 → am_gi h9 151 k = am_gi h4 74 k
theorem g76z {h4 : AH} {n m : Nat} (L4 : LyC h4) (S4 : am_sz h4 = 214) (n4 : n ≤ 400) (m4 : m ≤ 400) (e1 : am_gi h4 71 1 = zI n) (by8 : ∀ i, i < 400 → -128 ≤ (am_gi h4 72 i).toInt ∧ (am_gi h4 72 i).toInt ≤ 127) (e3 : am_gi h4 71 3 = zI m) (k151 : am_kd h4 151 = 100 ∧ am_ln h4 151 = 5) : Cl 0 76 [.ref 148, .ref 71] h4 (fun r h' => r = none ∧ FZ h4 h' n m) := by
  refine wc76 (j0 := 0) (by decide) L4 ?_
  rw [e1, zI_tn (show n < 2147483648 by omega), S4]
  refine ⟨⟨ck72 L4, zI_nonneg (by omega), by rw [cn72 L4]; exact n4, by rw [cn72 L4]; decide, fun j hj => ?_⟩, fun b2 eb2 h1 eh1 h4' eh4 => ?_⟩
  · rw [cn72 L4] at hj
    have := by8 j hj
    rw [i_le, i_le]; exact ⟨this.1, this.2⟩
  have g : ∀ a, a ≠ 214 → a ≠ am_sz h4 := fun a y => by rw [S4]; exact y
  have sz1 : am_sz h4' = 215 := by rw [eh4, eh1]; show am_sz h4 + 1 = _; rw [S4]
  have sn1 : am_sn h4' = am_sn h4 + n := by rw [eh4, eh1]; rfl
  have L1 : LyC h4' := by rw [eh4, eh1]; exact ((L4.nw _ _ _).sw _ _).sr_text (j := 0) (by decide) (by decide)
  have gi1 : ∀ a k, a ≠ 214 → am_gi h4' a k = am_gi h4 a k := fun a k y => by
    rw [eh4, eh1]
    show (if a = 214 then am_gi h4 72 k else am_gi (am_nw h4 102 n n) a k) = _
    rw [if_neg y, am_nw_gi (g a y)]
  have gl1 : ∀ a k, a ≠ 214 → am_gl h4' a k = am_gl h4 a k := fun a k y => by
    rw [eh4, eh1]
    show am_gl (am_nw h4 102 n n) a k = _
    rw [am_nw_gl (g a y)]
  have k1 : ∀ a, a ≠ 214 → am_kd h4' a = am_kd h4 a ∧ am_ln h4' a = am_ln h4 a := fun a y => by
    rw [eh4, eh1]
    show am_kd (am_nw h4 102 n n) a = _ ∧ am_ln (am_nw h4 102 n n) a = _
    rw [am_nw_kd (g a y), am_nw_ln (g a y)]; exact ⟨rfl, rfl⟩
  have gr1 : ∀ a k, ¬ (a = 148 ∧ k = 0) → a ≠ 214 → am_gr h4' a k = am_gr h4 a k := fun a k y x => by
    rw [eh4, am_sr_gr, if_neg y, eh1]
    show am_gr (am_nw h4 102 n n) a k = _
    rw [am_nw_gr (g a x)]
  have r0 : am_gr h4' 148 0 = some 214 := by rw [eh4, am_sr_gr, if_pos ⟨rfl, rfl⟩, eb2]
  have kd0 : am_kd h4' 214 = 102 := by
    rw [eh4, eh1]
    show am_kd (am_nw h4 102 n n) 214 = 102
    rw [← S4]; exact am_nw_kd0
  have ln0 : am_ln h4' 214 = n := by
    rw [eh4, eh1]
    show am_ln (am_nw h4 102 n n) 214 = n
    rw [← S4]; exact am_nw_ln0
  have gi0 : ∀ k, am_gi h4' 214 k = am_gi h4 72 k := fun k => by
    rw [eh4, eh1]
    show (if (214 : Nat) = 214 then am_gi h4 72 k else am_gi (am_nw h4 102 n n) 214 k) = _
    rw [if_pos rfl]
  rw [gi1 71 3 (by omega), e3, zI_tn (show m < 2147483648 by omega), sz1]
  refine ⟨⟨⟨ck73 L1, by decide⟩, zI_nonneg (by omega), by rw [cn73 L1]; exact m4, by rw [cn73 L1]; decide⟩, fun b6 eb6 h5 eh5 h8 eh8 => ?_⟩
  have g' : ∀ a, a ≠ 215 → a ≠ am_sz h4' := fun a y => by rw [sz1]; exact y
  have L2 : LyC h8 := by rw [eh8, eh5]; exact ((L1.nw _ _ _).sw _ _).sr_text (j := 0) (by decide) (by decide)
  have sz2 : am_sz h8 = 216 := by rw [eh8, eh5]; show am_sz h4' + 1 = _; rw [sz1]
  have sn2 : am_sn h8 = am_sn h4 + n + m := by rw [eh8, eh5]; show am_sn h4' + m = _; rw [sn1]
  have gi2 : ∀ a k, a ≠ 215 → am_gi h8 a k = am_gi h4' a k := fun a k y => by
    rw [eh8, eh5]
    show (if a = 215 then am_gi h4' 73 k else am_gi (am_nw h4' 100 m m) a k) = _
    rw [if_neg y, am_nw_gi (g' a y)]
  have gl2 : ∀ a k, a ≠ 215 → am_gl h8 a k = am_gl h4' a k := fun a k y => by
    rw [eh8, eh5]
    show am_gl (am_nw h4' 100 m m) a k = _
    rw [am_nw_gl (g' a y)]
  have k2 : ∀ a, a ≠ 215 → am_kd h8 a = am_kd h4' a ∧ am_ln h8 a = am_ln h4' a := fun a y => by
    rw [eh8, eh5]
    show am_kd (am_nw h4' 100 m m) a = _ ∧ am_ln (am_nw h4' 100 m m) a = _
    rw [am_nw_kd (g' a y), am_nw_ln (g' a y)]; exact ⟨rfl, rfl⟩
  have gr2 : ∀ a k, ¬ (a = 148 ∧ k = 1) → a ≠ 215 → am_gr h8 a k = am_gr h4' a k := fun a k y x => by
    rw [eh8, am_sr_gr, if_neg y, eh5]
    show am_gr (am_nw h4' 100 m m) a k = _
    rw [am_nw_gr (g' a x)]
  have r1 : am_gr h8 148 1 = some 215 := by rw [eh8, am_sr_gr, if_pos ⟨rfl, rfl⟩, eb6]
  have kd1 : am_kd h8 215 = 100 := by
    rw [eh8, eh5]
    show am_kd (am_nw h4' 100 m m) 215 = 100
    rw [← sz1]; exact am_nw_kd0
  have ln1 : am_ln h8 215 = m := by
    rw [eh8, eh5]
    show am_ln (am_nw h4' 100 m m) 215 = m
    rw [← sz1]; exact am_nw_ln0
  have gi3 : ∀ k, am_gi h8 215 k = am_gi h4' 73 k := fun k => by
    rw [eh8, eh5]
    show (if (215 : Nat) = 215 then am_gi h4' 73 k else am_gi (am_nw h4' 100 m m) 215 k) = _
    rw [if_pos rfl]
  have k8 : am_kd h8 151 = 100 ∧ am_ln h8 151 = 5 := by rw [(k2 151 (by omega)).1, (k2 151 (by omega)).2, (k1 151 (by omega)).1, (k1 151 (by omega)).2]; exact k151
  refine ⟨⟨⟨ck74 L2, by decide⟩, ⟨k8.1, by omega⟩, by omega, rfl, rfl, by decide, by rw [cn74 L2]; decide, by show _ ≤ am_ln h8 151; rw [k8.2]; decide⟩, fun h9 e9 => ⟨rfl, ?_⟩⟩
  have gi9 : ∀ a k, a ≠ 151 → am_gi h9 a k = am_gi h8 a k := fun a k y => by rw [e9]; exact if_neg y
  have gi9' : ∀ k, k < 5 → am_gi h9 151 k = am_gi h8 74 k := fun k hk => by
    rw [e9]
    show (if (151 : Nat) = 151 then (if k < 5 then am_gi h8 74 k else am_gi h8 151 k) else am_gi h8 151 k) = _
    rw [if_pos rfl, if_pos hk]
  have kk : am_kd h9 = am_kd h8 ∧ am_ln h9 = am_ln h8 ∧ am_gl h9 = am_gl h8 ∧ am_gr h9 = am_gr h8 ∧ am_sz h9 = am_sz h8 ∧ am_sn h9 = am_sn h8 := by rw [e9]; exact ⟨rfl, rfl, rfl, rfl, rfl, rfl⟩
  refine ⟨⟨by rw [kk.2.2.2.2.1]; exact sz2, by rw [kk.2.2.2.2.2]; exact sn2⟩, fun a y1 y2 => ⟨?_, ?_, fun k => ?_, fun k z => ?_, fun k z => ?_⟩, ⟨?_, ?_⟩, ⟨?_, ?_, ?_, ?_⟩, fun k => ?_, fun k => ?_, fun k hk => ?_⟩
  · rw [kk.1, (k2 a y2).1, (k1 a y1).1]
  · rw [kk.2.1, (k2 a y2).2, (k1 a y1).2]
  · rw [kk.2.2.1, gl2 a k y2, gl1 a k y1]
  · rw [kk.2.2.2.1, gr2 a k (by omega) y2, gr1 a k (by omega) y1]
  · rw [gi9 a k z, gi2 a k y2, gi1 a k y1]
  · rw [kk.2.2.2.1, gr2 148 0 (by omega) (by omega)]; exact r0
  · rw [kk.2.2.2.1]; exact r1
  · rw [kk.1, (k2 214 (by omega)).1]; exact kd0
  · rw [kk.2.1, (k2 214 (by omega)).2]; exact ln0
  · rw [kk.1]; exact kd1
  · rw [kk.2.1]; exact ln1
  · rw [gi9 214 k (by omega), gi2 214 k (by omega)]; exact gi0 k
  · rw [gi9 215 k (by omega), gi3, gi1 73 k (by omega)]
  · rw [gi9' k hk, gi2 74 k (by omega), gi1 74 k (by omega)]
theorem by0_v : ∀ k, k < 42 → (Int32.toInt8 ((Int32.toInt8 (am_at am_by0 k &&& 255)).toInt32)).toInt32 = am_at am_by0 k ∧ 0 ≤ (am_at am_by0 k).toInt ∧ (am_at am_by0 k).toInt ≤ 127 := by decide +kernel
theorem smp0 : SMP (am_at am_by0) 42 4 0 0 := by
  refine ⟨by decide +kernel, Or.inr ⟨by decide +kernel, ?_⟩, by decide +kernel, by decide +kernel, Or.inl (by decide +kernel), by decide +kernel, by decide +kernel, Or.inl (by decide +kernel), by decide +kernel, by decide +kernel, Or.inl (by decide +kernel), by decide +kernel, ?_⟩
  · show (vl (am_at am_by0) 42 (en (am_at am_by0) 42 0)).toInt < 7
    decide +kernel
  · show tk (am_at am_by0) 42 _ = 0
    decide +kernel
/-- the class's cells, all laid, and what stands in them -/
theorem BI.lyc {L : Nat} {xs : Nat → Int32} {N : Nat} {Si : Nat → Nat → Prop} {h : AH} (B : BI L xs 214 N (stL tA (fB 12 24 12 6)) Si h) : LyC h := by
  have kf : (kdF 71 = 5 ∧ kdF 72 = 102 ∧ lnF 72 = 400 ∧ kdF 73 = 100 ∧ lnF 73 = 400 ∧ kdF 74 = 100 ∧ lnF 74 = 5) ∧ (rfF 71 0 = some 72 ∧ rfF 71 2 = some 73 ∧ rfF 71 4 = some 74) ∧ ((71, 0) ∈ tA ∧ (71, 2) ∈ tA ∧ (71, 4) ∈ tA) := by decide +kernel
  refine ⟨by rw [B.sz]; omega, ⟨B.kd (by omega) kf.1.1, B.kd (by omega) kf.1.2.1, B.ln (by omega) kf.1.2.2.1, B.kd (by omega) kf.1.2.2.2.1, B.ln (by omega) kf.1.2.2.2.2.1, B.kd (by omega) kf.1.2.2.2.2.2.1, B.ln (by omega) kf.1.2.2.2.2.2.2⟩, ⟨B.gr (Or.inl kf.2.2.1) kf.2.1.1, B.gr (Or.inl kf.2.2.2.1) kf.2.1.2.1, B.gr (Or.inl kf.2.2.2.2) kf.2.1.2.2⟩, fun i hi => B.kd (by omega) (kfT i hi).1, fun i hi => ?_⟩
  rw [show 151 + 4 * i = 148 + 4 * i + 3 by omega]
  exact B.gr (Or.inr (by unfold fB; omega)) (rfS.2.1 i hi).1
/-- after i bytes -/
def AP (h0 : AH) (i : Nat) (h : AH) : Prop := Sm h0 h ∧ (∀ a k, ¬ (a = 71 ∧ k = 1) → ¬ (a = 72 ∧ k < i) → am_gi h a k = am_gi h0 a k) ∧ (∀ a k, am_gl h a k = am_gl h0 a k) ∧ am_gi h 71 1 = zI i ∧ ∀ k, k < i → am_gi h 72 k = am_at am_by0 k
theorem lAp {L : Nat} {xs : Nat → Int32} {d : Nat} {h0 : AH} (B : BI L xs 214 2744 (stL tA (fB 12 24 12 6)) (sB 24 12) h0) {Q : Option Value → AH → Prop} (K : ∀ h, AP h0 42 h → Ev (d + 1) 96 229 [.ref 6, .int (zI 42)] [] h Q) : ∀ m i h, i + m = 42 → AP h0 i h → Ev (d + 1) 96 229 [.ref 6, .int (zI i)] [] h Q
  | 0, i, h, e, A => by
    have ei : i = 42 := by omega
    subst ei
    exact K h A
  | m + 1, i, h, e, A => by
    obtain ⟨S, F, W, e1, J⟩ := A
    have L0 := B.lyc
    have Lh := S.lyc L0
    have k2 : am_kd h 2 = 200 := by rw [S.2.2.1]; exact (B.2.1 2 (by decide)).1
    have l3 : am_ln h 3 = 42 := by rw [S.2.2.2.1]; exact (B.2.1 3 (by decide)).2.1
    have g3 : am_gi h 3 i = am_at am_by0 i := by rw [F 3 i (by omega) (by omega)]; exact (B.2.1 3 (by decide)).2.2 i
    refine wp96_229 _ _ ⟨k2, fun z => absurd ?_ (show ¬ 42 ≤ i by omega), fun _ => ⟨?_, 71, ?_, k2, ?_, ck71 Lh, ?_⟩⟩
    · rw [show (2 : Nat) + 1 = 3 from rfl, l3] at z; exact (zI_le (m := 42) (by decide) (by omega)).mp z
    · rw [S.2.2.1]; exact B.kd (by omega) kf6.1
    · rw [S.2.2.2.2]; exact B.gr (Or.inl tA_m.2.2.2.2) rfS.1.2.2.2.2
    · rw [show (2 : Nat) + 1 = 3 from rfl, l3]; exact in_zI (by omega) (by decide)
    · rw [show (2 : Nat) + 1 = 3 from rfl, zI_tn (by omega), g3]
      refine wc31 _ Lh ⟨fun z => absurd ?_ (show ¬ 400 ≤ i by omega), fun _ => ?_⟩
      · rw [e1] at z; exact (zI_le (m := 400) (by decide) (by omega)).mp z
      · rw [e1, zI_tn (by omega), (by0_v i (by omega)).1]
        refine ⟨in_zI (by omega) (by decide), fun h2 e2 h3 e3 => ⟨rfl, ?_⟩⟩
        rw [show am_gi h2 71 1 = zI i from by rw [e2, gi_ne (by omega)]; exact e1, zI_succ] at e3
        rw [zI_succ]
        refine lAp B K m (i + 1) h3 (by omega) ⟨by rw [e3, e2]; exact (S.si _ _ _).si _ _ _, fun a k y1 y2 => by rw [e3, e2, gi_ne (by omega), gi_ne (by omega)]; exact F a k y1 (by omega), fun a k => by rw [e3, e2]; exact W a k, by rw [e3, gi_eq], fun k hk => ?_⟩
        rw [e3, e2, gi_ne (by omega)]
        by_cases y : k = i
        · subst y; rw [gi_eq]
        · rw [gi_ne (by omega)]; exact J k (by omega)
/-- what the class has once it is built -/
def CFn (L : Nat) (xs : Nat → Int32) (pp : Nat → Nat) (m : Nat) (op w : Nat → Int32) (h : AH) : Prop := (am_sz h = 216 ∧ am_sn h = 2786 + m) ∧ (∀ a, a < 6 → am_kd h a = am_kd (am_h0 L xs) a ∧ am_ln h a = am_ln (am_h0 L xs) a ∧ ∀ k, am_gi h a k = am_gi (am_h0 L xs) a k) ∧ (∀ a, 6 ≤ a → a < 214 → am_kd h a = kdF a ∧ am_ln h a = lnF a) ∧ (∀ a k, stL tA (fB 12 24 12 6) a k → am_gr h a k = rfF a k) ∧ (am_gr h 148 0 = some 214 ∧ am_gr h 148 1 = some 215) ∧ (am_kd h 214 = 102 ∧ am_ln h 214 = 42 ∧ am_kd h 215 = 100 ∧ am_ln h 215 = m) ∧ (∀ k, k < 42 → am_gi h 214 k = am_at am_by0 k) ∧ (∀ i, i < m → cR (op i) (w i) (am_gi h 215 i)) ∧ (∀ k, k < 5 → am_gi h 151 k = zI (pp k)) ∧ (am_gi h 148 6 = 0 ∧ am_gi h 148 7 = 0 ∧ am_gi h 148 8 = -1 ∧ am_gi h 6 9 = 1 ∧ am_gi h 71 1 = 0) ∧ (∀ i, i < 400 → -128 ≤ (am_gi h 72 i).toInt ∧ (am_gi h 72 i).toInt ≤ 127) ∧ (∀ a k, 6 ≤ a → ¬ (a = 71 ∨ a = 72 ∨ a = 73 ∨ a = 74 ∨ a = 151 ∨ a = 214 ∨ a = 215 ∨ (a = 148 ∧ 6 ≤ k) ∨ (a = 6 ∧ k = 9)) → (sB 24 12 a k → am_gi h a k = iV a k) ∧ (¬ sB 24 12 a k → am_gi h a k = 0)) ∧ ∀ a k, 6 ≤ a → ¬ (a = 214 ∨ a = 215) → am_gl h a k = 0
theorem c96 {L : Nat} {xs : Nat → Int32} {h : AH} (B0 : BI L xs 7 19 (stL [] fNo) fNo h) {pp : Nat → Nat} {m : Nat} {op w : Nat → Int32} (m4 : m ≤ 400) (C : ∀ h, SB (am_at am_by0) 42 h → Cl 93 33 [.ref 71] h (fun r h' => r = none ∧ CO h (-1) (-1) pp m op w h')) : Cl 94 96 [.ref 6] h (fun r h' => r = none ∧ CFn L xs pp m op w h') := by
  refine b96b (d := 93) B0 (by decide) (fun h0 B => ?_)
  have L0 := B.lyc
  refine lAp (d := 93) B (fun h1 A => ?_) 42 0 h0 (by decide) ⟨Sm.rfl' _, fun _ _ _ _ => rfl, fun _ _ => rfl, ?_, fun k hk => absurd hk (by omega)⟩
  · obtain ⟨S, F, W, e1, J⟩ := A
    have L1 := S.lyc L0
    have k6 : ∀ g, am_kd g = am_kd h0 → am_kd g 6 = 11 := fun g e => by rw [e]; exact B.kd (by omega) kf6.1
    have r66 : ∀ g, am_gr g = am_gr h0 → am_gr g 6 6 = some 71 := fun g e => by rw [e]; exact B.gr (Or.inl tA_m.2.2.2.2) rfS.1.2.2.2.2
    have k2 : am_kd h1 2 = 200 := by rw [S.2.2.1]; exact (B.2.1 2 (by decide)).1
    have l3 : am_ln h1 3 = 42 := by rw [S.2.2.2.1]; exact (B.2.1 3 (by decide)).2.1
    have z72 : ∀ i, 42 ≤ i → am_gi h1 72 i = 0 := fun i hi => by
      rw [F 72 i (by omega) (by omega)]
      exact (B.2.2.2.2.1 72 i (by decide)).2 (by unfold sB siA; omega)
    have b72 : ∀ i, i < 400 → -128 ≤ (am_gi h1 72 i).toInt ∧ (am_gi h1 72 i).toInt ≤ 127 := fun i _ => by
      by_cases y : i < 42
      · rw [J i y]; have := by0_v i y; omega
      · rw [z72 i (by omega)]; decide
    have c5 : ∀ k, am_gi h1 5 k = wB k := fun k => by rw [F 5 k (by omega) (by omega)]; exact (B.2.1 5 (by decide)).2.2 k
    have Sb : SB (am_at am_by0) 42 h1 := ⟨L1, by decide, e1, fun i hi => Or.inl ⟨J i hi, (by0_v i hi).2.1, (by0_v i hi).2.2⟩, ⟨by rw [S.2.2.1]; exact (B.2.1 4 (by decide)).1, by rw [S.2.2.2.1]; exact (B.2.1 5 (by decide)).2.1, c5⟩, by rw [S.2.2.1]; exact (B.2.1 1 (by decide)).1, by rw [S.2.2.2.1]; exact (B.2.1 1 (by decide)).2.1, fun i => by rw [F 1 i (by omega) (by omega)]; exact (B.2.1 1 (by decide)).2.2 i⟩
    refine wp96_229 _ _ ⟨k2, fun _ => ⟨k6 h1 S.2.2.1, 71, r66 h1 S.2.2.2.2, ck71 L1, ?_⟩, fun z => absurd (by rw [show (2 : Nat) + 1 = 3 from rfl, l3]; decide) z⟩
    refine Cl.rv (C h1 Sb) (Nat.le_refl _) (fun h2 O => ?_)
    obtain ⟨F2, o5, o6, o7⟩ := O
    obtain ⟨o3, o74, o73⟩ := o7 rfl
    have S2 := S.trans F2.1
    have L2 := S2.lyc L0
    have k78 : ∀ g, am_kd g = am_kd h0 → am_kd g 78 = 107 := fun g e => by rw [e]; exact B.kd (by omega) kf6.2.2.2.1.1
    have n78 : ∀ g, am_ln g = am_ln h0 → am_ln g 78 = 12 := fun g e => by rw [e]; exact B.ln (by omega) kf6.2.2.2.1.2
    have r68 : ∀ g, am_gr g = am_gr h0 → am_gr g 6 8 = some 78 := fun g e => by rw [e]; exact B.gr (Or.inl tA_m.2.2.1) rfS.1.2.2.1
    have r780 : ∀ g, am_gr g = am_gr h0 → am_gr g 78 0 = some 148 := fun g e => by rw [e]; exact B.gr (Or.inr (by unfold fB; omega)) rfl
    refine ⟨k6 h2 S2.2.2.1, 78, r68 h2 S2.2.2.2.2, by rw [k78 h2 S2.2.2.1]; decide, by rw [n78 h2 S2.2.2.2.1]; exact in_zI (i := 0) (by decide) (by decide), 148, r780 h2 S2.2.2.2.2, k6 h2 S2.2.2.1, 71, r66 h2 S2.2.2.2.2, ck_text L2 (i := 0) (by decide), ?_⟩
    have e12 : am_gi h2 71 1 = zI 42 := by rw [F2.2.1 _ _ (by omega)]; exact e1
    have g72 : ∀ i, am_gi h2 72 i = am_gi h1 72 i := fun i => F2.2.1 _ _ (by omega)
    refine Cl.rv (g76z (n := 42) (m := m) L2 (by rw [S2.1]; exact B.sz) (by decide) m4 e12 (fun i hi => by rw [g72]; exact b72 i hi) o3 ⟨by rw [S2.2.2.1]; exact B.kd (by omega) (kfT 0 (by decide)).2.2.2.2.1, by rw [S2.2.2.2.1]; exact B.ln (by omega) (kfT 0 (by decide)).2.2.2.2.2⟩) (by decide) (fun h3 Z => ?_)
    obtain ⟨z1, z2, z3, z4, z5, z6, z7⟩ := Z
    have kd3 : ∀ a, a < 214 → am_kd h3 a = am_kd h0 a ∧ am_ln h3 a = am_ln h0 a := fun a ha => by
      have := z2 a (by omega) (by omega)
      rw [this.1, this.2.1, S2.2.2.1, S2.2.2.2.1]; exact ⟨rfl, rfl⟩
    have gr3 : ∀ a k, a < 214 → ¬ (a = 148 ∧ k < 2) → am_gr h3 a k = am_gr h0 a k := fun a k ha hk => by rw [(z2 a (by omega) (by omega)).2.2.2.1 k hk, S2.2.2.2.2]
    have gi3 : ∀ a k, ¬ (a = 71 ∨ a = 72 ∨ a = 73 ∨ a = 74 ∨ a = 151 ∨ a = 214 ∨ a = 215) → am_gi h3 a k = am_gi h0 a k := fun a k y => by
      rw [(z2 a (by omega) (by omega)).2.2.2.2 k (by omega), F2.2.1 _ _ (by omega), F a k (by omega) (by omega)]
    have L3 : LyC h3 := by
      obtain ⟨b1, ⟨c1, c2, c3, c4, c5', c6, c7⟩, ⟨d1, d2, d3⟩, t1, t2⟩ := L0
      refine ⟨by rw [z1.1]; omega, ⟨by rw [(kd3 71 (by omega)).1]; exact c1, by rw [(kd3 72 (by omega)).1]; exact c2, by rw [(kd3 72 (by omega)).2]; exact c3, by rw [(kd3 73 (by omega)).1]; exact c4, by rw [(kd3 73 (by omega)).2]; exact c5', by rw [(kd3 74 (by omega)).1]; exact c6, by rw [(kd3 74 (by omega)).2]; exact c7⟩, ⟨by rw [gr3 71 0 (by omega) (by omega)]; exact d1, by rw [gr3 71 2 (by omega) (by omega)]; exact d2, by rw [gr3 71 4 (by omega) (by omega)]; exact d3⟩, fun i hi => by rw [(kd3 _ (by omega)).1]; exact t1 i hi, fun i hi => by rw [gr3 _ _ (by omega) (by omega)]; exact t2 i hi⟩
    refine ⟨by rw [(kd3 6 (by omega)).1]; exact B.kd (by omega) kf6.1, 78, by rw [gr3 6 8 (by omega) (by omega)]; exact r68 h0 rfl, by rw [(kd3 78 (by omega)).1, k78 h0 rfl]; decide, by rw [(kd3 78 (by omega)).2, n78 h0 rfl]; exact in_zI (i := 0) (by decide) (by decide), 148, by rw [gr3 78 _ (by omega) (by omega)]; exact r780 h0 rfl, ck_text L3 (i := 0) (by decide), ?_⟩
    refine wc81 (j0 := 0) (by decide) _ _ _ L3 (fun g1 f1 g2 f2 g3 f3 => ⟨rfl, ?_⟩)
    have L6 : LyC g3 := by rw [f3, f2, f1]; exact ((L3.si _ _ _).si _ _ _).si _ _ _
    have kd6 : am_kd g3 = am_kd h3 ∧ am_gr g3 = am_gr h3 ∧ am_ln g3 = am_ln h3 ∧ am_sz g3 = am_sz h3 ∧ am_sn g3 = am_sn h3 ∧ am_gl g3 = am_gl h3 := by rw [f3, f2, f1]; exact ⟨rfl, rfl, rfl, rfl, rfl, rfl⟩
    refine ⟨by rw [kd6.1, (kd3 6 (by omega)).1]; exact B.kd (by omega) kf6.1, 71, by rw [kd6.2.1, gr3 6 6 (by omega) (by omega)]; exact r66 h0 rfl, ck71 L6, wc32 L6 (fun g4 f4 => ⟨rfl, ?_⟩)⟩
    have kd7 : am_kd g4 = am_kd h3 ∧ am_gr g4 = am_gr h3 ∧ am_ln g4 = am_ln h3 ∧ am_sz g4 = am_sz h3 ∧ am_sn g4 = am_sn h3 ∧ am_gl g4 = am_gl h3 := by rw [f4]; exact kd6
    refine ⟨by rw [kd7.1, (kd3 6 (by omega)).1]; exact B.kd (by omega) kf6.1, fun g5 f5 => ⟨rfl, ?_⟩⟩
    have kd8 : am_kd g5 = am_kd h3 ∧ am_gr g5 = am_gr h3 ∧ am_ln g5 = am_ln h3 ∧ am_sz g5 = am_sz h3 ∧ am_sn g5 = am_sn h3 ∧ am_gl g5 = am_gl h3 := by rw [f5]; exact kd7
    have gi8 : ∀ a k, ¬ (a = 148 ∧ 6 ≤ k) → ¬ (a = 71 ∧ k = 1) → ¬ (a = 6 ∧ k = 9) → am_gi g5 a k = am_gi h3 a k := fun a k y1 y2 y3 => by
      rw [f5, gi_ne (by omega), f4, gi_ne (by omega), f3, gi_ne (by omega), f2, gi_ne (by omega), f1, gi_ne (by omega)]
    refine ⟨⟨by rw [kd8.2.2.2.1]; exact z1.1, by rw [kd8.2.2.2.2.1, z1.2, S2.2.1, B.1.2]⟩, fun a ha => ⟨?_, ?_, fun k => ?_⟩, fun a h1' h2' => ?_, fun a k s => ?_, ⟨?_, ?_⟩, ⟨?_, ?_, ?_, ?_⟩, fun k hk => ?_, fun i hi => ?_, fun k hk => ?_, ⟨?_, ?_, ?_, ?_, ?_⟩, fun i hi => ?_, fun a k h6 y => ?_, fun a k h6 y => ?_⟩
    · rw [kd8.1, (kd3 a (by omega)).1]; exact (B.2.1 a ha).1
    · rw [kd8.2.2.1, (kd3 a (by omega)).2]; exact (B.2.1 a ha).2.1
    · rw [gi8 a k (by omega) (by omega) (by omega), gi3 a k (by omega)]; exact (B.2.1 a ha).2.2 k
    · rw [kd8.1, kd8.2.2.1, (kd3 a h2').1, (kd3 a h2').2]; exact B.2.2.1 a h1' h2' (by omega) (by omega)
    · have q := B.2.2.2.1 a k s
      have n148 : ¬ (a = 148 ∧ k < 2) := fun y => by
        rcases s with s | s
        · have : ∀ p ∈ tA, ¬ p.1 = 148 := by decide +kernel
          exact this _ s y.1
        · unfold fB f85 at s; omega
      rw [kd8.2.1, gr3 a k q.1 n148]; exact q.2
    · rw [kd8.2.1]; exact z3.1
    · rw [kd8.2.1]; exact z3.2
    · rw [kd8.1]; exact z4.1
    · rw [kd8.2.2.1]; exact z4.2.1
    · rw [kd8.1]; exact z4.2.2.1
    · rw [kd8.2.2.1]; exact z4.2.2.2
    · rw [gi8 _ _ (by omega) (by omega) (by omega), z5, g72, J k hk]
    · rw [gi8 _ _ (by omega) (by omega) (by omega), z6]; exact o73 i hi
    · rw [gi8 _ _ (by omega) (by omega) (by omega), z7 k hk]; exact o74 k hk
    · rw [f5, gi_ne (by omega), f4, gi_ne (by omega), f3, gi_ne (by omega), f2, gi_ne (by omega), f1]; exact gi_eq
    · rw [f5, gi_ne (by omega), f4, gi_ne (by omega), f3, gi_ne (by omega), f2]; exact gi_eq
    · rw [f5, gi_ne (by omega), f4, gi_ne (by omega), f3]; exact gi_eq
    · rw [f5, gi_eq]
    · rw [f5, gi_ne (by omega), f4, gi_eq]
    · rw [gi8 _ _ (by omega) (by omega) (by omega), (z2 72 (by omega) (by omega)).2.2.2.2 i (by omega), g72]; exact b72 i hi
    · rw [gi8 a k (by omega) (by omega) (by omega), gi3 a k (by omega)]
      exact ⟨fun s => ((B.2.2.2.2.1 a k h6).1 s).2, (B.2.2.2.2.1 a k h6).2⟩
    · rw [kd8.2.2.2.2.2, (z2 a (by omega) (by omega)).2.2.1 k, F2.2.2, W]; exact B.2.2.2.2.2 a k h6
  · exact (B.2.2.2.2.1 71 1 (by decide)).2 (by unfold sB siA; omega)
