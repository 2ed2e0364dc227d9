/-! THE READER over the class's own cells alone: the class is built before the reference is -/
def LyC (h : AH) : Prop := 214 ≤ am_sz h ∧ (am_kd h 71 = 5 ∧ am_kd h 72 = 102 ∧ am_ln h 72 = 400 ∧ am_kd h 73 = 100 ∧ am_ln h 73 = 400 ∧ am_kd h 74 = 100 ∧ am_ln h 74 = 5) ∧ (am_gr h 71 0 = some 72 ∧ am_gr h 71 2 = some 73 ∧ am_gr h 71 4 = some 74) ∧ (∀ i, i < 12 → am_kd h (148 + 4 * i) = 9) ∧ (∀ i, i < 12 → am_gr h (148 + 4 * i) 2 = some (151 + 4 * i))
theorem ck71 {h : AH} (L : LyC h) : am_kd h 71 = 5 := L.2.1.1
theorem ck72 {h : AH} (L : LyC h) : am_kd h 72 = 102 := L.2.1.2.1
theorem cn72 {h : AH} (L : LyC h) : am_ln h 72 = 400 := L.2.1.2.2.1
theorem ck73 {h : AH} (L : LyC h) : am_kd h 73 = 100 := L.2.1.2.2.2.1
theorem cn73 {h : AH} (L : LyC h) : am_ln h 73 = 400 := L.2.1.2.2.2.2.1
theorem ck74 {h : AH} (L : LyC h) : am_kd h 74 = 100 := L.2.1.2.2.2.2.2.1
theorem cn74 {h : AH} (L : LyC h) : am_ln h 74 = 5 := L.2.1.2.2.2.2.2.2
theorem cr71_0 {h : AH} (L : LyC h) : am_gr h 71 0 = some 72 := L.2.2.1.1
theorem cr71_2 {h : AH} (L : LyC h) : am_gr h 71 2 = some 73 := L.2.2.1.2.1
theorem cr71_4 {h : AH} (L : LyC h) : am_gr h 71 4 = some 74 := L.2.2.1.2.2
theorem ck_text {h : AH} (L : LyC h) {i : Nat} (hi : i < 12) : am_kd h (148 + 4 * i) = 9 := L.2.2.2.1 i hi
theorem cr_starts {h : AH} (L : LyC h) {i : Nat} (hi : i < 12) : am_gr h (148 + 4 * i) 2 = some (151 + 4 * i) := L.2.2.2.2 i hi
theorem Lay.c {h : AH} (L : Lay h) : LyC h := ⟨by have := L.1; omega, ⟨lk71 L, lk72 L, ln72 L, lk73 L, ln73 L, lk74 L, ln74 L⟩, ⟨lr71_0 L, lr71_2 L, lr71_4 L⟩, fun _ hi => lk_text L hi, fun _ hi => lr_starts L hi⟩
theorem LyC.si {h : AH} (L : LyC h) (a k : Nat) (v : Int32) : LyC (am_si h a k v) := L
theorem LyC.sw {h : AH} (L : LyC h) (a : Nat) (g : Nat → Int32) : LyC (am_sw h a g) := L
theorem LyC.nw {h : AH} (L : LyC h) (k n w : Nat) : LyC (am_nw h k n w) := by
  have hz := L.1
  have ek : ∀ a, a < 214 → am_kd (am_nw h k n w) a = am_kd h a := fun a ha => am_nw_kd (by omega)
  have el : ∀ a, a < 214 → am_ln (am_nw h k n w) a = am_ln h a := fun a ha => am_nw_ln (by omega)
  have er : ∀ a, a < 214 → am_gr (am_nw h k n w) a = am_gr h a := fun a ha => am_nw_gr (by omega)
  obtain ⟨h1, ⟨b1, b2, b3, b4, b5, b6, b7⟩, ⟨c1, c2, c3⟩, d1, e1⟩ := L
  refine ⟨by show 214 ≤ am_sz h + 1; omega, ⟨?_, ?_, ?_, ?_, ?_, ?_, ?_⟩, ⟨?_, ?_, ?_⟩, fun i hi => ?_, fun i hi => ?_⟩
  · rw [ek _ (by omega)]; exact b1
  · rw [ek _ (by omega)]; exact b2
  · rw [el _ (by omega)]; exact b3
  · rw [ek _ (by omega)]; exact b4
  · rw [el _ (by omega)]; exact b5
  · rw [ek _ (by omega)]; exact b6
  · rw [el _ (by omega)]; exact b7
  · rw [er _ (by omega)]; exact c1
  · rw [er _ (by omega)]; exact c2
  · rw [er _ (by omega)]; exact c3
  · rw [ek _ (by omega)]; exact d1 i hi
  · rw [er _ (by omega)]; exact e1 i hi
theorem LyC.sr_text {h : AH} (L : LyC h) {j k : Nat} {v : Option Nat} (hj : j < 12) (hk : k < 2) : LyC (am_sr h (148 + 4 * j) k v) := by
  have er : ∀ a b, (a ≠ 148 + 4 * j ∨ b ≠ k) → am_gr (am_sr h (148 + 4 * j) k v) a b = am_gr h a b := fun a b hab => by rw [am_sr_gr, if_neg (fun z => hab.elim (fun w => w z.1) (fun w => w z.2))]
  obtain ⟨h1, b1, ⟨c1, c2, c3⟩, d1, e1⟩ := L
  refine ⟨h1, b1, ⟨?_, ?_, ?_⟩, d1, fun i hi => ?_⟩
  · rw [er _ _ (by omega)]; exact c1
  · rw [er _ _ (by omega)]; exact c2
  · rw [er _ _ (by omega)]; exact c3
  · rw [er _ _ (by omega)]; exact e1 i hi
theorem Sm.lyc {h h' : AH} (A : Sm h h') (L : LyC h) : LyC h' := by
  obtain ⟨a1, a2, a3, a4, a5⟩ := A
  unfold LyC at L ⊢
  rw [a1, a3, a4, a5]
  exact L
theorem Cl.ic {d d' M : Nat} {vs : List Value} {h : AH} {x : Int32} {A : Int32 → AH → Prop} (H : PF d M vs h (.int x)) (hd : d ≤ d') (Ly : LyC h) (k : A x h) : Cl d' M vs h (fun r h1 => ∃ x, r = some (.int x) ∧ LyC h1 ∧ A x h1) :=
  Cl.mono H hd (fun r h' q => ⟨x, q.1, by rw [q.2]; exact Ly, by rw [q.2]; exact k⟩)
theorem Cl.qic {d d' M : Nat} {vs : List Value} {h : AH} {v : Int32} {P : AH → Prop} {A : Int32 → AH → Prop} (H : Cl d M vs h (fun r h' => r = some (.int v) ∧ P h')) (hd : d ≤ d') (k : ∀ h', P h' → LyC h' ∧ A v h') : Cl d' M vs h (fun r h1 => ∃ x, r = some (.int x) ∧ LyC h1 ∧ A x h1) :=
  Cl.mono H hd (fun r h' q => ⟨v, q.1, k h' q.2⟩)
theorem Cl.qvc {d d' M : Nat} {vs : List Value} {h : AH} {P : AH → Prop} {A : AH → Prop} (H : Cl d M vs h (fun r h' => r = none ∧ P h')) (hd : d ≤ d') (k : ∀ h', P h' → LyC h' ∧ A h') : Cl d' M vs h (fun r h1 => r = none ∧ LyC h1 ∧ A h1) :=
  Cl.mono H hd (fun r h' q => ⟨q.1, k h' q.2⟩)
set_option maxRecDepth 20000 in
set_option maxHeartbeats 2000000 in
theorem wc31 {d : Nat}  (i1 : Int32) {h : AH} {Q : Option Value → AH → Prop} (Ly : LyC h) (H : ((400 : Int32) ≤ (am_gi h 71 1) → Q none h) ∧ (¬ (400 : Int32) ≤ (am_gi h 71 1) → am_in (am_gi h 71 1) 400 ∧ ∀ h2, h2 = am_si h 72 (Int32.toNatClampNeg (am_gi h 71 1)) (Int32.toInt8 ((Int32.toInt8 i1).toInt32)).toInt32 → ∀ h3, h3 = am_si h2 71 1 ((am_gi h2 71 1) + (1 : Int32)) → Q none h3)) : Cl d 31 [.ref 71, .int i1] h Q := by
  show Ev d 31 0 [.ref 71, .int i1] [] h Q
  refine ev_p (pc' := 1) (loc' := [.ref 71, .int i1]) (st' := [.ref 71]) 1 am_q31 rfl ?_
  refine ev_s (pc' := 4) (loc' := [.ref 71, .int i1]) (st' := [.int (am_gi h 71 1)]) (h1 := h) am_q31 rfl rfl rfl (if_pos (e := none) (ck71 Ly)) ?_
  refine ev_p (pc' := 7) (loc' := [.ref 71, .int i1]) (st' := [.int (400 : Int32), .int (am_gi h 71 1)]) 1 am_q31 rfl ?_
  refine ev_jc (t := 31) am_q31 rfl rfl (fun hq => ?_) (fun hq => ?_)
  · replace H := H.1 hq
    exact ev_r (v := none) am_q31 rfl rfl rfl rfl H
  · replace H := H.2 hq
    refine ev_p (pc' := 11) (loc' := [.ref 71, .int i1]) (st' := [.ref 71]) 1 am_q31 rfl ?_
    refine ev_s (pc' := 14) (loc' := [.ref 71, .int i1]) (st' := [.ref 72]) (h1 := h) am_q31 rfl rfl rfl (am_gf2 (ck71 Ly) (cr71_0 Ly)) ?_
    refine ev_p (pc' := 15) (loc' := [.ref 71, .int i1]) (st' := [.ref 71, .ref 72]) 1 am_q31 rfl ?_
    refine ev_s (pc' := 18) (loc' := [.ref 71, .int i1]) (st' := [.int (am_gi h 71 1), .ref 72]) (h1 := h) am_q31 rfl rfl rfl (if_pos (e := none) (ck71 Ly)) ?_
    refine ev_p (pc' := 20) (loc' := [.ref 71, .int i1]) (st' := [.int ((Int32.toInt8 i1).toInt32), .int (am_gi h 71 1), .ref 72]) 2 am_q31 rfl ?_
    obtain ⟨g1, H⟩ := H
    refine ev_s (pc' := 21) (loc' := [.ref 71, .int i1]) (st' := []) (h1 := am_si h 72 (Int32.toNatClampNeg (am_gi h 71 1)) (Int32.toInt8 ((Int32.toInt8 i1).toInt32)).toInt32) am_q31 rfl rfl rfl (am_xx ⟨ck72 Ly, (Nat.le_of_ble_eq_true rfl)⟩ (am_inl (cn72 Ly) g1)) ?_
    replace H := H _ rfl
    replace Ly : LyC (am_si h 72 (Int32.toNatClampNeg (am_gi h 71 1)) (Int32.toInt8 ((Int32.toInt8 i1).toInt32)).toInt32) := Ly.si _ _ _
    generalize am_si h 72 (Int32.toNatClampNeg (am_gi h 71 1)) (Int32.toInt8 ((Int32.toInt8 i1).toInt32)).toInt32 = h2 at H Ly ⊢
    refine ev_p (pc' := 23) (loc' := [.ref 71, .int i1]) (st' := [.ref 71, .ref 71]) 2 am_q31 rfl ?_
    refine ev_s (pc' := 26) (loc' := [.ref 71, .int i1]) (st' := [.int (am_gi h2 71 1), .ref 71]) (h1 := h2) am_q31 rfl rfl rfl (if_pos (e := none) (ck71 Ly)) ?_
    refine ev_p (pc' := 28) (loc' := [.ref 71, .int i1]) (st' := [.int ((am_gi h2 71 1) + (1 : Int32)), .ref 71]) 2 am_q31 rfl ?_
    refine ev_s (pc' := 31) (loc' := [.ref 71, .int i1]) (st' := []) (h1 := am_si h2 71 1 ((am_gi h2 71 1) + (1 : Int32))) am_q31 rfl rfl rfl (if_pos (e := none) (ck71 Ly)) ?_
    replace H := H _ rfl
    replace Ly : LyC (am_si h2 71 1 ((am_gi h2 71 1) + (1 : Int32))) := Ly.si _ _ _
    generalize am_si h2 71 1 ((am_gi h2 71 1) + (1 : Int32)) = h3 at H Ly ⊢
    exact ev_r (v := none) am_q31 rfl rfl rfl rfl H
/-! 32: X5_forget -/
set_option maxRecDepth 20000 in
set_option maxHeartbeats 2000000 in
theorem wc32 {d : Nat}   {h : AH} {Q : Option Value → AH → Prop} (Ly : LyC h) (H : ∀ h1, h1 = am_si h 71 1 (0 : Int32) → Q none h1) : Cl d 32 [.ref 71] h Q := by
  show Ev d 32 0 [.ref 71] [] h Q
  refine ev_p (pc' := 2) (loc' := [.ref 71]) (st' := [.int (0 : Int32), .ref 71]) 2 am_q32 rfl ?_
  refine ev_s (pc' := 5) (loc' := [.ref 71]) (st' := []) (h1 := am_si h 71 1 (0 : Int32)) am_q32 rfl rfl rfl (if_pos (e := none) (ck71 Ly)) ?_
  replace H := H _ rfl
  replace Ly : LyC (am_si h 71 1 (0 : Int32)) := Ly.si _ _ _
  generalize am_si h 71 1 (0 : Int32) = h1 at H Ly ⊢
  exact ev_r (v := none) am_q32 rfl rfl rfl rfl H
/-! 33: X5_read -/
set_option maxRecDepth 20000 in
set_option maxHeartbeats 2000000 in
theorem wc33 {d : Nat}   {h : AH} {Q : Option Value → AH → Prop} (Ly : LyC h) (H : ∀ h1, h1 = am_si h 71 8 (0 : Int32) → ∀ h2, h2 = am_si h1 71 3 (0 : Int32) → ∀ h3, h3 = am_si h2 71 12 (-1 : Int32) → ∀ h4, h4 = am_si h3 71 5 (0 : Int32) → ∀ h5, h5 = am_si h4 71 6 (-1 : Int32) → Cl d 44 [.ref 71] h5 (fun r7 h6 => r7 = none ∧ LyC h6 ∧ ∀ h8, h8 = am_si h6 71 7 (0 : Int32) → Ev (d + 1) 33 36 [.ref 71, .int (1 : Int32)] [] h8 Q)) : Cl (d + 1) 33 [.ref 71] h Q := by
  show Ev (d + 1) 33 0 [.ref 71, .null] [] h Q
  refine ev_p (pc' := 2) (loc' := [.ref 71, .null]) (st' := [.int (0 : Int32), .ref 71]) 2 am_q33 rfl ?_
  refine ev_s (pc' := 5) (loc' := [.ref 71, .null]) (st' := []) (h1 := am_si h 71 8 (0 : Int32)) am_q33 rfl rfl rfl (if_pos (e := none) (ck71 Ly)) ?_
  replace H := H _ rfl
  replace Ly : LyC (am_si h 71 8 (0 : Int32)) := Ly.si _ _ _
  generalize am_si h 71 8 (0 : Int32) = h1 at H Ly ⊢
  refine ev_p (pc' := 7) (loc' := [.ref 71, .null]) (st' := [.int (0 : Int32), .ref 71]) 2 am_q33 rfl ?_
  refine ev_s (pc' := 10) (loc' := [.ref 71, .null]) (st' := []) (h1 := am_si h1 71 3 (0 : Int32)) am_q33 rfl rfl rfl (if_pos (e := none) (ck71 Ly)) ?_
  replace H := H _ rfl
  replace Ly : LyC (am_si h1 71 3 (0 : Int32)) := Ly.si _ _ _
  generalize am_si h1 71 3 (0 : Int32) = h2 at H Ly ⊢
  refine ev_p (pc' := 12) (loc' := [.ref 71, .null]) (st' := [.int (-1 : Int32), .ref 71]) 2 am_q33 rfl ?_
  refine ev_s (pc' := 15) (loc' := [.ref 71, .null]) (st' := []) (h1 := am_si h2 71 12 (-1 : Int32)) am_q33 rfl rfl rfl (if_pos (e := none) (ck71 Ly)) ?_
  replace H := H _ rfl
  replace Ly : LyC (am_si h2 71 12 (-1 : Int32)) := Ly.si _ _ _
  generalize am_si h2 71 12 (-1 : Int32) = h3 at H Ly ⊢
  refine ev_p (pc' := 17) (loc' := [.ref 71, .null]) (st' := [.int (0 : Int32), .ref 71]) 2 am_q33 rfl ?_
  refine ev_s (pc' := 20) (loc' := [.ref 71, .null]) (st' := []) (h1 := am_si h3 71 5 (0 : Int32)) am_q33 rfl rfl rfl (if_pos (e := none) (ck71 Ly)) ?_
  replace H := H _ rfl
  replace Ly : LyC (am_si h3 71 5 (0 : Int32)) := Ly.si _ _ _
  generalize am_si h3 71 5 (0 : Int32) = h4 at H Ly ⊢
  refine ev_p (pc' := 22) (loc' := [.ref 71, .null]) (st' := [.int (-1 : Int32), .ref 71]) 2 am_q33 rfl ?_
  refine ev_s (pc' := 25) (loc' := [.ref 71, .null]) (st' := []) (h1 := am_si h4 71 6 (-1 : Int32)) am_q33 rfl rfl rfl (if_pos (e := none) (ck71 Ly)) ?_
  replace H := H _ rfl
  replace Ly : LyC (am_si h4 71 6 (-1 : Int32)) := Ly.si _ _ _
  generalize am_si h4 71 6 (-1 : Int32) = h5 at H Ly ⊢
  refine ev_p (pc' := 26) (loc' := [.ref 71, .null]) (st' := [.ref 71]) 1 am_q33 rfl ?_
  refine ev_c (vs := [.ref 71]) (rest := []) 44 am_q33 rfl rfl rfl rfl rfl rfl rfl rfl rfl rfl rfl rfl (Or.inr (congrArg some (ck71 Ly))) (Cl.mono H (Nat.le_refl _) (fun r7 h6 H => ?_))
  obtain ⟨rfl, Ly, H⟩ := H
  refine ev_p (pc' := 33) (loc' := [.ref 71, .int (1 : Int32)]) (st' := [.int (0 : Int32), .ref 71]) 4 am_q33 rfl ?_
  refine ev_s (pc' := 36) (loc' := [.ref 71, .int (1 : Int32)]) (st' := []) (h1 := am_si h6 71 7 (0 : Int32)) am_q33 rfl rfl rfl (if_pos (e := none) (ck71 Ly)) ?_
  replace H := H _ rfl
  replace Ly : LyC (am_si h6 71 7 (0 : Int32)) := Ly.si _ _ _
  generalize am_si h6 71 7 (0 : Int32) = h8 at H Ly ⊢
  exact ev_m (loc' := [.ref 71, .int (1 : Int32)]) am_q33 rfl rfl H
set_option maxRecDepth 20000 in
set_option maxHeartbeats 2000000 in
theorem wc33_36 {d : Nat}  (i1 : Int32) {h : AH} {Q : Option Value → AH → Prop} (Ly : LyC h) (H : ((4 : Int32) ≤ (am_gi h 71 7) → Ev (d + 1) 33 111 [.ref 71, .int i1] [] h Q) ∧ (¬ (4 : Int32) ≤ (am_gi h 71 7) → (i1 = (0 : Int32) → Ev (d + 1) 33 111 [.ref 71, .int i1] [] h Q) ∧ (¬ i1 = (0 : Int32) → am_in (am_gi h 71 7) 5 ∧ ∀ h2, h2 = am_si h 74 (Int32.toNatClampNeg (am_gi h 71 7)) (am_gi h 71 3) → Cl d 42 [.ref 71, .int ((8 : Int32) + (am_gi h2 71 7))] h2 (fun r4 h3 => ∃ x5, r4 = some (.int x5) ∧ LyC h3 ∧ (x5 = (0 : Int32) → Ev (d + 1) 33 96 [.ref 71, .null] [] h3 Q) ∧ (¬ x5 = (0 : Int32) → Cl d 34 [.ref 71, .int (0 : Int32)] h3 (fun r7 h6 => ∃ x8, r7 = some (.int x8) ∧ LyC h6 ∧ (x8 = (0 : Int32) → Ev (d + 1) 33 96 [.ref 71, .null] [] h6 Q) ∧ (¬ x8 = (0 : Int32) → Cl d 42 [.ref 71, .int (59 : Int32)] h6 (fun r10 h9 => ∃ x11, r10 = some (.int x11) ∧ LyC h9 ∧ (x11 = (0 : Int32) → Ev (d + 1) 33 96 [.ref 71, .null] [] h9 Q) ∧ (¬ x11 = (0 : Int32) → ∀ h12, h12 = am_si h9 71 7 ((am_gi h9 71 7) + (1 : Int32)) → Ev (d + 1) 33 36 [.ref 71, .int (1 : Int32)] [] h12 Q))))))))) : Ev (d + 1) 33 36 [.ref 71, .int i1] [] h Q := by
  refine ev_p (pc' := 37) (loc' := [.ref 71, .int i1]) (st' := [.ref 71]) 1 am_q33 rfl ?_
  refine ev_s (pc' := 40) (loc' := [.ref 71, .int i1]) (st' := [.int (am_gi h 71 7)]) (h1 := h) am_q33 rfl rfl rfl (if_pos (e := none) (ck71 Ly)) ?_
  refine ev_p (pc' := 41) (loc' := [.ref 71, .int i1]) (st' := [.int (4 : Int32), .int (am_gi h 71 7)]) 1 am_q33 rfl ?_
  refine ev_jc (t := 111) am_q33 rfl rfl (fun hq => ?_) (fun hq => ?_)
  · replace H := H.1 hq
    exact ev_m (loc' := [.ref 71, .int i1]) am_q33 rfl rfl H
  · replace H := H.2 hq
    refine ev_p (pc' := 45) (loc' := [.ref 71, .int i1]) (st' := [.int i1]) 1 am_q33 rfl ?_
    refine ev_jz (t := 111) am_q33 rfl rfl (fun hq => ?_) (fun hq => ?_)
    · replace H := H.1 hq
      exact ev_m (loc' := [.ref 71, .int i1]) am_q33 rfl rfl H
    · replace H := H.2 hq
      refine ev_p (pc' := 49) (loc' := [.ref 71, .int i1]) (st' := [.ref 71]) 1 am_q33 rfl ?_
      refine ev_s (pc' := 52) (loc' := [.ref 71, .int i1]) (st' := [.ref 74]) (h1 := h) am_q33 rfl rfl rfl (am_gf2 (ck71 Ly) (cr71_4 Ly)) ?_
      refine ev_p (pc' := 53) (loc' := [.ref 71, .int i1]) (st' := [.ref 71, .ref 74]) 1 am_q33 rfl ?_
      refine ev_s (pc' := 56) (loc' := [.ref 71, .int i1]) (st' := [.int (am_gi h 71 7), .ref 74]) (h1 := h) am_q33 rfl rfl rfl (if_pos (e := none) (ck71 Ly)) ?_
      refine ev_p (pc' := 57) (loc' := [.ref 71, .int i1]) (st' := [.ref 71, .int (am_gi h 71 7), .ref 74]) 1 am_q33 rfl ?_
      refine ev_s (pc' := 60) (loc' := [.ref 71, .int i1]) (st' := [.int (am_gi h 71 3), .int (am_gi h 71 7), .ref 74]) (h1 := h) am_q33 rfl rfl rfl (if_pos (e := none) (ck71 Ly)) ?_
      obtain ⟨g1, H⟩ := H
      refine ev_s (pc' := 61) (loc' := [.ref 71, .int i1]) (st' := []) (h1 := am_si h 74 (Int32.toNatClampNeg (am_gi h 71 7)) (am_gi h 71 3)) am_q33 rfl rfl rfl (am_xx ⟨ck74 Ly, (Nat.le_of_ble_eq_true rfl)⟩ (am_inl (cn74 Ly) g1)) ?_
      replace H := H _ rfl
      replace Ly : LyC (am_si h 74 (Int32.toNatClampNeg (am_gi h 71 7)) (am_gi h 71 3)) := Ly.si _ _ _
      generalize am_si h 74 (Int32.toNatClampNeg (am_gi h 71 7)) (am_gi h 71 3) = h2 at H Ly ⊢
      refine ev_p (pc' := 65) (loc' := [.ref 71, .int i1]) (st' := [.ref 71, .int (8 : Int32), .ref 71]) 3 am_q33 rfl ?_
      refine ev_s (pc' := 68) (loc' := [.ref 71, .int i1]) (st' := [.int (am_gi h2 71 7), .int (8 : Int32), .ref 71]) (h1 := h2) am_q33 rfl rfl rfl (if_pos (e := none) (ck71 Ly)) ?_
      refine ev_p (pc' := 69) (loc' := [.ref 71, .int i1]) (st' := [.int ((8 : Int32) + (am_gi h2 71 7)), .ref 71]) 1 am_q33 rfl ?_
      refine ev_c (vs := [.ref 71, .int ((8 : Int32) + (am_gi h2 71 7))]) (rest := []) 42 am_q33 rfl rfl rfl rfl rfl rfl rfl rfl rfl rfl rfl rfl (Or.inr (congrArg some (ck71 Ly))) (Cl.mono H (Nat.le_refl _) (fun r4 h3 H => ?_))
      obtain ⟨x5, rfl, Ly, H⟩ := H
      refine ev_jz (t := 96) am_q33 rfl rfl (fun hq => ?_) (fun hq => ?_)
      · replace H := H.1 hq
        exact ev_m (loc' := [.ref 71, .null]) am_q33 rfl rfl H
      · replace H := H.2 hq
        refine ev_p (pc' := 77) (loc' := [.ref 71, .int i1]) (st' := [.int (0 : Int32), .ref 71]) 2 am_q33 rfl ?_
        refine ev_c (vs := [.ref 71, .int (0 : Int32)]) (rest := []) 34 am_q33 rfl rfl rfl rfl rfl rfl rfl rfl rfl rfl rfl rfl (Or.inr (congrArg some (ck71 Ly))) (Cl.mono H (Nat.le_refl _) (fun r7 h6 H => ?_))
        obtain ⟨x8, rfl, Ly, H⟩ := H
        refine ev_jz (t := 96) am_q33 rfl rfl (fun hq => ?_) (fun hq => ?_)
        · replace H := H.1 hq
          exact ev_m (loc' := [.ref 71, .null]) am_q33 rfl rfl H
        · replace H := H.2 hq
          refine ev_p (pc' := 86) (loc' := [.ref 71, .int i1]) (st' := [.int (59 : Int32), .ref 71]) 2 am_q33 rfl ?_
          refine ev_c (vs := [.ref 71, .int (59 : Int32)]) (rest := []) 42 am_q33 rfl rfl rfl rfl rfl rfl rfl rfl rfl rfl rfl rfl (Or.inr (congrArg some (ck71 Ly))) (Cl.mono H (Nat.le_refl _) (fun r10 h9 H => ?_))
          obtain ⟨x11, rfl, Ly, H⟩ := H
          refine ev_jz (t := 96) am_q33 rfl rfl (fun hq => ?_) (fun hq => ?_)
          · replace H := H.1 hq
            exact ev_m (loc' := [.ref 71, .null]) am_q33 rfl rfl H
          · replace H := H.2 hq
            refine ev_p (pc' := 100) (loc' := [.ref 71, .int (1 : Int32)]) (st' := [.ref 71, .ref 71]) 5 am_q33 rfl ?_
            refine ev_s (pc' := 103) (loc' := [.ref 71, .int (1 : Int32)]) (st' := [.int (am_gi h9 71 7), .ref 71]) (h1 := h9) am_q33 rfl rfl rfl (if_pos (e := none) (ck71 Ly)) ?_
            refine ev_p (pc' := 105) (loc' := [.ref 71, .int (1 : Int32)]) (st' := [.int ((am_gi h9 71 7) + (1 : Int32)), .ref 71]) 2 am_q33 rfl ?_
            refine ev_s (pc' := 108) (loc' := [.ref 71, .int (1 : Int32)]) (st' := []) (h1 := am_si h9 71 7 ((am_gi h9 71 7) + (1 : Int32))) am_q33 rfl rfl rfl (if_pos (e := none) (ck71 Ly)) ?_
            replace H := H _ rfl
            replace Ly : LyC (am_si h9 71 7 ((am_gi h9 71 7) + (1 : Int32))) := Ly.si _ _ _
            generalize am_si h9 71 7 ((am_gi h9 71 7) + (1 : Int32)) = h12 at H Ly ⊢
            refine ev_p (pc' := 36) (loc' := [.ref 71, .int (1 : Int32)]) (st' := []) 1 am_q33 rfl ?_
            exact ev_m (loc' := [.ref 71, .int (1 : Int32)]) am_q33 rfl rfl H
set_option maxRecDepth 20000 in
set_option maxHeartbeats 2000000 in
theorem wc33_96 {d : Nat}   {h : AH} {Q : Option Value → AH → Prop} (Ly : LyC h) (H : ∀ h1, h1 = am_si h 71 7 ((am_gi h 71 7) + (1 : Int32)) → Ev (d + 1) 33 36 [.ref 71, .int (0 : Int32)] [] h1 Q) : Ev (d + 1) 33 96 [.ref 71, .null] [] h Q := by
  refine ev_p (pc' := 100) (loc' := [.ref 71, .int (0 : Int32)]) (st' := [.ref 71, .ref 71]) 4 am_q33 rfl ?_
  refine ev_s (pc' := 103) (loc' := [.ref 71, .int (0 : Int32)]) (st' := [.int (am_gi h 71 7), .ref 71]) (h1 := h) am_q33 rfl rfl rfl (if_pos (e := none) (ck71 Ly)) ?_
  refine ev_p (pc' := 105) (loc' := [.ref 71, .int (0 : Int32)]) (st' := [.int ((am_gi h 71 7) + (1 : Int32)), .ref 71]) 2 am_q33 rfl ?_
  refine ev_s (pc' := 108) (loc' := [.ref 71, .int (0 : Int32)]) (st' := []) (h1 := am_si h 71 7 ((am_gi h 71 7) + (1 : Int32))) am_q33 rfl rfl rfl (if_pos (e := none) (ck71 Ly)) ?_
  replace H := H _ rfl
  replace Ly : LyC (am_si h 71 7 ((am_gi h 71 7) + (1 : Int32))) := Ly.si _ _ _
  generalize am_si h 71 7 ((am_gi h 71 7) + (1 : Int32)) = h1 at H Ly ⊢
  refine ev_p (pc' := 36) (loc' := [.ref 71, .int (0 : Int32)]) (st' := []) 1 am_q33 rfl ?_
  exact ev_m (loc' := [.ref 71, .int (0 : Int32)]) am_q33 rfl rfl H
set_option maxRecDepth 20000 in
set_option maxHeartbeats 2000000 in
theorem wc33_111 {d : Nat}  (i1 : Int32) {h : AH} {Q : Option Value → AH → Prop} (Ly : LyC h) (H : am_in (4 : Int32) 5 ∧ ∀ h2, h2 = am_si h 74 (Int32.toNatClampNeg (4 : Int32)) (am_gi h 71 3) → (i1 = (0 : Int32) → ∀ h3, h3 = am_si h2 71 5 (1 : Int32) → ∀ h4, h4 = am_si h3 71 6 (am_gi h3 71 10) → Q none h4) ∧ (¬ i1 = (0 : Int32) → ((am_gi h2 71 9) = (0 : Int32) → ((am_gi h2 71 12) = (-1 : Int32) → Q none h2) ∧ (¬ (am_gi h2 71 12) = (-1 : Int32) → ∀ h5, h5 = am_si h2 71 5 (2 : Int32) → ∀ h6, h6 = am_si h5 71 6 (am_gi h5 71 12) → Q none h6)) ∧ (¬ (am_gi h2 71 9) = (0 : Int32) → ∀ h7, h7 = am_si h2 71 5 (1 : Int32) → ∀ h8, h8 = am_si h7 71 6 (am_gi h7 71 10) → Q none h8))) : Ev (d + 1) 33 111 [.ref 71, .int i1] [] h Q := by
  refine ev_p (pc' := 112) (loc' := [.ref 71, .int i1]) (st' := [.ref 71]) 1 am_q33 rfl ?_
  refine ev_s (pc' := 115) (loc' := [.ref 71, .int i1]) (st' := [.ref 74]) (h1 := h) am_q33 rfl rfl rfl (am_gf2 (ck71 Ly) (cr71_4 Ly)) ?_
  refine ev_p (pc' := 117) (loc' := [.ref 71, .int i1]) (st' := [.ref 71, .int (4 : Int32), .ref 74]) 2 am_q33 rfl ?_
  refine ev_s (pc' := 120) (loc' := [.ref 71, .int i1]) (st' := [.int (am_gi h 71 3), .int (4 : Int32), .ref 74]) (h1 := h) am_q33 rfl rfl rfl (if_pos (e := none) (ck71 Ly)) ?_
  obtain ⟨g1, H⟩ := H
  refine ev_s (pc' := 121) (loc' := [.ref 71, .int i1]) (st' := []) (h1 := am_si h 74 (Int32.toNatClampNeg (4 : Int32)) (am_gi h 71 3)) am_q33 rfl rfl rfl (am_xx ⟨ck74 Ly, (Nat.le_of_ble_eq_true rfl)⟩ (am_inl (cn74 Ly) g1)) ?_
  replace H := H _ rfl
  replace Ly : LyC (am_si h 74 (Int32.toNatClampNeg (4 : Int32)) (am_gi h 71 3)) := Ly.si _ _ _
  generalize am_si h 74 (Int32.toNatClampNeg (4 : Int32)) (am_gi h 71 3) = h2 at H Ly ⊢
  refine ev_p (pc' := 122) (loc' := [.ref 71, .int i1]) (st' := [.int i1]) 1 am_q33 rfl ?_
  refine ev_jz (t := 132) am_q33 rfl rfl (fun hq => ?_) (fun hq => ?_)
  · replace H := H.1 hq
    refine ev_p (pc' := 134) (loc' := [.ref 71, .null]) (st' := [.int (1 : Int32), .ref 71]) 2 am_q33 rfl ?_
    refine ev_s (pc' := 137) (loc' := [.ref 71, .null]) (st' := []) (h1 := am_si h2 71 5 (1 : Int32)) am_q33 rfl rfl rfl (if_pos (e := none) (ck71 Ly)) ?_
    replace H := H _ rfl
    replace Ly : LyC (am_si h2 71 5 (1 : Int32)) := Ly.si _ _ _
    generalize am_si h2 71 5 (1 : Int32) = h3 at H Ly ⊢
    refine ev_p (pc' := 139) (loc' := [.ref 71, .null]) (st' := [.ref 71, .ref 71]) 2 am_q33 rfl ?_
    refine ev_s (pc' := 142) (loc' := [.ref 71, .null]) (st' := [.int (am_gi h3 71 10), .ref 71]) (h1 := h3) am_q33 rfl rfl rfl (if_pos (e := none) (ck71 Ly)) ?_
    refine ev_s (pc' := 145) (loc' := [.ref 71, .null]) (st' := []) (h1 := am_si h3 71 6 (am_gi h3 71 10)) am_q33 rfl rfl rfl (if_pos (e := none) (ck71 Ly)) ?_
    replace H := H _ rfl
    replace Ly : LyC (am_si h3 71 6 (am_gi h3 71 10)) := Ly.si _ _ _
    generalize am_si h3 71 6 (am_gi h3 71 10) = h4 at H Ly ⊢
    refine ev_p (pc' := 169) (loc' := [.ref 71, .null]) (st' := []) 1 am_q33 rfl ?_
    exact ev_r (v := none) am_q33 rfl rfl rfl rfl H
  · replace H := H.2 hq
    refine ev_p (pc' := 126) (loc' := [.ref 71, .int i1]) (st' := [.ref 71]) 1 am_q33 rfl ?_
    refine ev_s (pc' := 129) (loc' := [.ref 71, .int i1]) (st' := [.int (am_gi h2 71 9)]) (h1 := h2) am_q33 rfl rfl rfl (if_pos (e := none) (ck71 Ly)) ?_
    refine ev_jz (t := 148) am_q33 rfl rfl (fun hq => ?_) (fun hq => ?_)
    · replace H := H.1 hq
      refine ev_p (pc' := 149) (loc' := [.ref 71, .int i1]) (st' := [.ref 71]) 1 am_q33 rfl ?_
      refine ev_s (pc' := 152) (loc' := [.ref 71, .int i1]) (st' := [.int (am_gi h2 71 12)]) (h1 := h2) am_q33 rfl rfl rfl (if_pos (e := none) (ck71 Ly)) ?_
      refine ev_p (pc' := 153) (loc' := [.ref 71, .int i1]) (st' := [.int (-1 : Int32), .int (am_gi h2 71 12)]) 1 am_q33 rfl ?_
      refine ev_jc (t := 169) am_q33 rfl rfl (fun hq => ?_) (fun hq => ?_)
      · replace H := H.1 hq
        exact ev_r (v := none) am_q33 rfl rfl rfl rfl H
      · replace H := H.2 hq
        refine ev_p (pc' := 158) (loc' := [.ref 71, .int i1]) (st' := [.int (2 : Int32), .ref 71]) 2 am_q33 rfl ?_
        refine ev_s (pc' := 161) (loc' := [.ref 71, .int i1]) (st' := []) (h1 := am_si h2 71 5 (2 : Int32)) am_q33 rfl rfl rfl (if_pos (e := none) (ck71 Ly)) ?_
        replace H := H _ rfl
        replace Ly : LyC (am_si h2 71 5 (2 : Int32)) := Ly.si _ _ _
        generalize am_si h2 71 5 (2 : Int32) = h5 at H Ly ⊢
        refine ev_p (pc' := 163) (loc' := [.ref 71, .int i1]) (st' := [.ref 71, .ref 71]) 2 am_q33 rfl ?_
        refine ev_s (pc' := 166) (loc' := [.ref 71, .int i1]) (st' := [.int (am_gi h5 71 12), .ref 71]) (h1 := h5) am_q33 rfl rfl rfl (if_pos (e := none) (ck71 Ly)) ?_
        refine ev_s (pc' := 169) (loc' := [.ref 71, .int i1]) (st' := []) (h1 := am_si h5 71 6 (am_gi h5 71 12)) am_q33 rfl rfl rfl (if_pos (e := none) (ck71 Ly)) ?_
        replace H := H _ rfl
        replace Ly : LyC (am_si h5 71 6 (am_gi h5 71 12)) := Ly.si _ _ _
        generalize am_si h5 71 6 (am_gi h5 71 12) = h6 at H Ly ⊢
        exact ev_r (v := none) am_q33 rfl rfl rfl rfl H
    · replace H := H.2 hq
      refine ev_p (pc' := 134) (loc' := [.ref 71, .null]) (st' := [.int (1 : Int32), .ref 71]) 2 am_q33 rfl ?_
      refine ev_s (pc' := 137) (loc' := [.ref 71, .null]) (st' := []) (h1 := am_si h2 71 5 (1 : Int32)) am_q33 rfl rfl rfl (if_pos (e := none) (ck71 Ly)) ?_
      replace H := H _ rfl
      replace Ly : LyC (am_si h2 71 5 (1 : Int32)) := Ly.si _ _ _
      generalize am_si h2 71 5 (1 : Int32) = h7 at H Ly ⊢
      refine ev_p (pc' := 139) (loc' := [.ref 71, .null]) (st' := [.ref 71, .ref 71]) 2 am_q33 rfl ?_
      refine ev_s (pc' := 142) (loc' := [.ref 71, .null]) (st' := [.int (am_gi h7 71 10), .ref 71]) (h1 := h7) am_q33 rfl rfl rfl (if_pos (e := none) (ck71 Ly)) ?_
      refine ev_s (pc' := 145) (loc' := [.ref 71, .null]) (st' := []) (h1 := am_si h7 71 6 (am_gi h7 71 10)) am_q33 rfl rfl rfl (if_pos (e := none) (ck71 Ly)) ?_
      replace H := H _ rfl
      replace Ly : LyC (am_si h7 71 6 (am_gi h7 71 10)) := Ly.si _ _ _
      generalize am_si h7 71 6 (am_gi h7 71 10) = h8 at H Ly ⊢
      refine ev_p (pc' := 169) (loc' := [.ref 71, .null]) (st' := []) 1 am_q33 rfl ?_
      exact ev_r (v := none) am_q33 rfl rfl rfl rfl H
/-! 34: X5_readOr -/
set_option maxRecDepth 20000 in
set_option maxHeartbeats 2000000 in
theorem wc34 {d : Nat}  (i1 : Int32) {h : AH} {Q : Option Value → AH → Prop} (Ly : LyC h) (H : Cl d 35 [.ref 71, .int i1] h (fun r2 h1 => ∃ x3, r2 = some (.int x3) ∧ LyC h1 ∧ ((¬ x3 = (0 : Int32)) → Ev (d + 1) 34 12 [.ref 71, .int i1, .int (0 : Int32)] [] h1 Q) ∧ (¬ (¬ x3 = (0 : Int32)) → Q (some (.int (0 : Int32))) h1))) : Cl (d + 1) 34 [.ref 71, .int i1] h Q := by
  show Ev (d + 1) 34 0 [.ref 71, .int i1, .null] [] h Q
  refine ev_p (pc' := 2) (loc' := [.ref 71, .int i1, .null]) (st' := [.int i1, .ref 71]) 2 am_q34 rfl ?_
  refine ev_c (vs := [.ref 71, .int i1]) (rest := []) 35 am_q34 rfl rfl rfl rfl rfl rfl rfl rfl rfl rfl rfl rfl (Or.inr (congrArg some (ck71 Ly))) (Cl.mono H (Nat.le_refl _) (fun r2 h1 H => ?_))
  obtain ⟨x3, rfl, Ly, H⟩ := H
  refine ev_jz (t := 10) am_q34 rfl rfl (fun hq => ?_) (fun hq => ?_)
  · replace H := H.1 hq
    refine ev_p (pc' := 12) (loc' := [.ref 71, .int i1, .int (0 : Int32)]) (st' := []) 2 am_q34 rfl ?_
    exact ev_m (loc' := [.ref 71, .int i1, .int (0 : Int32)]) am_q34 rfl rfl H
  · replace H := H.2 hq
    refine ev_p (pc' := 9) (loc' := [.ref 71, .int i1, .null]) (st' := [.int (0 : Int32)]) 1 am_q34 rfl ?_
    exact ev_r (v := some (.int (0 : Int32))) am_q34 rfl rfl rfl rfl H
set_option maxRecDepth 20000 in
set_option maxHeartbeats 2000000 in
theorem wc34_12 {d : Nat}  (i1 : Int32) (i2 : Int32) {h : AH} {Q : Option Value → AH → Prop} (Ly : LyC h) (H : ((400 : Int32) ≤ i2 → Q (some (.int (1 : Int32))) h) ∧ (¬ (400 : Int32) ≤ i2 → ((¬ (am_gi h 71 9) = (12 : Int32)) → Q (some (.int (1 : Int32))) h) ∧ (¬ (¬ (am_gi h 71 9) = (12 : Int32)) → Cl d 44 [.ref 71] h (fun r2 h1 => r2 = none ∧ LyC h1 ∧ Cl d 35 [.ref 71, .int i1] h1 (fun r4 h3 => ∃ x5, r4 = some (.int x5) ∧ LyC h3 ∧ ((¬ x5 = (0 : Int32)) → Cl d 43 [.ref 71, .int (-21 : Int32)] h3 (fun r7 h6 => r7 = none ∧ LyC h6 ∧ Ev (d + 1) 34 12 [.ref 71, .int i1, .int (i2 + (1 : Int32))] [] h6 Q)) ∧ (¬ (¬ x5 = (0 : Int32)) → Q (some (.int (0 : Int32))) h3)))))) : Ev (d + 1) 34 12 [.ref 71, .int i1, .int i2] [] h Q := by
  refine ev_p (pc' := 16) (loc' := [.ref 71, .int i1, .int i2]) (st' := [.int (400 : Int32), .int i2]) 2 am_q34 rfl ?_
  refine ev_jc (t := 54) am_q34 rfl rfl (fun hq => ?_) (fun hq => ?_)
  · replace H := H.1 hq
    refine ev_p (pc' := 55) (loc' := [.null, .null, .null]) (st' := [.int (1 : Int32)]) 1 am_q34 rfl ?_
    exact ev_r (v := some (.int (1 : Int32))) am_q34 rfl rfl rfl rfl H
  · replace H := H.2 hq
    refine ev_p (pc' := 20) (loc' := [.ref 71, .int i1, .int i2]) (st' := [.ref 71]) 1 am_q34 rfl ?_
    refine ev_s (pc' := 23) (loc' := [.ref 71, .int i1, .int i2]) (st' := [.int (am_gi h 71 9)]) (h1 := h) am_q34 rfl rfl rfl (if_pos (e := none) (ck71 Ly)) ?_
    refine ev_p (pc' := 25) (loc' := [.ref 71, .int i1, .int i2]) (st' := [.int (12 : Int32), .int (am_gi h 71 9)]) 1 am_q34 rfl ?_
    refine ev_jc (t := 54) am_q34 rfl rfl (fun hq => ?_) (fun hq => ?_)
    · replace H := H.1 hq
      refine ev_p (pc' := 55) (loc' := [.null, .null, .null]) (st' := [.int (1 : Int32)]) 1 am_q34 rfl ?_
      exact ev_r (v := some (.int (1 : Int32))) am_q34 rfl rfl rfl rfl H
    · replace H := H.2 hq
      refine ev_p (pc' := 29) (loc' := [.ref 71, .int i1, .int i2]) (st' := [.ref 71]) 1 am_q34 rfl ?_
      refine ev_c (vs := [.ref 71]) (rest := []) 44 am_q34 rfl rfl rfl rfl rfl rfl rfl rfl rfl rfl rfl rfl (Or.inr (congrArg some (ck71 Ly))) (Cl.mono H (Nat.le_refl _) (fun r2 h1 H => ?_))
      obtain ⟨rfl, Ly, H⟩ := H
      refine ev_p (pc' := 34) (loc' := [.ref 71, .int i1, .int i2]) (st' := [.int i1, .ref 71]) 2 am_q34 rfl ?_
      refine ev_c (vs := [.ref 71, .int i1]) (rest := []) 35 am_q34 rfl rfl rfl rfl rfl rfl rfl rfl rfl rfl rfl rfl (Or.inr (congrArg some (ck71 Ly))) (Cl.mono H (Nat.le_refl _) (fun r4 h3 H => ?_))
      obtain ⟨x5, rfl, Ly, H⟩ := H
      refine ev_jz (t := 42) am_q34 rfl rfl (fun hq => ?_) (fun hq => ?_)
      · replace H := H.1 hq
        refine ev_p (pc' := 45) (loc' := [.ref 71, .int i1, .int i2]) (st' := [.int (-21 : Int32), .ref 71]) 2 am_q34 rfl ?_
        refine ev_c (vs := [.ref 71, .int (-21 : Int32)]) (rest := []) 43 am_q34 rfl rfl rfl rfl rfl rfl rfl rfl rfl rfl rfl rfl (Or.inr (congrArg some (ck71 Ly))) (Cl.mono H (Nat.le_refl _) (fun r7 h6 H => ?_))
        obtain ⟨rfl, Ly, H⟩ := H
        refine ev_p (pc' := 12) (loc' := [.ref 71, .int i1, .int (i2 + (1 : Int32))]) (st' := []) 2 am_q34 rfl ?_
        exact ev_m (loc' := [.ref 71, .int i1, .int (i2 + (1 : Int32))]) am_q34 rfl rfl H
      · replace H := H.2 hq
        refine ev_p (pc' := 41) (loc' := [.ref 71, .int i1, .int i2]) (st' := [.int (0 : Int32)]) 1 am_q34 rfl ?_
        exact ev_r (v := some (.int (0 : Int32))) am_q34 rfl rfl rfl rfl H
/-! 35: X5_readAnd -/
set_option maxRecDepth 20000 in
set_option maxHeartbeats 2000000 in
theorem wc35 {d : Nat}  (i1 : Int32) {h : AH} {Q : Option Value → AH → Prop} (Ly : LyC h) (H : Cl d 36 [.ref 71, .int i1] h (fun r2 h1 => ∃ x3, r2 = some (.int x3) ∧ LyC h1 ∧ ((¬ x3 = (0 : Int32)) → Ev (d + 1) 35 12 [.ref 71, .int i1, .int (0 : Int32)] [] h1 Q) ∧ (¬ (¬ x3 = (0 : Int32)) → Q (some (.int (0 : Int32))) h1))) : Cl (d + 1) 35 [.ref 71, .int i1] h Q := by
  show Ev (d + 1) 35 0 [.ref 71, .int i1, .null] [] h Q
  refine ev_p (pc' := 2) (loc' := [.ref 71, .int i1, .null]) (st' := [.int i1, .ref 71]) 2 am_q35 rfl ?_
  refine ev_c (vs := [.ref 71, .int i1]) (rest := []) 36 am_q35 rfl rfl rfl rfl rfl rfl rfl rfl rfl rfl rfl rfl (Or.inr (congrArg some (ck71 Ly))) (Cl.mono H (Nat.le_refl _) (fun r2 h1 H => ?_))
  obtain ⟨x3, rfl, Ly, H⟩ := H
  refine ev_jz (t := 10) am_q35 rfl rfl (fun hq => ?_) (fun hq => ?_)
  · replace H := H.1 hq
    refine ev_p (pc' := 12) (loc' := [.ref 71, .int i1, .int (0 : Int32)]) (st' := []) 2 am_q35 rfl ?_
    exact ev_m (loc' := [.ref 71, .int i1, .int (0 : Int32)]) am_q35 rfl rfl H
  · replace H := H.2 hq
    refine ev_p (pc' := 9) (loc' := [.ref 71, .int i1, .null]) (st' := [.int (0 : Int32)]) 1 am_q35 rfl ?_
    exact ev_r (v := some (.int (0 : Int32))) am_q35 rfl rfl rfl rfl H
set_option maxRecDepth 20000 in
set_option maxHeartbeats 2000000 in
theorem wc35_12 {d : Nat}  (i1 : Int32) (i2 : Int32) {h : AH} {Q : Option Value → AH → Prop} (Ly : LyC h) (H : ((400 : Int32) ≤ i2 → Q (some (.int (1 : Int32))) h) ∧ (¬ (400 : Int32) ≤ i2 → ((¬ (am_gi h 71 9) = (13 : Int32)) → Q (some (.int (1 : Int32))) h) ∧ (¬ (¬ (am_gi h 71 9) = (13 : Int32)) → Cl d 44 [.ref 71] h (fun r2 h1 => r2 = none ∧ LyC h1 ∧ Cl d 36 [.ref 71, .int i1] h1 (fun r4 h3 => ∃ x5, r4 = some (.int x5) ∧ LyC h3 ∧ ((¬ x5 = (0 : Int32)) → Cl d 43 [.ref 71, .int (-22 : Int32)] h3 (fun r7 h6 => r7 = none ∧ LyC h6 ∧ Ev (d + 1) 35 12 [.ref 71, .int i1, .int (i2 + (1 : Int32))] [] h6 Q)) ∧ (¬ (¬ x5 = (0 : Int32)) → Q (some (.int (0 : Int32))) h3)))))) : Ev (d + 1) 35 12 [.ref 71, .int i1, .int i2] [] h Q := by
  refine ev_p (pc' := 16) (loc' := [.ref 71, .int i1, .int i2]) (st' := [.int (400 : Int32), .int i2]) 2 am_q35 rfl ?_
  refine ev_jc (t := 54) am_q35 rfl rfl (fun hq => ?_) (fun hq => ?_)
  · replace H := H.1 hq
    refine ev_p (pc' := 55) (loc' := [.null, .null, .null]) (st' := [.int (1 : Int32)]) 1 am_q35 rfl ?_
    exact ev_r (v := some (.int (1 : Int32))) am_q35 rfl rfl rfl rfl H
  · replace H := H.2 hq
    refine ev_p (pc' := 20) (loc' := [.ref 71, .int i1, .int i2]) (st' := [.ref 71]) 1 am_q35 rfl ?_
    refine ev_s (pc' := 23) (loc' := [.ref 71, .int i1, .int i2]) (st' := [.int (am_gi h 71 9)]) (h1 := h) am_q35 rfl rfl rfl (if_pos (e := none) (ck71 Ly)) ?_
    refine ev_p (pc' := 25) (loc' := [.ref 71, .int i1, .int i2]) (st' := [.int (13 : Int32), .int (am_gi h 71 9)]) 1 am_q35 rfl ?_
    refine ev_jc (t := 54) am_q35 rfl rfl (fun hq => ?_) (fun hq => ?_)
    · replace H := H.1 hq
      refine ev_p (pc' := 55) (loc' := [.null, .null, .null]) (st' := [.int (1 : Int32)]) 1 am_q35 rfl ?_
      exact ev_r (v := some (.int (1 : Int32))) am_q35 rfl rfl rfl rfl H
    · replace H := H.2 hq
      refine ev_p (pc' := 29) (loc' := [.ref 71, .int i1, .int i2]) (st' := [.ref 71]) 1 am_q35 rfl ?_
      refine ev_c (vs := [.ref 71]) (rest := []) 44 am_q35 rfl rfl rfl rfl rfl rfl rfl rfl rfl rfl rfl rfl (Or.inr (congrArg some (ck71 Ly))) (Cl.mono H (Nat.le_refl _) (fun r2 h1 H => ?_))
      obtain ⟨rfl, Ly, H⟩ := H
      refine ev_p (pc' := 34) (loc' := [.ref 71, .int i1, .int i2]) (st' := [.int i1, .ref 71]) 2 am_q35 rfl ?_
      refine ev_c (vs := [.ref 71, .int i1]) (rest := []) 36 am_q35 rfl rfl rfl rfl rfl rfl rfl rfl rfl rfl rfl rfl (Or.inr (congrArg some (ck71 Ly))) (Cl.mono H (Nat.le_refl _) (fun r4 h3 H => ?_))
      obtain ⟨x5, rfl, Ly, H⟩ := H
      refine ev_jz (t := 42) am_q35 rfl rfl (fun hq => ?_) (fun hq => ?_)
      · replace H := H.1 hq
        refine ev_p (pc' := 45) (loc' := [.ref 71, .int i1, .int i2]) (st' := [.int (-22 : Int32), .ref 71]) 2 am_q35 rfl ?_
        refine ev_c (vs := [.ref 71, .int (-22 : Int32)]) (rest := []) 43 am_q35 rfl rfl rfl rfl rfl rfl rfl rfl rfl rfl rfl rfl (Or.inr (congrArg some (ck71 Ly))) (Cl.mono H (Nat.le_refl _) (fun r7 h6 H => ?_))
        obtain ⟨rfl, Ly, H⟩ := H
        refine ev_p (pc' := 12) (loc' := [.ref 71, .int i1, .int (i2 + (1 : Int32))]) (st' := []) 2 am_q35 rfl ?_
        exact ev_m (loc' := [.ref 71, .int i1, .int (i2 + (1 : Int32))]) am_q35 rfl rfl H
      · replace H := H.2 hq
        refine ev_p (pc' := 41) (loc' := [.ref 71, .int i1, .int i2]) (st' := [.int (0 : Int32)]) 1 am_q35 rfl ?_
        exact ev_r (v := some (.int (0 : Int32))) am_q35 rfl rfl rfl rfl H
/-! 36: X5_readNot -/
set_option maxRecDepth 20000 in
set_option maxHeartbeats 2000000 in
theorem wc36 {d : Nat}  (i1 : Int32) {h : AH} {Q : Option Value → AH → Prop} (Ly : LyC h) (H : ((am_gi h 71 9) = (14 : Int32) → (i1 < (8 : Int32) → Cl d 44 [.ref 71] h (fun r2 h1 => r2 = none ∧ LyC h1 ∧ Cl d 36 [.ref 71, .int (i1 + (1 : Int32))] h1 (fun r4 h3 => ∃ x5, r4 = some (.int x5) ∧ LyC h3 ∧ ((¬ x5 = (0 : Int32)) → Cl d 43 [.ref 71, .int (-23 : Int32)] h3 (fun r7 h6 => r7 = none ∧ LyC h6 ∧ Q (some (.int (1 : Int32))) h6)) ∧ (¬ (¬ x5 = (0 : Int32)) → Q (some (.int (0 : Int32))) h3)))) ∧ (¬ i1 < (8 : Int32) → Q (some (.int (0 : Int32))) h)) ∧ (¬ (am_gi h 71 9) = (14 : Int32) → Cl d 37 [.ref 71, .int i1] h (fun r9 h8 => ∃ x10, r9 = some (.int x10) ∧ LyC h8 ∧ (x10 = (0 : Int32) ∨ x10 = (1 : Int32)) ∧ Q (some (.int x10)) h8))) : Cl (d + 1) 36 [.ref 71, .int i1] h Q := by
  show Ev (d + 1) 36 0 [.ref 71, .int i1] [] h Q
  refine ev_p (pc' := 1) (loc' := [.ref 71, .int i1]) (st' := [.ref 71]) 1 am_q36 rfl ?_
  refine ev_s (pc' := 4) (loc' := [.ref 71, .int i1]) (st' := [.int (am_gi h 71 9)]) (h1 := h) am_q36 rfl rfl rfl (if_pos (e := none) (ck71 Ly)) ?_
  refine ev_p (pc' := 6) (loc' := [.ref 71, .int i1]) (st' := [.int (14 : Int32), .int (am_gi h 71 9)]) 1 am_q36 rfl ?_
  refine ev_jc (t := 15) am_q36 rfl rfl (fun hq => ?_) (fun hq => ?_)
  · replace H := H.1 hq
    refine ev_p (pc' := 18) (loc' := [.ref 71, .int i1]) (st' := [.int (8 : Int32), .int i1]) 2 am_q36 rfl ?_
    refine ev_jc (t := 23) am_q36 rfl rfl (fun hq => ?_) (fun hq => ?_)
    · replace H := H.1 hq
      refine ev_p (pc' := 24) (loc' := [.ref 71, .int i1]) (st' := [.ref 71]) 1 am_q36 rfl ?_
      refine ev_c (vs := [.ref 71]) (rest := []) 44 am_q36 rfl rfl rfl rfl rfl rfl rfl rfl rfl rfl rfl rfl (Or.inr (congrArg some (ck71 Ly))) (Cl.mono H (Nat.le_refl _) (fun r2 h1 H => ?_))
      obtain ⟨rfl, Ly, H⟩ := H
      refine ev_p (pc' := 31) (loc' := [.ref 71, .int i1]) (st' := [.int (i1 + (1 : Int32)), .ref 71]) 4 am_q36 rfl ?_
      refine ev_c (vs := [.ref 71, .int (i1 + (1 : Int32))]) (rest := []) 36 am_q36 rfl rfl rfl rfl rfl rfl rfl rfl rfl rfl rfl rfl (Or.inr (congrArg some (ck71 Ly))) (Cl.mono H (Nat.le_refl _) (fun r4 h3 H => ?_))
      obtain ⟨x5, rfl, Ly, H⟩ := H
      refine ev_jz (t := 39) am_q36 rfl rfl (fun hq => ?_) (fun hq => ?_)
      · replace H := H.1 hq
        refine ev_p (pc' := 42) (loc' := [.ref 71, .int i1]) (st' := [.int (-23 : Int32), .ref 71]) 2 am_q36 rfl ?_
        refine ev_c (vs := [.ref 71, .int (-23 : Int32)]) (rest := []) 43 am_q36 rfl rfl rfl rfl rfl rfl rfl rfl rfl rfl rfl rfl (Or.inr (congrArg some (ck71 Ly))) (Cl.mono H (Nat.le_refl _) (fun r7 h6 H => ?_))
        obtain ⟨rfl, Ly, H⟩ := H
        refine ev_p (pc' := 46) (loc' := [.ref 71, .int i1]) (st' := [.int (1 : Int32)]) 1 am_q36 rfl ?_
        exact ev_r (v := some (.int (1 : Int32))) am_q36 rfl rfl rfl rfl H
      · replace H := H.2 hq
        refine ev_p (pc' := 38) (loc' := [.ref 71, .int i1]) (st' := [.int (0 : Int32)]) 1 am_q36 rfl ?_
        exact ev_r (v := some (.int (0 : Int32))) am_q36 rfl rfl rfl rfl H
    · replace H := H.2 hq
      refine ev_p (pc' := 22) (loc' := [.ref 71, .int i1]) (st' := [.int (0 : Int32)]) 1 am_q36 rfl ?_
      exact ev_r (v := some (.int (0 : Int32))) am_q36 rfl rfl rfl rfl H
  · replace H := H.2 hq
    refine ev_p (pc' := 11) (loc' := [.ref 71, .int i1]) (st' := [.int i1, .ref 71]) 2 am_q36 rfl ?_
    refine ev_c (vs := [.ref 71, .int i1]) (rest := []) 37 am_q36 rfl rfl rfl rfl rfl rfl rfl rfl rfl rfl rfl rfl (Or.inr (congrArg some (ck71 Ly))) (Cl.mono H (Nat.le_refl _) (fun r9 h8 H => ?_))
    obtain ⟨x10, rfl, Ly, H⟩ := H
    exact ev_r (v := some (.int x10)) am_q36 rfl rfl rfl (decide_eq_true H.1) H.2
/-! 37: X5_readComparison -/
set_option maxRecDepth 20000 in
set_option maxHeartbeats 2000000 in
theorem wc37 {d : Nat}  (i1 : Int32) {h : AH} {Q : Option Value → AH → Prop} (Ly : LyC h) (H : Cl d 38 [.ref 71, .int i1] h (fun r2 h1 => ∃ x3, r2 = some (.int x3) ∧ LyC h1 ∧ ((¬ x3 = (0 : Int32)) → ((am_gi h1 71 9) = (60 : Int32) → Ev (d + 1) 37 29 [.ref 71, .int i1, .int (am_gi h1 71 9)] [] h1 Q) ∧ (¬ (am_gi h1 71 9) = (60 : Int32) → ((am_gi h1 71 9) = (61 : Int32) → Ev (d + 1) 37 29 [.ref 71, .int i1, .int (am_gi h1 71 9)] [] h1 Q) ∧ (¬ (am_gi h1 71 9) = (61 : Int32) → Q (some (.int (1 : Int32))) h1))) ∧ (¬ (¬ x3 = (0 : Int32)) → Q (some (.int (0 : Int32))) h1))) : Cl (d + 1) 37 [.ref 71, .int i1] h Q := by
  show Ev (d + 1) 37 0 [.ref 71, .int i1, .null] [] h Q
  refine ev_p (pc' := 2) (loc' := [.ref 71, .int i1, .null]) (st' := [.int i1, .ref 71]) 2 am_q37 rfl ?_
  refine ev_c (vs := [.ref 71, .int i1]) (rest := []) 38 am_q37 rfl rfl rfl rfl rfl rfl rfl rfl rfl rfl rfl rfl (Or.inr (congrArg some (ck71 Ly))) (Cl.mono H (Nat.le_refl _) (fun r2 h1 H => ?_))
  obtain ⟨x3, rfl, Ly, H⟩ := H
  refine ev_jz (t := 10) am_q37 rfl rfl (fun hq => ?_) (fun hq => ?_)
  · replace H := H.1 hq
    refine ev_p (pc' := 11) (loc' := [.ref 71, .int i1, .null]) (st' := [.ref 71]) 1 am_q37 rfl ?_
    refine ev_s (pc' := 14) (loc' := [.ref 71, .int i1, .null]) (st' := [.int (am_gi h1 71 9)]) (h1 := h1) am_q37 rfl rfl rfl (if_pos (e := none) (ck71 Ly)) ?_
    refine ev_p (pc' := 18) (loc' := [.ref 71, .int i1, .int (am_gi h1 71 9)]) (st' := [.int (60 : Int32), .int (am_gi h1 71 9)]) 3 am_q37 rfl ?_
    refine ev_jc (t := 29) am_q37 rfl rfl (fun hq => ?_) (fun hq => ?_)
    · replace H := H.1 hq
      exact ev_m (loc' := [.ref 71, .int i1, .int (am_gi h1 71 9)]) am_q37 rfl rfl H
    · replace H := H.2 hq
      refine ev_p (pc' := 24) (loc' := [.ref 71, .int i1, .int (am_gi h1 71 9)]) (st' := [.int (61 : Int32), .int (am_gi h1 71 9)]) 2 am_q37 rfl ?_
      refine ev_jc (t := 29) am_q37 rfl rfl (fun hq => ?_) (fun hq => ?_)
      · replace H := H.1 hq
        exact ev_m (loc' := [.ref 71, .int i1, .int (am_gi h1 71 9)]) am_q37 rfl rfl H
      · replace H := H.2 hq
        refine ev_p (pc' := 28) (loc' := [.ref 71, .int i1, .int (am_gi h1 71 9)]) (st' := [.int (1 : Int32)]) 1 am_q37 rfl ?_
        exact ev_r (v := some (.int (1 : Int32))) am_q37 rfl rfl rfl rfl H
  · replace H := H.2 hq
    refine ev_p (pc' := 9) (loc' := [.ref 71, .int i1, .null]) (st' := [.int (0 : Int32)]) 1 am_q37 rfl ?_
    exact ev_r (v := some (.int (0 : Int32))) am_q37 rfl rfl rfl rfl H
set_option maxRecDepth 20000 in
set_option maxHeartbeats 2000000 in
theorem wc37_29 {d : Nat}  (i1 : Int32) (i2 : Int32) {h : AH} {Q : Option Value → AH → Prop} (Ly : LyC h) (H : Cl d 44 [.ref 71] h (fun r2 h1 => r2 = none ∧ LyC h1 ∧ Cl d 38 [.ref 71, .int i1] h1 (fun r4 h3 => ∃ x5, r4 = some (.int x5) ∧ LyC h3 ∧ ((¬ x5 = (0 : Int32)) → ((¬ i2 = (60 : Int32)) → Cl d 43 [.ref 71, .int (-25 : Int32)] h3 (fun r7 h6 => r7 = none ∧ LyC h6 ∧ Q (some (.int (1 : Int32))) h6)) ∧ (¬ (¬ i2 = (60 : Int32)) → Cl d 43 [.ref 71, .int (-24 : Int32)] h3 (fun r9 h8 => r9 = none ∧ LyC h8 ∧ Q (some (.int (1 : Int32))) h8))) ∧ (¬ (¬ x5 = (0 : Int32)) → Q (some (.int (0 : Int32))) h3)))) : Ev (d + 1) 37 29 [.ref 71, .int i1, .int i2] [] h Q := by
  refine ev_p (pc' := 30) (loc' := [.ref 71, .int i1, .int i2]) (st' := [.ref 71]) 1 am_q37 rfl ?_
  refine ev_c (vs := [.ref 71]) (rest := []) 44 am_q37 rfl rfl rfl rfl rfl rfl rfl rfl rfl rfl rfl rfl (Or.inr (congrArg some (ck71 Ly))) (Cl.mono H (Nat.le_refl _) (fun r2 h1 H => ?_))
  obtain ⟨rfl, Ly, H⟩ := H
  refine ev_p (pc' := 35) (loc' := [.ref 71, .int i1, .int i2]) (st' := [.int i1, .ref 71]) 2 am_q37 rfl ?_
  refine ev_c (vs := [.ref 71, .int i1]) (rest := []) 38 am_q37 rfl rfl rfl rfl rfl rfl rfl rfl rfl rfl rfl rfl (Or.inr (congrArg some (ck71 Ly))) (Cl.mono H (Nat.le_refl _) (fun r4 h3 H => ?_))
  obtain ⟨x5, rfl, Ly, H⟩ := H
  refine ev_jz (t := 43) am_q37 rfl rfl (fun hq => ?_) (fun hq => ?_)
  · replace H := H.1 hq
    refine ev_p (pc' := 47) (loc' := [.ref 71, .int i1, .int i2]) (st' := [.int (60 : Int32), .int i2, .ref 71]) 3 am_q37 rfl ?_
    refine ev_jc (t := 55) am_q37 rfl rfl (fun hq => ?_) (fun hq => ?_)
    · replace H := H.1 hq
      refine ev_p (pc' := 57) (loc' := [.ref 71, .int i1, .int i2]) (st' := [.int (-25 : Int32), .ref 71]) 1 am_q37 rfl ?_
      refine ev_c (vs := [.ref 71, .int (-25 : Int32)]) (rest := []) 43 am_q37 rfl rfl rfl rfl rfl rfl rfl rfl rfl rfl rfl rfl (Or.inr (congrArg some (ck71 Ly))) (Cl.mono H (Nat.le_refl _) (fun r7 h6 H => ?_))
      obtain ⟨rfl, Ly, H⟩ := H
      refine ev_p (pc' := 61) (loc' := [.null, .null, .null]) (st' := [.int (1 : Int32)]) 1 am_q37 rfl ?_
      exact ev_r (v := some (.int (1 : Int32))) am_q37 rfl rfl rfl rfl H
    · replace H := H.2 hq
      refine ev_p (pc' := 57) (loc' := [.ref 71, .int i1, .int i2]) (st' := [.int (-24 : Int32), .ref 71]) 2 am_q37 rfl ?_
      refine ev_c (vs := [.ref 71, .int (-24 : Int32)]) (rest := []) 43 am_q37 rfl rfl rfl rfl rfl rfl rfl rfl rfl rfl rfl rfl (Or.inr (congrArg some (ck71 Ly))) (Cl.mono H (Nat.le_refl _) (fun r9 h8 H => ?_))
      obtain ⟨rfl, Ly, H⟩ := H
      refine ev_p (pc' := 61) (loc' := [.null, .null, .null]) (st' := [.int (1 : Int32)]) 1 am_q37 rfl ?_
      exact ev_r (v := some (.int (1 : Int32))) am_q37 rfl rfl rfl rfl H
  · replace H := H.2 hq
    refine ev_p (pc' := 42) (loc' := [.ref 71, .int i1, .int i2]) (st' := [.int (0 : Int32)]) 1 am_q37 rfl ?_
    exact ev_r (v := some (.int (0 : Int32))) am_q37 rfl rfl rfl rfl H
/-! 38: X5_readSum -/
set_option maxRecDepth 20000 in
set_option maxHeartbeats 2000000 in
theorem wc38 {d : Nat}  (i1 : Int32) {h : AH} {Q : Option Value → AH → Prop} (Ly : LyC h) (H : Cl d 39 [.ref 71, .int i1] h (fun r2 h1 => ∃ x3, r2 = some (.int x3) ∧ LyC h1 ∧ ((¬ x3 = (0 : Int32)) → Ev (d + 1) 38 12 [.ref 71, .int i1, .int (0 : Int32), .null] [] h1 Q) ∧ (¬ (¬ x3 = (0 : Int32)) → Q (some (.int (0 : Int32))) h1))) : Cl (d + 1) 38 [.ref 71, .int i1] h Q := by
  show Ev (d + 1) 38 0 [.ref 71, .int i1, .null, .null] [] h Q
  refine ev_p (pc' := 2) (loc' := [.ref 71, .int i1, .null, .null]) (st' := [.int i1, .ref 71]) 2 am_q38 rfl ?_
  refine ev_c (vs := [.ref 71, .int i1]) (rest := []) 39 am_q38 rfl rfl rfl rfl rfl rfl rfl rfl rfl rfl rfl rfl (Or.inr (congrArg some (ck71 Ly))) (Cl.mono H (Nat.le_refl _) (fun r2 h1 H => ?_))
  obtain ⟨x3, rfl, Ly, H⟩ := H
  refine ev_jz (t := 10) am_q38 rfl rfl (fun hq => ?_) (fun hq => ?_)
  · replace H := H.1 hq
    refine ev_p (pc' := 12) (loc' := [.ref 71, .int i1, .int (0 : Int32), .null]) (st' := []) 2 am_q38 rfl ?_
    exact ev_m (loc' := [.ref 71, .int i1, .int (0 : Int32), .null]) am_q38 rfl rfl H
  · replace H := H.2 hq
    refine ev_p (pc' := 9) (loc' := [.ref 71, .int i1, .null, .null]) (st' := [.int (0 : Int32)]) 1 am_q38 rfl ?_
    exact ev_r (v := some (.int (0 : Int32))) am_q38 rfl rfl rfl rfl H
set_option maxRecDepth 20000 in
set_option maxHeartbeats 2000000 in
theorem wc38_12 {d : Nat}  (i1 : Int32) (i2 : Int32) {h : AH} {Q : Option Value → AH → Prop} (Ly : LyC h) (H : ((400 : Int32) ≤ i2 → Q (some (.int (1 : Int32))) h) ∧ (¬ (400 : Int32) ≤ i2 → ((am_gi h 71 9) = (43 : Int32) → Ev (d + 1) 38 37 [.ref 71, .int i1, .int i2, .null] [] h Q) ∧ (¬ (am_gi h 71 9) = (43 : Int32) → ((¬ (am_gi h 71 9) = (45 : Int32)) → Q (some (.int (1 : Int32))) h) ∧ (¬ (¬ (am_gi h 71 9) = (45 : Int32)) → Ev (d + 1) 38 37 [.ref 71, .int i1, .int i2, .null] [] h Q)))) : Ev (d + 1) 38 12 [.ref 71, .int i1, .int i2, .null] [] h Q := by
  refine ev_p (pc' := 16) (loc' := [.ref 71, .int i1, .int i2, .null]) (st' := [.int (400 : Int32), .int i2]) 2 am_q38 rfl ?_
  refine ev_jc (t := 79) am_q38 rfl rfl (fun hq => ?_) (fun hq => ?_)
  · replace H := H.1 hq
    refine ev_p (pc' := 80) (loc' := [.null, .null, .null, .null]) (st' := [.int (1 : Int32)]) 1 am_q38 rfl ?_
    exact ev_r (v := some (.int (1 : Int32))) am_q38 rfl rfl rfl rfl H
  · replace H := H.2 hq
    refine ev_p (pc' := 20) (loc' := [.ref 71, .int i1, .int i2, .null]) (st' := [.ref 71]) 1 am_q38 rfl ?_
    refine ev_s (pc' := 23) (loc' := [.ref 71, .int i1, .int i2, .null]) (st' := [.int (am_gi h 71 9)]) (h1 := h) am_q38 rfl rfl rfl (if_pos (e := none) (ck71 Ly)) ?_
    refine ev_p (pc' := 25) (loc' := [.ref 71, .int i1, .int i2, .null]) (st' := [.int (43 : Int32), .int (am_gi h 71 9)]) 1 am_q38 rfl ?_
    refine ev_jc (t := 37) am_q38 rfl rfl (fun hq => ?_) (fun hq => ?_)
    · replace H := H.1 hq
      exact ev_m (loc' := [.ref 71, .int i1, .int i2, .null]) am_q38 rfl rfl H
    · replace H := H.2 hq
      refine ev_p (pc' := 29) (loc' := [.ref 71, .int i1, .int i2, .null]) (st' := [.ref 71]) 1 am_q38 rfl ?_
      refine ev_s (pc' := 32) (loc' := [.ref 71, .int i1, .int i2, .null]) (st' := [.int (am_gi h 71 9)]) (h1 := h) am_q38 rfl rfl rfl (if_pos (e := none) (ck71 Ly)) ?_
      refine ev_p (pc' := 34) (loc' := [.ref 71, .int i1, .int i2, .null]) (st' := [.int (45 : Int32), .int (am_gi h 71 9)]) 1 am_q38 rfl ?_
      refine ev_jc (t := 79) am_q38 rfl rfl (fun hq => ?_) (fun hq => ?_)
      · replace H := H.1 hq
        refine ev_p (pc' := 80) (loc' := [.null, .null, .null, .null]) (st' := [.int (1 : Int32)]) 1 am_q38 rfl ?_
        exact ev_r (v := some (.int (1 : Int32))) am_q38 rfl rfl rfl rfl H
      · replace H := H.2 hq
        exact ev_m (loc' := [.ref 71, .int i1, .int i2, .null]) am_q38 rfl rfl H
set_option maxRecDepth 20000 in
set_option maxHeartbeats 2000000 in
theorem wc38_37 {d : Nat}  (i1 : Int32) (i2 : Int32) {h : AH} {Q : Option Value → AH → Prop} (Ly : LyC h) (H : Cl d 44 [.ref 71] h (fun r2 h1 => r2 = none ∧ LyC h1 ∧ Cl d 39 [.ref 71, .int i1] h1 (fun r4 h3 => ∃ x5, r4 = some (.int x5) ∧ LyC h3 ∧ ((¬ x5 = (0 : Int32)) → ((¬ (am_gi h 71 9) = (43 : Int32)) → Cl d 43 [.ref 71, .int (-27 : Int32)] h3 (fun r7 h6 => r7 = none ∧ LyC h6 ∧ Ev (d + 1) 38 12 [.ref 71, .int i1, .int (i2 + (1 : Int32)), .null] [] h6 Q)) ∧ (¬ (¬ (am_gi h 71 9) = (43 : Int32)) → Cl d 43 [.ref 71, .int (-26 : Int32)] h3 (fun r9 h8 => r9 = none ∧ LyC h8 ∧ Ev (d + 1) 38 12 [.ref 71, .int i1, .int (i2 + (1 : Int32)), .null] [] h8 Q))) ∧ (¬ (¬ x5 = (0 : Int32)) → Q (some (.int (0 : Int32))) h3)))) : Ev (d + 1) 38 37 [.ref 71, .int i1, .int i2, .null] [] h Q := by
  refine ev_p (pc' := 38) (loc' := [.ref 71, .int i1, .int i2, .null]) (st' := [.ref 71]) 1 am_q38 rfl ?_
  refine ev_s (pc' := 41) (loc' := [.ref 71, .int i1, .int i2, .null]) (st' := [.int (am_gi h 71 9)]) (h1 := h) am_q38 rfl rfl rfl (if_pos (e := none) (ck71 Ly)) ?_
  refine ev_p (pc' := 43) (loc' := [.ref 71, .int i1, .int i2, .int (am_gi h 71 9)]) (st' := [.ref 71]) 2 am_q38 rfl ?_
  refine ev_c (vs := [.ref 71]) (rest := []) 44 am_q38 rfl rfl rfl rfl rfl rfl rfl rfl rfl rfl rfl rfl (Or.inr (congrArg some (ck71 Ly))) (Cl.mono H (Nat.le_refl _) (fun r2 h1 H => ?_))
  obtain ⟨rfl, Ly, H⟩ := H
  refine ev_p (pc' := 48) (loc' := [.ref 71, .int i1, .int i2, .int (am_gi h 71 9)]) (st' := [.int i1, .ref 71]) 2 am_q38 rfl ?_
  refine ev_c (vs := [.ref 71, .int i1]) (rest := []) 39 am_q38 rfl rfl rfl rfl rfl rfl rfl rfl rfl rfl rfl rfl (Or.inr (congrArg some (ck71 Ly))) (Cl.mono H (Nat.le_refl _) (fun r4 h3 H => ?_))
  obtain ⟨x5, rfl, Ly, H⟩ := H
  refine ev_jz (t := 56) am_q38 rfl rfl (fun hq => ?_) (fun hq => ?_)
  · replace H := H.1 hq
    refine ev_p (pc' := 60) (loc' := [.ref 71, .int i1, .int i2, .int (am_gi h 71 9)]) (st' := [.int (43 : Int32), .int (am_gi h 71 9), .ref 71]) 3 am_q38 rfl ?_
    refine ev_jc (t := 68) am_q38 rfl rfl (fun hq => ?_) (fun hq => ?_)
    · replace H := H.1 hq
      refine ev_p (pc' := 70) (loc' := [.ref 71, .int i1, .int i2, .int (am_gi h 71 9)]) (st' := [.int (-27 : Int32), .ref 71]) 1 am_q38 rfl ?_
      refine ev_c (vs := [.ref 71, .int (-27 : Int32)]) (rest := []) 43 am_q38 rfl rfl rfl rfl rfl rfl rfl rfl rfl rfl rfl rfl (Or.inr (congrArg some (ck71 Ly))) (Cl.mono H (Nat.le_refl _) (fun r7 h6 H => ?_))
      obtain ⟨rfl, Ly, H⟩ := H
      refine ev_p (pc' := 12) (loc' := [.ref 71, .int i1, .int (i2 + (1 : Int32)), .null]) (st' := []) 2 am_q38 rfl ?_
      exact ev_m (loc' := [.ref 71, .int i1, .int (i2 + (1 : Int32)), .null]) am_q38 rfl rfl H
    · replace H := H.2 hq
      refine ev_p (pc' := 70) (loc' := [.ref 71, .int i1, .int i2, .int (am_gi h 71 9)]) (st' := [.int (-26 : Int32), .ref 71]) 2 am_q38 rfl ?_
      refine ev_c (vs := [.ref 71, .int (-26 : Int32)]) (rest := []) 43 am_q38 rfl rfl rfl rfl rfl rfl rfl rfl rfl rfl rfl rfl (Or.inr (congrArg some (ck71 Ly))) (Cl.mono H (Nat.le_refl _) (fun r9 h8 H => ?_))
      obtain ⟨rfl, Ly, H⟩ := H
      refine ev_p (pc' := 12) (loc' := [.ref 71, .int i1, .int (i2 + (1 : Int32)), .null]) (st' := []) 2 am_q38 rfl ?_
      exact ev_m (loc' := [.ref 71, .int i1, .int (i2 + (1 : Int32)), .null]) am_q38 rfl rfl H
  · replace H := H.2 hq
    refine ev_p (pc' := 55) (loc' := [.ref 71, .int i1, .int i2, .int (am_gi h 71 9)]) (st' := [.int (0 : Int32)]) 1 am_q38 rfl ?_
    exact ev_r (v := some (.int (0 : Int32))) am_q38 rfl rfl rfl rfl H
/-! 39: X5_readTerm -/
set_option maxRecDepth 20000 in
set_option maxHeartbeats 2000000 in
theorem wc39 {d : Nat}  (i1 : Int32) {h : AH} {Q : Option Value → AH → Prop} (Ly : LyC h) (H : Cl d 40 [.ref 71, .int i1] h (fun r2 h1 => ∃ x3, r2 = some (.int x3) ∧ LyC h1 ∧ ((¬ x3 = (0 : Int32)) → Ev (d + 1) 39 12 [.ref 71, .int i1, .int (0 : Int32)] [] h1 Q) ∧ (¬ (¬ x3 = (0 : Int32)) → Q (some (.int (0 : Int32))) h1))) : Cl (d + 1) 39 [.ref 71, .int i1] h Q := by
  show Ev (d + 1) 39 0 [.ref 71, .int i1, .null] [] h Q
  refine ev_p (pc' := 2) (loc' := [.ref 71, .int i1, .null]) (st' := [.int i1, .ref 71]) 2 am_q39 rfl ?_
  refine ev_c (vs := [.ref 71, .int i1]) (rest := []) 40 am_q39 rfl rfl rfl rfl rfl rfl rfl rfl rfl rfl rfl rfl (Or.inr (congrArg some (ck71 Ly))) (Cl.mono H (Nat.le_refl _) (fun r2 h1 H => ?_))
  obtain ⟨x3, rfl, Ly, H⟩ := H
  refine ev_jz (t := 10) am_q39 rfl rfl (fun hq => ?_) (fun hq => ?_)
  · replace H := H.1 hq
    refine ev_p (pc' := 12) (loc' := [.ref 71, .int i1, .int (0 : Int32)]) (st' := []) 2 am_q39 rfl ?_
    exact ev_m (loc' := [.ref 71, .int i1, .int (0 : Int32)]) am_q39 rfl rfl H
  · replace H := H.2 hq
    refine ev_p (pc' := 9) (loc' := [.ref 71, .int i1, .null]) (st' := [.int (0 : Int32)]) 1 am_q39 rfl ?_
    exact ev_r (v := some (.int (0 : Int32))) am_q39 rfl rfl rfl rfl H
set_option maxRecDepth 20000 in
set_option maxHeartbeats 2000000 in
theorem wc39_12 {d : Nat}  (i1 : Int32) (i2 : Int32) {h : AH} {Q : Option Value → AH → Prop} (Ly : LyC h) (H : ((400 : Int32) ≤ i2 → Q (some (.int (1 : Int32))) h) ∧ (¬ (400 : Int32) ≤ i2 → ((¬ (am_gi h 71 9) = (42 : Int32)) → Q (some (.int (1 : Int32))) h) ∧ (¬ (¬ (am_gi h 71 9) = (42 : Int32)) → Cl d 44 [.ref 71] h (fun r2 h1 => r2 = none ∧ LyC h1 ∧ Cl d 40 [.ref 71, .int i1] h1 (fun r4 h3 => ∃ x5, r4 = some (.int x5) ∧ LyC h3 ∧ ((¬ x5 = (0 : Int32)) → Cl d 43 [.ref 71, .int (-28 : Int32)] h3 (fun r7 h6 => r7 = none ∧ LyC h6 ∧ Ev (d + 1) 39 12 [.ref 71, .int i1, .int (i2 + (1 : Int32))] [] h6 Q)) ∧ (¬ (¬ x5 = (0 : Int32)) → Q (some (.int (0 : Int32))) h3)))))) : Ev (d + 1) 39 12 [.ref 71, .int i1, .int i2] [] h Q := by
  refine ev_p (pc' := 16) (loc' := [.ref 71, .int i1, .int i2]) (st' := [.int (400 : Int32), .int i2]) 2 am_q39 rfl ?_
  refine ev_jc (t := 54) am_q39 rfl rfl (fun hq => ?_) (fun hq => ?_)
  · replace H := H.1 hq
    refine ev_p (pc' := 55) (loc' := [.null, .null, .null]) (st' := [.int (1 : Int32)]) 1 am_q39 rfl ?_
    exact ev_r (v := some (.int (1 : Int32))) am_q39 rfl rfl rfl rfl H
  · replace H := H.2 hq
    refine ev_p (pc' := 20) (loc' := [.ref 71, .int i1, .int i2]) (st' := [.ref 71]) 1 am_q39 rfl ?_
    refine ev_s (pc' := 23) (loc' := [.ref 71, .int i1, .int i2]) (st' := [.int (am_gi h 71 9)]) (h1 := h) am_q39 rfl rfl rfl (if_pos (e := none) (ck71 Ly)) ?_
    refine ev_p (pc' := 25) (loc' := [.ref 71, .int i1, .int i2]) (st' := [.int (42 : Int32), .int (am_gi h 71 9)]) 1 am_q39 rfl ?_
    refine ev_jc (t := 54) am_q39 rfl rfl (fun hq => ?_) (fun hq => ?_)
    · replace H := H.1 hq
      refine ev_p (pc' := 55) (loc' := [.null, .null, .null]) (st' := [.int (1 : Int32)]) 1 am_q39 rfl ?_
      exact ev_r (v := some (.int (1 : Int32))) am_q39 rfl rfl rfl rfl H
    · replace H := H.2 hq
      refine ev_p (pc' := 29) (loc' := [.ref 71, .int i1, .int i2]) (st' := [.ref 71]) 1 am_q39 rfl ?_
      refine ev_c (vs := [.ref 71]) (rest := []) 44 am_q39 rfl rfl rfl rfl rfl rfl rfl rfl rfl rfl rfl rfl (Or.inr (congrArg some (ck71 Ly))) (Cl.mono H (Nat.le_refl _) (fun r2 h1 H => ?_))
      obtain ⟨rfl, Ly, H⟩ := H
      refine ev_p (pc' := 34) (loc' := [.ref 71, .int i1, .int i2]) (st' := [.int i1, .ref 71]) 2 am_q39 rfl ?_
      refine ev_c (vs := [.ref 71, .int i1]) (rest := []) 40 am_q39 rfl rfl rfl rfl rfl rfl rfl rfl rfl rfl rfl rfl (Or.inr (congrArg some (ck71 Ly))) (Cl.mono H (Nat.le_refl _) (fun r4 h3 H => ?_))
      obtain ⟨x5, rfl, Ly, H⟩ := H
      refine ev_jz (t := 42) am_q39 rfl rfl (fun hq => ?_) (fun hq => ?_)
      · replace H := H.1 hq
        refine ev_p (pc' := 45) (loc' := [.ref 71, .int i1, .int i2]) (st' := [.int (-28 : Int32), .ref 71]) 2 am_q39 rfl ?_
        refine ev_c (vs := [.ref 71, .int (-28 : Int32)]) (rest := []) 43 am_q39 rfl rfl rfl rfl rfl rfl rfl rfl rfl rfl rfl rfl (Or.inr (congrArg some (ck71 Ly))) (Cl.mono H (Nat.le_refl _) (fun r7 h6 H => ?_))
        obtain ⟨rfl, Ly, H⟩ := H
        refine ev_p (pc' := 12) (loc' := [.ref 71, .int i1, .int (i2 + (1 : Int32))]) (st' := []) 2 am_q39 rfl ?_
        exact ev_m (loc' := [.ref 71, .int i1, .int (i2 + (1 : Int32))]) am_q39 rfl rfl H
      · replace H := H.2 hq
        refine ev_p (pc' := 41) (loc' := [.ref 71, .int i1, .int i2]) (st' := [.int (0 : Int32)]) 1 am_q39 rfl ?_
        exact ev_r (v := some (.int (0 : Int32))) am_q39 rfl rfl rfl rfl H
/-! 40: X5_readOne -/
set_option maxRecDepth 20000 in
set_option maxHeartbeats 2000000 in
theorem wc40 {d : Nat}  (i1 : Int32) {h : AH} {Q : Option Value → AH → Prop} (Ly : LyC h) (H : ((am_gi h 71 9) = (2 : Int32) → Cl d 41 [.ref 71] h (fun r2 h1 => r2 = none ∧ LyC h1 ∧ Q (some (.int (1 : Int32))) h1)) ∧ (¬ (am_gi h 71 9) = (2 : Int32) → ((¬ (am_gi h 71 9) = (3 : Int32)) → (i1 < (8 : Int32) → ((¬ (am_gi h 71 9) = (40 : Int32)) → ((am_gi h 71 9) = (45 : Int32) → Cl d 44 [.ref 71] h (fun r4 h3 => r4 = none ∧ LyC h3 ∧ Cl d 40 [.ref 71, .int (i1 + (1 : Int32))] h3 (fun r6 h5 => ∃ x7, r6 = some (.int x7) ∧ LyC h5 ∧ ((¬ x7 = (0 : Int32)) → Cl d 43 [.ref 71, .int (-29 : Int32)] h5 (fun r9 h8 => r9 = none ∧ LyC h8 ∧ Q (some (.int (1 : Int32))) h8)) ∧ (¬ (¬ x7 = (0 : Int32)) → Q (some (.int (0 : Int32))) h5)))) ∧ (¬ (am_gi h 71 9) = (45 : Int32) → Q (some (.int (0 : Int32))) h)) ∧ (¬ (¬ (am_gi h 71 9) = (40 : Int32)) → Cl d 44 [.ref 71] h (fun r11 h10 => r11 = none ∧ LyC h10 ∧ Cl d 34 [.ref 71, .int (i1 + (1 : Int32))] h10 (fun r13 h12 => ∃ x14, r13 = some (.int x14) ∧ LyC h12 ∧ (x14 = (0 : Int32) → Q (some (.int (0 : Int32))) h12) ∧ (¬ x14 = (0 : Int32) → Cl d 42 [.ref 71, .int (41 : Int32)] h12 (fun r16 h15 => ∃ x17, r16 = some (.int x17) ∧ LyC h15 ∧ (x17 = (0 : Int32) → Q (some (.int (0 : Int32))) h15) ∧ (¬ x17 = (0 : Int32) → Q (some (.int (1 : Int32))) h15))))))) ∧ (¬ i1 < (8 : Int32) → Q (some (.int (0 : Int32))) h)) ∧ (¬ (¬ (am_gi h 71 9) = (3 : Int32)) → Cl d 41 [.ref 71] h (fun r19 h18 => r19 = none ∧ LyC h18 ∧ Q (some (.int (1 : Int32))) h18)))) : Cl (d + 1) 40 [.ref 71, .int i1] h Q := by
  show Ev (d + 1) 40 0 [.ref 71, .int i1] [] h Q
  refine ev_p (pc' := 1) (loc' := [.ref 71, .int i1]) (st' := [.ref 71]) 1 am_q40 rfl ?_
  refine ev_s (pc' := 4) (loc' := [.ref 71, .int i1]) (st' := [.int (am_gi h 71 9)]) (h1 := h) am_q40 rfl rfl rfl (if_pos (e := none) (ck71 Ly)) ?_
  refine ev_p (pc' := 5) (loc' := [.ref 71, .int i1]) (st' := [.int (2 : Int32), .int (am_gi h 71 9)]) 1 am_q40 rfl ?_
  refine ev_jc (t := 16) am_q40 rfl rfl (fun hq => ?_) (fun hq => ?_)
  · replace H := H.1 hq
    refine ev_p (pc' := 17) (loc' := [.ref 71, .null]) (st' := [.ref 71]) 1 am_q40 rfl ?_
    refine ev_c (vs := [.ref 71]) (rest := []) 41 am_q40 rfl rfl rfl rfl rfl rfl rfl rfl rfl rfl rfl rfl (Or.inr (congrArg some (ck71 Ly))) (Cl.mono H (Nat.le_refl _) (fun r2 h1 H => ?_))
    obtain ⟨rfl, Ly, H⟩ := H
    refine ev_p (pc' := 21) (loc' := [.ref 71, .null]) (st' := [.int (1 : Int32)]) 1 am_q40 rfl ?_
    exact ev_r (v := some (.int (1 : Int32))) am_q40 rfl rfl rfl rfl H
  · replace H := H.2 hq
    refine ev_p (pc' := 9) (loc' := [.ref 71, .int i1]) (st' := [.ref 71]) 1 am_q40 rfl ?_
    refine ev_s (pc' := 12) (loc' := [.ref 71, .int i1]) (st' := [.int (am_gi h 71 9)]) (h1 := h) am_q40 rfl rfl rfl (if_pos (e := none) (ck71 Ly)) ?_
    refine ev_p (pc' := 13) (loc' := [.ref 71, .int i1]) (st' := [.int (3 : Int32), .int (am_gi h 71 9)]) 1 am_q40 rfl ?_
    refine ev_jc (t := 22) am_q40 rfl rfl (fun hq => ?_) (fun hq => ?_)
    · replace H := H.1 hq
      refine ev_p (pc' := 25) (loc' := [.ref 71, .int i1]) (st' := [.int (8 : Int32), .int i1]) 2 am_q40 rfl ?_
      refine ev_jc (t := 30) am_q40 rfl rfl (fun hq => ?_) (fun hq => ?_)
      · replace H := H.1 hq
        refine ev_p (pc' := 31) (loc' := [.ref 71, .int i1]) (st' := [.ref 71]) 1 am_q40 rfl ?_
        refine ev_s (pc' := 34) (loc' := [.ref 71, .int i1]) (st' := [.int (am_gi h 71 9)]) (h1 := h) am_q40 rfl rfl rfl (if_pos (e := none) (ck71 Ly)) ?_
        refine ev_p (pc' := 36) (loc' := [.ref 71, .int i1]) (st' := [.int (40 : Int32), .int (am_gi h 71 9)]) 1 am_q40 rfl ?_
        refine ev_jc (t := 68) am_q40 rfl rfl (fun hq => ?_) (fun hq => ?_)
        · replace H := H.1 hq
          refine ev_p (pc' := 69) (loc' := [.ref 71, .int i1]) (st' := [.ref 71]) 1 am_q40 rfl ?_
          refine ev_s (pc' := 72) (loc' := [.ref 71, .int i1]) (st' := [.int (am_gi h 71 9)]) (h1 := h) am_q40 rfl rfl rfl (if_pos (e := none) (ck71 Ly)) ?_
          refine ev_p (pc' := 74) (loc' := [.ref 71, .int i1]) (st' := [.int (45 : Int32), .int (am_gi h 71 9)]) 1 am_q40 rfl ?_
          refine ev_jc (t := 79) am_q40 rfl rfl (fun hq => ?_) (fun hq => ?_)
          · replace H := H.1 hq
            refine ev_p (pc' := 80) (loc' := [.ref 71, .int i1]) (st' := [.ref 71]) 1 am_q40 rfl ?_
            refine ev_c (vs := [.ref 71]) (rest := []) 44 am_q40 rfl rfl rfl rfl rfl rfl rfl rfl rfl rfl rfl rfl (Or.inr (congrArg some (ck71 Ly))) (Cl.mono H (Nat.le_refl _) (fun r4 h3 H => ?_))
            obtain ⟨rfl, Ly, H⟩ := H
            refine ev_p (pc' := 87) (loc' := [.ref 71, .int i1]) (st' := [.int (i1 + (1 : Int32)), .ref 71]) 4 am_q40 rfl ?_
            refine ev_c (vs := [.ref 71, .int (i1 + (1 : Int32))]) (rest := []) 40 am_q40 rfl rfl rfl rfl rfl rfl rfl rfl rfl rfl rfl rfl (Or.inr (congrArg some (ck71 Ly))) (Cl.mono H (Nat.le_refl _) (fun r6 h5 H => ?_))
            obtain ⟨x7, rfl, Ly, H⟩ := H
            refine ev_jz (t := 95) am_q40 rfl rfl (fun hq => ?_) (fun hq => ?_)
            · replace H := H.1 hq
              refine ev_p (pc' := 98) (loc' := [.ref 71, .int i1]) (st' := [.int (-29 : Int32), .ref 71]) 2 am_q40 rfl ?_
              refine ev_c (vs := [.ref 71, .int (-29 : Int32)]) (rest := []) 43 am_q40 rfl rfl rfl rfl rfl rfl rfl rfl rfl rfl rfl rfl (Or.inr (congrArg some (ck71 Ly))) (Cl.mono H (Nat.le_refl _) (fun r9 h8 H => ?_))
              obtain ⟨rfl, Ly, H⟩ := H
              refine ev_p (pc' := 102) (loc' := [.ref 71, .int i1]) (st' := [.int (1 : Int32)]) 1 am_q40 rfl ?_
              exact ev_r (v := some (.int (1 : Int32))) am_q40 rfl rfl rfl rfl H
            · replace H := H.2 hq
              refine ev_p (pc' := 94) (loc' := [.ref 71, .int i1]) (st' := [.int (0 : Int32)]) 1 am_q40 rfl ?_
              exact ev_r (v := some (.int (0 : Int32))) am_q40 rfl rfl rfl rfl H
          · replace H := H.2 hq
            refine ev_p (pc' := 78) (loc' := [.ref 71, .int i1]) (st' := [.int (0 : Int32)]) 1 am_q40 rfl ?_
            exact ev_r (v := some (.int (0 : Int32))) am_q40 rfl rfl rfl rfl H
        · replace H := H.2 hq
          refine ev_p (pc' := 40) (loc' := [.ref 71, .int i1]) (st' := [.ref 71]) 1 am_q40 rfl ?_
          refine ev_c (vs := [.ref 71]) (rest := []) 44 am_q40 rfl rfl rfl rfl rfl rfl rfl rfl rfl rfl rfl rfl (Or.inr (congrArg some (ck71 Ly))) (Cl.mono H (Nat.le_refl _) (fun r11 h10 H => ?_))
          obtain ⟨rfl, Ly, H⟩ := H
          refine ev_p (pc' := 47) (loc' := [.ref 71, .int i1]) (st' := [.int (i1 + (1 : Int32)), .ref 71]) 4 am_q40 rfl ?_
          refine ev_c (vs := [.ref 71, .int (i1 + (1 : Int32))]) (rest := []) 34 am_q40 rfl rfl rfl rfl rfl rfl rfl rfl rfl rfl rfl rfl (Or.inr (congrArg some (ck71 Ly))) (Cl.mono H (Nat.le_refl _) (fun r13 h12 H => ?_))
          obtain ⟨x14, rfl, Ly, H⟩ := H
          refine ev_jz (t := 66) am_q40 rfl rfl (fun hq => ?_) (fun hq => ?_)
          · replace H := H.1 hq
            refine ev_p (pc' := 67) (loc' := [.null, .null]) (st' := [.int (0 : Int32)]) 1 am_q40 rfl ?_
            exact ev_r (v := some (.int (0 : Int32))) am_q40 rfl rfl rfl rfl H
          · replace H := H.2 hq
            refine ev_p (pc' := 56) (loc' := [.ref 71, .int i1]) (st' := [.int (41 : Int32), .ref 71]) 2 am_q40 rfl ?_
            refine ev_c (vs := [.ref 71, .int (41 : Int32)]) (rest := []) 42 am_q40 rfl rfl rfl rfl rfl rfl rfl rfl rfl rfl rfl rfl (Or.inr (congrArg some (ck71 Ly))) (Cl.mono H (Nat.le_refl _) (fun r16 h15 H => ?_))
            obtain ⟨x17, rfl, Ly, H⟩ := H
            refine ev_jz (t := 66) am_q40 rfl rfl (fun hq => ?_) (fun hq => ?_)
            · replace H := H.1 hq
              refine ev_p (pc' := 67) (loc' := [.null, .null]) (st' := [.int (0 : Int32)]) 1 am_q40 rfl ?_
              exact ev_r (v := some (.int (0 : Int32))) am_q40 rfl rfl rfl rfl H
            · replace H := H.2 hq
              refine ev_p (pc' := 67) (loc' := [.ref 71, .int i1]) (st' := [.int (1 : Int32)]) 2 am_q40 rfl ?_
              exact ev_r (v := some (.int (1 : Int32))) am_q40 rfl rfl rfl rfl H
      · replace H := H.2 hq
        refine ev_p (pc' := 29) (loc' := [.ref 71, .int i1]) (st' := [.int (0 : Int32)]) 1 am_q40 rfl ?_
        exact ev_r (v := some (.int (0 : Int32))) am_q40 rfl rfl rfl rfl H
    · replace H := H.2 hq
      refine ev_p (pc' := 17) (loc' := [.ref 71, .null]) (st' := [.ref 71]) 1 am_q40 rfl ?_
      refine ev_c (vs := [.ref 71]) (rest := []) 41 am_q40 rfl rfl rfl rfl rfl rfl rfl rfl rfl rfl rfl rfl (Or.inr (congrArg some (ck71 Ly))) (Cl.mono H (Nat.le_refl _) (fun r19 h18 H => ?_))
      obtain ⟨rfl, Ly, H⟩ := H
      refine ev_p (pc' := 21) (loc' := [.ref 71, .null]) (st' := [.int (1 : Int32)]) 1 am_q40 rfl ?_
      exact ev_r (v := some (.int (1 : Int32))) am_q40 rfl rfl rfl rfl H
/-! 41: X5_readOperand -/
set_option maxRecDepth 20000 in
set_option maxHeartbeats 2000000 in
theorem wc41 {d : Nat}   {h : AH} {Q : Option Value → AH → Prop} (Ly : LyC h) (H : ((¬ (am_gi h 71 9) = (2 : Int32)) → Cl d 43 [.ref 71, .int ((-1 : Int32) - (am_gi h 71 11))] h (fun r2 h1 => r2 = none ∧ LyC h1 ∧ ((¬ (am_gi h1 71 12) = (-1 : Int32)) → Cl d 44 [.ref 71] h1 (fun r4 h3 => r4 = none ∧ LyC h3 ∧ Q none h3)) ∧ (¬ (¬ (am_gi h1 71 12) = (-1 : Int32)) → am_kd h1 1 = 100 ∧ am_in (am_gi h1 71 7) (am_ln h1 1) ∧ ((¬ (((am_gi h1 1 (Int32.toNatClampNeg (am_gi h1 71 7))) >>> ((am_gi h1 71 11) &&& 31)) &&& (1 : Int32)) = (0 : Int32)) → Cl d 44 [.ref 71] h1 (fun r8 h7 => r8 = none ∧ LyC h7 ∧ Q none h7)) ∧ (¬ (¬ (((am_gi h1 1 (Int32.toNatClampNeg (am_gi h1 71 7))) >>> ((am_gi h1 71 11) &&& 31)) &&& (1 : Int32)) = (0 : Int32)) → ∀ h9, h9 = am_si h1 71 12 (am_gi h1 71 10) → Cl d 44 [.ref 71] h9 (fun r11 h10 => r11 = none ∧ LyC h10 ∧ Q none h10))))) ∧ (¬ (¬ (am_gi h 71 9) = (2 : Int32)) → Cl d 43 [.ref 71, .int (am_gi h 71 11)] h (fun r13 h12 => r13 = none ∧ LyC h12 ∧ Cl d 44 [.ref 71] h12 (fun r15 h14 => r15 = none ∧ LyC h14 ∧ Q none h14)))) : Cl (d + 1) 41 [.ref 71] h Q := by
  show Ev (d + 1) 41 0 [.ref 71] [] h Q
  refine ev_p (pc' := 1) (loc' := [.ref 71]) (st' := [.ref 71]) 1 am_q41 rfl ?_
  refine ev_s (pc' := 4) (loc' := [.ref 71]) (st' := [.int (am_gi h 71 9)]) (h1 := h) am_q41 rfl rfl rfl (if_pos (e := none) (ck71 Ly)) ?_
  refine ev_p (pc' := 5) (loc' := [.ref 71]) (st' := [.int (2 : Int32), .int (am_gi h 71 9)]) 1 am_q41 rfl ?_
  refine ev_jc (t := 19) am_q41 rfl rfl (fun hq => ?_) (fun hq => ?_)
  · replace H := H.1 hq
    refine ev_p (pc' := 22) (loc' := [.ref 71]) (st' := [.ref 71, .int (-1 : Int32), .ref 71]) 3 am_q41 rfl ?_
    refine ev_s (pc' := 25) (loc' := [.ref 71]) (st' := [.int (am_gi h 71 11), .int (-1 : Int32), .ref 71]) (h1 := h) am_q41 rfl rfl rfl (if_pos (e := none) (ck71 Ly)) ?_
    refine ev_p (pc' := 26) (loc' := [.ref 71]) (st' := [.int ((-1 : Int32) - (am_gi h 71 11)), .ref 71]) 1 am_q41 rfl ?_
    refine ev_c (vs := [.ref 71, .int ((-1 : Int32) - (am_gi h 71 11))]) (rest := []) 43 am_q41 rfl rfl rfl rfl rfl rfl rfl rfl rfl rfl rfl rfl (Or.inr (congrArg some (ck71 Ly))) (Cl.mono H (Nat.le_refl _) (fun r2 h1 H => ?_))
    obtain ⟨rfl, Ly, H⟩ := H
    refine ev_p (pc' := 30) (loc' := [.ref 71]) (st' := [.ref 71]) 1 am_q41 rfl ?_
    refine ev_s (pc' := 33) (loc' := [.ref 71]) (st' := [.int (am_gi h1 71 12)]) (h1 := h1) am_q41 rfl rfl rfl (if_pos (e := none) (ck71 Ly)) ?_
    refine ev_p (pc' := 34) (loc' := [.ref 71]) (st' := [.int (-1 : Int32), .int (am_gi h1 71 12)]) 1 am_q41 rfl ?_
    refine ev_jc (t := 63) am_q41 rfl rfl (fun hq => ?_) (fun hq => ?_)
    · replace H := H.1 hq
      refine ev_p (pc' := 64) (loc' := [.ref 71]) (st' := [.ref 71]) 1 am_q41 rfl ?_
      refine ev_c (vs := [.ref 71]) (rest := []) 44 am_q41 rfl rfl rfl rfl rfl rfl rfl rfl rfl rfl rfl rfl (Or.inr (congrArg some (ck71 Ly))) (Cl.mono H (Nat.le_refl _) (fun r4 h3 H => ?_))
      obtain ⟨rfl, Ly, H⟩ := H
      exact ev_r (v := none) am_q41 rfl rfl rfl rfl H
    · replace H := H.2 hq
      refine ev_p (pc' := 41) (loc' := [.ref 71]) (st' := [.ref 71, .ref 1]) 2 am_q41 rfl ?_
      refine ev_s (pc' := 44) (loc' := [.ref 71]) (st' := [.int (am_gi h1 71 7), .ref 1]) (h1 := h1) am_q41 rfl rfl rfl (if_pos (e := none) (ck71 Ly)) ?_
      obtain ⟨g5, g6, H⟩ := H
      refine ev_s (pc' := 45) (loc' := [.ref 71]) (st' := [.int (am_gi h1 1 (Int32.toNatClampNeg (am_gi h1 71 7)))]) (h1 := h1) am_q41 rfl rfl rfl (am_xx g5 g6) ?_
      refine ev_p (pc' := 46) (loc' := [.ref 71]) (st' := [.ref 71, .int (am_gi h1 1 (Int32.toNatClampNeg (am_gi h1 71 7)))]) 1 am_q41 rfl ?_
      refine ev_s (pc' := 49) (loc' := [.ref 71]) (st' := [.int (am_gi h1 71 11), .int (am_gi h1 1 (Int32.toNatClampNeg (am_gi h1 71 7)))]) (h1 := h1) am_q41 rfl rfl rfl (if_pos (e := none) (ck71 Ly)) ?_
      refine ev_p (pc' := 52) (loc' := [.ref 71]) (st' := [.int (((am_gi h1 1 (Int32.toNatClampNeg (am_gi h1 71 7))) >>> ((am_gi h1 71 11) &&& 31)) &&& (1 : Int32))]) 3 am_q41 rfl ?_
      refine ev_jz (t := 63) am_q41 rfl rfl (fun hq => ?_) (fun hq => ?_)
      · replace H := H.1 hq
        refine ev_p (pc' := 64) (loc' := [.ref 71]) (st' := [.ref 71]) 1 am_q41 rfl ?_
        refine ev_c (vs := [.ref 71]) (rest := []) 44 am_q41 rfl rfl rfl rfl rfl rfl rfl rfl rfl rfl rfl rfl (Or.inr (congrArg some (ck71 Ly))) (Cl.mono H (Nat.le_refl _) (fun r8 h7 H => ?_))
        obtain ⟨rfl, Ly, H⟩ := H
        exact ev_r (v := none) am_q41 rfl rfl rfl rfl H
      · replace H := H.2 hq
        refine ev_p (pc' := 57) (loc' := [.ref 71]) (st' := [.ref 71, .ref 71]) 2 am_q41 rfl ?_
        refine ev_s (pc' := 60) (loc' := [.ref 71]) (st' := [.int (am_gi h1 71 10), .ref 71]) (h1 := h1) am_q41 rfl rfl rfl (if_pos (e := none) (ck71 Ly)) ?_
        refine ev_s (pc' := 63) (loc' := [.ref 71]) (st' := []) (h1 := am_si h1 71 12 (am_gi h1 71 10)) am_q41 rfl rfl rfl (if_pos (e := none) (ck71 Ly)) ?_
        replace H := H _ rfl
        replace Ly : LyC (am_si h1 71 12 (am_gi h1 71 10)) := Ly.si _ _ _
        generalize am_si h1 71 12 (am_gi h1 71 10) = h9 at H Ly ⊢
        refine ev_p (pc' := 64) (loc' := [.ref 71]) (st' := [.ref 71]) 1 am_q41 rfl ?_
        refine ev_c (vs := [.ref 71]) (rest := []) 44 am_q41 rfl rfl rfl rfl rfl rfl rfl rfl rfl rfl rfl rfl (Or.inr (congrArg some (ck71 Ly))) (Cl.mono H (Nat.le_refl _) (fun r11 h10 H => ?_))
        obtain ⟨rfl, Ly, H⟩ := H
        exact ev_r (v := none) am_q41 rfl rfl rfl rfl H
  · replace H := H.2 hq
    refine ev_p (pc' := 10) (loc' := [.ref 71]) (st' := [.ref 71, .ref 71]) 2 am_q41 rfl ?_
    refine ev_s (pc' := 13) (loc' := [.ref 71]) (st' := [.int (am_gi h 71 11), .ref 71]) (h1 := h) am_q41 rfl rfl rfl (if_pos (e := none) (ck71 Ly)) ?_
    refine ev_c (vs := [.ref 71, .int (am_gi h 71 11)]) (rest := []) 43 am_q41 rfl rfl rfl rfl rfl rfl rfl rfl rfl rfl rfl rfl (Or.inr (congrArg some (ck71 Ly))) (Cl.mono H (Nat.le_refl _) (fun r13 h12 H => ?_))
    obtain ⟨rfl, Ly, H⟩ := H
    refine ev_p (pc' := 64) (loc' := [.ref 71]) (st' := [.ref 71]) 2 am_q41 rfl ?_
    refine ev_c (vs := [.ref 71]) (rest := []) 44 am_q41 rfl rfl rfl rfl rfl rfl rfl rfl rfl rfl rfl rfl (Or.inr (congrArg some (ck71 Ly))) (Cl.mono H (Nat.le_refl _) (fun r15 h14 H => ?_))
    obtain ⟨rfl, Ly, H⟩ := H
    exact ev_r (v := none) am_q41 rfl rfl rfl rfl H
/-! 42: X5_skip -/
set_option maxRecDepth 20000 in
set_option maxHeartbeats 2000000 in
theorem wc42 {d : Nat}  (i1 : Int32) {h : AH} {Q : Option Value → AH → Prop} (Ly : LyC h) (H : ((am_gi h 71 9) = i1 → Cl d 44 [.ref 71] h (fun r2 h1 => r2 = none ∧ LyC h1 ∧ Q (some (.int (1 : Int32))) h1)) ∧ (¬ (am_gi h 71 9) = i1 → Q (some (.int (0 : Int32))) h)) : Cl (d + 1) 42 [.ref 71, .int i1] h Q := by
  show Ev (d + 1) 42 0 [.ref 71, .int i1] [] h Q
  refine ev_p (pc' := 1) (loc' := [.ref 71, .int i1]) (st' := [.ref 71]) 1 am_q42 rfl ?_
  refine ev_s (pc' := 4) (loc' := [.ref 71, .int i1]) (st' := [.int (am_gi h 71 9)]) (h1 := h) am_q42 rfl rfl rfl (if_pos (e := none) (ck71 Ly)) ?_
  refine ev_p (pc' := 5) (loc' := [.ref 71, .int i1]) (st' := [.int i1, .int (am_gi h 71 9)]) 1 am_q42 rfl ?_
  refine ev_jc (t := 10) am_q42 rfl rfl (fun hq => ?_) (fun hq => ?_)
  · replace H := H.1 hq
    refine ev_p (pc' := 11) (loc' := [.ref 71, .int i1]) (st' := [.ref 71]) 1 am_q42 rfl ?_
    refine ev_c (vs := [.ref 71]) (rest := []) 44 am_q42 rfl rfl rfl rfl rfl rfl rfl rfl rfl rfl rfl rfl (Or.inr (congrArg some (ck71 Ly))) (Cl.mono H (Nat.le_refl _) (fun r2 h1 H => ?_))
    obtain ⟨rfl, Ly, H⟩ := H
    refine ev_p (pc' := 15) (loc' := [.ref 71, .int i1]) (st' := [.int (1 : Int32)]) 1 am_q42 rfl ?_
    exact ev_r (v := some (.int (1 : Int32))) am_q42 rfl rfl rfl rfl H
  · replace H := H.2 hq
    refine ev_p (pc' := 9) (loc' := [.ref 71, .int i1]) (st' := [.int (0 : Int32)]) 1 am_q42 rfl ?_
    exact ev_r (v := some (.int (0 : Int32))) am_q42 rfl rfl rfl rfl H
/-! 43: X5_emit -/
set_option maxRecDepth 20000 in
set_option maxHeartbeats 2000000 in
theorem wc43 {d : Nat}  (i1 : Int32) {h : AH} {Q : Option Value → AH → Prop} (Ly : LyC h) (H : ((400 : Int32) ≤ (am_gi h 71 3) → Q none h) ∧ (¬ (400 : Int32) ≤ (am_gi h 71 3) → am_in (am_gi h 71 3) 400 ∧ ∀ h2, h2 = am_si h 73 (Int32.toNatClampNeg (am_gi h 71 3)) i1 → ∀ h3, h3 = am_si h2 71 3 ((am_gi h2 71 3) + (1 : Int32)) → Q none h3)) : Cl d 43 [.ref 71, .int i1] h Q := by
  show Ev d 43 0 [.ref 71, .int i1] [] h Q
  refine ev_p (pc' := 1) (loc' := [.ref 71, .int i1]) (st' := [.ref 71]) 1 am_q43 rfl ?_
  refine ev_s (pc' := 4) (loc' := [.ref 71, .int i1]) (st' := [.int (am_gi h 71 3)]) (h1 := h) am_q43 rfl rfl rfl (if_pos (e := none) (ck71 Ly)) ?_
  refine ev_p (pc' := 7) (loc' := [.ref 71, .int i1]) (st' := [.int (400 : Int32), .int (am_gi h 71 3)]) 1 am_q43 rfl ?_
  refine ev_jc (t := 30) am_q43 rfl rfl (fun hq => ?_) (fun hq => ?_)
  · replace H := H.1 hq
    exact ev_r (v := none) am_q43 rfl rfl rfl rfl H
  · replace H := H.2 hq
    refine ev_p (pc' := 11) (loc' := [.ref 71, .int i1]) (st' := [.ref 71]) 1 am_q43 rfl ?_
    refine ev_s (pc' := 14) (loc' := [.ref 71, .int i1]) (st' := [.ref 73]) (h1 := h) am_q43 rfl rfl rfl (am_gf2 (ck71 Ly) (cr71_2 Ly)) ?_
    refine ev_p (pc' := 15) (loc' := [.ref 71, .int i1]) (st' := [.ref 71, .ref 73]) 1 am_q43 rfl ?_
    refine ev_s (pc' := 18) (loc' := [.ref 71, .int i1]) (st' := [.int (am_gi h 71 3), .ref 73]) (h1 := h) am_q43 rfl rfl rfl (if_pos (e := none) (ck71 Ly)) ?_
    refine ev_p (pc' := 19) (loc' := [.ref 71, .int i1]) (st' := [.int i1, .int (am_gi h 71 3), .ref 73]) 1 am_q43 rfl ?_
    obtain ⟨g1, H⟩ := H
    refine ev_s (pc' := 20) (loc' := [.ref 71, .int i1]) (st' := []) (h1 := am_si h 73 (Int32.toNatClampNeg (am_gi h 71 3)) i1) am_q43 rfl rfl rfl (am_xx ⟨ck73 Ly, (Nat.le_of_ble_eq_true rfl)⟩ (am_inl (cn73 Ly) g1)) ?_
    replace H := H _ rfl
    replace Ly : LyC (am_si h 73 (Int32.toNatClampNeg (am_gi h 71 3)) i1) := Ly.si _ _ _
    generalize am_si h 73 (Int32.toNatClampNeg (am_gi h 71 3)) i1 = h2 at H Ly ⊢
    refine ev_p (pc' := 22) (loc' := [.ref 71, .int i1]) (st' := [.ref 71, .ref 71]) 2 am_q43 rfl ?_
    refine ev_s (pc' := 25) (loc' := [.ref 71, .int i1]) (st' := [.int (am_gi h2 71 3), .ref 71]) (h1 := h2) am_q43 rfl rfl rfl (if_pos (e := none) (ck71 Ly)) ?_
    refine ev_p (pc' := 27) (loc' := [.ref 71, .int i1]) (st' := [.int ((am_gi h2 71 3) + (1 : Int32)), .ref 71]) 2 am_q43 rfl ?_
    refine ev_s (pc' := 30) (loc' := [.ref 71, .int i1]) (st' := []) (h1 := am_si h2 71 3 ((am_gi h2 71 3) + (1 : Int32))) am_q43 rfl rfl rfl (if_pos (e := none) (ck71 Ly)) ?_
    replace H := H _ rfl
    replace Ly : LyC (am_si h2 71 3 ((am_gi h2 71 3) + (1 : Int32))) := Ly.si _ _ _
    generalize am_si h2 71 3 ((am_gi h2 71 3) + (1 : Int32)) = h3 at H Ly ⊢
    exact ev_r (v := none) am_q43 rfl rfl rfl rfl H
/-! 44: X5_advance -/
set_option maxRecDepth 20000 in
set_option maxHeartbeats 2000000 in
theorem wc44 {d : Nat}   {h : AH} {Q : Option Value → AH → Prop} (Ly : LyC h) (H : ((am_gi h 71 1) ≤ (am_gi h 71 8) → Ev (d + 1) 44 39 [.ref 71] [] h Q) ∧ (¬ (am_gi h 71 1) ≤ (am_gi h 71 8) → am_in (am_gi h 71 8) 400 ∧ Cl d 48 [.int (am_gi h 72 (Int32.toNatClampNeg (am_gi h 71 8)))] h (fun r3 h2 => ∃ x4, r3 = some (.int x4) ∧ LyC h2 ∧ (x4 = (0 : Int32) → Ev (d + 1) 44 39 [.ref 71] [] h2 Q) ∧ (¬ x4 = (0 : Int32) → ∀ h5, h5 = am_si h2 71 8 ((am_gi h2 71 8) + (1 : Int32)) → Ev (d + 1) 44 0 [.ref 71] [] h5 Q)))) : Cl (d + 1) 44 [.ref 71] h Q := by
  show Ev (d + 1) 44 0 [.ref 71] [] h Q
  refine ev_p (pc' := 1) (loc' := [.ref 71]) (st' := [.ref 71]) 1 am_q44 rfl ?_
  refine ev_s (pc' := 4) (loc' := [.ref 71]) (st' := [.int (am_gi h 71 8)]) (h1 := h) am_q44 rfl rfl rfl (if_pos (e := none) (ck71 Ly)) ?_
  refine ev_p (pc' := 5) (loc' := [.ref 71]) (st' := [.ref 71, .int (am_gi h 71 8)]) 1 am_q44 rfl ?_
  refine ev_s (pc' := 8) (loc' := [.ref 71]) (st' := [.int (am_gi h 71 1), .int (am_gi h 71 8)]) (h1 := h) am_q44 rfl rfl rfl (if_pos (e := none) (ck71 Ly)) ?_
  refine ev_jc (t := 39) am_q44 rfl rfl (fun hq => ?_) (fun hq => ?_)
  · replace H := H.1 hq
    exact ev_m (loc' := [.ref 71]) am_q44 rfl rfl H
  · replace H := H.2 hq
    refine ev_p (pc' := 12) (loc' := [.ref 71]) (st' := [.ref 71]) 1 am_q44 rfl ?_
    refine ev_s (pc' := 15) (loc' := [.ref 71]) (st' := [.ref 72]) (h1 := h) am_q44 rfl rfl rfl (am_gf2 (ck71 Ly) (cr71_0 Ly)) ?_
    refine ev_p (pc' := 16) (loc' := [.ref 71]) (st' := [.ref 71, .ref 72]) 1 am_q44 rfl ?_
    refine ev_s (pc' := 19) (loc' := [.ref 71]) (st' := [.int (am_gi h 71 8), .ref 72]) (h1 := h) am_q44 rfl rfl rfl (if_pos (e := none) (ck71 Ly)) ?_
    obtain ⟨g1, H⟩ := H
    refine ev_s (pc' := 20) (loc' := [.ref 71]) (st' := [.int (am_gi h 72 (Int32.toNatClampNeg (am_gi h 71 8)))]) (h1 := h) am_q44 rfl rfl rfl (am_xx (Or.inl (ck72 Ly)) (am_inl (cn72 Ly) g1)) ?_
    refine ev_c (vs := [.int (am_gi h 72 (Int32.toNatClampNeg (am_gi h 71 8)))]) (rest := []) 48 am_q44 rfl rfl rfl rfl rfl rfl rfl rfl rfl rfl rfl rfl (Or.inl rfl) (Cl.mono H (Nat.le_refl _) (fun r3 h2 H => ?_))
    obtain ⟨x4, rfl, Ly, H⟩ := H
    refine ev_jz (t := 39) am_q44 rfl rfl (fun hq => ?_) (fun hq => ?_)
    · replace H := H.1 hq
      exact ev_m (loc' := [.ref 71]) am_q44 rfl rfl H
    · replace H := H.2 hq
      refine ev_p (pc' := 28) (loc' := [.ref 71]) (st' := [.ref 71, .ref 71]) 2 am_q44 rfl ?_
      refine ev_s (pc' := 31) (loc' := [.ref 71]) (st' := [.int (am_gi h2 71 8), .ref 71]) (h1 := h2) am_q44 rfl rfl rfl (if_pos (e := none) (ck71 Ly)) ?_
      refine ev_p (pc' := 33) (loc' := [.ref 71]) (st' := [.int ((am_gi h2 71 8) + (1 : Int32)), .ref 71]) 2 am_q44 rfl ?_
      refine ev_s (pc' := 36) (loc' := [.ref 71]) (st' := []) (h1 := am_si h2 71 8 ((am_gi h2 71 8) + (1 : Int32))) am_q44 rfl rfl rfl (if_pos (e := none) (ck71 Ly)) ?_
      replace H := H _ rfl
      replace Ly : LyC (am_si h2 71 8 ((am_gi h2 71 8) + (1 : Int32))) := Ly.si _ _ _
      generalize am_si h2 71 8 ((am_gi h2 71 8) + (1 : Int32)) = h5 at H Ly ⊢
      refine ev_p (pc' := 0) (loc' := [.ref 71]) (st' := []) 1 am_q44 rfl ?_
      exact ev_m (loc' := [.ref 71]) am_q44 rfl rfl H
set_option maxRecDepth 20000 in
set_option maxHeartbeats 2000000 in
theorem wc44_39 {d : Nat}   {h : AH} {Q : Option Value → AH → Prop} (Ly : LyC h) (H : ∀ h1, h1 = am_si h 71 10 (am_gi h 71 8) → ((am_gi h1 71 8) < (am_gi h1 71 1) → am_in (am_gi h1 71 8) 400 ∧ Cl d 49 [.int (am_gi h1 72 (Int32.toNatClampNeg (am_gi h1 71 8)))] h1 (fun r4 h3 => ∃ x5, r4 = some (.int x5) ∧ LyC h3 ∧ (x5 = (0 : Int32) → am_in (am_gi h3 71 8) 400 ∧ Cl d 50 [.int (am_gi h3 72 (Int32.toNatClampNeg (am_gi h3 71 8)))] h3 (fun r8 h7 => ∃ x9, r8 = some (.int x9) ∧ LyC h7 ∧ (x9 = (0 : Int32) → am_in (am_gi h7 71 8) 400 ∧ Cl d 51 [.int (am_gi h7 72 (Int32.toNatClampNeg (am_gi h7 71 8)))] h7 (fun r12 h11 => ∃ x13, r12 = some (.int x13) ∧ LyC h11 ∧ (x13 = (0 : Int32) → ∀ h14, h14 = am_si h11 71 9 (1 : Int32) → ∀ h15, h15 = am_si h14 71 8 ((am_gi h14 71 8) + (1 : Int32)) → Q none h15) ∧ (¬ x13 = (0 : Int32) → am_in (am_gi h11 71 8) 400 ∧ ∀ h17, h17 = am_si h11 71 9 (am_gi h11 72 (Int32.toNatClampNeg (am_gi h11 71 8))) → ∀ h18, h18 = am_si h17 71 8 ((am_gi h17 71 8) + (1 : Int32)) → Q none h18))) ∧ (¬ x9 = (0 : Int32) → Cl d 47 [.ref 71] h7 (fun r20 h19 => r20 = none ∧ LyC h19 ∧ Q none h19)))) ∧ (¬ x5 = (0 : Int32) → Cl d 45 [.ref 71] h3 (fun r22 h21 => r22 = none ∧ LyC h21 ∧ Q none h21)))) ∧ (¬ (am_gi h1 71 8) < (am_gi h1 71 1) → ∀ h23, h23 = am_si h1 71 9 (0 : Int32) → Q none h23)) : Ev (d + 1) 44 39 [.ref 71] [] h Q := by
  refine ev_p (pc' := 41) (loc' := [.ref 71]) (st' := [.ref 71, .ref 71]) 2 am_q44 rfl ?_
  refine ev_s (pc' := 44) (loc' := [.ref 71]) (st' := [.int (am_gi h 71 8), .ref 71]) (h1 := h) am_q44 rfl rfl rfl (if_pos (e := none) (ck71 Ly)) ?_
  refine ev_s (pc' := 47) (loc' := [.ref 71]) (st' := []) (h1 := am_si h 71 10 (am_gi h 71 8)) am_q44 rfl rfl rfl (if_pos (e := none) (ck71 Ly)) ?_
  replace H := H _ rfl
  replace Ly : LyC (am_si h 71 10 (am_gi h 71 8)) := Ly.si _ _ _
  generalize am_si h 71 10 (am_gi h 71 8) = h1 at H Ly ⊢
  refine ev_p (pc' := 48) (loc' := [.ref 71]) (st' := [.ref 71]) 1 am_q44 rfl ?_
  refine ev_s (pc' := 51) (loc' := [.ref 71]) (st' := [.int (am_gi h1 71 8)]) (h1 := h1) am_q44 rfl rfl rfl (if_pos (e := none) (ck71 Ly)) ?_
  refine ev_p (pc' := 52) (loc' := [.ref 71]) (st' := [.ref 71, .int (am_gi h1 71 8)]) 1 am_q44 rfl ?_
  refine ev_s (pc' := 55) (loc' := [.ref 71]) (st' := [.int (am_gi h1 71 1), .int (am_gi h1 71 8)]) (h1 := h1) am_q44 rfl rfl rfl (if_pos (e := none) (ck71 Ly)) ?_
  refine ev_jc (t := 66) am_q44 rfl rfl (fun hq => ?_) (fun hq => ?_)
  · replace H := H.1 hq
    refine ev_p (pc' := 67) (loc' := [.ref 71]) (st' := [.ref 71]) 1 am_q44 rfl ?_
    refine ev_s (pc' := 70) (loc' := [.ref 71]) (st' := [.ref 72]) (h1 := h1) am_q44 rfl rfl rfl (am_gf2 (ck71 Ly) (cr71_0 Ly)) ?_
    refine ev_p (pc' := 71) (loc' := [.ref 71]) (st' := [.ref 71, .ref 72]) 1 am_q44 rfl ?_
    refine ev_s (pc' := 74) (loc' := [.ref 71]) (st' := [.int (am_gi h1 71 8), .ref 72]) (h1 := h1) am_q44 rfl rfl rfl (if_pos (e := none) (ck71 Ly)) ?_
    obtain ⟨g2, H⟩ := H
    refine ev_s (pc' := 75) (loc' := [.ref 71]) (st' := [.int (am_gi h1 72 (Int32.toNatClampNeg (am_gi h1 71 8)))]) (h1 := h1) am_q44 rfl rfl rfl (am_xx (Or.inl (ck72 Ly)) (am_inl (cn72 Ly) g2)) ?_
    refine ev_c (vs := [.int (am_gi h1 72 (Int32.toNatClampNeg (am_gi h1 71 8)))]) (rest := []) 49 am_q44 rfl rfl rfl rfl rfl rfl rfl rfl rfl rfl rfl rfl (Or.inl rfl) (Cl.mono H (Nat.le_refl _) (fun r4 h3 H => ?_))
    obtain ⟨x5, rfl, Ly, H⟩ := H
    refine ev_jz (t := 88) am_q44 rfl rfl (fun hq => ?_) (fun hq => ?_)
    · replace H := H.1 hq
      refine ev_p (pc' := 89) (loc' := [.ref 71]) (st' := [.ref 71]) 1 am_q44 rfl ?_
      refine ev_s (pc' := 92) (loc' := [.ref 71]) (st' := [.ref 72]) (h1 := h3) am_q44 rfl rfl rfl (am_gf2 (ck71 Ly) (cr71_0 Ly)) ?_
      refine ev_p (pc' := 93) (loc' := [.ref 71]) (st' := [.ref 71, .ref 72]) 1 am_q44 rfl ?_
      refine ev_s (pc' := 96) (loc' := [.ref 71]) (st' := [.int (am_gi h3 71 8), .ref 72]) (h1 := h3) am_q44 rfl rfl rfl (if_pos (e := none) (ck71 Ly)) ?_
      obtain ⟨g6, H⟩ := H
      refine ev_s (pc' := 97) (loc' := [.ref 71]) (st' := [.int (am_gi h3 72 (Int32.toNatClampNeg (am_gi h3 71 8)))]) (h1 := h3) am_q44 rfl rfl rfl (am_xx (Or.inl (ck72 Ly)) (am_inl (cn72 Ly) g6)) ?_
      refine ev_c (vs := [.int (am_gi h3 72 (Int32.toNatClampNeg (am_gi h3 71 8)))]) (rest := []) 50 am_q44 rfl rfl rfl rfl rfl rfl rfl rfl rfl rfl rfl rfl (Or.inl rfl) (Cl.mono H (Nat.le_refl _) (fun r8 h7 H => ?_))
      obtain ⟨x9, rfl, Ly, H⟩ := H
      refine ev_jz (t := 110) am_q44 rfl rfl (fun hq => ?_) (fun hq => ?_)
      · replace H := H.1 hq
        refine ev_p (pc' := 112) (loc' := [.ref 71]) (st' := [.ref 71, .ref 71]) 2 am_q44 rfl ?_
        refine ev_s (pc' := 115) (loc' := [.ref 71]) (st' := [.ref 72, .ref 71]) (h1 := h7) am_q44 rfl rfl rfl (am_gf2 (ck71 Ly) (cr71_0 Ly)) ?_
        refine ev_p (pc' := 116) (loc' := [.ref 71]) (st' := [.ref 71, .ref 72, .ref 71]) 1 am_q44 rfl ?_
        refine ev_s (pc' := 119) (loc' := [.ref 71]) (st' := [.int (am_gi h7 71 8), .ref 72, .ref 71]) (h1 := h7) am_q44 rfl rfl rfl (if_pos (e := none) (ck71 Ly)) ?_
        obtain ⟨g10, H⟩ := H
        refine ev_s (pc' := 120) (loc' := [.ref 71]) (st' := [.int (am_gi h7 72 (Int32.toNatClampNeg (am_gi h7 71 8))), .ref 71]) (h1 := h7) am_q44 rfl rfl rfl (am_xx (Or.inl (ck72 Ly)) (am_inl (cn72 Ly) g10)) ?_
        refine ev_c (vs := [.int (am_gi h7 72 (Int32.toNatClampNeg (am_gi h7 71 8)))]) (rest := [.ref 71]) 51 am_q44 rfl rfl rfl rfl rfl rfl rfl rfl rfl rfl rfl rfl (Or.inl rfl) (Cl.mono H (Nat.le_refl _) (fun r12 h11 H => ?_))
        obtain ⟨x13, rfl, Ly, H⟩ := H
        refine ev_jz (t := 138) am_q44 rfl rfl (fun hq => ?_) (fun hq => ?_)
        · replace H := H.1 hq
          refine ev_p (pc' := 139) (loc' := [.ref 71]) (st' := [.int (1 : Int32), .ref 71]) 1 am_q44 rfl ?_
          refine ev_s (pc' := 142) (loc' := [.ref 71]) (st' := []) (h1 := am_si h11 71 9 (1 : Int32)) am_q44 rfl rfl rfl (if_pos (e := none) (ck71 Ly)) ?_
          replace H := H _ rfl
          replace Ly : LyC (am_si h11 71 9 (1 : Int32)) := Ly.si _ _ _
          generalize am_si h11 71 9 (1 : Int32) = h14 at H Ly ⊢
          refine ev_p (pc' := 144) (loc' := [.ref 71]) (st' := [.ref 71, .ref 71]) 2 am_q44 rfl ?_
          refine ev_s (pc' := 147) (loc' := [.ref 71]) (st' := [.int (am_gi h14 71 8), .ref 71]) (h1 := h14) am_q44 rfl rfl rfl (if_pos (e := none) (ck71 Ly)) ?_
          refine ev_p (pc' := 149) (loc' := [.ref 71]) (st' := [.int ((am_gi h14 71 8) + (1 : Int32)), .ref 71]) 2 am_q44 rfl ?_
          refine ev_s (pc' := 152) (loc' := [.ref 71]) (st' := []) (h1 := am_si h14 71 8 ((am_gi h14 71 8) + (1 : Int32))) am_q44 rfl rfl rfl (if_pos (e := none) (ck71 Ly)) ?_
          replace H := H _ rfl
          replace Ly : LyC (am_si h14 71 8 ((am_gi h14 71 8) + (1 : Int32))) := Ly.si _ _ _
          generalize am_si h14 71 8 ((am_gi h14 71 8) + (1 : Int32)) = h15 at H Ly ⊢
          exact ev_r (v := none) am_q44 rfl rfl rfl rfl H
        · replace H := H.2 hq
          refine ev_p (pc' := 127) (loc' := [.ref 71]) (st' := [.ref 71, .ref 71]) 1 am_q44 rfl ?_
          refine ev_s (pc' := 130) (loc' := [.ref 71]) (st' := [.ref 72, .ref 71]) (h1 := h11) am_q44 rfl rfl rfl (am_gf2 (ck71 Ly) (cr71_0 Ly)) ?_
          refine ev_p (pc' := 131) (loc' := [.ref 71]) (st' := [.ref 71, .ref 72, .ref 71]) 1 am_q44 rfl ?_
          refine ev_s (pc' := 134) (loc' := [.ref 71]) (st' := [.int (am_gi h11 71 8), .ref 72, .ref 71]) (h1 := h11) am_q44 rfl rfl rfl (if_pos (e := none) (ck71 Ly)) ?_
          obtain ⟨g16, H⟩ := H
          refine ev_s (pc' := 135) (loc' := [.ref 71]) (st' := [.int (am_gi h11 72 (Int32.toNatClampNeg (am_gi h11 71 8))), .ref 71]) (h1 := h11) am_q44 rfl rfl rfl (am_xx (Or.inl (ck72 Ly)) (am_inl (cn72 Ly) g16)) ?_
          refine ev_p (pc' := 139) (loc' := [.ref 71]) (st' := [.int (am_gi h11 72 (Int32.toNatClampNeg (am_gi h11 71 8))), .ref 71]) 1 am_q44 rfl ?_
          refine ev_s (pc' := 142) (loc' := [.ref 71]) (st' := []) (h1 := am_si h11 71 9 (am_gi h11 72 (Int32.toNatClampNeg (am_gi h11 71 8)))) am_q44 rfl rfl rfl (if_pos (e := none) (ck71 Ly)) ?_
          replace H := H _ rfl
          replace Ly : LyC (am_si h11 71 9 (am_gi h11 72 (Int32.toNatClampNeg (am_gi h11 71 8)))) := Ly.si _ _ _
          generalize am_si h11 71 9 (am_gi h11 72 (Int32.toNatClampNeg (am_gi h11 71 8))) = h17 at H Ly ⊢
          refine ev_p (pc' := 144) (loc' := [.ref 71]) (st' := [.ref 71, .ref 71]) 2 am_q44 rfl ?_
          refine ev_s (pc' := 147) (loc' := [.ref 71]) (st' := [.int (am_gi h17 71 8), .ref 71]) (h1 := h17) am_q44 rfl rfl rfl (if_pos (e := none) (ck71 Ly)) ?_
          refine ev_p (pc' := 149) (loc' := [.ref 71]) (st' := [.int ((am_gi h17 71 8) + (1 : Int32)), .ref 71]) 2 am_q44 rfl ?_
          refine ev_s (pc' := 152) (loc' := [.ref 71]) (st' := []) (h1 := am_si h17 71 8 ((am_gi h17 71 8) + (1 : Int32))) am_q44 rfl rfl rfl (if_pos (e := none) (ck71 Ly)) ?_
          replace H := H _ rfl
          replace Ly : LyC (am_si h17 71 8 ((am_gi h17 71 8) + (1 : Int32))) := Ly.si _ _ _
          generalize am_si h17 71 8 ((am_gi h17 71 8) + (1 : Int32)) = h18 at H Ly ⊢
          exact ev_r (v := none) am_q44 rfl rfl rfl rfl H
      · replace H := H.2 hq
        refine ev_p (pc' := 104) (loc' := [.ref 71]) (st' := [.ref 71]) 1 am_q44 rfl ?_
        refine ev_c (vs := [.ref 71]) (rest := []) 47 am_q44 rfl rfl rfl rfl rfl rfl rfl rfl rfl rfl rfl rfl (Or.inr (congrArg some (ck71 Ly))) (Cl.mono H (Nat.le_refl _) (fun r20 h19 H => ?_))
        obtain ⟨rfl, Ly, H⟩ := H
        refine ev_p (pc' := 152) (loc' := [.ref 71]) (st' := []) 1 am_q44 rfl ?_
        exact ev_r (v := none) am_q44 rfl rfl rfl rfl H
    · replace H := H.2 hq
      refine ev_p (pc' := 82) (loc' := [.ref 71]) (st' := [.ref 71]) 1 am_q44 rfl ?_
      refine ev_c (vs := [.ref 71]) (rest := []) 45 am_q44 rfl rfl rfl rfl rfl rfl rfl rfl rfl rfl rfl rfl (Or.inr (congrArg some (ck71 Ly))) (Cl.mono H (Nat.le_refl _) (fun r22 h21 H => ?_))
      obtain ⟨rfl, Ly, H⟩ := H
      refine ev_p (pc' := 152) (loc' := [.ref 71]) (st' := []) 1 am_q44 rfl ?_
      exact ev_r (v := none) am_q44 rfl rfl rfl rfl H
  · replace H := H.2 hq
    refine ev_p (pc' := 60) (loc' := [.ref 71]) (st' := [.int (0 : Int32), .ref 71]) 2 am_q44 rfl ?_
    refine ev_s (pc' := 63) (loc' := [.ref 71]) (st' := []) (h1 := am_si h1 71 9 (0 : Int32)) am_q44 rfl rfl rfl (if_pos (e := none) (ck71 Ly)) ?_
    replace H := H _ rfl
    replace Ly : LyC (am_si h1 71 9 (0 : Int32)) := Ly.si _ _ _
    generalize am_si h1 71 9 (0 : Int32) = h23 at H Ly ⊢
    refine ev_p (pc' := 152) (loc' := [.ref 71]) (st' := []) 1 am_q44 rfl ?_
    exact ev_r (v := none) am_q44 rfl rfl rfl rfl H
/-! 45: X5_scanWord -/
set_option maxRecDepth 20000 in
set_option maxHeartbeats 2000000 in
theorem wc45 {d : Nat}   {h : AH} {Q : Option Value → AH → Prop} (Ly : LyC h) (H : ((am_gi h 71 1) ≤ (am_gi h 71 8) → (((am_gi h 71 8) - (am_gi h 71 10)) ≤ (8 : Int32) → Cl d 46 [.ref 71] h (fun r2 h1 => ∃ x3, r2 = some (.int x3) ∧ LyC h1 ∧ Ev (d + 1) 45 61 [.ref 71, .null] [.int x3] h1 Q)) ∧ (¬ ((am_gi h 71 8) - (am_gi h 71 10)) ≤ (8 : Int32) → Ev (d + 1) 45 61 [.ref 71, .null] [.int (-1 : Int32)] h Q)) ∧ (¬ (am_gi h 71 1) ≤ (am_gi h 71 8) → am_in (am_gi h 71 8) 400 ∧ Cl d 49 [.int (am_gi h 72 (Int32.toNatClampNeg (am_gi h 71 8)))] h (fun r6 h5 => ∃ x7, r6 = some (.int x7) ∧ LyC h5 ∧ (x7 = (0 : Int32) → (((am_gi h5 71 8) - (am_gi h5 71 10)) ≤ (8 : Int32) → Cl d 46 [.ref 71] h5 (fun r9 h8 => ∃ x10, r9 = some (.int x10) ∧ LyC h8 ∧ Ev (d + 1) 45 61 [.ref 71, .null] [.int x10] h8 Q)) ∧ (¬ ((am_gi h5 71 8) - (am_gi h5 71 10)) ≤ (8 : Int32) → Ev (d + 1) 45 61 [.ref 71, .null] [.int (-1 : Int32)] h5 Q)) ∧ (¬ x7 = (0 : Int32) → ∀ h11, h11 = am_si h5 71 8 ((am_gi h5 71 8) + (1 : Int32)) → Ev (d + 1) 45 0 [.ref 71, .null] [] h11 Q)))) : Cl (d + 1) 45 [.ref 71] h Q := by
  show Ev (d + 1) 45 0 [.ref 71, .null] [] h Q
  refine ev_p (pc' := 1) (loc' := [.ref 71, .null]) (st' := [.ref 71]) 1 am_q45 rfl ?_
  refine ev_s (pc' := 4) (loc' := [.ref 71, .null]) (st' := [.int (am_gi h 71 8)]) (h1 := h) am_q45 rfl rfl rfl (if_pos (e := none) (ck71 Ly)) ?_
  refine ev_p (pc' := 5) (loc' := [.ref 71, .null]) (st' := [.ref 71, .int (am_gi h 71 8)]) 1 am_q45 rfl ?_
  refine ev_s (pc' := 8) (loc' := [.ref 71, .null]) (st' := [.int (am_gi h 71 1), .int (am_gi h 71 8)]) (h1 := h) am_q45 rfl rfl rfl (if_pos (e := none) (ck71 Ly)) ?_
  refine ev_jc (t := 39) am_q45 rfl rfl (fun hq => ?_) (fun hq => ?_)
  · replace H := H.1 hq
    refine ev_p (pc' := 40) (loc' := [.ref 71, .null]) (st' := [.ref 71]) 1 am_q45 rfl ?_
    refine ev_s (pc' := 43) (loc' := [.ref 71, .null]) (st' := [.int (am_gi h 71 8)]) (h1 := h) am_q45 rfl rfl rfl (if_pos (e := none) (ck71 Ly)) ?_
    refine ev_p (pc' := 44) (loc' := [.ref 71, .null]) (st' := [.ref 71, .int (am_gi h 71 8)]) 1 am_q45 rfl ?_
    refine ev_s (pc' := 47) (loc' := [.ref 71, .null]) (st' := [.int (am_gi h 71 10), .int (am_gi h 71 8)]) (h1 := h) am_q45 rfl rfl rfl (if_pos (e := none) (ck71 Ly)) ?_
    refine ev_p (pc' := 50) (loc' := [.ref 71, .null]) (st' := [.int (8 : Int32), .int ((am_gi h 71 8) - (am_gi h 71 10))]) 2 am_q45 rfl ?_
    refine ev_jc (t := 57) am_q45 rfl rfl (fun hq => ?_) (fun hq => ?_)
    · replace H := H.1 hq
      refine ev_p (pc' := 58) (loc' := [.ref 71, .null]) (st' := [.ref 71]) 1 am_q45 rfl ?_
      refine ev_c (vs := [.ref 71]) (rest := []) 46 am_q45 rfl rfl rfl rfl rfl rfl rfl rfl rfl rfl rfl rfl (Or.inr (congrArg some (ck71 Ly))) (Cl.mono H (Nat.le_refl _) (fun r2 h1 H => ?_))
      obtain ⟨x3, rfl, Ly, H⟩ := H
      exact ev_m (loc' := [.ref 71, .null]) am_q45 rfl rfl H
    · replace H := H.2 hq
      refine ev_p (pc' := 61) (loc' := [.ref 71, .null]) (st' := [.int (-1 : Int32)]) 2 am_q45 rfl ?_
      exact ev_m (loc' := [.ref 71, .null]) am_q45 rfl rfl H
  · replace H := H.2 hq
    refine ev_p (pc' := 12) (loc' := [.ref 71, .null]) (st' := [.ref 71]) 1 am_q45 rfl ?_
    refine ev_s (pc' := 15) (loc' := [.ref 71, .null]) (st' := [.ref 72]) (h1 := h) am_q45 rfl rfl rfl (am_gf2 (ck71 Ly) (cr71_0 Ly)) ?_
    refine ev_p (pc' := 16) (loc' := [.ref 71, .null]) (st' := [.ref 71, .ref 72]) 1 am_q45 rfl ?_
    refine ev_s (pc' := 19) (loc' := [.ref 71, .null]) (st' := [.int (am_gi h 71 8), .ref 72]) (h1 := h) am_q45 rfl rfl rfl (if_pos (e := none) (ck71 Ly)) ?_
    obtain ⟨g4, H⟩ := H
    refine ev_s (pc' := 20) (loc' := [.ref 71, .null]) (st' := [.int (am_gi h 72 (Int32.toNatClampNeg (am_gi h 71 8)))]) (h1 := h) am_q45 rfl rfl rfl (am_xx (Or.inl (ck72 Ly)) (am_inl (cn72 Ly) g4)) ?_
    refine ev_c (vs := [.int (am_gi h 72 (Int32.toNatClampNeg (am_gi h 71 8)))]) (rest := []) 49 am_q45 rfl rfl rfl rfl rfl rfl rfl rfl rfl rfl rfl rfl (Or.inl rfl) (Cl.mono H (Nat.le_refl _) (fun r6 h5 H => ?_))
    obtain ⟨x7, rfl, Ly, H⟩ := H
    refine ev_jz (t := 39) am_q45 rfl rfl (fun hq => ?_) (fun hq => ?_)
    · replace H := H.1 hq
      refine ev_p (pc' := 40) (loc' := [.ref 71, .null]) (st' := [.ref 71]) 1 am_q45 rfl ?_
      refine ev_s (pc' := 43) (loc' := [.ref 71, .null]) (st' := [.int (am_gi h5 71 8)]) (h1 := h5) am_q45 rfl rfl rfl (if_pos (e := none) (ck71 Ly)) ?_
      refine ev_p (pc' := 44) (loc' := [.ref 71, .null]) (st' := [.ref 71, .int (am_gi h5 71 8)]) 1 am_q45 rfl ?_
      refine ev_s (pc' := 47) (loc' := [.ref 71, .null]) (st' := [.int (am_gi h5 71 10), .int (am_gi h5 71 8)]) (h1 := h5) am_q45 rfl rfl rfl (if_pos (e := none) (ck71 Ly)) ?_
      refine ev_p (pc' := 50) (loc' := [.ref 71, .null]) (st' := [.int (8 : Int32), .int ((am_gi h5 71 8) - (am_gi h5 71 10))]) 2 am_q45 rfl ?_
      refine ev_jc (t := 57) am_q45 rfl rfl (fun hq => ?_) (fun hq => ?_)
      · replace H := H.1 hq
        refine ev_p (pc' := 58) (loc' := [.ref 71, .null]) (st' := [.ref 71]) 1 am_q45 rfl ?_
        refine ev_c (vs := [.ref 71]) (rest := []) 46 am_q45 rfl rfl rfl rfl rfl rfl rfl rfl rfl rfl rfl rfl (Or.inr (congrArg some (ck71 Ly))) (Cl.mono H (Nat.le_refl _) (fun r9 h8 H => ?_))
        obtain ⟨x10, rfl, Ly, H⟩ := H
        exact ev_m (loc' := [.ref 71, .null]) am_q45 rfl rfl H
      · replace H := H.2 hq
        refine ev_p (pc' := 61) (loc' := [.ref 71, .null]) (st' := [.int (-1 : Int32)]) 2 am_q45 rfl ?_
        exact ev_m (loc' := [.ref 71, .null]) am_q45 rfl rfl H
    · replace H := H.2 hq
      refine ev_p (pc' := 28) (loc' := [.ref 71, .null]) (st' := [.ref 71, .ref 71]) 2 am_q45 rfl ?_
      refine ev_s (pc' := 31) (loc' := [.ref 71, .null]) (st' := [.int (am_gi h5 71 8), .ref 71]) (h1 := h5) am_q45 rfl rfl rfl (if_pos (e := none) (ck71 Ly)) ?_
      refine ev_p (pc' := 33) (loc' := [.ref 71, .null]) (st' := [.int ((am_gi h5 71 8) + (1 : Int32)), .ref 71]) 2 am_q45 rfl ?_
      refine ev_s (pc' := 36) (loc' := [.ref 71, .null]) (st' := []) (h1 := am_si h5 71 8 ((am_gi h5 71 8) + (1 : Int32))) am_q45 rfl rfl rfl (if_pos (e := none) (ck71 Ly)) ?_
      replace H := H _ rfl
      replace Ly : LyC (am_si h5 71 8 ((am_gi h5 71 8) + (1 : Int32))) := Ly.si _ _ _
      generalize am_si h5 71 8 ((am_gi h5 71 8) + (1 : Int32)) = h11 at H Ly ⊢
      refine ev_p (pc' := 0) (loc' := [.ref 71, .null]) (st' := []) 1 am_q45 rfl ?_
      exact ev_m (loc' := [.ref 71, .null]) am_q45 rfl rfl H
set_option maxRecDepth 20000 in
set_option maxHeartbeats 2000000 in
theorem wc45_61 {d : Nat}  (s0 : Int32) {h : AH} {Q : Option Value → AH → Prop} (Ly : LyC h) (H : ((¬ s0 = (-1 : Int32)) → ((8 : Int32) ≤ s0 → ∀ h1, h1 = am_si h 71 9 s0 → ∀ h2, h2 = am_si h1 71 11 s0 → Q none h2) ∧ (¬ (8 : Int32) ≤ s0 → ∀ h3, h3 = am_si h 71 9 (3 : Int32) → ∀ h4, h4 = am_si h3 71 11 s0 → Q none h4)) ∧ (¬ (¬ s0 = (-1 : Int32)) → ∀ h5, h5 = am_si h 71 9 (1 : Int32) → Q none h5)) : Ev (d + 1) 45 61 [.ref 71, .null] [.int s0] h Q := by
  refine ev_p (pc' := 64) (loc' := [.ref 71, .int s0]) (st' := [.int (-1 : Int32), .int s0]) 3 am_q45 rfl ?_
  refine ev_jc (t := 75) am_q45 rfl rfl (fun hq => ?_) (fun hq => ?_)
  · replace H := H.1 hq
    refine ev_p (pc' := 79) (loc' := [.ref 71, .int s0]) (st' := [.int (8 : Int32), .int s0, .ref 71]) 3 am_q45 rfl ?_
    refine ev_jc (t := 86) am_q45 rfl rfl (fun hq => ?_) (fun hq => ?_)
    · replace H := H.1 hq
      refine ev_p (pc' := 87) (loc' := [.ref 71, .int s0]) (st' := [.int s0, .ref 71]) 1 am_q45 rfl ?_
      refine ev_s (pc' := 90) (loc' := [.ref 71, .int s0]) (st' := []) (h1 := am_si h 71 9 s0) am_q45 rfl rfl rfl (if_pos (e := none) (ck71 Ly)) ?_
      replace H := H _ rfl
      replace Ly : LyC (am_si h 71 9 s0) := Ly.si _ _ _
      generalize am_si h 71 9 s0 = h1 at H Ly ⊢
      refine ev_p (pc' := 92) (loc' := [.ref 71, .int s0]) (st' := [.int s0, .ref 71]) 2 am_q45 rfl ?_
      refine ev_s (pc' := 95) (loc' := [.ref 71, .int s0]) (st' := []) (h1 := am_si h1 71 11 s0) am_q45 rfl rfl rfl (if_pos (e := none) (ck71 Ly)) ?_
      replace H := H _ rfl
      replace Ly : LyC (am_si h1 71 11 s0) := Ly.si _ _ _
      generalize am_si h1 71 11 s0 = h2 at H Ly ⊢
      exact ev_r (v := none) am_q45 rfl rfl rfl rfl H
    · replace H := H.2 hq
      refine ev_p (pc' := 87) (loc' := [.ref 71, .int s0]) (st' := [.int (3 : Int32), .ref 71]) 2 am_q45 rfl ?_
      refine ev_s (pc' := 90) (loc' := [.ref 71, .int s0]) (st' := []) (h1 := am_si h 71 9 (3 : Int32)) am_q45 rfl rfl rfl (if_pos (e := none) (ck71 Ly)) ?_
      replace H := H _ rfl
      replace Ly : LyC (am_si h 71 9 (3 : Int32)) := Ly.si _ _ _
      generalize am_si h 71 9 (3 : Int32) = h3 at H Ly ⊢
      refine ev_p (pc' := 92) (loc' := [.ref 71, .int s0]) (st' := [.int s0, .ref 71]) 2 am_q45 rfl ?_
      refine ev_s (pc' := 95) (loc' := [.ref 71, .int s0]) (st' := []) (h1 := am_si h3 71 11 s0) am_q45 rfl rfl rfl (if_pos (e := none) (ck71 Ly)) ?_
      replace H := H _ rfl
      replace Ly : LyC (am_si h3 71 11 s0) := Ly.si _ _ _
      generalize am_si h3 71 11 s0 = h4 at H Ly ⊢
      exact ev_r (v := none) am_q45 rfl rfl rfl rfl H
  · replace H := H.2 hq
    refine ev_p (pc' := 69) (loc' := [.ref 71, .int s0]) (st' := [.int (1 : Int32), .ref 71]) 2 am_q45 rfl ?_
    refine ev_s (pc' := 72) (loc' := [.ref 71, .int s0]) (st' := []) (h1 := am_si h 71 9 (1 : Int32)) am_q45 rfl rfl rfl (if_pos (e := none) (ck71 Ly)) ?_
    replace H := H _ rfl
    replace Ly : LyC (am_si h 71 9 (1 : Int32)) := Ly.si _ _ _
    generalize am_si h 71 9 (1 : Int32) = h5 at H Ly ⊢
    refine ev_p (pc' := 95) (loc' := [.ref 71, .int s0]) (st' := []) 1 am_q45 rfl ?_
    exact ev_r (v := none) am_q45 rfl rfl rfl rfl H
/-! 46: X5_wordOnTape -/
set_option maxRecDepth 20000 in
set_option maxHeartbeats 2000000 in
theorem wc46 {d : Nat}   {h : AH} {Q : Option Value → AH → Prop} (Ly : LyC h) (H : Ev d 46 9 [.ref 71, .int (0 : Int32), .int (am_gi h 71 10), .int (0 : Int32), .null] [] h Q) : Cl d 46 [.ref 71] h Q := by
  show Ev d 46 0 [.ref 71, .null, .null, .null, .null] [] h Q
  refine ev_p (pc' := 3) (loc' := [.ref 71, .int (0 : Int32), .null, .null, .null]) (st' := [.ref 71]) 3 am_q46 rfl ?_
  refine ev_s (pc' := 6) (loc' := [.ref 71, .int (0 : Int32), .null, .null, .null]) (st' := [.int (am_gi h 71 10)]) (h1 := h) am_q46 rfl rfl rfl (if_pos (e := none) (ck71 Ly)) ?_
  refine ev_p (pc' := 9) (loc' := [.ref 71, .int (0 : Int32), .int (am_gi h 71 10), .int (0 : Int32), .null]) (st' := []) 3 am_q46 rfl ?_
  exact ev_m (loc' := [.ref 71, .int (0 : Int32), .int (am_gi h 71 10), .int (0 : Int32), .null]) am_q46 rfl rfl H
set_option maxRecDepth 20000 in
set_option maxHeartbeats 2000000 in
theorem wc46_9 {d : Nat}  (i1 : Int32) (i2 : Int32) (i3 : Int32) {h : AH} {Q : Option Value → AH → Prop} (Ly : LyC h) (H : am_kd h 4 = 200 ∧ ((Int32.ofNat (am_ln h (4 + 1))) ≤ i3 → Q (some (.int (-1 : Int32))) h) ∧ (¬ (Int32.ofNat (am_ln h (4 + 1))) ≤ i3 → am_kd h 4 = 200 ∧ am_in i3 (am_ln h (4 + 1)) ∧ ((am_gi h (4 + 1) (Int32.toNatClampNeg i3) &&& 255) = (32 : Int32) → ((¬ i2 = (am_gi h 71 8)) → Ev d 46 9 [.ref 71, .int (i1 + (1 : Int32)), .int (am_gi h 71 10), .int (i3 + (1 : Int32)), .null] [] h Q) ∧ (¬ (¬ i2 = (am_gi h 71 8)) → Q (some (.int i1)) h)) ∧ (¬ (am_gi h (4 + 1) (Int32.toNatClampNeg i3) &&& 255) = (32 : Int32) → ((am_gi h 71 8) ≤ i2 → Ev d 46 9 [.ref 71, .int i1, .int ((am_gi h 71 8) + (1 : Int32)), .int (i3 + (1 : Int32)), .null] [] h Q) ∧ (¬ (am_gi h 71 8) ≤ i2 → am_in i2 400 ∧ ((¬ (am_gi h 72 (Int32.toNatClampNeg i2)) = (am_gi h (4 + 1) (Int32.toNatClampNeg i3) &&& 255)) → Ev d 46 9 [.ref 71, .int i1, .int ((am_gi h 71 8) + (1 : Int32)), .int (i3 + (1 : Int32)), .null] [] h Q) ∧ (¬ (¬ (am_gi h 72 (Int32.toNatClampNeg i2)) = (am_gi h (4 + 1) (Int32.toNatClampNeg i3) &&& 255)) → Ev d 46 9 [.ref 71, .int i1, .int (i2 + (1 : Int32)), .int (i3 + (1 : Int32)), .null] [] h Q))))) : Ev d 46 9 [.ref 71, .int i1, .int i2, .int i3, .null] [] h Q := by
  refine ev_p (pc' := 12) (loc' := [.ref 71, .int i1, .int i2, .int i3, .null]) (st' := [.ref 4, .int i3]) 2 am_q46 rfl ?_
  obtain ⟨g1, H⟩ := H
  refine ev_b (st' := [.int (Int32.ofNat (am_ln h (4 + 1))), .int i3]) (h1 := h) am_q46 rfl rfl rfl rfl (if_pos (e := none) g1) rfl ?_
  refine ev_jc (t := 92) am_q46 rfl rfl (fun hq => ?_) (fun hq => ?_)
  · replace H := H.1 hq
    refine ev_p (pc' := 93) (loc' := [.ref 71, .int i1, .int i2, .int i3, .null]) (st' := [.int (-1 : Int32)]) 1 am_q46 rfl ?_
    exact ev_r (v := some (.int (-1 : Int32))) am_q46 rfl rfl rfl rfl H
  · replace H := H.2 hq
    refine ev_p (pc' := 21) (loc' := [.ref 71, .int i1, .int i2, .int i3, .null]) (st' := [.int i3, .ref 4]) 2 am_q46 rfl ?_
    obtain ⟨g2, g3, H⟩ := H
    refine ev_b (st' := [.int (am_gi h (4 + 1) (Int32.toNatClampNeg i3) &&& 255)]) (h1 := h) am_q46 rfl rfl rfl rfl (am_b6 g2 g3) rfl ?_
    refine ev_p (pc' := 30) (loc' := [.ref 71, .int i1, .int i2, .int i3, .int (am_gi h (4 + 1) (Int32.toNatClampNeg i3) &&& 255)]) (st' := [.int (32 : Int32), .int (am_gi h (4 + 1) (Int32.toNatClampNeg i3) &&& 255)]) 3 am_q46 rfl ?_
    refine ev_jc (t := 68) am_q46 rfl rfl (fun hq => ?_) (fun hq => ?_)
    · replace H := H.1 hq
      refine ev_p (pc' := 70) (loc' := [.ref 71, .int i1, .int i2, .int i3, .int (am_gi h (4 + 1) (Int32.toNatClampNeg i3) &&& 255)]) (st' := [.ref 71, .int i2]) 2 am_q46 rfl ?_
      refine ev_s (pc' := 73) (loc' := [.ref 71, .int i1, .int i2, .int i3, .int (am_gi h (4 + 1) (Int32.toNatClampNeg i3) &&& 255)]) (st' := [.int (am_gi h 71 8), .int i2]) (h1 := h) am_q46 rfl rfl rfl (if_pos (e := none) (ck71 Ly)) ?_
      refine ev_jc (t := 78) am_q46 rfl rfl (fun hq => ?_) (fun hq => ?_)
      · replace H := H.1 hq
        refine ev_p (pc' := 82) (loc' := [.ref 71, .int (i1 + (1 : Int32)), .int i2, .int i3, .int (am_gi h (4 + 1) (Int32.toNatClampNeg i3) &&& 255)]) (st' := [.ref 71]) 2 am_q46 rfl ?_
        refine ev_s (pc' := 85) (loc' := [.ref 71, .int (i1 + (1 : Int32)), .int i2, .int i3, .int (am_gi h (4 + 1) (Int32.toNatClampNeg i3) &&& 255)]) (st' := [.int (am_gi h 71 10)]) (h1 := h) am_q46 rfl rfl rfl (if_pos (e := none) (ck71 Ly)) ?_
        refine ev_p (pc' := 9) (loc' := [.ref 71, .int (i1 + (1 : Int32)), .int (am_gi h 71 10), .int (i3 + (1 : Int32)), .null]) (st' := []) 3 am_q46 rfl ?_
        exact ev_m (loc' := [.ref 71, .int (i1 + (1 : Int32)), .int (am_gi h 71 10), .int (i3 + (1 : Int32)), .null]) am_q46 rfl rfl H
      · replace H := H.2 hq
        refine ev_p (pc' := 77) (loc' := [.ref 71, .int i1, .int i2, .int i3, .int (am_gi h (4 + 1) (Int32.toNatClampNeg i3) &&& 255)]) (st' := [.int i1]) 1 am_q46 rfl ?_
        exact ev_r (v := some (.int i1)) am_q46 rfl rfl rfl rfl H
    · replace H := H.2 hq
      refine ev_p (pc' := 35) (loc' := [.ref 71, .int i1, .int i2, .int i3, .int (am_gi h (4 + 1) (Int32.toNatClampNeg i3) &&& 255)]) (st' := [.ref 71, .int i2]) 2 am_q46 rfl ?_
      refine ev_s (pc' := 38) (loc' := [.ref 71, .int i1, .int i2, .int i3, .int (am_gi h (4 + 1) (Int32.toNatClampNeg i3) &&& 255)]) (st' := [.int (am_gi h 71 8), .int i2]) (h1 := h) am_q46 rfl rfl rfl (if_pos (e := none) (ck71 Ly)) ?_
      refine ev_jc (t := 58) am_q46 rfl rfl (fun hq => ?_) (fun hq => ?_)
      · replace H := H.1 hq
        refine ev_p (pc' := 59) (loc' := [.ref 71, .int i1, .null, .int i3, .null]) (st' := [.ref 71]) 1 am_q46 rfl ?_
        refine ev_s (pc' := 62) (loc' := [.ref 71, .int i1, .null, .int i3, .null]) (st' := [.int (am_gi h 71 8)]) (h1 := h) am_q46 rfl rfl rfl (if_pos (e := none) (ck71 Ly)) ?_
        refine ev_p (pc' := 9) (loc' := [.ref 71, .int i1, .int ((am_gi h 71 8) + (1 : Int32)), .int (i3 + (1 : Int32)), .null]) (st' := []) 6 am_q46 rfl ?_
        exact ev_m (loc' := [.ref 71, .int i1, .int ((am_gi h 71 8) + (1 : Int32)), .int (i3 + (1 : Int32)), .null]) am_q46 rfl rfl H
      · replace H := H.2 hq
        refine ev_p (pc' := 42) (loc' := [.ref 71, .int i1, .int i2, .int i3, .int (am_gi h (4 + 1) (Int32.toNatClampNeg i3) &&& 255)]) (st' := [.ref 71]) 1 am_q46 rfl ?_
        refine ev_s (pc' := 45) (loc' := [.ref 71, .int i1, .int i2, .int i3, .int (am_gi h (4 + 1) (Int32.toNatClampNeg i3) &&& 255)]) (st' := [.ref 72]) (h1 := h) am_q46 rfl rfl rfl (am_gf2 (ck71 Ly) (cr71_0 Ly)) ?_
        refine ev_p (pc' := 46) (loc' := [.ref 71, .int i1, .int i2, .int i3, .int (am_gi h (4 + 1) (Int32.toNatClampNeg i3) &&& 255)]) (st' := [.int i2, .ref 72]) 1 am_q46 rfl ?_
        obtain ⟨g4, H⟩ := H
        refine ev_s (pc' := 47) (loc' := [.ref 71, .int i1, .int i2, .int i3, .int (am_gi h (4 + 1) (Int32.toNatClampNeg i3) &&& 255)]) (st' := [.int (am_gi h 72 (Int32.toNatClampNeg i2))]) (h1 := h) am_q46 rfl rfl rfl (am_xx (Or.inl (ck72 Ly)) (am_inl (cn72 Ly) g4)) ?_
        refine ev_p (pc' := 49) (loc' := [.ref 71, .int i1, .int i2, .int i3, .int (am_gi h (4 + 1) (Int32.toNatClampNeg i3) &&& 255)]) (st' := [.int (am_gi h (4 + 1) (Int32.toNatClampNeg i3) &&& 255), .int (am_gi h 72 (Int32.toNatClampNeg i2))]) 1 am_q46 rfl ?_
        refine ev_jc (t := 58) am_q46 rfl rfl (fun hq => ?_) (fun hq => ?_)
        · replace H := H.1 hq
          refine ev_p (pc' := 59) (loc' := [.ref 71, .int i1, .null, .int i3, .null]) (st' := [.ref 71]) 1 am_q46 rfl ?_
          refine ev_s (pc' := 62) (loc' := [.ref 71, .int i1, .null, .int i3, .null]) (st' := [.int (am_gi h 71 8)]) (h1 := h) am_q46 rfl rfl rfl (if_pos (e := none) (ck71 Ly)) ?_
          refine ev_p (pc' := 9) (loc' := [.ref 71, .int i1, .int ((am_gi h 71 8) + (1 : Int32)), .int (i3 + (1 : Int32)), .null]) (st' := []) 6 am_q46 rfl ?_
          exact ev_m (loc' := [.ref 71, .int i1, .int ((am_gi h 71 8) + (1 : Int32)), .int (i3 + (1 : Int32)), .null]) am_q46 rfl rfl H
        · replace H := H.2 hq
          refine ev_p (pc' := 9) (loc' := [.ref 71, .int i1, .int (i2 + (1 : Int32)), .int (i3 + (1 : Int32)), .null]) (st' := []) 8 am_q46 rfl ?_
          exact ev_m (loc' := [.ref 71, .int i1, .int (i2 + (1 : Int32)), .int (i3 + (1 : Int32)), .null]) am_q46 rfl rfl H
/-! 47: X5_scanNumber -/
set_option maxRecDepth 20000 in
set_option maxHeartbeats 2000000 in
theorem wc47 {d : Nat}   {h : AH} {Q : Option Value → AH → Prop} (Ly : LyC h) (H : Ev (d + 1) 47 2 [.ref 71, .int (0 : Int32)] [] h Q) : Cl (d + 1) 47 [.ref 71] h Q := by
  show Ev (d + 1) 47 0 [.ref 71, .null] [] h Q
  refine ev_p (pc' := 2) (loc' := [.ref 71, .int (0 : Int32)]) (st' := []) 2 am_q47 rfl ?_
  exact ev_m (loc' := [.ref 71, .int (0 : Int32)]) am_q47 rfl rfl H
set_option maxRecDepth 20000 in
set_option maxHeartbeats 2000000 in
theorem wc47_2 {d : Nat}  (i1 : Int32) {h : AH} {Q : Option Value → AH → Prop} (Ly : LyC h) (H : ((am_gi h 71 1) ≤ (am_gi h 71 8) → Ev (d + 1) 47 59 [.ref 71, .int i1] [] h Q) ∧ (¬ (am_gi h 71 1) ≤ (am_gi h 71 8) → am_in (am_gi h 71 8) 400 ∧ Cl d 50 [.int (am_gi h 72 (Int32.toNatClampNeg (am_gi h 71 8)))] h (fun r3 h2 => ∃ x4, r3 = some (.int x4) ∧ LyC h2 ∧ (x4 = (0 : Int32) → Ev (d + 1) 47 59 [.ref 71, .int i1] [] h2 Q) ∧ (¬ x4 = (0 : Int32) → am_in (am_gi h2 71 8) 400 ∧ ∀ h6, h6 = am_si h2 71 8 ((am_gi h2 71 8) + (1 : Int32)) → Ev (d + 1) 47 2 [.ref 71, .int ((((10 : Int32) * i1) + (am_gi h2 72 (Int32.toNatClampNeg (am_gi h2 71 8)))) - (48 : Int32))] [] h6 Q)))) : Ev (d + 1) 47 2 [.ref 71, .int i1] [] h Q := by
  refine ev_p (pc' := 3) (loc' := [.ref 71, .int i1]) (st' := [.ref 71]) 1 am_q47 rfl ?_
  refine ev_s (pc' := 6) (loc' := [.ref 71, .int i1]) (st' := [.int (am_gi h 71 8)]) (h1 := h) am_q47 rfl rfl rfl (if_pos (e := none) (ck71 Ly)) ?_
  refine ev_p (pc' := 7) (loc' := [.ref 71, .int i1]) (st' := [.ref 71, .int (am_gi h 71 8)]) 1 am_q47 rfl ?_
  refine ev_s (pc' := 10) (loc' := [.ref 71, .int i1]) (st' := [.int (am_gi h 71 1), .int (am_gi h 71 8)]) (h1 := h) am_q47 rfl rfl rfl (if_pos (e := none) (ck71 Ly)) ?_
  refine ev_jc (t := 59) am_q47 rfl rfl (fun hq => ?_) (fun hq => ?_)
  · replace H := H.1 hq
    exact ev_m (loc' := [.ref 71, .int i1]) am_q47 rfl rfl H
  · replace H := H.2 hq
    refine ev_p (pc' := 14) (loc' := [.ref 71, .int i1]) (st' := [.ref 71]) 1 am_q47 rfl ?_
    refine ev_s (pc' := 17) (loc' := [.ref 71, .int i1]) (st' := [.ref 72]) (h1 := h) am_q47 rfl rfl rfl (am_gf2 (ck71 Ly) (cr71_0 Ly)) ?_
    refine ev_p (pc' := 18) (loc' := [.ref 71, .int i1]) (st' := [.ref 71, .ref 72]) 1 am_q47 rfl ?_
    refine ev_s (pc' := 21) (loc' := [.ref 71, .int i1]) (st' := [.int (am_gi h 71 8), .ref 72]) (h1 := h) am_q47 rfl rfl rfl (if_pos (e := none) (ck71 Ly)) ?_
    obtain ⟨g1, H⟩ := H
    refine ev_s (pc' := 22) (loc' := [.ref 71, .int i1]) (st' := [.int (am_gi h 72 (Int32.toNatClampNeg (am_gi h 71 8)))]) (h1 := h) am_q47 rfl rfl rfl (am_xx (Or.inl (ck72 Ly)) (am_inl (cn72 Ly) g1)) ?_
    refine ev_c (vs := [.int (am_gi h 72 (Int32.toNatClampNeg (am_gi h 71 8)))]) (rest := []) 50 am_q47 rfl rfl rfl rfl rfl rfl rfl rfl rfl rfl rfl rfl (Or.inl rfl) (Cl.mono H (Nat.le_refl _) (fun r3 h2 H => ?_))
    obtain ⟨x4, rfl, Ly, H⟩ := H
    refine ev_jz (t := 59) am_q47 rfl rfl (fun hq => ?_) (fun hq => ?_)
    · replace H := H.1 hq
      exact ev_m (loc' := [.ref 71, .int i1]) am_q47 rfl rfl H
    · replace H := H.2 hq
      refine ev_p (pc' := 33) (loc' := [.ref 71, .int i1]) (st' := [.ref 71, .int ((10 : Int32) * i1)]) 4 am_q47 rfl ?_
      refine ev_s (pc' := 36) (loc' := [.ref 71, .int i1]) (st' := [.ref 72, .int ((10 : Int32) * i1)]) (h1 := h2) am_q47 rfl rfl rfl (am_gf2 (ck71 Ly) (cr71_0 Ly)) ?_
      refine ev_p (pc' := 37) (loc' := [.ref 71, .int i1]) (st' := [.ref 71, .ref 72, .int ((10 : Int32) * i1)]) 1 am_q47 rfl ?_
      refine ev_s (pc' := 40) (loc' := [.ref 71, .int i1]) (st' := [.int (am_gi h2 71 8), .ref 72, .int ((10 : Int32) * i1)]) (h1 := h2) am_q47 rfl rfl rfl (if_pos (e := none) (ck71 Ly)) ?_
      obtain ⟨g5, H⟩ := H
      refine ev_s (pc' := 41) (loc' := [.ref 71, .int i1]) (st' := [.int (am_gi h2 72 (Int32.toNatClampNeg (am_gi h2 71 8))), .int ((10 : Int32) * i1)]) (h1 := h2) am_q47 rfl rfl rfl (am_xx (Or.inl (ck72 Ly)) (am_inl (cn72 Ly) g5)) ?_
      refine ev_p (pc' := 48) (loc' := [.ref 71, .int ((((10 : Int32) * i1) + (am_gi h2 72 (Int32.toNatClampNeg (am_gi h2 71 8)))) - (48 : Int32))]) (st' := [.ref 71, .ref 71]) 6 am_q47 rfl ?_
      refine ev_s (pc' := 51) (loc' := [.ref 71, .int ((((10 : Int32) * i1) + (am_gi h2 72 (Int32.toNatClampNeg (am_gi h2 71 8)))) - (48 : Int32))]) (st' := [.int (am_gi h2 71 8), .ref 71]) (h1 := h2) am_q47 rfl rfl rfl (if_pos (e := none) (ck71 Ly)) ?_
      refine ev_p (pc' := 53) (loc' := [.ref 71, .int ((((10 : Int32) * i1) + (am_gi h2 72 (Int32.toNatClampNeg (am_gi h2 71 8)))) - (48 : Int32))]) (st' := [.int ((am_gi h2 71 8) + (1 : Int32)), .ref 71]) 2 am_q47 rfl ?_
      refine ev_s (pc' := 56) (loc' := [.ref 71, .int ((((10 : Int32) * i1) + (am_gi h2 72 (Int32.toNatClampNeg (am_gi h2 71 8)))) - (48 : Int32))]) (st' := []) (h1 := am_si h2 71 8 ((am_gi h2 71 8) + (1 : Int32))) am_q47 rfl rfl rfl (if_pos (e := none) (ck71 Ly)) ?_
      replace H := H _ rfl
      replace Ly : LyC (am_si h2 71 8 ((am_gi h2 71 8) + (1 : Int32))) := Ly.si _ _ _
      generalize am_si h2 71 8 ((am_gi h2 71 8) + (1 : Int32)) = h6 at H Ly ⊢
      refine ev_p (pc' := 2) (loc' := [.ref 71, .int ((((10 : Int32) * i1) + (am_gi h2 72 (Int32.toNatClampNeg (am_gi h2 71 8)))) - (48 : Int32))]) (st' := []) 1 am_q47 rfl ?_
      exact ev_m (loc' := [.ref 71, .int ((((10 : Int32) * i1) + (am_gi h2 72 (Int32.toNatClampNeg (am_gi h2 71 8)))) - (48 : Int32))]) am_q47 rfl rfl H
set_option maxRecDepth 20000 in
set_option maxHeartbeats 2000000 in
theorem wc47_59 {d : Nat}  (i1 : Int32) {h : AH} {Q : Option Value → AH → Prop} (Ly : LyC h) (H : (((am_gi h 71 8) - (am_gi h 71 10)) ≤ (6 : Int32) → ∀ h1, h1 = am_si h 71 9 (2 : Int32) → ∀ h2, h2 = am_si h1 71 11 i1 → Q none h2) ∧ (¬ ((am_gi h 71 8) - (am_gi h 71 10)) ≤ (6 : Int32) → ∀ h3, h3 = am_si h 71 9 (1 : Int32) → ∀ h4, h4 = am_si h3 71 11 i1 → Q none h4)) : Ev (d + 1) 47 59 [.ref 71, .int i1] [] h Q := by
  refine ev_p (pc' := 61) (loc' := [.ref 71, .int i1]) (st' := [.ref 71, .ref 71]) 2 am_q47 rfl ?_
  refine ev_s (pc' := 64) (loc' := [.ref 71, .int i1]) (st' := [.int (am_gi h 71 8), .ref 71]) (h1 := h) am_q47 rfl rfl rfl (if_pos (e := none) (ck71 Ly)) ?_
  refine ev_p (pc' := 65) (loc' := [.ref 71, .int i1]) (st' := [.ref 71, .int (am_gi h 71 8), .ref 71]) 1 am_q47 rfl ?_
  refine ev_s (pc' := 68) (loc' := [.ref 71, .int i1]) (st' := [.int (am_gi h 71 10), .int (am_gi h 71 8), .ref 71]) (h1 := h) am_q47 rfl rfl rfl (if_pos (e := none) (ck71 Ly)) ?_
  refine ev_p (pc' := 71) (loc' := [.ref 71, .int i1]) (st' := [.int (6 : Int32), .int ((am_gi h 71 8) - (am_gi h 71 10)), .ref 71]) 2 am_q47 rfl ?_
  refine ev_jc (t := 78) am_q47 rfl rfl (fun hq => ?_) (fun hq => ?_)
  · replace H := H.1 hq
    refine ev_p (pc' := 79) (loc' := [.ref 71, .int i1]) (st' := [.int (2 : Int32), .ref 71]) 1 am_q47 rfl ?_
    refine ev_s (pc' := 82) (loc' := [.ref 71, .int i1]) (st' := []) (h1 := am_si h 71 9 (2 : Int32)) am_q47 rfl rfl rfl (if_pos (e := none) (ck71 Ly)) ?_
    replace H := H _ rfl
    replace Ly : LyC (am_si h 71 9 (2 : Int32)) := Ly.si _ _ _
    generalize am_si h 71 9 (2 : Int32) = h1 at H Ly ⊢
    refine ev_p (pc' := 84) (loc' := [.ref 71, .int i1]) (st' := [.int i1, .ref 71]) 2 am_q47 rfl ?_
    refine ev_s (pc' := 87) (loc' := [.ref 71, .int i1]) (st' := []) (h1 := am_si h1 71 11 i1) am_q47 rfl rfl rfl (if_pos (e := none) (ck71 Ly)) ?_
    replace H := H _ rfl
    replace Ly : LyC (am_si h1 71 11 i1) := Ly.si _ _ _
    generalize am_si h1 71 11 i1 = h2 at H Ly ⊢
    exact ev_r (v := none) am_q47 rfl rfl rfl rfl H
  · replace H := H.2 hq
    refine ev_p (pc' := 79) (loc' := [.ref 71, .int i1]) (st' := [.int (1 : Int32), .ref 71]) 2 am_q47 rfl ?_
    refine ev_s (pc' := 82) (loc' := [.ref 71, .int i1]) (st' := []) (h1 := am_si h 71 9 (1 : Int32)) am_q47 rfl rfl rfl (if_pos (e := none) (ck71 Ly)) ?_
    replace H := H _ rfl
    replace Ly : LyC (am_si h 71 9 (1 : Int32)) := Ly.si _ _ _
    generalize am_si h 71 9 (1 : Int32) = h3 at H Ly ⊢
    refine ev_p (pc' := 84) (loc' := [.ref 71, .int i1]) (st' := [.int i1, .ref 71]) 2 am_q47 rfl ?_
    refine ev_s (pc' := 87) (loc' := [.ref 71, .int i1]) (st' := []) (h1 := am_si h3 71 11 i1) am_q47 rfl rfl rfl (if_pos (e := none) (ck71 Ly)) ?_
    replace H := H _ rfl
    replace Ly : LyC (am_si h3 71 11 i1) := Ly.si _ _ _
    generalize am_si h3 71 11 i1 = h4 at H Ly ⊢
    exact ev_r (v := none) am_q47 rfl rfl rfl rfl H
/-! 48: X5_isBlank -/
set_option maxRecDepth 20000 in
set_option maxHeartbeats 2000000 in
theorem wc48 {d : Nat}  (i0 : Int32) {h : AH} {Q : Option Value → AH → Prop} (Ly : LyC h) (H : (i0 = (32 : Int32) → Q (some (.int (1 : Int32))) h) ∧ (¬ i0 = (32 : Int32) → ((¬ i0 = (10 : Int32)) → Q (some (.int (0 : Int32))) h) ∧ (¬ (¬ i0 = (10 : Int32)) → Q (some (.int (1 : Int32))) h))) : Cl d 48 [.int i0] h Q := by
  show Ev d 48 0 [.int i0] [] h Q
  refine ev_p (pc' := 3) (loc' := [.int i0]) (st' := [.int (32 : Int32), .int i0]) 2 am_q48 rfl ?_
  refine ev_jc (t := 12) am_q48 rfl rfl (fun hq => ?_) (fun hq => ?_)
  · replace H := H.1 hq
    refine ev_p (pc' := 17) (loc' := [.null]) (st' := [.int (1 : Int32)]) 2 am_q48 rfl ?_
    exact ev_r (v := some (.int (1 : Int32))) am_q48 rfl rfl rfl rfl H
  · replace H := H.2 hq
    refine ev_p (pc' := 9) (loc' := [.int i0]) (st' := [.int (10 : Int32), .int i0]) 2 am_q48 rfl ?_
    refine ev_jc (t := 16) am_q48 rfl rfl (fun hq => ?_) (fun hq => ?_)
    · replace H := H.1 hq
      refine ev_p (pc' := 17) (loc' := [.int i0]) (st' := [.int (0 : Int32)]) 1 am_q48 rfl ?_
      exact ev_r (v := some (.int (0 : Int32))) am_q48 rfl rfl rfl rfl H
    · replace H := H.2 hq
      refine ev_p (pc' := 17) (loc' := [.null]) (st' := [.int (1 : Int32)]) 2 am_q48 rfl ?_
      exact ev_r (v := some (.int (1 : Int32))) am_q48 rfl rfl rfl rfl H
/-! 49: X5_isLetter -/
set_option maxRecDepth 20000 in
set_option maxHeartbeats 2000000 in
theorem wc49 {d : Nat}  (i0 : Int32) {h : AH} {Q : Option Value → AH → Prop} (Ly : LyC h) (H : (i0 < (97 : Int32) → Q (some (.int (0 : Int32))) h) ∧ (¬ i0 < (97 : Int32) → ((122 : Int32) < i0 → Q (some (.int (0 : Int32))) h) ∧ (¬ (122 : Int32) < i0 → Q (some (.int (1 : Int32))) h))) : Cl d 49 [.int i0] h Q := by
  show Ev d 49 0 [.int i0] [] h Q
  refine ev_p (pc' := 3) (loc' := [.int i0]) (st' := [.int (97 : Int32), .int i0]) 2 am_q49 rfl ?_
  refine ev_jc (t := 16) am_q49 rfl rfl (fun hq => ?_) (fun hq => ?_)
  · replace H := H.1 hq
    refine ev_p (pc' := 17) (loc' := [.null]) (st' := [.int (0 : Int32)]) 1 am_q49 rfl ?_
    exact ev_r (v := some (.int (0 : Int32))) am_q49 rfl rfl rfl rfl H
  · replace H := H.2 hq
    refine ev_p (pc' := 9) (loc' := [.int i0]) (st' := [.int (122 : Int32), .int i0]) 2 am_q49 rfl ?_
    refine ev_jc (t := 16) am_q49 rfl rfl (fun hq => ?_) (fun hq => ?_)
    · replace H := H.1 hq
      refine ev_p (pc' := 17) (loc' := [.null]) (st' := [.int (0 : Int32)]) 1 am_q49 rfl ?_
      exact ev_r (v := some (.int (0 : Int32))) am_q49 rfl rfl rfl rfl H
    · replace H := H.2 hq
      refine ev_p (pc' := 17) (loc' := [.int i0]) (st' := [.int (1 : Int32)]) 2 am_q49 rfl ?_
      exact ev_r (v := some (.int (1 : Int32))) am_q49 rfl rfl rfl rfl H
/-! 50: X5_isDigit -/
set_option maxRecDepth 20000 in
set_option maxHeartbeats 2000000 in
theorem wc50 {d : Nat}  (i0 : Int32) {h : AH} {Q : Option Value → AH → Prop} (Ly : LyC h) (H : (i0 < (48 : Int32) → Q (some (.int (0 : Int32))) h) ∧ (¬ i0 < (48 : Int32) → ((57 : Int32) < i0 → Q (some (.int (0 : Int32))) h) ∧ (¬ (57 : Int32) < i0 → Q (some (.int (1 : Int32))) h))) : Cl d 50 [.int i0] h Q := by
  show Ev d 50 0 [.int i0] [] h Q
  refine ev_p (pc' := 3) (loc' := [.int i0]) (st' := [.int (48 : Int32), .int i0]) 2 am_q50 rfl ?_
  refine ev_jc (t := 16) am_q50 rfl rfl (fun hq => ?_) (fun hq => ?_)
  · replace H := H.1 hq
    refine ev_p (pc' := 17) (loc' := [.null]) (st' := [.int (0 : Int32)]) 1 am_q50 rfl ?_
    exact ev_r (v := some (.int (0 : Int32))) am_q50 rfl rfl rfl rfl H
  · replace H := H.2 hq
    refine ev_p (pc' := 9) (loc' := [.int i0]) (st' := [.int (57 : Int32), .int i0]) 2 am_q50 rfl ?_
    refine ev_jc (t := 16) am_q50 rfl rfl (fun hq => ?_) (fun hq => ?_)
    · replace H := H.1 hq
      refine ev_p (pc' := 17) (loc' := [.null]) (st' := [.int (0 : Int32)]) 1 am_q50 rfl ?_
      exact ev_r (v := some (.int (0 : Int32))) am_q50 rfl rfl rfl rfl H
    · replace H := H.2 hq
      refine ev_p (pc' := 17) (loc' := [.int i0]) (st' := [.int (1 : Int32)]) 2 am_q50 rfl ?_
      exact ev_r (v := some (.int (1 : Int32))) am_q50 rfl rfl rfl rfl H
/-! 51: X5_isSign -/
set_option maxRecDepth 20000 in
set_option maxHeartbeats 2000000 in
theorem wc51 {d : Nat}  (i0 : Int32) {h : AH} {Q : Option Value → AH → Prop} (Ly : LyC h) (H : (i0 = (40 : Int32) → Ev d 51 48 [.null] [] h Q) ∧ (¬ i0 = (40 : Int32) → (i0 = (41 : Int32) → Ev d 51 48 [.null] [] h Q) ∧ (¬ i0 = (41 : Int32) → (i0 = (59 : Int32) → Ev d 51 48 [.null] [] h Q) ∧ (¬ i0 = (59 : Int32) → (i0 = (43 : Int32) → Ev d 51 48 [.null] [] h Q) ∧ (¬ i0 = (43 : Int32) → (i0 = (45 : Int32) → Ev d 51 48 [.null] [] h Q) ∧ (¬ i0 = (45 : Int32) → (i0 = (42 : Int32) → Ev d 51 48 [.null] [] h Q) ∧ (¬ i0 = (42 : Int32) → (i0 = (60 : Int32) → Ev d 51 48 [.null] [] h Q) ∧ (¬ i0 = (60 : Int32) → ((¬ i0 = (61 : Int32)) → Q (some (.int (0 : Int32))) h) ∧ (¬ (¬ i0 = (61 : Int32)) → Ev d 51 48 [.null] [] h Q))))))))) : Cl d 51 [.int i0] h Q := by
  show Ev d 51 0 [.int i0] [] h Q
  refine ev_p (pc' := 3) (loc' := [.int i0]) (st' := [.int (40 : Int32), .int i0]) 2 am_q51 rfl ?_
  refine ev_jc (t := 48) am_q51 rfl rfl (fun hq => ?_) (fun hq => ?_)
  · replace H := H.1 hq
    exact ev_m (loc' := [.null]) am_q51 rfl rfl H
  · replace H := H.2 hq
    refine ev_p (pc' := 9) (loc' := [.int i0]) (st' := [.int (41 : Int32), .int i0]) 2 am_q51 rfl ?_
    refine ev_jc (t := 48) am_q51 rfl rfl (fun hq => ?_) (fun hq => ?_)
    · replace H := H.1 hq
      exact ev_m (loc' := [.null]) am_q51 rfl rfl H
    · replace H := H.2 hq
      refine ev_p (pc' := 15) (loc' := [.int i0]) (st' := [.int (59 : Int32), .int i0]) 2 am_q51 rfl ?_
      refine ev_jc (t := 48) am_q51 rfl rfl (fun hq => ?_) (fun hq => ?_)
      · replace H := H.1 hq
        exact ev_m (loc' := [.null]) am_q51 rfl rfl H
      · replace H := H.2 hq
        refine ev_p (pc' := 21) (loc' := [.int i0]) (st' := [.int (43 : Int32), .int i0]) 2 am_q51 rfl ?_
        refine ev_jc (t := 48) am_q51 rfl rfl (fun hq => ?_) (fun hq => ?_)
        · replace H := H.1 hq
          exact ev_m (loc' := [.null]) am_q51 rfl rfl H
        · replace H := H.2 hq
          refine ev_p (pc' := 27) (loc' := [.int i0]) (st' := [.int (45 : Int32), .int i0]) 2 am_q51 rfl ?_
          refine ev_jc (t := 48) am_q51 rfl rfl (fun hq => ?_) (fun hq => ?_)
          · replace H := H.1 hq
            exact ev_m (loc' := [.null]) am_q51 rfl rfl H
          · replace H := H.2 hq
            refine ev_p (pc' := 33) (loc' := [.int i0]) (st' := [.int (42 : Int32), .int i0]) 2 am_q51 rfl ?_
            refine ev_jc (t := 48) am_q51 rfl rfl (fun hq => ?_) (fun hq => ?_)
            · replace H := H.1 hq
              exact ev_m (loc' := [.null]) am_q51 rfl rfl H
            · replace H := H.2 hq
              refine ev_p (pc' := 39) (loc' := [.int i0]) (st' := [.int (60 : Int32), .int i0]) 2 am_q51 rfl ?_
              refine ev_jc (t := 48) am_q51 rfl rfl (fun hq => ?_) (fun hq => ?_)
              · replace H := H.1 hq
                exact ev_m (loc' := [.null]) am_q51 rfl rfl H
              · replace H := H.2 hq
                refine ev_p (pc' := 45) (loc' := [.int i0]) (st' := [.int (61 : Int32), .int i0]) 2 am_q51 rfl ?_
                refine ev_jc (t := 52) am_q51 rfl rfl (fun hq => ?_) (fun hq => ?_)
                · replace H := H.1 hq
                  refine ev_p (pc' := 53) (loc' := [.int i0]) (st' := [.int (0 : Int32)]) 1 am_q51 rfl ?_
                  exact ev_r (v := some (.int (0 : Int32))) am_q51 rfl rfl rfl rfl H
                · replace H := H.2 hq
                  exact ev_m (loc' := [.null]) am_q51 rfl rfl H
set_option maxRecDepth 20000 in
set_option maxHeartbeats 2000000 in
theorem wc51_48 {d : Nat}   {h : AH} {Q : Option Value → AH → Prop} (Ly : LyC h) (H : Q (some (.int (1 : Int32))) h) : Ev d 51 48 [.null] [] h Q := by
  refine ev_p (pc' := 53) (loc' := [.null]) (st' := [.int (1 : Int32)]) 2 am_q51 rfl ?_
  exact ev_r (v := some (.int (1 : Int32))) am_q51 rfl rfl rfl rfl H
/-! 53: X6_has -/
set_option maxRecDepth 20000 in
set_option maxHeartbeats 2000000 in
theorem wc76 {d : Nat} {j0 : Nat} (hj0 : j0 < 12)  {h : AH} {Q : Option Value → AH → Prop} (Ly : LyC h) (H : (am_kd h 72 = 102 ∧ ¬ (am_gi h 71 1) < (0 : Int32) ∧ (Int32.toNatClampNeg (am_gi h 71 1)) ≤ am_ln h 72 ∧ am_ln h 72 ≤ 100000 ∧ (∀ j, j < am_ln h 72 → (-128 : Int32) ≤ am_gi h 72 j ∧ am_gi h 72 j ≤ 127)) ∧ ∀ b2, b2 = am_sz h → ∀ h1, h1 = am_sw (am_nw h 102 (Int32.toNatClampNeg (am_gi h 71 1)) (Int32.toNatClampNeg (am_gi h 71 1))) (am_sz h) (am_gi h 72) → ∀ h4, h4 = am_sr h1 (148 + 4 * j0) 0 (some b2) → ((am_kd h4 73 = 100 ∧ 6 ≤ 73) ∧ ¬ (am_gi h4 71 3) < (0 : Int32) ∧ (Int32.toNatClampNeg (am_gi h4 71 3)) ≤ am_ln h4 73 ∧ am_ln h4 73 ≤ 100000) ∧ ∀ b6, b6 = am_sz h4 → ∀ h5, h5 = am_sw (am_nw h4 100 (Int32.toNatClampNeg (am_gi h4 71 3)) (Int32.toNatClampNeg (am_gi h4 71 3))) (am_sz h4) (am_gi h4 73) → ∀ h8, h8 = am_sr h5 (148 + 4 * j0) 1 (some b6) → ((am_kd h8 74 = 100 ∧ 6 ≤ 74) ∧ (am_kd h8 (151 + 4 * j0) = 100 ∧ 6 ≤ 151 + 4 * j0) ∧ 74 ≠ (151 + 4 * j0) ∧ (0 : Int32) = (0 : Int32) ∧ (0 : Int32) = (0 : Int32) ∧ ¬ (5 : Int32) < (0 : Int32) ∧ (Int32.toNatClampNeg (5 : Int32)) ≤ am_ln h8 74 ∧ (Int32.toNatClampNeg (5 : Int32)) ≤ am_ln h8 (151 + 4 * j0)) ∧ ∀ h9, h9 = am_sw h8 (151 + 4 * j0) (fun j => if j < (Int32.toNatClampNeg (5 : Int32)) then am_gi h8 74 j else am_gi h8 (151 + 4 * j0) j) → Q none h9) : Cl d 76 [.ref (148 + 4 * j0), .ref 71] h Q := by
  show Ev d 76 0 [.ref (148 + 4 * j0), .ref 71] [] h Q
  refine ev_p (pc' := 2) (loc' := [.ref (148 + 4 * j0), .ref 71]) (st' := [.ref 71, .ref (148 + 4 * j0)]) 2 am_q76 rfl ?_
  refine ev_s (pc' := 5) (loc' := [.ref (148 + 4 * j0), .ref 71]) (st' := [.ref 72, .ref (148 + 4 * j0)]) (h1 := h) am_q76 rfl rfl rfl (am_gf2 (ck71 Ly) (cr71_0 Ly)) ?_
  refine ev_p (pc' := 6) (loc' := [.ref (148 + 4 * j0), .ref 71]) (st' := [.ref 71, .ref 72, .ref (148 + 4 * j0)]) 1 am_q76 rfl ?_
  refine ev_s (pc' := 9) (loc' := [.ref (148 + 4 * j0), .ref 71]) (st' := [.int (am_gi h 71 1), .ref 72, .ref (148 + 4 * j0)]) (h1 := h) am_q76 rfl rfl rfl (if_pos (e := none) (ck71 Ly)) ?_
  obtain ⟨g3, H⟩ := H
  refine ev_b (st' := [.ref (am_sz h), .ref (148 + 4 * j0)]) (h1 := am_sw (am_nw h 102 (Int32.toNatClampNeg (am_gi h 71 1)) (Int32.toNatClampNeg (am_gi h 71 1))) (am_sz h) (am_gi h 72)) am_q76 rfl rfl rfl rfl (if_pos (e := none) g3) rfl ?_
  replace H := H _ rfl _ rfl
  replace Ly : LyC (am_sw (am_nw h 102 (Int32.toNatClampNeg (am_gi h 71 1)) (Int32.toNatClampNeg (am_gi h 71 1))) (am_sz h) (am_gi h 72)) := (Ly.nw _ _ _).sw _ _
  generalize am_sw (am_nw h 102 (Int32.toNatClampNeg (am_gi h 71 1)) (Int32.toNatClampNeg (am_gi h 71 1))) (am_sz h) (am_gi h 72) = h1 at H Ly ⊢
  generalize am_sz h = b2 at H ⊢
  refine ev_s (pc' := 15) (loc' := [.ref (148 + 4 * j0), .ref 71]) (st' := []) (h1 := am_sr h1 (148 + 4 * j0) 0 (some b2)) am_q76 rfl rfl rfl (if_pos (e := none) (ck_text Ly hj0)) ?_
  replace H := H _ rfl
  replace Ly : LyC (am_sr h1 (148 + 4 * j0) 0 (some b2)) := Ly.sr_text hj0 (by decide)
  generalize am_sr h1 (148 + 4 * j0) 0 (some b2) = h4 at H Ly ⊢
  refine ev_p (pc' := 17) (loc' := [.ref (148 + 4 * j0), .ref 71]) (st' := [.ref 71, .ref (148 + 4 * j0)]) 2 am_q76 rfl ?_
  refine ev_s (pc' := 20) (loc' := [.ref (148 + 4 * j0), .ref 71]) (st' := [.ref 73, .ref (148 + 4 * j0)]) (h1 := h4) am_q76 rfl rfl rfl (am_gf2 (ck71 Ly) (cr71_2 Ly)) ?_
  refine ev_p (pc' := 21) (loc' := [.ref (148 + 4 * j0), .ref 71]) (st' := [.ref 71, .ref 73, .ref (148 + 4 * j0)]) 1 am_q76 rfl ?_
  refine ev_s (pc' := 24) (loc' := [.ref (148 + 4 * j0), .ref 71]) (st' := [.int (am_gi h4 71 3), .ref 73, .ref (148 + 4 * j0)]) (h1 := h4) am_q76 rfl rfl rfl (if_pos (e := none) (ck71 Ly)) ?_
  obtain ⟨g7, H⟩ := H
  refine ev_b (st' := [.ref (am_sz h4), .ref (148 + 4 * j0)]) (h1 := am_sw (am_nw h4 100 (Int32.toNatClampNeg (am_gi h4 71 3)) (Int32.toNatClampNeg (am_gi h4 71 3))) (am_sz h4) (am_gi h4 73)) am_q76 rfl rfl rfl rfl (if_pos (e := none) g7) rfl ?_
  replace H := H _ rfl _ rfl
  replace Ly : LyC (am_sw (am_nw h4 100 (Int32.toNatClampNeg (am_gi h4 71 3)) (Int32.toNatClampNeg (am_gi h4 71 3))) (am_sz h4) (am_gi h4 73)) := (Ly.nw _ _ _).sw _ _
  generalize am_sw (am_nw h4 100 (Int32.toNatClampNeg (am_gi h4 71 3)) (Int32.toNatClampNeg (am_gi h4 71 3))) (am_sz h4) (am_gi h4 73) = h5 at H Ly ⊢
  generalize am_sz h4 = b6 at H ⊢
  refine ev_s (pc' := 30) (loc' := [.ref (148 + 4 * j0), .ref 71]) (st' := []) (h1 := am_sr h5 (148 + 4 * j0) 1 (some b6)) am_q76 rfl rfl rfl (if_pos (e := none) (ck_text Ly hj0)) ?_
  replace H := H _ rfl
  replace Ly : LyC (am_sr h5 (148 + 4 * j0) 1 (some b6)) := Ly.sr_text hj0 (by decide)
  generalize am_sr h5 (148 + 4 * j0) 1 (some b6) = h8 at H Ly ⊢
  refine ev_p (pc' := 31) (loc' := [.ref (148 + 4 * j0), .ref 71]) (st' := [.ref 71]) 1 am_q76 rfl ?_
  refine ev_s (pc' := 34) (loc' := [.ref (148 + 4 * j0), .ref 71]) (st' := [.ref 74]) (h1 := h8) am_q76 rfl rfl rfl (am_gf2 (ck71 Ly) (cr71_4 Ly)) ?_
  refine ev_p (pc' := 36) (loc' := [.ref (148 + 4 * j0), .ref 71]) (st' := [.ref (148 + 4 * j0), .int (0 : Int32), .ref 74]) 2 am_q76 rfl ?_
  refine ev_s (pc' := 39) (loc' := [.ref (148 + 4 * j0), .ref 71]) (st' := [.ref (151 + 4 * j0), .int (0 : Int32), .ref 74]) (h1 := h8) am_q76 rfl rfl rfl (am_gf2 (ck_text Ly hj0) (cr_starts Ly hj0)) ?_
  refine ev_p (pc' := 41) (loc' := [.ref (148 + 4 * j0), .ref 71]) (st' := [.int (5 : Int32), .int (0 : Int32), .ref (151 + 4 * j0), .int (0 : Int32), .ref 74]) 2 am_q76 rfl ?_
  obtain ⟨g10, H⟩ := H
  refine ev_b (st' := []) (h1 := am_sw h8 (151 + 4 * j0) (fun j => if j < (Int32.toNatClampNeg (5 : Int32)) then am_gi h8 74 j else am_gi h8 (151 + 4 * j0) j)) am_q76 rfl rfl rfl rfl (if_pos (e := none) g10) rfl ?_
  replace H := H _ rfl
  replace Ly : LyC (am_sw h8 (151 + 4 * j0) (fun j => if j < (Int32.toNatClampNeg (5 : Int32)) then am_gi h8 74 j else am_gi h8 (151 + 4 * j0) j)) := Ly.sw _ _
  generalize am_sw h8 (151 + 4 * j0) (fun j => if j < (Int32.toNatClampNeg (5 : Int32)) then am_gi h8 74 j else am_gi h8 (151 + 4 * j0) j) = h9 at H Ly ⊢
  exact ev_r (v := none) am_q76 rfl rfl rfl rfl H
/-! 77: X9_isCarried -/
set_option maxRecDepth 20000 in
set_option maxHeartbeats 2000000 in
theorem wc77 {d : Nat} {j0 : Nat} (hj0 : j0 < 12)  {h : AH} {Q : Option Value → AH → Prop} (Ly : LyC h) (H : ((am_gi h (148 + 4 * j0) 6) = (-1 : Int32) → Q (some (.int (0 : Int32))) h) ∧ (¬ (am_gi h (148 + 4 * j0) 6) = (-1 : Int32) → Q (some (.int (1 : Int32))) h)) : Cl d 77 [.ref (148 + 4 * j0)] h Q := by
  show Ev d 77 0 [.ref (148 + 4 * j0)] [] h Q
  refine ev_p (pc' := 1) (loc' := [.ref (148 + 4 * j0)]) (st' := [.ref (148 + 4 * j0)]) 1 am_q77 rfl ?_
  refine ev_s (pc' := 4) (loc' := [.ref (148 + 4 * j0)]) (st' := [.int (am_gi h (148 + 4 * j0) 6)]) (h1 := h) am_q77 rfl rfl rfl (if_pos (e := none) (ck_text Ly hj0)) ?_
  refine ev_p (pc' := 5) (loc' := [.ref (148 + 4 * j0)]) (st' := [.int (-1 : Int32), .int (am_gi h (148 + 4 * j0) 6)]) 1 am_q77 rfl ?_
  refine ev_jc (t := 12) am_q77 rfl rfl (fun hq => ?_) (fun hq => ?_)
  · replace H := H.1 hq
    refine ev_p (pc' := 13) (loc' := [.ref (148 + 4 * j0)]) (st' := [.int (0 : Int32)]) 1 am_q77 rfl ?_
    exact ev_r (v := some (.int (0 : Int32))) am_q77 rfl rfl rfl rfl H
  · replace H := H.2 hq
    refine ev_p (pc' := 13) (loc' := [.ref (148 + 4 * j0)]) (st' := [.int (1 : Int32)]) 2 am_q77 rfl ?_
    exact ev_r (v := some (.int (1 : Int32))) am_q77 rfl rfl rfl rfl H
/-! 78: X9_isLaw -/
set_option maxRecDepth 20000 in
set_option maxHeartbeats 2000000 in
theorem wc81 {d : Nat} {j0 : Nat} (hj0 : j0 < 12) (i1 : Int32) (i2 : Int32) (i3 : Int32) {h : AH} {Q : Option Value → AH → Prop} (Ly : LyC h) (H : ∀ h1, h1 = am_si h (148 + 4 * j0) 6 i1 → ∀ h2, h2 = am_si h1 (148 + 4 * j0) 7 i2 → ∀ h3, h3 = am_si h2 (148 + 4 * j0) 8 i3 → Q none h3) : Cl d 81 [.ref (148 + 4 * j0), .int i1, .int i2, .int i3] h Q := by
  show Ev d 81 0 [.ref (148 + 4 * j0), .int i1, .int i2, .int i3] [] h Q
  refine ev_p (pc' := 2) (loc' := [.ref (148 + 4 * j0), .int i1, .int i2, .int i3]) (st' := [.int i1, .ref (148 + 4 * j0)]) 2 am_q81 rfl ?_
  refine ev_s (pc' := 5) (loc' := [.ref (148 + 4 * j0), .int i1, .int i2, .int i3]) (st' := []) (h1 := am_si h (148 + 4 * j0) 6 i1) am_q81 rfl rfl rfl (if_pos (e := none) (ck_text Ly hj0)) ?_
  replace H := H _ rfl
  replace Ly : LyC (am_si h (148 + 4 * j0) 6 i1) := Ly.si _ _ _
  generalize am_si h (148 + 4 * j0) 6 i1 = h1 at H Ly ⊢
  refine ev_p (pc' := 7) (loc' := [.ref (148 + 4 * j0), .int i1, .int i2, .int i3]) (st' := [.int i2, .ref (148 + 4 * j0)]) 2 am_q81 rfl ?_
  refine ev_s (pc' := 10) (loc' := [.ref (148 + 4 * j0), .int i1, .int i2, .int i3]) (st' := []) (h1 := am_si h1 (148 + 4 * j0) 7 i2) am_q81 rfl rfl rfl (if_pos (e := none) (ck_text Ly hj0)) ?_
  replace H := H _ rfl
  replace Ly : LyC (am_si h1 (148 + 4 * j0) 7 i2) := Ly.si _ _ _
  generalize am_si h1 (148 + 4 * j0) 7 i2 = h2 at H Ly ⊢
  refine ev_p (pc' := 12) (loc' := [.ref (148 + 4 * j0), .int i1, .int i2, .int i3]) (st' := [.int i3, .ref (148 + 4 * j0)]) 2 am_q81 rfl ?_
  refine ev_s (pc' := 15) (loc' := [.ref (148 + 4 * j0), .int i1, .int i2, .int i3]) (st' := []) (h1 := am_si h2 (148 + 4 * j0) 8 i3) am_q81 rfl rfl rfl (if_pos (e := none) (ck_text Ly hj0)) ?_
  replace H := H _ rfl
  replace Ly : LyC (am_si h2 (148 + 4 * j0) 8 i3) := Ly.si _ _ _
  generalize am_si h2 (148 + 4 * j0) 8 i3 = h3 at H Ly ⊢
  exact ev_r (v := none) am_q81 rfl rfl rfl rfl H
/-! 83: X10_holdNothing -/
