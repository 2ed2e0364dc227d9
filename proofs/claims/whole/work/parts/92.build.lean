/-! BUILDING 3: the class's homes, members, texts and trays -/
/-- the families that stand: homes, members, texts, trays laid so far -/
def fB (i j t y : Nat) (a k : Nat) : Prop := f85 a k ∨ (a = 7 ∧ k < i) ∨ (a = 8 ∧ k < j) ∨ (a = 78 ∧ k < t) ∨ (148 ≤ a ∧ a < 148 + 4 * t ∧ (a - 148) % 4 = 0 ∧ k = 2) ∨ (a = 111 ∧ k < y) ∨ (196 ≤ a ∧ a < 196 + 3 * y ∧ (a - 196) % 3 = 0 ∧ k = 4)
def sB (j t : Nat) (a k : Nat) : Prop := siA a k ∨ (124 ≤ a ∧ a < 124 + j ∧ (k = 2 ∨ k = 3)) ∨ (148 ≤ a ∧ a < 148 + 4 * t ∧ (a - 148) % 4 = 0 ∧ 6 ≤ k ∧ k ≤ 8)
theorem kfH : ∀ i, i < 12 → kdF (112 + i) = 2 ∧ lnF (112 + i) = 0 := by decide +kernel
theorem kfM : ∀ i, i < 24 → kdF (124 + i) = 3 ∧ lnF (124 + i) = 0 := by decide +kernel
theorem kfT : ∀ i, i < 12 → kdF (148 + 4 * i) = 9 ∧ lnF (148 + 4 * i) = 0 ∧ (kdF (148 + 4 * i + 1) = 102 ∧ lnF (148 + 4 * i + 1) = 0) ∧ (kdF (148 + 4 * i + 2) = 100 ∧ lnF (148 + 4 * i + 2) = 0) ∧ kdF (148 + 4 * i + 3) = 100 ∧ lnF (148 + 4 * i + 3) = 5 := by decide +kernel
theorem kfY : ∀ i, i < 6 → kdF (196 + 3 * i) = 10 ∧ lnF (196 + 3 * i) = 0 ∧ (kdF (196 + 3 * i + 1) = 102 ∧ lnF (196 + 3 * i + 1) = 0) ∧ kdF (196 + 3 * i + 2) = 101 ∧ lnF (196 + 3 * i + 2) = 24 := by decide +kernel
theorem kf6 : kdF 6 = 11 ∧ (kdF 7 = 104 ∧ lnF 7 = 12) ∧ (kdF 8 = 105 ∧ lnF 8 = 24) ∧ (kdF 78 = 107 ∧ lnF 78 = 12) ∧ (kdF 111 = 108 ∧ lnF 111 = 6) := by decide +kernel
theorem rfS : (rfF 6 1 = some 7 ∧ rfF 6 3 = some 8 ∧ rfF 6 8 = some 78 ∧ rfF 6 17 = some 111 ∧ rfF 6 6 = some 71) ∧ (∀ i, i < 12 → rfF (148 + 4 * i) 2 = some (148 + 4 * i + 3) ∧ rfF (148 + 4 * i) 0 = some (148 + 4 * i + 1) ∧ rfF (148 + 4 * i) 1 = some (148 + 4 * i + 2)) ∧ ∀ i, i < 6 → rfF (196 + 3 * i) 3 = some (196 + 3 * i + 1) ∧ rfF (196 + 3 * i) 4 = some (196 + 3 * i + 2) := by decide +kernel
theorem tA_m : (6, 1) ∈ tA ∧ (6, 3) ∈ tA ∧ (6, 8) ∈ tA ∧ (6, 17) ∈ tA ∧ (6, 6) ∈ tA := by decide +kernel
theorem lH {L : Nat} {xs : Nat → Int32} {d : Nat} {Q : Option Value → AH → Prop} (K : ∀ h, BI L xs 124 2240 (stL tA (fB 12 0 0 0)) (sB 0 0) h → Ev (d + 1) 96 148 [.ref 6, .int 0] [] h Q) : ∀ m i h, i + m = 12 → BI L xs (112 + i) (2180 + 5 * i) (stL tA (fB i 0 0 0)) (sB 0 0) h → Ev (d + 1) 96 121 [.ref 6, .int (zI i)] [] h Q
  | 0, i, h, e, B => by
    have ei : i = 12 := by omega
    subst ei
    exact wp96_121 _ _ ⟨fun _ => K h B, fun z => absurd (by decide) z⟩
  | m + 1, i, h, e, B => by
    refine wp96_121 _ _ ⟨fun z => absurd ((zI_le (m := 12) (by decide) (by omega)).mp z) (by omega), fun _ => ?_⟩
    refine ⟨B.kd (by omega) kf6.1, 7, B.gr (Or.inl tA_m.1) rfS.1.1, fun b5 e5 h4 e4 => ?_⟩
    rw [B.sz] at e5
    have B4 : BI L xs (112 + i + 1) (2180 + 5 * i + 5) (stL tA (fB i 0 0 0)) (sB 0 0) h4 := by rw [e4]; exact B.nw (by omega) (Or.inr (Or.inr (kfH i (by omega))))
    rw [e5]
    have k7 : am_kd h4 7 = 104 := B4.kd (by omega) kf6.2.1.1
    have kb : am_kd h4 (112 + i) = 2 := B4.kd (by omega) (kfH i (by omega)).1
    refine ⟨kb, wp17 _ ⟨rfl, ⟨by omega, by omega, by rw [k7, kb]; rfl⟩, in_l (n := 12) (B4.ln (by omega) kf6.2.1.2) (by omega) (by decide), fun h11 e11 => ?_⟩⟩
    rw [zI_tn (by omega)] at e11
    rw [zI_succ]
    refine lH K m (i + 1) h11 (by omega) ?_
    rw [e11]
    refine ((B4.sr (a := 7) (k := i) (by omega) rfl).n (by omega) (by omega)).w (fun a k s => ?_) (fun _ _ => Iff.rfl)
    rcases s with s | s
    · exact Or.inl (Or.inl s)
    · by_cases y : a = 7 ∧ k = i
      · exact Or.inr y
      · refine Or.inl (Or.inr ?_)
        unfold fB at s ⊢
        rcases s with s | s
        · exact Or.inl s
        · exact Or.inr (by omega)
theorem lM {L : Nat} {xs : Nat → Int32} {d : Nat} {Q : Option Value → AH → Prop} (K : ∀ h, BI L xs 148 2384 (stL tA (fB 12 24 0 0)) (sB 24 0) h → Ev (d + 1) 96 175 [.ref 6, .int 0] [] h Q) : ∀ m i h, i + m = 24 → BI L xs (124 + i) (2240 + 6 * i) (stL tA (fB 12 i 0 0)) (sB i 0) h → Ev (d + 1) 96 148 [.ref 6, .int (zI i)] [] h Q
  | 0, i, h, e, B => by
    have ei : i = 24 := by omega
    subst ei
    exact wp96_148 _ _ ⟨fun _ => K h B, fun z => absurd (by decide) z⟩
  | m + 1, i, h, e, B => by
    refine wp96_148 _ _ ⟨fun z => absurd ((zI_le (m := 24) (by decide) (by omega)).mp z) (by omega), fun _ => ?_⟩
    refine ⟨B.kd (by omega) kf6.1, 8, B.gr (Or.inl tA_m.2.1) rfS.1.2.1, fun b5 e5 h4 e4 => ?_⟩
    rw [B.sz] at e5
    have B4 : BI L xs (124 + i + 1) (2240 + 6 * i + 6) (stL tA (fB 12 i 0 0)) (sB i 0) h4 := by rw [e4]; exact B.nw (by omega) (Or.inr (Or.inr (kfM i (by omega))))
    rw [e5]
    have kb : am_kd h4 (124 + i) = 3 := B4.kd (by omega) (kfM i (by omega)).1
    have k8 : am_kd h4 8 = 105 := B4.kd (by omega) kf6.2.2.1.1
    have iv : ∀ k, iV (124 + i) k = -1 := fun k => by unfold iV; rw [if_neg (by omega), if_neg (by omega)]
    refine ⟨kb, wp19 _ ⟨kb, fun h3 e3 => ⟨by rw [e3]; exact kb, fun h5 e5' => ⟨rfl, ?_⟩⟩⟩⟩
    have B5 := (B4.si (a := 124 + i) (k := 2) (by omega) (by omega) (iv 2)).si (a := 124 + i) (k := 3) (by omega) (by omega) (iv 3)
    rw [← e3, ← e5'] at B5
    have kd5 : am_kd h5 = am_kd h4 := by rw [e5', e3]; rfl
    have ln5 : am_ln h5 = am_ln h4 := by rw [e5', e3]; rfl
    refine ⟨⟨by rw [kd5]; omega, by rw [kd5]; omega, by rw [kd5, k8, kb]; rfl⟩, in_l (n := 24) (by rw [ln5]; exact B4.ln (by omega) kf6.2.2.1.2) (by omega) (by decide), fun h11 e11 => ?_⟩
    rw [zI_tn (by omega)] at e11
    rw [zI_succ]
    refine lM K m (i + 1) h11 (by omega) ?_
    rw [e11]
    refine ((B5.sr (a := 8) (k := i) (by omega) rfl).n (by omega) (by omega)).w (fun a k s => ?_) (fun a k => ?_)
    · rcases s with s | s
      · exact Or.inl (Or.inl s)
      · by_cases y : a = 8 ∧ k = i
        · exact Or.inr y
        · refine Or.inl (Or.inr ?_)
          unfold fB at s ⊢
          rcases s with s | s
          · exact Or.inl s
          · exact Or.inr (by omega)
    · unfold sB siA; omega
theorem lT {L : Nat} {xs : Nat → Int32} {d : Nat} {Q : Option Value → AH → Prop} (K : ∀ h, BI L xs 196 2552 (stL tA (fB 12 24 12 0)) (sB 24 12) h → Ev (d + 1) 96 202 [.ref 6, .int 0] [] h Q) : ∀ m i h, i + m = 12 → BI L xs (148 + 4 * i) (2384 + 14 * i) (stL tA (fB 12 24 i 0)) (sB 24 i) h → Ev (d + 1) 96 175 [.ref 6, .int (zI i)] [] h Q
  | 0, i, h, e, B => by
    have ei : i = 12 := by omega
    subst ei
    exact wp96_175 _ _ ⟨fun _ => K h B, fun z => absurd (by decide) z⟩
  | m + 1, i, h, e, B => by
    refine wp96_175 _ _ ⟨fun z => absurd ((zI_le (m := 12) (by decide) (by omega)).mp z) (by omega), fun _ => ?_⟩
    obtain ⟨t1, t2, t3, t4, t5, t6⟩ := kfT i (by omega)
    obtain ⟨q2, q0, q1⟩ := rfS.2.1 i (by omega)
    refine ⟨B.kd (by omega) kf6.1, 78, B.gr (Or.inl tA_m.2.2.1) rfS.1.2.2.1, fun b5 e5 h4 e4 => ?_⟩
    rw [B.sz] at e5
    have B4 : BI L xs (148 + 4 * i + 1) (2384 + 14 * i + 9) (stL tA (fB 12 24 i 0)) (sB 24 i) h4 := by rw [e4]; exact B.nw (by omega) (Or.inr (Or.inr ⟨t1, t2⟩))
    subst e5
    have iv : ∀ k, iV (148 + 4 * i) k = -1 := fun k => by unfold iV; rw [if_neg (by omega), if_neg (by omega)]
    refine ⟨B4.kd (by omega) t1, wp75 _ ⟨⟨by decide, by decide⟩, fun b6 e6 h5 e5 => ?_⟩⟩
    rw [B4.sz] at e6
    have B5 : BI L xs (148 + 4 * i + 2) (2384 + 14 * i + 9) (stL tA (fB 12 24 i 0)) (sB 24 i) h5 := by rw [e5]; exact (B4.nw (k := 102) (n := 0) (w := 0) (by omega) (Or.inr (Or.inr t3))).n rfl rfl
    refine ⟨B5.kd (by omega) t1, fun h6 e6' => ⟨⟨by decide, by decide⟩, fun b7 e7 h7 e7' => ?_⟩⟩
    subst e6
    have B6 := B5.sr (a := 148 + 4 * i) (k := 0) (by omega) q0
    rw [← e6'] at B6
    rw [B6.sz] at e7
    have B7 : BI L xs (148 + 4 * i + 3) (2384 + 14 * i + 9) (fun x y => stL tA (fB 12 24 i 0) x y ∨ (x = 148 + 4 * i ∧ y = 0)) (sB 24 i) h7 := by rw [e7']; exact (B6.nw (k := 100) (n := 0) (w := 0) (by omega) (Or.inr (Or.inr t4))).n rfl rfl
    refine ⟨B7.kd (by omega) t1, fun h8 e8 => ⟨⟨by decide, by decide⟩, fun b9 e9 h9 e9' => ?_⟩⟩
    subst e7
    have B8 := B7.sr (a := 148 + 4 * i) (k := 1) (by omega) q1
    rw [← e8] at B8
    rw [B8.sz] at e9
    have B9 : BI L xs (148 + 4 * i + 4) (2384 + 14 * i + 14) (fun x y => (stL tA (fB 12 24 i 0) x y ∨ (x = 148 + 4 * i ∧ y = 0)) ∨ (x = 148 + 4 * i ∧ y = 1)) (sB 24 i) h9 := by rw [e9']; exact (B8.nw (k := 100) (n := 5) (w := 5) (by omega) (Or.inr (Or.inr ⟨t5, t6⟩))).n rfl rfl
    refine ⟨B9.kd (by omega) t1, fun h10 e10 => ?_⟩
    subst e9
    have B10 := B9.sr (a := 148 + 4 * i) (k := 2) (by omega) q2
    rw [← e10] at B10
    refine ⟨B10.kd (by omega) t1, fun h11 e11 => ?_⟩
    have B11 := B10.si (a := 148 + 4 * i) (k := 6) (by omega) (by omega) (iv 6)
    rw [← e11] at B11
    refine ⟨B11.kd (by omega) t1, fun h12 e12 => ?_⟩
    have B12 := B11.si (a := 148 + 4 * i) (k := 7) (by omega) (by omega) (iv 7)
    rw [← e12] at B12
    refine ⟨B12.kd (by omega) t1, fun h13 e13 => ⟨rfl, ?_⟩⟩
    have B13 := B12.si (a := 148 + 4 * i) (k := 8) (by omega) (by omega) (iv 8)
    rw [← e13] at B13
    have k78 : am_kd h13 78 = 107 := B13.kd (by omega) kf6.2.2.2.1.1
    have kb : am_kd h13 (148 + 4 * i) = 9 := B13.kd (by omega) t1
    refine ⟨⟨by omega, by omega, by rw [k78, kb]; rfl⟩, in_l (n := 12) (B13.ln (by omega) kf6.2.2.2.1.2) (by omega) (by decide), fun h14 e14 => ?_⟩
    rw [zI_tn (by omega)] at e14
    rw [zI_succ]
    refine lT K m (i + 1) h14 (by omega) ?_
    rw [e14]
    refine ((B13.sr (a := 78) (k := i) (by omega) rfl).n (by omega) (by omega)).w (fun a k s => ?_) (fun a k => ?_)
    · rcases s with s | s
      · exact Or.inl (Or.inl (Or.inl (Or.inl (Or.inl s))))
      · by_cases y : a = 78 ∧ k = i
        · exact Or.inr y
        · refine Or.inl ?_
          by_cases w : a = 148 + 4 * i ∧ k = 2
          · exact Or.inr w
          · refine Or.inl (Or.inl (Or.inl (Or.inr ?_)))
            unfold fB at s ⊢
            rcases s with s | s
            · exact Or.inl s
            · exact Or.inr (by omega)
    · unfold sB siA; omega
theorem lY {L : Nat} {xs : Nat → Int32} {d : Nat} {Q : Option Value → AH → Prop} (K : ∀ h, BI L xs 214 2744 (stL tA (fB 12 24 12 6)) (sB 24 12) h → Ev (d + 1) 96 229 [.ref 6, .int 0] [] h Q) : ∀ m i h, i + m = 6 → BI L xs (196 + 3 * i) (2552 + 32 * i) (stL tA (fB 12 24 12 i)) (sB 24 12) h → Ev (d + 1) 96 202 [.ref 6, .int (zI i)] [] h Q
  | 0, i, h, e, B => by
    have ei : i = 6 := by omega
    subst ei
    exact wp96_202 _ _ ⟨fun _ => K h B, fun z => absurd (by decide) z⟩
  | m + 1, i, h, e, B => by
    refine wp96_202 _ _ ⟨fun z => absurd ((zI_le (m := 6) (by decide) (by omega)).mp z) (by omega), fun _ => ?_⟩
    obtain ⟨t1, t2, t3, t5, t6⟩ := kfY i (by omega)
    obtain ⟨q3, q4⟩ := rfS.2.2 i (by omega)
    refine ⟨B.kd (by omega) kf6.1, 111, B.gr (Or.inl tA_m.2.2.2.1) rfS.1.2.2.2.1, fun b5 e5 h4 e4 => ?_⟩
    rw [B.sz] at e5
    have B4 : BI L xs (196 + 3 * i + 1) (2552 + 32 * i + 8) (stL tA (fB 12 24 12 i)) (sB 24 12) h4 := by rw [e4]; exact B.nw (by omega) (Or.inr (Or.inr ⟨t1, t2⟩))
    subst e5
    refine ⟨B4.kd (by omega) t1, wp82 _ ⟨⟨by decide, by decide⟩, fun b6 e6 h5 e5 => ?_⟩⟩
    rw [B4.sz] at e6
    have B5 : BI L xs (196 + 3 * i + 2) (2552 + 32 * i + 8) (stL tA (fB 12 24 12 i)) (sB 24 12) h5 := by rw [e5]; exact (B4.nw (k := 102) (n := 0) (w := 0) (by omega) (Or.inr (Or.inr t3))).n rfl rfl
    refine ⟨B5.kd (by omega) t1, fun h6 e6' => ⟨⟨by decide, by decide⟩, fun b7 e7 h7 e7' => ?_⟩⟩
    subst e6
    have B6 := B5.sr (a := 196 + 3 * i) (k := 3) (by omega) q3
    rw [← e6'] at B6
    rw [B6.sz] at e7
    have B7 : BI L xs (196 + 3 * i + 3) (2552 + 32 * i + 32) (fun x y => stL tA (fB 12 24 12 i) x y ∨ (x = 196 + 3 * i ∧ y = 3)) (sB 24 12) h7 := by rw [e7']; exact (B6.nw (k := 101) (n := 24) (w := 24) (by omega) (Or.inr (Or.inr ⟨t5, t6⟩))).n rfl rfl
    refine ⟨B7.kd (by omega) t1, fun h8 e8 => ⟨rfl, ?_⟩⟩
    subst e7
    have B8 := B7.sr (a := 196 + 3 * i) (k := 4) (by omega) q4
    rw [← e8] at B8
    have k111 : am_kd h8 111 = 108 := B8.kd (by omega) kf6.2.2.2.2.1
    have kb : am_kd h8 (196 + 3 * i) = 10 := B8.kd (by omega) t1
    refine ⟨⟨by omega, by omega, by rw [k111, kb]; rfl⟩, in_l (n := 6) (B8.ln (by omega) kf6.2.2.2.2.2) (by omega) (by decide), fun h14 e14 => ?_⟩
    rw [zI_tn (by omega)] at e14
    rw [zI_succ]
    refine lY K m (i + 1) h14 (by omega) ?_
    rw [e14]
    refine ((B8.sr (a := 111) (k := i) (by omega) rfl).n (by omega) (by omega)).w (fun a k s => ?_) (fun _ _ => Iff.rfl)
    rcases s with s | s
    · exact Or.inl (Or.inl (Or.inl (Or.inl s)))
    · by_cases y : a = 111 ∧ k = i
      · exact Or.inr y
      · refine Or.inl ?_
        by_cases w : a = 196 + 3 * i ∧ k = 4
        · exact Or.inr w
        · refine Or.inl (Or.inl (Or.inr ?_))
          unfold fB at s ⊢
          rcases s with s | s
          · exact Or.inl s
          · exact Or.inr (by omega)
/-- the class's cells are all laid -/
theorem b96b {L : Nat} {xs : Nat → Int32} {h : AH} (B : BI L xs 7 19 (stL [] fNo) fNo h) {Q : Option Value → AH → Prop} {d : Nat} (hd : 2 ≤ d) (K : ∀ h', BI L xs 214 2744 (stL tA (fB 12 24 12 6)) (sB 24 12) h' → Ev (d + 1) 96 229 [.ref 6, .int 0] [] h' Q) : Cl (d + 1) 96 [.ref 6] h Q :=
  b96a B hd (fun h1 B1 => lH (fun h2 B2 => lM (fun h3 B3 => lT (fun h4 B4 => lY K 6 0 h4 (by decide) B4) 12 0 h3 (by decide) B3) 24 0 h2 (by decide) B2) 12 0 h1 (by decide) (B1.w (fun a k s => s.imp id (fun y => by unfold fB at y; unfold f85; unfold f85 at y; omega)) (fun a k => by unfold sB siA; omega)))
