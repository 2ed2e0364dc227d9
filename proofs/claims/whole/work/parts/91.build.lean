/-! BUILDING 2: the class's cells -/
theorem BI.rows {L : Nat} {xs : Nat → Int32} {N : Nat} {St Si : Nat → Nat → Prop} {h : AH} (B : BI L xs 86 N St Si h) : ∀ n, n ≤ 13 → BI L xs (86 + n) (N + 13 * n) St Si (am_rows h 13 n)
  | 0, _ => B
  | n + 1, hn => by
    have kf : ∀ i, i < 13 → kdF (86 + i) = 101 ∧ lnF (86 + i) = 13 := by decide +kernel
    exact (((BI.rows B n (by omega)).nw (k := 101) (n := 13) (w := 13) (by omega) (Or.inr (Or.inr (kf n (by omega))))).n rfl (by omega))
theorem BI.mna {L : Nat} {xs : Nat → Int32} {N : Nat} {T : List (Nat × Nat)} {F Si : Nat → Nat → Prop} {h : AH} (B : BI L xs 85 N (stL T F) Si h) : BI L xs 99 (N + 182) (stL T (fun a k => F a k ∨ (a = 85 ∧ k < 13))) Si (am_mna h 13 13) := by
  have B1 : BI L xs 86 (N + 13) (stL T F) Si (am_nw h 109 13 13) := B.nw (by omega) (Or.inr (Or.inr ⟨by decide +kernel, by decide +kernel⟩))
  have R := (BI.rows B1 13 (Nat.le_refl _)).n (z' := 99) (N' := N + 182) rfl (by omega)
  refine ⟨R.1, R.2.1, R.2.2.1, fun a k s => ?_, R.2.2.2.2.1, R.2.2.2.2.2⟩
  show a < 99 ∧ (if a = am_sz h then (if k < 13 then some (am_sz h + 1 + k) else none) else am_gr (am_rows (am_nw h 109 13 13) 13 13) a k) = rfF a k
  rw [B.sz]
  have s' : stL T F a k ∨ (a = 85 ∧ k < 13) := by
    rcases s with s | s | s
    · exact Or.inl (Or.inl s)
    · exact Or.inl (Or.inr s)
    · exact Or.inr s
  by_cases y : a = 85
  · subst y
    have hk : k < 13 := s'.elim (fun w => by have := (B.2.2.2.1 _ _ w).1; omega) (fun w => w.2)
    rw [if_pos rfl, if_pos hk]
    exact ⟨by omega, rfl⟩
  · rw [if_neg y]
    exact R.2.2.2.1 a k (s'.resolve_right (fun w => y w.1))
theorem bEx {L : Nat} {xs : Nat → Int32} {N : Nat} {T : List (Nat × Nat)} {F Si : Nat → Nat → Prop} {h : AH} (B : BI L xs 81 N (stL T F) Si h) : Cl 0 0 [.ref 80] h (fun r h' => r = none ∧ BI L xs 105 (N + 323) (stL ((80, 10) :: (80, 9) :: (80, 8) :: (80, 7) :: (80, 6) :: (80, 5) :: (80, 4) :: (80, 3) :: (80, 2) :: (80, 1) :: (80, 0) :: T) (fun a k => F a k ∨ (a = 85 ∧ k < 13))) Si h') := by
  refine wp0 _ ⟨⟨by decide, by decide⟩, fun b0 e0 h0 g0 => ?_⟩
  rw [B.sz] at e0
  have C0 : BI L xs 82 (N + 24) (stL (T) (F)) Si h0 := by rw [g0]; exact (B.nw (by omega) (Or.inr (Or.inr ⟨by decide +kernel, by decide +kernel⟩))).n rfl (by show _ + 24 = _; omega)
  refine ⟨C0.kd (by omega) (by decide +kernel), fun k0 f0 => ?_⟩
  have D0 : BI L xs 82 (N + 24) (stL ((80, 0) :: T) (F)) Si k0 := by rw [f0, e0]; exact C0.srL (by omega) (by decide +kernel)
  refine ⟨⟨by decide, by decide⟩, fun b1 e1 h1 g1 => ?_⟩
  rw [D0.sz] at e1
  have C1 : BI L xs 83 (N + 37) (stL ((80, 0) :: T) (F)) Si h1 := by rw [g1]; exact (D0.nw (by omega) (Or.inr (Or.inr ⟨by decide +kernel, by decide +kernel⟩))).n rfl (by show _ + 13 = _; omega)
  refine ⟨C1.kd (by omega) (by decide +kernel), fun k1 f1 => ?_⟩
  have D1 : BI L xs 83 (N + 37) (stL ((80, 1) :: (80, 0) :: T) (F)) Si k1 := by rw [f1, e1]; exact C1.srL (by omega) (by decide +kernel)
  refine ⟨⟨by decide, by decide⟩, fun b2 e2 h2 g2 => ?_⟩
  rw [D1.sz] at e2
  have C2 : BI L xs 84 (N + 50) (stL ((80, 1) :: (80, 0) :: T) (F)) Si h2 := by rw [g2]; exact (D1.nw (by omega) (Or.inr (Or.inr ⟨by decide +kernel, by decide +kernel⟩))).n rfl (by show _ + 13 = _; omega)
  refine ⟨C2.kd (by omega) (by decide +kernel), fun k2 f2 => ?_⟩
  have D2 : BI L xs 84 (N + 50) (stL ((80, 2) :: (80, 1) :: (80, 0) :: T) (F)) Si k2 := by rw [f2, e2]; exact C2.srL (by omega) (by decide +kernel)
  refine ⟨⟨by decide, by decide⟩, fun b3 e3 h3 g3 => ?_⟩
  rw [D2.sz] at e3
  have C3 : BI L xs 85 (N + 63) (stL ((80, 2) :: (80, 1) :: (80, 0) :: T) (F)) Si h3 := by rw [g3]; exact (D2.nw (by omega) (Or.inr (Or.inr ⟨by decide +kernel, by decide +kernel⟩))).n rfl (by show _ + 13 = _; omega)
  refine ⟨C3.kd (by omega) (by decide +kernel), fun k3 f3 => ?_⟩
  have D3 : BI L xs 85 (N + 63) (stL ((80, 3) :: (80, 2) :: (80, 1) :: (80, 0) :: T) (F)) Si k3 := by rw [f3, e3]; exact C3.srL (by omega) (by decide +kernel)
  refine ⟨⟨⟨by decide, by decide⟩, ⟨by decide, by decide⟩⟩, fun b4 e4 h4 g4 => ?_⟩
  rw [D3.sz] at e4
  have C4 : BI L xs 99 (N + 245) (stL ((80, 3) :: (80, 2) :: (80, 1) :: (80, 0) :: T) (fun a k => F a k ∨ (a = 85 ∧ k < 13))) Si h4 := by rw [g4]; exact D3.mna.n rfl (by omega)
  refine ⟨C4.kd (by omega) (by decide +kernel), fun k4 f4 => ?_⟩
  have D4 : BI L xs 99 (N + 245) (stL ((80, 4) :: (80, 3) :: (80, 2) :: (80, 1) :: (80, 0) :: T) (fun a k => F a k ∨ (a = 85 ∧ k < 13))) Si k4 := by rw [f4, e4]; exact C4.srL (by omega) (by decide +kernel)
  refine ⟨⟨by decide, by decide⟩, fun b5 e5 h5 g5 => ?_⟩
  rw [D4.sz] at e5
  have C5 : BI L xs 100 (N + 258) (stL ((80, 4) :: (80, 3) :: (80, 2) :: (80, 1) :: (80, 0) :: T) (fun a k => F a k ∨ (a = 85 ∧ k < 13))) Si h5 := by rw [g5]; exact (D4.nw (by omega) (Or.inr (Or.inr ⟨by decide +kernel, by decide +kernel⟩))).n rfl (by show _ + 13 = _; omega)
  refine ⟨C5.kd (by omega) (by decide +kernel), fun k5 f5 => ?_⟩
  have D5 : BI L xs 100 (N + 258) (stL ((80, 5) :: (80, 4) :: (80, 3) :: (80, 2) :: (80, 1) :: (80, 0) :: T) (fun a k => F a k ∨ (a = 85 ∧ k < 13))) Si k5 := by rw [f5, e5]; exact C5.srL (by omega) (by decide +kernel)
  refine ⟨⟨by decide, by decide⟩, fun b6 e6 h6 g6 => ?_⟩
  rw [D5.sz] at e6
  have C6 : BI L xs 101 (N + 271) (stL ((80, 5) :: (80, 4) :: (80, 3) :: (80, 2) :: (80, 1) :: (80, 0) :: T) (fun a k => F a k ∨ (a = 85 ∧ k < 13))) Si h6 := by rw [g6]; exact (D5.nw (by omega) (Or.inr (Or.inr ⟨by decide +kernel, by decide +kernel⟩))).n rfl (by show _ + 13 = _; omega)
  refine ⟨C6.kd (by omega) (by decide +kernel), fun k6 f6 => ?_⟩
  have D6 : BI L xs 101 (N + 271) (stL ((80, 6) :: (80, 5) :: (80, 4) :: (80, 3) :: (80, 2) :: (80, 1) :: (80, 0) :: T) (fun a k => F a k ∨ (a = 85 ∧ k < 13))) Si k6 := by rw [f6, e6]; exact C6.srL (by omega) (by decide +kernel)
  refine ⟨⟨by decide, by decide⟩, fun b7 e7 h7 g7 => ?_⟩
  rw [D6.sz] at e7
  have C7 : BI L xs 102 (N + 284) (stL ((80, 6) :: (80, 5) :: (80, 4) :: (80, 3) :: (80, 2) :: (80, 1) :: (80, 0) :: T) (fun a k => F a k ∨ (a = 85 ∧ k < 13))) Si h7 := by rw [g7]; exact (D6.nw (by omega) (Or.inr (Or.inr ⟨by decide +kernel, by decide +kernel⟩))).n rfl (by show _ + 13 = _; omega)
  refine ⟨C7.kd (by omega) (by decide +kernel), fun k7 f7 => ?_⟩
  have D7 : BI L xs 102 (N + 284) (stL ((80, 7) :: (80, 6) :: (80, 5) :: (80, 4) :: (80, 3) :: (80, 2) :: (80, 1) :: (80, 0) :: T) (fun a k => F a k ∨ (a = 85 ∧ k < 13))) Si k7 := by rw [f7, e7]; exact C7.srL (by omega) (by decide +kernel)
  refine ⟨⟨by decide, by decide⟩, fun b8 e8 h8 g8 => ?_⟩
  rw [D7.sz] at e8
  have C8 : BI L xs 103 (N + 297) (stL ((80, 7) :: (80, 6) :: (80, 5) :: (80, 4) :: (80, 3) :: (80, 2) :: (80, 1) :: (80, 0) :: T) (fun a k => F a k ∨ (a = 85 ∧ k < 13))) Si h8 := by rw [g8]; exact (D7.nw (by omega) (Or.inr (Or.inr ⟨by decide +kernel, by decide +kernel⟩))).n rfl (by show _ + 13 = _; omega)
  refine ⟨C8.kd (by omega) (by decide +kernel), fun k8 f8 => ?_⟩
  have D8 : BI L xs 103 (N + 297) (stL ((80, 8) :: (80, 7) :: (80, 6) :: (80, 5) :: (80, 4) :: (80, 3) :: (80, 2) :: (80, 1) :: (80, 0) :: T) (fun a k => F a k ∨ (a = 85 ∧ k < 13))) Si k8 := by rw [f8, e8]; exact C8.srL (by omega) (by decide +kernel)
  refine ⟨⟨by decide, by decide⟩, fun b9 e9 h9 g9 => ?_⟩
  rw [D8.sz] at e9
  have C9 : BI L xs 104 (N + 310) (stL ((80, 8) :: (80, 7) :: (80, 6) :: (80, 5) :: (80, 4) :: (80, 3) :: (80, 2) :: (80, 1) :: (80, 0) :: T) (fun a k => F a k ∨ (a = 85 ∧ k < 13))) Si h9 := by rw [g9]; exact (D8.nw (by omega) (Or.inr (Or.inr ⟨by decide +kernel, by decide +kernel⟩))).n rfl (by show _ + 13 = _; omega)
  refine ⟨C9.kd (by omega) (by decide +kernel), fun k9 f9 => ?_⟩
  have D9 : BI L xs 104 (N + 310) (stL ((80, 9) :: (80, 8) :: (80, 7) :: (80, 6) :: (80, 5) :: (80, 4) :: (80, 3) :: (80, 2) :: (80, 1) :: (80, 0) :: T) (fun a k => F a k ∨ (a = 85 ∧ k < 13))) Si k9 := by rw [f9, e9]; exact C9.srL (by omega) (by decide +kernel)
  refine ⟨⟨by decide, by decide⟩, fun b10 e10 h10 g10 => ?_⟩
  rw [D9.sz] at e10
  have C10 : BI L xs 105 (N + 323) (stL ((80, 9) :: (80, 8) :: (80, 7) :: (80, 6) :: (80, 5) :: (80, 4) :: (80, 3) :: (80, 2) :: (80, 1) :: (80, 0) :: T) (fun a k => F a k ∨ (a = 85 ∧ k < 13))) Si h10 := by rw [g10]; exact (D9.nw (by omega) (Or.inr (Or.inr ⟨by decide +kernel, by decide +kernel⟩))).n rfl (by show _ + 13 = _; omega)
  refine ⟨C10.kd (by omega) (by decide +kernel), fun k10 f10 => ?_⟩
  have D10 : BI L xs 105 (N + 323) (stL ((80, 10) :: (80, 9) :: (80, 8) :: (80, 7) :: (80, 6) :: (80, 5) :: (80, 4) :: (80, 3) :: (80, 2) :: (80, 1) :: (80, 0) :: T) (fun a k => F a k ∨ (a = 85 ∧ k < 13))) Si k10 := by rw [f10, e10]; exact C10.srL (by omega) (by decide +kernel)
  exact ⟨rfl, D10⟩
def siA (a k : Nat) : Prop := a = 6 ∧ k = 12
def f10 (a k : Nat) : Prop := a = 10 ∧ k < 60
def f85 (a k : Nat) : Prop := (a = 10 ∧ k < 60) ∨ (a = 85 ∧ k < 13)
def fNo (_ _ : Nat) : Prop := False
def tA : List (Nat × Nat) := [(6, 17), (6, 16), (109, 0), (6, 15), (105, 3), (105, 2), (105, 0), (6, 14), (80, 10), (80, 9), (80, 8), (80, 7), (80, 6), (80, 5), (80, 4), (80, 3), (80, 2), (80, 1), (80, 0), (6, 13), (6, 8), (6, 7), (75, 1), (75, 0), (6, 6), (71, 4), (71, 2), (71, 0), (6, 5), (9, 0), (6, 3), (6, 1)]
theorem b96a {L : Nat} {xs : Nat → Int32} {h : AH} (B : BI L xs 7 19 (stL [] fNo) fNo h) {Q : Option Value → AH → Prop} {d : Nat} (hd : 2 ≤ d) (K : ∀ h', BI L xs 112 2180 (stL [(6, 17), (6, 16), (109, 0), (6, 15), (105, 3), (105, 2), (105, 0), (6, 14), (80, 10), (80, 9), (80, 8), (80, 7), (80, 6), (80, 5), (80, 4), (80, 3), (80, 2), (80, 1), (80, 0), (6, 13), (6, 8), (6, 7), (75, 1), (75, 0), (6, 6), (71, 4), (71, 2), (71, 0), (6, 5), (9, 0), (6, 3), (6, 1)] f85) siA h' → Ev (d + 1) 96 121 [.ref 6, .int 0] [] h' Q) : Cl (d + 1) 96 [.ref 6] h Q := by
  refine wp96 _ ⟨⟨by decide, by decide⟩, fun b0 e0 h0 g0 => ?_⟩
  rw [B.sz] at e0
  have C0 : BI L xs 8 31 (stL [] fNo) fNo h0 := by rw [g0]; exact (B.nw (by omega) (Or.inr (Or.inr ⟨by decide +kernel, by decide +kernel⟩))).n rfl rfl
  refine ⟨C0.kd (by omega) (by decide +kernel), fun k0 f0 => ?_⟩
  have D0 : BI L xs 8 31 (stL [(6, 1)] fNo) fNo k0 := by rw [f0, e0]; exact C0.srL (by omega) (by decide +kernel)
  clear C0  g0 f0
  refine ⟨⟨by decide, by decide⟩, fun b1 e1 h1 g1 => ?_⟩
  rw [D0.sz] at e1
  have C1 : BI L xs 9 55 (stL [(6, 1)] fNo) fNo h1 := by rw [g1]; exact (D0.nw (by omega) (Or.inr (Or.inr ⟨by decide +kernel, by decide +kernel⟩))).n rfl rfl
  refine ⟨C1.kd (by omega) (by decide +kernel), fun k1 f1 => ?_⟩
  have D1 : BI L xs 9 55 (stL [(6, 3), (6, 1)] fNo) fNo k1 := by rw [f1, e1]; exact C1.srL (by omega) (by decide +kernel)
  clear C1 D0 g1 f1
  refine fun b2 e2 h2 g2 => ?_
  rw [D1.sz] at e2
  have C2 : BI L xs 10 57 (stL [(6, 3), (6, 1)] fNo) fNo h2 := by rw [g2]; exact (D1.nw (by omega) (Or.inr (Or.inr ⟨by decide +kernel, by decide +kernel⟩))).n rfl rfl
  subst e2
  refine ⟨C2.kd (by omega) (by decide +kernel), Cl.rv (b52 C2) (by omega) (fun m2 M2 => ?_)⟩
  have P2 : BI L xs 71 477 (stL [(9, 0), (6, 3), (6, 1)] f10) fNo m2 := (M2.fam (F' := f10) (fun a k s => by unfold f10 at s; exact Or.inr s)).n rfl rfl
  refine ⟨P2.kd (by omega) (by decide +kernel), fun k2 f2 => ?_⟩
  have D2 : BI L xs 71 477 (stL [(6, 5), (9, 0), (6, 3), (6, 1)] f10) fNo k2 := by rw [f2]; exact P2.srL (by omega) (by decide +kernel)
  clear P2 M2 C2 D1 g2 f2
  refine fun b3 e3 h3 g3 => ?_
  rw [D2.sz] at e3
  have C3 : BI L xs 72 490 (stL [(6, 5), (9, 0), (6, 3), (6, 1)] f10) fNo h3 := by rw [g3]; exact (D2.nw (by omega) (Or.inr (Or.inr ⟨by decide +kernel, by decide +kernel⟩))).n rfl rfl
  subst e3
  refine ⟨C3.kd (by omega) (by decide +kernel), Cl.rv (b30 C3) (by omega) (fun m3 M3 => ?_)⟩
  have P3 : BI L xs 75 1295 (stL [(71, 4), (71, 2), (71, 0), (6, 5), (9, 0), (6, 3), (6, 1)] f10) fNo m3 := M3.n rfl rfl
  refine ⟨P3.kd (by omega) (by decide +kernel), fun k3 f3 => ?_⟩
  have D3 : BI L xs 75 1295 (stL [(6, 6), (71, 4), (71, 2), (71, 0), (6, 5), (9, 0), (6, 3), (6, 1)] f10) fNo k3 := by rw [f3]; exact P3.srL (by omega) (by decide +kernel)
  clear P3 M3 C3 D2 g3 f3
  refine fun b4 e4 h4 g4 => ?_
  rw [D3.sz] at e4
  have C4 : BI L xs 76 1298 (stL [(6, 6), (71, 4), (71, 2), (71, 0), (6, 5), (9, 0), (6, 3), (6, 1)] f10) fNo h4 := by rw [g4]; exact (D3.nw (by omega) (Or.inr (Or.inr ⟨by decide +kernel, by decide +kernel⟩))).n rfl rfl
  subst e4
  refine ⟨C4.kd (by omega) (by decide +kernel), Cl.rv (b69 C4) (by omega) (fun m4 M4 => ?_)⟩
  have P4 : BI L xs 78 1370 (stL [(75, 1), (75, 0), (6, 6), (71, 4), (71, 2), (71, 0), (6, 5), (9, 0), (6, 3), (6, 1)] f10) fNo m4 := M4.n rfl rfl
  refine ⟨P4.kd (by omega) (by decide +kernel), fun k4 f4 => ?_⟩
  have D4 : BI L xs 78 1370 (stL [(6, 7), (75, 1), (75, 0), (6, 6), (71, 4), (71, 2), (71, 0), (6, 5), (9, 0), (6, 3), (6, 1)] f10) fNo k4 := by rw [f4]; exact P4.srL (by omega) (by decide +kernel)
  clear P4 M4 C4 D3 g4 f4
  refine ⟨⟨by decide, by decide⟩, fun b5 e5 h5 g5 => ?_⟩
  rw [D4.sz] at e5
  have C5 : BI L xs 79 1382 (stL [(6, 7), (75, 1), (75, 0), (6, 6), (71, 4), (71, 2), (71, 0), (6, 5), (9, 0), (6, 3), (6, 1)] f10) fNo h5 := by rw [g5]; exact (D4.nw (by omega) (Or.inr (Or.inr ⟨by decide +kernel, by decide +kernel⟩))).n rfl rfl
  refine ⟨C5.kd (by omega) (by decide +kernel), fun k5 f5 => ?_⟩
  have D5 : BI L xs 79 1382 (stL [(6, 8), (6, 7), (75, 1), (75, 0), (6, 6), (71, 4), (71, 2), (71, 0), (6, 5), (9, 0), (6, 3), (6, 1)] f10) fNo k5 := by rw [f5, e5]; exact C5.srL (by omega) (by decide +kernel)
  clear C5 D4 g5 f5
  refine ⟨D5.kd (by omega) (by decide +kernel), fun hs es => ?_⟩
  have Ds : BI L xs 79 1382 (stL [(6, 8), (6, 7), (75, 1), (75, 0), (6, 6), (71, 4), (71, 2), (71, 0), (6, 5), (9, 0), (6, 3), (6, 1)] f10) siA hs := by rw [es]; exact (D5.si (by omega) (by omega) rfl).w (fun _ _ s => s) (fun a k => ⟨fun y => Or.inr y, fun y => y.resolve_left (fun w => w)⟩)
  clear D5 es
  refine ⟨⟨by decide, by decide⟩, fun b6 e6 h6 g6 => ?_⟩
  rw [Ds.sz] at e6
  have C6 : BI L xs 80 1406 (stL [(6, 8), (6, 7), (75, 1), (75, 0), (6, 6), (71, 4), (71, 2), (71, 0), (6, 5), (9, 0), (6, 3), (6, 1)] f10) siA h6 := by rw [g6]; exact (Ds.nw (by omega) (Or.inr (Or.inr ⟨by decide +kernel, by decide +kernel⟩))).n rfl rfl
  refine ⟨C6.kd (by omega) (by decide +kernel), fun k6 f6 => ?_⟩
  have D6 : BI L xs 80 1406 (stL [(6, 13), (6, 8), (6, 7), (75, 1), (75, 0), (6, 6), (71, 4), (71, 2), (71, 0), (6, 5), (9, 0), (6, 3), (6, 1)] f10) siA k6 := by rw [f6, e6]; exact C6.srL (by omega) (by decide +kernel)
  clear C6 Ds g6 f6
  refine fun b7 e7 h7 g7 => ?_
  rw [D6.sz] at e7
  have C7 : BI L xs 81 1420 (stL [(6, 13), (6, 8), (6, 7), (75, 1), (75, 0), (6, 6), (71, 4), (71, 2), (71, 0), (6, 5), (9, 0), (6, 3), (6, 1)] f10) siA h7 := by rw [g7]; exact (D6.nw (by omega) (Or.inr (Or.inr ⟨by decide +kernel, by decide +kernel⟩))).n rfl rfl
  subst e7
  refine ⟨C7.kd (by omega) (by decide +kernel), Cl.rv (bEx C7) (by omega) (fun m7 M7 => ?_)⟩
  have P7 : BI L xs 105 1743 (stL [(80, 10), (80, 9), (80, 8), (80, 7), (80, 6), (80, 5), (80, 4), (80, 3), (80, 2), (80, 1), (80, 0), (6, 13), (6, 8), (6, 7), (75, 1), (75, 0), (6, 6), (71, 4), (71, 2), (71, 0), (6, 5), (9, 0), (6, 3), (6, 1)] f85) siA m7 := (M7.fam (F' := f85) (fun a k s => by unfold f85 at s; exact s)).n rfl rfl
  refine ⟨P7.kd (by omega) (by decide +kernel), fun k7 f7 => ?_⟩
  have D7 : BI L xs 105 1743 (stL [(6, 14), (80, 10), (80, 9), (80, 8), (80, 7), (80, 6), (80, 5), (80, 4), (80, 3), (80, 2), (80, 1), (80, 0), (6, 13), (6, 8), (6, 7), (75, 1), (75, 0), (6, 6), (71, 4), (71, 2), (71, 0), (6, 5), (9, 0), (6, 3), (6, 1)] f85) siA k7 := by rw [f7]; exact P7.srL (by omega) (by decide +kernel)
  clear P7 M7 C7 D6 g7 f7
  refine fun b8 e8 h8 g8 => ?_
  rw [D7.sz] at e8
  have C8 : BI L xs 106 1748 (stL [(6, 14), (80, 10), (80, 9), (80, 8), (80, 7), (80, 6), (80, 5), (80, 4), (80, 3), (80, 2), (80, 1), (80, 0), (6, 13), (6, 8), (6, 7), (75, 1), (75, 0), (6, 6), (71, 4), (71, 2), (71, 0), (6, 5), (9, 0), (6, 3), (6, 1)] f85) siA h8 := by rw [g8]; exact (D7.nw (by omega) (Or.inr (Or.inr ⟨by decide +kernel, by decide +kernel⟩))).n rfl rfl
  subst e8
  refine ⟨C8.kd (by omega) (by decide +kernel), Cl.rv (b24 C8) (by omega) (fun m8 M8 => ?_)⟩
  have P8 : BI L xs 109 2132 (stL [(105, 3), (105, 2), (105, 0), (6, 14), (80, 10), (80, 9), (80, 8), (80, 7), (80, 6), (80, 5), (80, 4), (80, 3), (80, 2), (80, 1), (80, 0), (6, 13), (6, 8), (6, 7), (75, 1), (75, 0), (6, 6), (71, 4), (71, 2), (71, 0), (6, 5), (9, 0), (6, 3), (6, 1)] f85) siA m8 := M8.n rfl rfl
  refine ⟨P8.kd (by omega) (by decide +kernel), fun k8 f8 => ?_⟩
  have D8 : BI L xs 109 2132 (stL [(6, 15), (105, 3), (105, 2), (105, 0), (6, 14), (80, 10), (80, 9), (80, 8), (80, 7), (80, 6), (80, 5), (80, 4), (80, 3), (80, 2), (80, 1), (80, 0), (6, 13), (6, 8), (6, 7), (75, 1), (75, 0), (6, 6), (71, 4), (71, 2), (71, 0), (6, 5), (9, 0), (6, 3), (6, 1)] f85) siA k8 := by rw [f8]; exact P8.srL (by omega) (by decide +kernel)
  clear P8 M8 C8 D7 g8 f8
  refine fun b9 e9 h9 g9 => ?_
  rw [D8.sz] at e9
  have C9 : BI L xs 110 2134 (stL [(6, 15), (105, 3), (105, 2), (105, 0), (6, 14), (80, 10), (80, 9), (80, 8), (80, 7), (80, 6), (80, 5), (80, 4), (80, 3), (80, 2), (80, 1), (80, 0), (6, 13), (6, 8), (6, 7), (75, 1), (75, 0), (6, 6), (71, 4), (71, 2), (71, 0), (6, 5), (9, 0), (6, 3), (6, 1)] f85) siA h9 := by rw [g9]; exact (D8.nw (by omega) (Or.inr (Or.inr ⟨by decide +kernel, by decide +kernel⟩))).n rfl rfl
  subst e9
  refine ⟨C9.kd (by omega) (by decide +kernel), Cl.rv (b11 C9) (by omega) (fun m9 M9 => ?_)⟩
  have P9 : BI L xs 111 2174 (stL [(109, 0), (6, 15), (105, 3), (105, 2), (105, 0), (6, 14), (80, 10), (80, 9), (80, 8), (80, 7), (80, 6), (80, 5), (80, 4), (80, 3), (80, 2), (80, 1), (80, 0), (6, 13), (6, 8), (6, 7), (75, 1), (75, 0), (6, 6), (71, 4), (71, 2), (71, 0), (6, 5), (9, 0), (6, 3), (6, 1)] f85) siA m9 := M9.n rfl rfl
  refine ⟨P9.kd (by omega) (by decide +kernel), fun k9 f9 => ?_⟩
  have D9 : BI L xs 111 2174 (stL [(6, 16), (109, 0), (6, 15), (105, 3), (105, 2), (105, 0), (6, 14), (80, 10), (80, 9), (80, 8), (80, 7), (80, 6), (80, 5), (80, 4), (80, 3), (80, 2), (80, 1), (80, 0), (6, 13), (6, 8), (6, 7), (75, 1), (75, 0), (6, 6), (71, 4), (71, 2), (71, 0), (6, 5), (9, 0), (6, 3), (6, 1)] f85) siA k9 := by rw [f9]; exact P9.srL (by omega) (by decide +kernel)
  clear P9 M9 C9 D8 g9 f9
  refine ⟨⟨by decide, by decide⟩, fun b10 e10 h10 g10 => ?_⟩
  rw [D9.sz] at e10
  have C10 : BI L xs 112 2180 (stL [(6, 16), (109, 0), (6, 15), (105, 3), (105, 2), (105, 0), (6, 14), (80, 10), (80, 9), (80, 8), (80, 7), (80, 6), (80, 5), (80, 4), (80, 3), (80, 2), (80, 1), (80, 0), (6, 13), (6, 8), (6, 7), (75, 1), (75, 0), (6, 6), (71, 4), (71, 2), (71, 0), (6, 5), (9, 0), (6, 3), (6, 1)] f85) siA h10 := by rw [g10]; exact (D9.nw (by omega) (Or.inr (Or.inr ⟨by decide +kernel, by decide +kernel⟩))).n rfl rfl
  refine ⟨C10.kd (by omega) (by decide +kernel), fun k10 f10 => ?_⟩
  have D10 : BI L xs 112 2180 (stL [(6, 17), (6, 16), (109, 0), (6, 15), (105, 3), (105, 2), (105, 0), (6, 14), (80, 10), (80, 9), (80, 8), (80, 7), (80, 6), (80, 5), (80, 4), (80, 3), (80, 2), (80, 1), (80, 0), (6, 13), (6, 8), (6, 7), (75, 1), (75, 0), (6, 6), (71, 4), (71, 2), (71, 0), (6, 5), (9, 0), (6, 3), (6, 1)] f85) siA k10 := by rw [f10, e10]; exact C10.srL (by omega) (by decide +kernel)
  clear C10 D9 g10 f10
  exact K _ D10
