/-! THE LAW: it answers 1 -/
theorem Inv.nx {L : Nat} {xs : Nat → Int32} {c : Nat} {h : AH} (J : Inv L xs c h) : Inv L xs (c + 1) h := by
  obtain ⟨nh, nm, nr, na, nt, nc, a1, a2, a3, a4, a5, a6, a7, a8, a9, a10, a11, a12, a13, a14, a15, a16, a17⟩ := J
  exact ⟨nh, nm, nr, na, nt, nc, a1, a2, ⟨by omega, by omega⟩, a4, a5, a6, a7, a8, a9, a10, a11, a12, a13, a14, a15, a16.more (by omega), a17⟩
theorem lawL {L : Nat} {xs : Nat → Int32} (l5 : L ≤ 2560) : ∀ m c h, c + m = 513 → 5 * c ≤ L → Inv L xs c h → Ev 800 267 18 [.ref 0, .ref 6, .ref 216, .int (zI (5 * c))] [] h (fun r h' => r = some (.int 1) ∧ am_sz h' ≤ 600000 ∧ am_sn h' ≤ 7302250)
  | 0, c, h, e, c5, _ => absurd c5 (by omega)
  | m + 1, c, h, e, c5, J => by
    have bd : am_sz h ≤ 600000 ∧ am_sn h ≤ 7302250 := by
      obtain ⟨nh, nm, nr, na, nt, nc, a1, a2, a3, a4⟩ := J
      omega
    refine lawS l5 c5 J ⟨rfl, bd⟩ (fun c' hc c6 h2 J2 => wp267_1496 (d := 799) _ _ _ _ ?_)
    rw [show (5 : Int32) = zI 5 from rfl, zI_add, show 5 * c + 5 = 5 * (c + 1) by omega]
    refine lawL (xs := xs) l5 m (c + 1) h2 (by omega) (by omega) ?_
    rcases hc with hc | hc
    · rw [hc] at J2; exact J2.nx
    · rw [hc] at J2; exact J2
theorem bj0 {h3 : AH} {N : Nat} (s : am_sz h3 = 216) (n : am_sn h3 = N) : BJ h3 217 (N + 71 + 0) [] 0 0 0 (am_nw h3 12 0 71) := by
  have g : ∀ b, b ≠ 216 → b ≠ am_sz h3 := fun b y => by rw [s]; exact y
  refine ⟨⟨by show am_sz h3 + 1 = _; rw [s], by show am_sn h3 + 71 = _; rw [n], Nat.le_refl _⟩, fun a ha => ?_, fun a h1 h2 => ?_, fun f hf => absurd hf (List.not_mem_nil), fun a k h1 h2 => ?_, fun a k h1 h2 => ?_⟩
  · rw [am_nw_kd (g a (by omega)), am_nw_ln (g a (by omega)), am_nw_gi (g a (by omega)), am_nw_gr (g a (by omega)), am_nw_gl (g a (by omega))]
    exact ⟨rfl, rfl, fun _ => ⟨rfl, rfl, rfl⟩⟩
  · have y : a = am_sz h3 := by omega
    rw [y, am_nw_kd0, am_nw_ln0, s]; decide +kernel
  · have y : a = am_sz h3 := by omega
    rw [y, am_nw_gi0, s]
    show (0 : Int32) = (if k = 38 ∧ 0 = 1 then -1 else 0)
    rw [if_neg (by omega)]
  · have y : a = am_sz h3 := by omega
    rw [y, am_nw_gl0]
theorem law : am_LAWP := fun L xs l5 => by
  obtain ⟨wv, lv, pp, m, op, w, po, C, M, sm⟩ := rds (B := am_at am_by0) (n := 42) (t := 0) (by decide)
  obtain ⟨ew, el⟩ := sm smp0
  subst ew el
  obtain ⟨P, m4⟩ := po.2 rfl rfl
  refine wp267 (d := 799) _ (fun b2 e2 h1 eh1 => ?_)
  have e2' : b2 = 6 := e2
  subst e2'
  have B1 : BI L xs 7 19 (stL [] fNo) fNo h1 := by
    rw [eh1]
    refine (((BI.h0 L xs).nw (k := 11) (n := 0) (w := 19) (by decide) (Or.inr (Or.inr ⟨by decide +kernel, by decide +kernel⟩))).n rfl rfl).w (fun a k s => ?_) (fun _ _ => Iff.rfl)
    rcases s with s | s
    · exact absurd s (List.not_mem_nil)
    · exact s
  refine ⟨B1.kd (by omega) (by decide +kernel), Cl.rv (c96 B1 m4 C) (by decide) (fun h3 F b7 e7 h6 e6 => ?_)⟩
  have e7' : b7 = 216 := e7.trans F.1.1
  subst e7'
  have Bj : BJ h3 217 (2786 + m + 71 + 0) [] 0 0 0 h6 := by rw [e6]; exact bj0 F.1.1 F.1.2
  refine ⟨(Bj.2.2.1 216 (by decide) (by decide)).1.trans (by decide +kernel), Cl.rv (c166 Bj F M) (by decide) (fun h8 q => ?_)⟩
  obtain ⟨h2, B2, N2⟩ := q
  exact lawL l5 513 0 h8 rfl (Nat.zero_le _) (inv0 (wv := 0) (lv := 0) F B2 N2 m4 P)
