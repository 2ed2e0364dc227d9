/-! PROPOSE 5: each rule of the grammar, both programs at once -/
def KC (B : Nat → Int32) (n k D M o p m : Nat) (op w : Nat → Int32) (l : Int32) (ok : Bool) (p' m' : Nat) (op' w' : Nat → Int32) (l' : Int32) : Prop := ∀ h0 h, Rc B n k h0 p m op w l h → Cl D M [.ref 71, .int (zI o)] h (fun r h' => r = some (.int (cond ok 1 0)) ∧ Rc B n k h0 p' m' op' w' l' h')
/-- what the reference comes to -/
def RF (B : Nat → Int32) (n t k o : Nat) (h0 : AH) (p m : Nat) (ok : Bool) (p' m' : Nat) (op' w' : Nat → Int32) (l' : Int32) (h' : AH) : Prop := (ok = true → Rm B n t k o h0 p' m' op' w' l' h') ∧ (ok = false → Fw B n t h0 (m + (p' - p) + 1) (bgn B n p') h')
def KM (B : Nat → Int32) (n t k D M o p m : Nat) (op w : Nat → Int32) (l : Int32) (ok : Bool) (p' m' : Nat) (op' w' : Nat → Int32) (l' : Int32) : Prop := ∀ h0 h, Rm B n t k o h0 p m op w l h → Cl D M [.ref 216] h (fun r h' => r = none ∧ RF B n t k o h0 p m ok p' m' op' w' l' h')
def SI (B : Nat → Int32) (n k p : Nat) (l : Int32) (ok : Bool) (p' : Nat) (l' : Int32) : Prop := (tk B n p = 1 ∨ (tk B n p = 3 ∧ alw k (vl B n p))) → tk B n (en B n p) = 59 → ok = true ∧ p' = en B n p ∧ l' = l
def NT (B : Nat → Int32) (n t k o D cM mM H : Nat) : Prop := ∀ (p m : Nat) (op w : Nat → Int32) (l : Int32), p ≤ n → m ≤ p → ∃ (ok : Bool) (p' m' : Nat) (op' w' : Nat → Int32) (l' : Int32), PU B n k H 0 1 p m op w l ok p' m' op' w' l' ∧ KC B n k D cM o p m op w l ok p' m' op' w' l' ∧ KM B n t k D mM o p m op w l ok p' m' op' w' l' ∧ SI B n k p l ok p' l'
def LPp (B : Nat → Int32) (n t k o D cM mM H : Nat) (cl ml : List Value) (T1 T2 : Int32) : Prop := ∀ (f p m : Nat) (op w : Nat → Int32) (l : Int32) (i : Nat), n - p ≤ f → p ≤ n → m ≤ p → i ≤ p → ∃ (ok : Bool) (p' m' : Nat) (op' w' : Nat → Int32) (l' : Int32), PU B n k H 1 1 p m op w l ok p' m' op' w' l' ∧ (∀ h0 h, Rc B n k h0 p m op w l h → Ev D cM 12 ([.ref 71, .int (zI o), .int (zI i)] ++ cl) [] h (fun r h' => r = some (.int (cond ok 1 0)) ∧ Rc B n k h0 p' m' op' w' l' h')) ∧ (∀ h0 h, Rm B n t k o h0 p m op w l h → Ev D mM 4 (.ref 216 :: ml) [] h (fun r h' => r = none ∧ RF B n t k o h0 p m ok p' m' op' w' l' h')) ∧ (¬ tk B n p = T1 → ¬ tk B n p = T2 → ok = true ∧ p' = p ∧ l' = l)
theorem cR_o {o : Int32} (h : 2 ≤ o.toInt ∧ o.toInt ≤ 10) : cR o 0 (-19 - o) := Or.inr (Or.inr ⟨h.1, h.2, rfl⟩)
theorem lp_term {B : Nat → Int32} {n t k o D H : Nat} (hn : n ≤ 400) (hD : 3 ≤ D) (N : NT B n t k o D 40 210 H) : LPp B n t k o (D + 1) 39 208 (H + 1) [] [] 42 42 := by
  intro f
  induction f with
  | zero =>
    intro p m op w l i hf hp hm hi
    by_cases z1 : tk B n p = 42
    · have t0 : ¬ tk B n p = 0 := fun y => by rw [z1] at y; exact absurd y (by decide)
      have t2 : ¬ tk B n p = 2 := fun y => by rw [z1] at y; exact absurd y (by decide)
      have lt := (en_b (B := B) hp).2.2 t0
      have le := (en_b (B := B) hp).2.1
      omega
    · refine ⟨true, p, m, op, w, l, PU.rf hp, fun h0 h R => ?_, fun h0 h R => ?_, fun _ _ => ⟨rfl, rfl, rfl⟩⟩
      · refine wc39_12 _ _ R.ly ⟨fun _ => ⟨rfl, R⟩, fun _ => ⟨fun _ => ⟨rfl, R⟩, fun y => absurd ((R.tok (c := 42) (T := 42) (by decide) rfl).mp (Decidable.not_not.mp y)) z1⟩⟩
      · refine ws208_4 R.ly (Cl.i R.is (by omega) R.ly ⟨fun y => absurd rfl y, fun _ => ⟨fun _ => ⟨rfl, fun _ => R, fun y => absurd y (by decide)⟩, fun y => absurd (R.2.2.2.2.2.1.symm.trans (Decidable.not_not.mp y)) z1⟩⟩)
  | succ f ih =>
    intro p m op w l i hf hp hm hi
    by_cases z1 : tk B n p = 42
    · have t0 : ¬ tk B n p = 0 := fun y => by rw [z1] at y; exact absurd y (by decide)
      have t2 : ¬ tk B n p = 2 := fun y => by rw [z1] at y; exact absurd y (by decide)
      have lt := (en_b (B := B) hp).2.2 t0
      have le := (en_b (B := B) hp).2.1
      obtain ⟨ok, p1, m1, op1, w1, l1, U, C, M, -⟩ := N (en B n p) m op w l le (by omega)
      have u1 := U.1
      have i4 : ¬ (400 : Int32) ≤ zI i := fun y => absurd ((zI_le (m := 400) (n := i) (by decide) (by omega)).mp y) (by omega)
      cases ok with
      | false =>
        refine ⟨false, p1, m1, op1, w1, l1, U.apf hp, fun h0 h R => ?_, fun h0 h R => ?_, fun y1 y2 => absurd z1 y1⟩
        · refine wc39_12 _ _ R.ly ⟨fun y => absurd y i4, fun _ => ⟨fun y => absurd ((R.tok (c := 42) (T := 42) (by decide) rfl).mpr z1) y, fun _ => Cl.qvc (R.adv hp) hD (fun h1 R1 => ⟨R1.ly, ?_⟩)⟩⟩
          exact Cl.qic (C h0 h1 R1) (Nat.le_refl _) (fun h2 R2 => ⟨R2.ly, fun y => absurd rfl y, fun _ => ⟨rfl, R2⟩⟩)
        · refine ws208_4 R.ly (Cl.i R.is (by omega) R.ly ⟨fun y => absurd rfl y, fun _ => ⟨fun y => absurd (R.2.2.2.2.2.1.trans z1) y, fun _ => Cl.qv (R.nxt hp) hD (fun h1 R1 => ⟨R1.ly, ?_⟩)⟩⟩)
          refine Cl.qv (M h0 h1 R1) (Nat.le_refl _) (fun h2 P => ?_)
          have P2 := P.2 rfl
          refine ⟨P2.ly, Cl.qv (P2.emit (by omega)) (by omega) (fun h3 P3 => ⟨P3.ly, ws208_4 P3.ly (Cl.i P3.is (by omega) P3.ly ⟨fun _ => ⟨rfl, fun y => absurd y (by decide), fun _ => P3.mn (by omega)⟩, fun y => absurd (by decide) y⟩)⟩)⟩
      | true =>
        have V := PU.app (o := 9) (c := 1) hp t2 t0 U.sh (by decide)
        have v1 := V.1
        obtain ⟨ok2, p2, m2, op2, w2, l2, U2, C2, M2, -⟩ := ih p1 (m1 + 1) (wr op1 m1 9) (wr w1 m1 0) l1 (i + 1) (by omega) (by omega) (by omega) (by omega)
        have u2 := U2.1
        refine ⟨ok2, p2, m2, op2, w2, l2, V.seq U2, fun h0 h R => ?_, fun h0 h R => ?_, fun y1 y2 => absurd z1 y1⟩
        · refine wc39_12 _ _ R.ly ⟨fun y => absurd y i4, fun _ => ⟨fun y => absurd ((R.tok (c := 42) (T := 42) (by decide) rfl).mpr z1) y, fun _ => Cl.qvc (R.adv hp) hD (fun h1 R1 => ⟨R1.ly, ?_⟩)⟩⟩
          refine Cl.qic (C h0 h1 R1) (Nat.le_refl _) (fun h2 R2 => ⟨R2.ly, fun _ => Cl.qvc (R2.emit (o := 9) (v := 0) (by omega) (cR_o (by decide))) (by omega) (fun h3 R3 => ⟨R3.ly, ?_⟩), fun y => absurd (by decide) y⟩)
          rw [zI_succ]
          exact C2 h0 h3 R3
        · refine ws208_4 R.ly (Cl.i R.is (by omega) R.ly ⟨fun y => absurd rfl y, fun _ => ⟨fun y => absurd (R.2.2.2.2.2.1.trans z1) y, fun _ => Cl.qv (R.nxt hp) hD (fun h1 R1 => ⟨R1.ly, ?_⟩)⟩⟩)
          refine Cl.qv (M h0 h1 R1) (Nat.le_refl _) (fun h2 P => ?_)
          have P2 := P.1 rfl
          refine ⟨P2.ly, Cl.qv (P2.emit (by omega)) (by omega) (fun h3 P3 => ⟨P3.ly, Ev.mono (M2 h0 h3 P3) (Nat.le_refl _) (fun r h4 P4 => ⟨P4.1, P4.2.1, fun y => (P4.2.2 y).mn (by omega)⟩)⟩)⟩
    · refine ⟨true, p, m, op, w, l, PU.rf hp, fun h0 h R => ?_, fun h0 h R => ?_, fun _ _ => ⟨rfl, rfl, rfl⟩⟩
      · refine wc39_12 _ _ R.ly ⟨fun _ => ⟨rfl, R⟩, fun _ => ⟨fun _ => ⟨rfl, R⟩, fun y => absurd ((R.tok (c := 42) (T := 42) (by decide) rfl).mp (Decidable.not_not.mp y)) z1⟩⟩
      · refine ws208_4 R.ly (Cl.i R.is (by omega) R.ly ⟨fun y => absurd rfl y, fun _ => ⟨fun _ => ⟨rfl, fun _ => R, fun y => absurd y (by decide)⟩, fun y => absurd (R.2.2.2.2.2.1.symm.trans (Decidable.not_not.mp y)) z1⟩⟩)
theorem nt_term {B : Nat → Int32} {n t k o D H : Nat} (hn : n ≤ 400) (hD : 3 ≤ D) (N : NT B n t k o D 40 210 H) : NT B n t k o (D + 1) 39 208 (H + 1) := by
  intro p m op w l hp hm
  obtain ⟨ok, p1, m1, op1, w1, l1, U, C, M, Z⟩ := N p m op w l hp hm
  have u1 := U.1
  cases ok with
  | false =>
    refine ⟨false, p1, m1, op1, w1, l1, U.fl, fun h0 h R => ?_, fun h0 h R => ?_, Z⟩
    · exact wc39 _ R.ly (Cl.qic (C h0 h R) (Nat.le_refl _) (fun h2 R2 => ⟨R2.ly, fun y => absurd rfl y, fun _ => ⟨rfl, R2⟩⟩))
    · refine ws208 R.ly (Cl.qv (M h0 h R) (Nat.le_refl _) (fun h2 P => ?_))
      have P2 := P.2 rfl
      exact ⟨P2.ly, ws208_4 P2.ly (Cl.i P2.is (by omega) P2.ly ⟨fun _ => ⟨rfl, fun y => absurd y (by decide), fun _ => P2⟩, fun y => absurd (by decide) y⟩)⟩
  | true =>
    obtain ⟨ok2, p2, m2, op2, w2, l2, U2, C2, M2, Z2⟩ := lp_term hn hD N n p1 m1 op1 w1 l1 0 (by omega) (by omega) (by omega) (by omega)
    have u2 := U2.1
    refine ⟨ok2, p2, m2, op2, w2, l2, (U.mn (by omega)).seq U2, fun h0 h R => ?_, fun h0 h R => ?_, fun y1 y2 => ?_⟩
    · exact wc39 _ R.ly (Cl.qic (C h0 h R) (Nat.le_refl _) (fun h2 R2 => ⟨R2.ly, fun _ => C2 h0 h2 R2, fun y => absurd (by decide) y⟩))
    · refine ws208 R.ly (Cl.qv (M h0 h R) (Nat.le_refl _) (fun h2 P => ?_))
      have P2 := P.1 rfl
      exact ⟨P2.ly, Ev.mono (M2 h0 h2 P2) (Nat.le_refl _) (fun r h4 P4 => ⟨P4.1, P4.2.1, fun y => (P4.2.2 y).mn (by omega)⟩)⟩
    · obtain ⟨-, q2, q3⟩ := Z y1 y2
      rw [← q2] at y2
      obtain ⟨r1, r2, r3⟩ := Z2 (fun y => by rw [y2] at y; exact absurd y (by decide)) (fun y => by rw [y2] at y; exact absurd y (by decide))
      exact ⟨r1, r2.trans q2, r3.trans q3⟩
theorem lp_sum {B : Nat → Int32} {n t k o D H : Nat} (hn : n ≤ 400) (hD : 3 ≤ D) (N : NT B n t k o D 39 208 H) : LPp B n t k o (D + 1) 38 207 (H + 1) [.null] [.null] 43 45 := by
  intro f
  induction f with
  | zero =>
    intro p m op w l i hf hp hm hi
    by_cases z1 : tk B n p = 43
    · have t0 : ¬ tk B n p = 0 := fun y => by rw [z1] at y; exact absurd y (by decide)
      have t2 : ¬ tk B n p = 2 := fun y => by rw [z1] at y; exact absurd y (by decide)
      have lt := (en_b (B := B) hp).2.2 t0
      have le := (en_b (B := B) hp).2.1
      omega
    · by_cases z2 : tk B n p = 45
      · have t0 : ¬ tk B n p = 0 := fun y => by rw [z2] at y; exact absurd y (by decide)
        have t2 : ¬ tk B n p = 2 := fun y => by rw [z2] at y; exact absurd y (by decide)
        have lt := (en_b (B := B) hp).2.2 t0
        have le := (en_b (B := B) hp).2.1
        omega
      · refine ⟨true, p, m, op, w, l, PU.rf hp, fun h0 h R => ?_, fun h0 h R => ?_, fun _ _ => ⟨rfl, rfl, rfl⟩⟩
        · refine wc38_12 _ _ R.ly ⟨fun _ => ⟨rfl, R⟩, fun _ => ⟨fun y => absurd ((R.tok (c := 43) (T := 43) (by decide) rfl).mp y) z1, fun _ => ⟨fun _ => ⟨rfl, R⟩, fun y => absurd ((R.tok (c := 45) (T := 45) (by decide) rfl).mp (Decidable.not_not.mp y)) z2⟩⟩⟩
        · refine ws207_4 R.ly (Cl.i R.is (by omega) R.ly ⟨fun y => absurd rfl y, fun _ => ⟨fun y => absurd (R.2.2.2.2.2.1.symm.trans y) z1, fun _ => ⟨fun _ => ⟨rfl, fun _ => R, fun y => absurd y (by decide)⟩, fun y => absurd (R.2.2.2.2.2.1.symm.trans (Decidable.not_not.mp y)) z2⟩⟩⟩)
  | succ f ih =>
    intro p m op w l i hf hp hm hi
    by_cases z1 : tk B n p = 43
    · have t0 : ¬ tk B n p = 0 := fun y => by rw [z1] at y; exact absurd y (by decide)
      have t2 : ¬ tk B n p = 2 := fun y => by rw [z1] at y; exact absurd y (by decide)
      have lt := (en_b (B := B) hp).2.2 t0
      have le := (en_b (B := B) hp).2.1
      obtain ⟨ok, p1, m1, op1, w1, l1, U, C, M, -⟩ := N (en B n p) m op w l le (by omega)
      have u1 := U.1
      have i4 : ¬ (400 : Int32) ≤ zI i := fun y => absurd ((zI_le (m := 400) (n := i) (by decide) (by omega)).mp y) (by omega)
      cases ok with
      | false =>
        refine ⟨false, p1, m1, op1, w1, l1, U.apf hp, fun h0 h R => ?_, fun h0 h R => ?_, fun y1 y2 => absurd z1 y1⟩
        · refine wc38_12 _ _ R.ly ⟨fun y => absurd y i4, fun _ => ⟨fun _ => ?_, fun y => absurd ((R.tok (c := 43) (T := 43) (by decide) rfl).mpr z1) y⟩⟩
          refine wc38_37 _ _ R.ly (Cl.qvc (R.adv hp) hD (fun h1 R1 => ⟨R1.ly, ?_⟩))
          exact Cl.qic (C h0 h1 R1) (Nat.le_refl _) (fun h2 R2 => ⟨R2.ly, fun y => absurd rfl y, fun _ => ⟨rfl, R2⟩⟩)
        · refine ws207_4 R.ly (Cl.i R.is (by omega) R.ly ⟨fun y => absurd rfl y, fun _ => ⟨fun _ => ?_, fun y => absurd (R.2.2.2.2.2.1.trans z1) y⟩⟩)
          refine ws207_29 R.ly ⟨fun y => absurd (R.2.2.2.2.2.1.trans z1) y, fun _ => Cl.qv (R.nxt hp) hD (fun h1 R1 => ⟨R1.ly, ?_⟩)⟩
          refine Cl.qv (M h0 h1 R1) (Nat.le_refl _) (fun h2 P => ?_)
          have P2 := P.2 rfl
          refine ⟨P2.ly, Cl.qv (P2.emit (by omega)) (by omega) (fun h3 P3 => ⟨P3.ly, ws207_4 P3.ly (Cl.i P3.is (by omega) P3.ly ⟨fun _ => ⟨rfl, fun y => absurd y (by decide), fun _ => P3.mn (by omega)⟩, fun y => absurd (by decide) y⟩)⟩)⟩
      | true =>
        have V := PU.app (o := 7) (c := 1) hp t2 t0 U.sh (by decide)
        have v1 := V.1
        obtain ⟨ok2, p2, m2, op2, w2, l2, U2, C2, M2, -⟩ := ih p1 (m1 + 1) (wr op1 m1 7) (wr w1 m1 0) l1 (i + 1) (by omega) (by omega) (by omega) (by omega)
        have u2 := U2.1
        refine ⟨ok2, p2, m2, op2, w2, l2, V.seq U2, fun h0 h R => ?_, fun h0 h R => ?_, fun y1 y2 => absurd z1 y1⟩
        · refine wc38_12 _ _ R.ly ⟨fun y => absurd y i4, fun _ => ⟨fun _ => ?_, fun y => absurd ((R.tok (c := 43) (T := 43) (by decide) rfl).mpr z1) y⟩⟩
          refine wc38_37 _ _ R.ly (Cl.qvc (R.adv hp) hD (fun h1 R1 => ⟨R1.ly, ?_⟩))
          refine Cl.qic (C h0 h1 R1) (Nat.le_refl _) (fun h2 R2 => ⟨R2.ly, fun _ => ⟨fun y => absurd ((R.tok (c := 43) (T := 43) (by decide) rfl).mpr z1) y, fun _ => Cl.qvc (R2.emit (o := 7) (v := 0) (by omega) (cR_o (by decide))) (by omega) (fun h3 R3 => ⟨R3.ly, ?_⟩)⟩, fun y => absurd (by decide) y⟩)
          rw [zI_succ]
          exact C2 h0 h3 R3
        · refine ws207_4 R.ly (Cl.i R.is (by omega) R.ly ⟨fun y => absurd rfl y, fun _ => ⟨fun _ => ?_, fun y => absurd (R.2.2.2.2.2.1.trans z1) y⟩⟩)
          refine ws207_29 R.ly ⟨fun y => absurd (R.2.2.2.2.2.1.trans z1) y, fun _ => Cl.qv (R.nxt hp) hD (fun h1 R1 => ⟨R1.ly, ?_⟩)⟩
          refine Cl.qv (M h0 h1 R1) (Nat.le_refl _) (fun h2 P => ?_)
          have P2 := P.1 rfl
          refine ⟨P2.ly, Cl.qv (P2.emit (by omega)) (by omega) (fun h3 P3 => ⟨P3.ly, Ev.mono (M2 h0 h3 P3) (Nat.le_refl _) (fun r h4 P4 => ⟨P4.1, P4.2.1, fun y => (P4.2.2 y).mn (by omega)⟩)⟩)⟩
    · by_cases z2 : tk B n p = 45
      · have t0 : ¬ tk B n p = 0 := fun y => by rw [z2] at y; exact absurd y (by decide)
        have t2 : ¬ tk B n p = 2 := fun y => by rw [z2] at y; exact absurd y (by decide)
        have lt := (en_b (B := B) hp).2.2 t0
        have le := (en_b (B := B) hp).2.1
        obtain ⟨ok, p1, m1, op1, w1, l1, U, C, M, -⟩ := N (en B n p) m op w l le (by omega)
        have u1 := U.1
        have i4 : ¬ (400 : Int32) ≤ zI i := fun y => absurd ((zI_le (m := 400) (n := i) (by decide) (by omega)).mp y) (by omega)
        cases ok with
        | false =>
          refine ⟨false, p1, m1, op1, w1, l1, U.apf hp, fun h0 h R => ?_, fun h0 h R => ?_, fun y1 y2 => absurd z2 y2⟩
          · refine wc38_12 _ _ R.ly ⟨fun y => absurd y i4, fun _ => ⟨fun y => absurd ((R.tok (c := 43) (T := 43) (by decide) rfl).mp y) z1, fun _ => ⟨fun y => absurd ((R.tok (c := 45) (T := 45) (by decide) rfl).mpr z2) y, fun _ => ?_⟩⟩⟩
            refine wc38_37 _ _ R.ly (Cl.qvc (R.adv hp) hD (fun h1 R1 => ⟨R1.ly, ?_⟩))
            exact Cl.qic (C h0 h1 R1) (Nat.le_refl _) (fun h2 R2 => ⟨R2.ly, fun y => absurd rfl y, fun _ => ⟨rfl, R2⟩⟩)
          · refine ws207_4 R.ly (Cl.i R.is (by omega) R.ly ⟨fun y => absurd rfl y, fun _ => ⟨fun y => absurd (R.2.2.2.2.2.1.symm.trans y) z1, fun _ => ⟨fun y => absurd (R.2.2.2.2.2.1.trans z2) y, fun _ => ?_⟩⟩⟩)
            refine ws207_29 R.ly ⟨fun _ => Cl.qv (R.nxt hp) hD (fun h1 R1 => ⟨R1.ly, ?_⟩), fun y => absurd (R.2.2.2.2.2.1.symm.trans (Decidable.not_not.mp y)) z1⟩
            refine Cl.qv (M h0 h1 R1) (Nat.le_refl _) (fun h2 P => ?_)
            have P2 := P.2 rfl
            refine ⟨P2.ly, Cl.qv (P2.emit (by omega)) (by omega) (fun h3 P3 => ⟨P3.ly, ws207_4 P3.ly (Cl.i P3.is (by omega) P3.ly ⟨fun _ => ⟨rfl, fun y => absurd y (by decide), fun _ => P3.mn (by omega)⟩, fun y => absurd (by decide) y⟩)⟩)⟩
        | true =>
          have V := PU.app (o := 8) (c := 1) hp t2 t0 U.sh (by decide)
          have v1 := V.1
          obtain ⟨ok2, p2, m2, op2, w2, l2, U2, C2, M2, -⟩ := ih p1 (m1 + 1) (wr op1 m1 8) (wr w1 m1 0) l1 (i + 1) (by omega) (by omega) (by omega) (by omega)
          have u2 := U2.1
          refine ⟨ok2, p2, m2, op2, w2, l2, V.seq U2, fun h0 h R => ?_, fun h0 h R => ?_, fun y1 y2 => absurd z2 y2⟩
          · refine wc38_12 _ _ R.ly ⟨fun y => absurd y i4, fun _ => ⟨fun y => absurd ((R.tok (c := 43) (T := 43) (by decide) rfl).mp y) z1, fun _ => ⟨fun y => absurd ((R.tok (c := 45) (T := 45) (by decide) rfl).mpr z2) y, fun _ => ?_⟩⟩⟩
            refine wc38_37 _ _ R.ly (Cl.qvc (R.adv hp) hD (fun h1 R1 => ⟨R1.ly, ?_⟩))
            refine Cl.qic (C h0 h1 R1) (Nat.le_refl _) (fun h2 R2 => ⟨R2.ly, fun _ => ⟨fun _ => Cl.qvc (R2.emit (o := 8) (v := 0) (by omega) (cR_o (by decide))) (by omega) (fun h3 R3 => ⟨R3.ly, ?_⟩), fun y => absurd ((R.tok (c := 43) (T := 43) (by decide) rfl).mp (Decidable.not_not.mp y)) z1⟩, fun y => absurd (by decide) y⟩)
            rw [zI_succ]
            exact C2 h0 h3 R3
          · refine ws207_4 R.ly (Cl.i R.is (by omega) R.ly ⟨fun y => absurd rfl y, fun _ => ⟨fun y => absurd (R.2.2.2.2.2.1.symm.trans y) z1, fun _ => ⟨fun y => absurd (R.2.2.2.2.2.1.trans z2) y, fun _ => ?_⟩⟩⟩)
            refine ws207_29 R.ly ⟨fun _ => Cl.qv (R.nxt hp) hD (fun h1 R1 => ⟨R1.ly, ?_⟩), fun y => absurd (R.2.2.2.2.2.1.symm.trans (Decidable.not_not.mp y)) z1⟩
            refine Cl.qv (M h0 h1 R1) (Nat.le_refl _) (fun h2 P => ?_)
            have P2 := P.1 rfl
            refine ⟨P2.ly, Cl.qv (P2.emit (by omega)) (by omega) (fun h3 P3 => ⟨P3.ly, Ev.mono (M2 h0 h3 P3) (Nat.le_refl _) (fun r h4 P4 => ⟨P4.1, P4.2.1, fun y => (P4.2.2 y).mn (by omega)⟩)⟩)⟩
      · refine ⟨true, p, m, op, w, l, PU.rf hp, fun h0 h R => ?_, fun h0 h R => ?_, fun _ _ => ⟨rfl, rfl, rfl⟩⟩
        · refine wc38_12 _ _ R.ly ⟨fun _ => ⟨rfl, R⟩, fun _ => ⟨fun y => absurd ((R.tok (c := 43) (T := 43) (by decide) rfl).mp y) z1, fun _ => ⟨fun _ => ⟨rfl, R⟩, fun y => absurd ((R.tok (c := 45) (T := 45) (by decide) rfl).mp (Decidable.not_not.mp y)) z2⟩⟩⟩
        · refine ws207_4 R.ly (Cl.i R.is (by omega) R.ly ⟨fun y => absurd rfl y, fun _ => ⟨fun y => absurd (R.2.2.2.2.2.1.symm.trans y) z1, fun _ => ⟨fun _ => ⟨rfl, fun _ => R, fun y => absurd y (by decide)⟩, fun y => absurd (R.2.2.2.2.2.1.symm.trans (Decidable.not_not.mp y)) z2⟩⟩⟩)
theorem nt_sum {B : Nat → Int32} {n t k o D H : Nat} (hn : n ≤ 400) (hD : 3 ≤ D) (N : NT B n t k o D 39 208 H) : NT B n t k o (D + 1) 38 207 (H + 1) := by
  intro p m op w l hp hm
  obtain ⟨ok, p1, m1, op1, w1, l1, U, C, M, Z⟩ := N p m op w l hp hm
  have u1 := U.1
  cases ok with
  | false =>
    refine ⟨false, p1, m1, op1, w1, l1, U.fl, fun h0 h R => ?_, fun h0 h R => ?_, Z⟩
    · exact wc38 _ R.ly (Cl.qic (C h0 h R) (Nat.le_refl _) (fun h2 R2 => ⟨R2.ly, fun y => absurd rfl y, fun _ => ⟨rfl, R2⟩⟩))
    · refine ws207 R.ly (Cl.qv (M h0 h R) (Nat.le_refl _) (fun h2 P => ?_))
      have P2 := P.2 rfl
      exact ⟨P2.ly, ws207_4 P2.ly (Cl.i P2.is (by omega) P2.ly ⟨fun _ => ⟨rfl, fun y => absurd y (by decide), fun _ => P2⟩, fun y => absurd (by decide) y⟩)⟩
  | true =>
    obtain ⟨ok2, p2, m2, op2, w2, l2, U2, C2, M2, Z2⟩ := lp_sum hn hD N n p1 m1 op1 w1 l1 0 (by omega) (by omega) (by omega) (by omega)
    have u2 := U2.1
    refine ⟨ok2, p2, m2, op2, w2, l2, (U.mn (by omega)).seq U2, fun h0 h R => ?_, fun h0 h R => ?_, fun y1 y2 => ?_⟩
    · exact wc38 _ R.ly (Cl.qic (C h0 h R) (Nat.le_refl _) (fun h2 R2 => ⟨R2.ly, fun _ => C2 h0 h2 R2, fun y => absurd (by decide) y⟩))
    · refine ws207 R.ly (Cl.qv (M h0 h R) (Nat.le_refl _) (fun h2 P => ?_))
      have P2 := P.1 rfl
      exact ⟨P2.ly, Ev.mono (M2 h0 h2 P2) (Nat.le_refl _) (fun r h4 P4 => ⟨P4.1, P4.2.1, fun y => (P4.2.2 y).mn (by omega)⟩)⟩
    · obtain ⟨-, q2, q3⟩ := Z y1 y2
      rw [← q2] at y2
      obtain ⟨r1, r2, r3⟩ := Z2 (fun y => by rw [y2] at y; exact absurd y (by decide)) (fun y => by rw [y2] at y; exact absurd y (by decide))
      exact ⟨r1, r2.trans q2, r3.trans q3⟩
theorem lp_and {B : Nat → Int32} {n t k o D H : Nat} (hn : n ≤ 400) (hD : 3 ≤ D) (N : NT B n t k o D 36 206 H) : LPp B n t k o (D + 1) 35 205 (H + 1) [] [] 305 305 := by
  intro f
  induction f with
  | zero =>
    intro p m op w l i hf hp hm hi
    by_cases z1 : tk B n p = 305
    · have t0 : ¬ tk B n p = 0 := fun y => by rw [z1] at y; exact absurd y (by decide)
      have t2 : ¬ tk B n p = 2 := fun y => by rw [z1] at y; exact absurd y (by decide)
      have lt := (en_b (B := B) hp).2.2 t0
      have le := (en_b (B := B) hp).2.1
      omega
    · refine ⟨true, p, m, op, w, l, PU.rf hp, fun h0 h R => ?_, fun h0 h R => ?_, fun _ _ => ⟨rfl, rfl, rfl⟩⟩
      · refine wc35_12 _ _ R.ly ⟨fun _ => ⟨rfl, R⟩, fun _ => ⟨fun _ => ⟨rfl, R⟩, fun y => absurd ((R.tok (c := 13) (T := 305) (by decide) rfl).mp (Decidable.not_not.mp y)) z1⟩⟩
      · refine ws205_4 R.ly (Cl.i R.is (by omega) R.ly ⟨fun y => absurd rfl y, fun _ => ⟨fun _ => ⟨rfl, fun _ => R, fun y => absurd y (by decide)⟩, fun y => absurd (R.2.2.2.2.2.1.symm.trans (Decidable.not_not.mp y)) z1⟩⟩)
  | succ f ih =>
    intro p m op w l i hf hp hm hi
    by_cases z1 : tk B n p = 305
    · have t0 : ¬ tk B n p = 0 := fun y => by rw [z1] at y; exact absurd y (by decide)
      have t2 : ¬ tk B n p = 2 := fun y => by rw [z1] at y; exact absurd y (by decide)
      have lt := (en_b (B := B) hp).2.2 t0
      have le := (en_b (B := B) hp).2.1
      obtain ⟨ok, p1, m1, op1, w1, l1, U, C, M, -⟩ := N (en B n p) m op w l le (by omega)
      have u1 := U.1
      have i4 : ¬ (400 : Int32) ≤ zI i := fun y => absurd ((zI_le (m := 400) (n := i) (by decide) (by omega)).mp y) (by omega)
      cases ok with
      | false =>
        refine ⟨false, p1, m1, op1, w1, l1, U.apf hp, fun h0 h R => ?_, fun h0 h R => ?_, fun y1 y2 => absurd z1 y1⟩
        · refine wc35_12 _ _ R.ly ⟨fun y => absurd y i4, fun _ => ⟨fun y => absurd ((R.tok (c := 13) (T := 305) (by decide) rfl).mpr z1) y, fun _ => Cl.qvc (R.adv hp) hD (fun h1 R1 => ⟨R1.ly, ?_⟩)⟩⟩
          exact Cl.qic (C h0 h1 R1) (Nat.le_refl _) (fun h2 R2 => ⟨R2.ly, fun y => absurd rfl y, fun _ => ⟨rfl, R2⟩⟩)
        · refine ws205_4 R.ly (Cl.i R.is (by omega) R.ly ⟨fun y => absurd rfl y, fun _ => ⟨fun y => absurd (R.2.2.2.2.2.1.trans z1) y, fun _ => Cl.qv (R.nxt hp) hD (fun h1 R1 => ⟨R1.ly, ?_⟩)⟩⟩)
          refine Cl.qv (M h0 h1 R1) (Nat.le_refl _) (fun h2 P => ?_)
          have P2 := P.2 rfl
          refine ⟨P2.ly, Cl.qv (P2.emit (by omega)) (by omega) (fun h3 P3 => ⟨P3.ly, ws205_4 P3.ly (Cl.i P3.is (by omega) P3.ly ⟨fun _ => ⟨rfl, fun y => absurd y (by decide), fun _ => P3.mn (by omega)⟩, fun y => absurd (by decide) y⟩)⟩)⟩
      | true =>
        have V := PU.app (o := 3) (c := 1) hp t2 t0 U.sh (by decide)
        have v1 := V.1
        obtain ⟨ok2, p2, m2, op2, w2, l2, U2, C2, M2, -⟩ := ih p1 (m1 + 1) (wr op1 m1 3) (wr w1 m1 0) l1 (i + 1) (by omega) (by omega) (by omega) (by omega)
        have u2 := U2.1
        refine ⟨ok2, p2, m2, op2, w2, l2, V.seq U2, fun h0 h R => ?_, fun h0 h R => ?_, fun y1 y2 => absurd z1 y1⟩
        · refine wc35_12 _ _ R.ly ⟨fun y => absurd y i4, fun _ => ⟨fun y => absurd ((R.tok (c := 13) (T := 305) (by decide) rfl).mpr z1) y, fun _ => Cl.qvc (R.adv hp) hD (fun h1 R1 => ⟨R1.ly, ?_⟩)⟩⟩
          refine Cl.qic (C h0 h1 R1) (Nat.le_refl _) (fun h2 R2 => ⟨R2.ly, fun _ => Cl.qvc (R2.emit (o := 3) (v := 0) (by omega) (cR_o (by decide))) (by omega) (fun h3 R3 => ⟨R3.ly, ?_⟩), fun y => absurd (by decide) y⟩)
          rw [zI_succ]
          exact C2 h0 h3 R3
        · refine ws205_4 R.ly (Cl.i R.is (by omega) R.ly ⟨fun y => absurd rfl y, fun _ => ⟨fun y => absurd (R.2.2.2.2.2.1.trans z1) y, fun _ => Cl.qv (R.nxt hp) hD (fun h1 R1 => ⟨R1.ly, ?_⟩)⟩⟩)
          refine Cl.qv (M h0 h1 R1) (Nat.le_refl _) (fun h2 P => ?_)
          have P2 := P.1 rfl
          refine ⟨P2.ly, Cl.qv (P2.emit (by omega)) (by omega) (fun h3 P3 => ⟨P3.ly, Ev.mono (M2 h0 h3 P3) (Nat.le_refl _) (fun r h4 P4 => ⟨P4.1, P4.2.1, fun y => (P4.2.2 y).mn (by omega)⟩)⟩)⟩
    · refine ⟨true, p, m, op, w, l, PU.rf hp, fun h0 h R => ?_, fun h0 h R => ?_, fun _ _ => ⟨rfl, rfl, rfl⟩⟩
      · refine wc35_12 _ _ R.ly ⟨fun _ => ⟨rfl, R⟩, fun _ => ⟨fun _ => ⟨rfl, R⟩, fun y => absurd ((R.tok (c := 13) (T := 305) (by decide) rfl).mp (Decidable.not_not.mp y)) z1⟩⟩
      · refine ws205_4 R.ly (Cl.i R.is (by omega) R.ly ⟨fun y => absurd rfl y, fun _ => ⟨fun _ => ⟨rfl, fun _ => R, fun y => absurd y (by decide)⟩, fun y => absurd (R.2.2.2.2.2.1.symm.trans (Decidable.not_not.mp y)) z1⟩⟩)
theorem nt_and {B : Nat → Int32} {n t k o D H : Nat} (hn : n ≤ 400) (hD : 3 ≤ D) (N : NT B n t k o D 36 206 H) : NT B n t k o (D + 1) 35 205 (H + 1) := by
  intro p m op w l hp hm
  obtain ⟨ok, p1, m1, op1, w1, l1, U, C, M, Z⟩ := N p m op w l hp hm
  have u1 := U.1
  cases ok with
  | false =>
    refine ⟨false, p1, m1, op1, w1, l1, U.fl, fun h0 h R => ?_, fun h0 h R => ?_, Z⟩
    · exact wc35 _ R.ly (Cl.qic (C h0 h R) (Nat.le_refl _) (fun h2 R2 => ⟨R2.ly, fun y => absurd rfl y, fun _ => ⟨rfl, R2⟩⟩))
    · refine ws205 R.ly (Cl.qv (M h0 h R) (Nat.le_refl _) (fun h2 P => ?_))
      have P2 := P.2 rfl
      exact ⟨P2.ly, ws205_4 P2.ly (Cl.i P2.is (by omega) P2.ly ⟨fun _ => ⟨rfl, fun y => absurd y (by decide), fun _ => P2⟩, fun y => absurd (by decide) y⟩)⟩
  | true =>
    obtain ⟨ok2, p2, m2, op2, w2, l2, U2, C2, M2, Z2⟩ := lp_and hn hD N n p1 m1 op1 w1 l1 0 (by omega) (by omega) (by omega) (by omega)
    have u2 := U2.1
    refine ⟨ok2, p2, m2, op2, w2, l2, (U.mn (by omega)).seq U2, fun h0 h R => ?_, fun h0 h R => ?_, fun y1 y2 => ?_⟩
    · exact wc35 _ R.ly (Cl.qic (C h0 h R) (Nat.le_refl _) (fun h2 R2 => ⟨R2.ly, fun _ => C2 h0 h2 R2, fun y => absurd (by decide) y⟩))
    · refine ws205 R.ly (Cl.qv (M h0 h R) (Nat.le_refl _) (fun h2 P => ?_))
      have P2 := P.1 rfl
      exact ⟨P2.ly, Ev.mono (M2 h0 h2 P2) (Nat.le_refl _) (fun r h4 P4 => ⟨P4.1, P4.2.1, fun y => (P4.2.2 y).mn (by omega)⟩)⟩
    · obtain ⟨-, q2, q3⟩ := Z y1 y2
      rw [← q2] at y2
      obtain ⟨r1, r2, r3⟩ := Z2 (fun y => by rw [y2] at y; exact absurd y (by decide)) (fun y => by rw [y2] at y; exact absurd y (by decide))
      exact ⟨r1, r2.trans q2, r3.trans q3⟩
theorem lp_or {B : Nat → Int32} {n t k o D H : Nat} (hn : n ≤ 400) (hD : 3 ≤ D) (N : NT B n t k o D 35 205 H) : LPp B n t k o (D + 1) 34 204 (H + 1) [] [] 304 304 := by
  intro f
  induction f with
  | zero =>
    intro p m op w l i hf hp hm hi
    by_cases z1 : tk B n p = 304
    · have t0 : ¬ tk B n p = 0 := fun y => by rw [z1] at y; exact absurd y (by decide)
      have t2 : ¬ tk B n p = 2 := fun y => by rw [z1] at y; exact absurd y (by decide)
      have lt := (en_b (B := B) hp).2.2 t0
      have le := (en_b (B := B) hp).2.1
      omega
    · refine ⟨true, p, m, op, w, l, PU.rf hp, fun h0 h R => ?_, fun h0 h R => ?_, fun _ _ => ⟨rfl, rfl, rfl⟩⟩
      · refine wc34_12 _ _ R.ly ⟨fun _ => ⟨rfl, R⟩, fun _ => ⟨fun _ => ⟨rfl, R⟩, fun y => absurd ((R.tok (c := 12) (T := 304) (by decide) rfl).mp (Decidable.not_not.mp y)) z1⟩⟩
      · refine ws204_4 R.ly (Cl.i R.is (by omega) R.ly ⟨fun y => absurd rfl y, fun _ => ⟨fun _ => ⟨rfl, fun _ => R, fun y => absurd y (by decide)⟩, fun y => absurd (R.2.2.2.2.2.1.symm.trans (Decidable.not_not.mp y)) z1⟩⟩)
  | succ f ih =>
    intro p m op w l i hf hp hm hi
    by_cases z1 : tk B n p = 304
    · have t0 : ¬ tk B n p = 0 := fun y => by rw [z1] at y; exact absurd y (by decide)
      have t2 : ¬ tk B n p = 2 := fun y => by rw [z1] at y; exact absurd y (by decide)
      have lt := (en_b (B := B) hp).2.2 t0
      have le := (en_b (B := B) hp).2.1
      obtain ⟨ok, p1, m1, op1, w1, l1, U, C, M, -⟩ := N (en B n p) m op w l le (by omega)
      have u1 := U.1
      have i4 : ¬ (400 : Int32) ≤ zI i := fun y => absurd ((zI_le (m := 400) (n := i) (by decide) (by omega)).mp y) (by omega)
      cases ok with
      | false =>
        refine ⟨false, p1, m1, op1, w1, l1, U.apf hp, fun h0 h R => ?_, fun h0 h R => ?_, fun y1 y2 => absurd z1 y1⟩
        · refine wc34_12 _ _ R.ly ⟨fun y => absurd y i4, fun _ => ⟨fun y => absurd ((R.tok (c := 12) (T := 304) (by decide) rfl).mpr z1) y, fun _ => Cl.qvc (R.adv hp) hD (fun h1 R1 => ⟨R1.ly, ?_⟩)⟩⟩
          exact Cl.qic (C h0 h1 R1) (Nat.le_refl _) (fun h2 R2 => ⟨R2.ly, fun y => absurd rfl y, fun _ => ⟨rfl, R2⟩⟩)
        · refine ws204_4 R.ly (Cl.i R.is (by omega) R.ly ⟨fun y => absurd rfl y, fun _ => ⟨fun y => absurd (R.2.2.2.2.2.1.trans z1) y, fun _ => Cl.qv (R.nxt hp) hD (fun h1 R1 => ⟨R1.ly, ?_⟩)⟩⟩)
          refine Cl.qv (M h0 h1 R1) (Nat.le_refl _) (fun h2 P => ?_)
          have P2 := P.2 rfl
          refine ⟨P2.ly, Cl.qv (P2.emit (by omega)) (by omega) (fun h3 P3 => ⟨P3.ly, ws204_4 P3.ly (Cl.i P3.is (by omega) P3.ly ⟨fun _ => ⟨rfl, fun y => absurd y (by decide), fun _ => P3.mn (by omega)⟩, fun y => absurd (by decide) y⟩)⟩)⟩
      | true =>
        have V := PU.app (o := 2) (c := 1) hp t2 t0 U.sh (by decide)
        have v1 := V.1
        obtain ⟨ok2, p2, m2, op2, w2, l2, U2, C2, M2, -⟩ := ih p1 (m1 + 1) (wr op1 m1 2) (wr w1 m1 0) l1 (i + 1) (by omega) (by omega) (by omega) (by omega)
        have u2 := U2.1
        refine ⟨ok2, p2, m2, op2, w2, l2, V.seq U2, fun h0 h R => ?_, fun h0 h R => ?_, fun y1 y2 => absurd z1 y1⟩
        · refine wc34_12 _ _ R.ly ⟨fun y => absurd y i4, fun _ => ⟨fun y => absurd ((R.tok (c := 12) (T := 304) (by decide) rfl).mpr z1) y, fun _ => Cl.qvc (R.adv hp) hD (fun h1 R1 => ⟨R1.ly, ?_⟩)⟩⟩
          refine Cl.qic (C h0 h1 R1) (Nat.le_refl _) (fun h2 R2 => ⟨R2.ly, fun _ => Cl.qvc (R2.emit (o := 2) (v := 0) (by omega) (cR_o (by decide))) (by omega) (fun h3 R3 => ⟨R3.ly, ?_⟩), fun y => absurd (by decide) y⟩)
          rw [zI_succ]
          exact C2 h0 h3 R3
        · refine ws204_4 R.ly (Cl.i R.is (by omega) R.ly ⟨fun y => absurd rfl y, fun _ => ⟨fun y => absurd (R.2.2.2.2.2.1.trans z1) y, fun _ => Cl.qv (R.nxt hp) hD (fun h1 R1 => ⟨R1.ly, ?_⟩)⟩⟩)
          refine Cl.qv (M h0 h1 R1) (Nat.le_refl _) (fun h2 P => ?_)
          have P2 := P.1 rfl
          refine ⟨P2.ly, Cl.qv (P2.emit (by omega)) (by omega) (fun h3 P3 => ⟨P3.ly, Ev.mono (M2 h0 h3 P3) (Nat.le_refl _) (fun r h4 P4 => ⟨P4.1, P4.2.1, fun y => (P4.2.2 y).mn (by omega)⟩)⟩)⟩
    · refine ⟨true, p, m, op, w, l, PU.rf hp, fun h0 h R => ?_, fun h0 h R => ?_, fun _ _ => ⟨rfl, rfl, rfl⟩⟩
      · refine wc34_12 _ _ R.ly ⟨fun _ => ⟨rfl, R⟩, fun _ => ⟨fun _ => ⟨rfl, R⟩, fun y => absurd ((R.tok (c := 12) (T := 304) (by decide) rfl).mp (Decidable.not_not.mp y)) z1⟩⟩
      · refine ws204_4 R.ly (Cl.i R.is (by omega) R.ly ⟨fun y => absurd rfl y, fun _ => ⟨fun _ => ⟨rfl, fun _ => R, fun y => absurd y (by decide)⟩, fun y => absurd (R.2.2.2.2.2.1.symm.trans (Decidable.not_not.mp y)) z1⟩⟩)
theorem nt_or {B : Nat → Int32} {n t k o D H : Nat} (hn : n ≤ 400) (hD : 3 ≤ D) (N : NT B n t k o D 35 205 H) : NT B n t k o (D + 1) 34 204 (H + 1) := by
  intro p m op w l hp hm
  obtain ⟨ok, p1, m1, op1, w1, l1, U, C, M, Z⟩ := N p m op w l hp hm
  have u1 := U.1
  cases ok with
  | false =>
    refine ⟨false, p1, m1, op1, w1, l1, U.fl, fun h0 h R => ?_, fun h0 h R => ?_, Z⟩
    · exact wc34 _ R.ly (Cl.qic (C h0 h R) (Nat.le_refl _) (fun h2 R2 => ⟨R2.ly, fun y => absurd rfl y, fun _ => ⟨rfl, R2⟩⟩))
    · refine ws204 R.ly (Cl.qv (M h0 h R) (Nat.le_refl _) (fun h2 P => ?_))
      have P2 := P.2 rfl
      exact ⟨P2.ly, ws204_4 P2.ly (Cl.i P2.is (by omega) P2.ly ⟨fun _ => ⟨rfl, fun y => absurd y (by decide), fun _ => P2⟩, fun y => absurd (by decide) y⟩)⟩
  | true =>
    obtain ⟨ok2, p2, m2, op2, w2, l2, U2, C2, M2, Z2⟩ := lp_or hn hD N n p1 m1 op1 w1 l1 0 (by omega) (by omega) (by omega) (by omega)
    have u2 := U2.1
    refine ⟨ok2, p2, m2, op2, w2, l2, (U.mn (by omega)).seq U2, fun h0 h R => ?_, fun h0 h R => ?_, fun y1 y2 => ?_⟩
    · exact wc34 _ R.ly (Cl.qic (C h0 h R) (Nat.le_refl _) (fun h2 R2 => ⟨R2.ly, fun _ => C2 h0 h2 R2, fun y => absurd (by decide) y⟩))
    · refine ws204 R.ly (Cl.qv (M h0 h R) (Nat.le_refl _) (fun h2 P => ?_))
      have P2 := P.1 rfl
      exact ⟨P2.ly, Ev.mono (M2 h0 h2 P2) (Nat.le_refl _) (fun r h4 P4 => ⟨P4.1, P4.2.1, fun y => (P4.2.2 y).mn (by omega)⟩)⟩
    · obtain ⟨-, q2, q3⟩ := Z y1 y2
      rw [← q2] at y2
      obtain ⟨r1, r2, r3⟩ := Z2 (fun y => by rw [y2] at y; exact absurd y (by decide)) (fun y => by rw [y2] at y; exact absurd y (by decide))
      exact ⟨r1, r2.trans q2, r3.trans q3⟩
