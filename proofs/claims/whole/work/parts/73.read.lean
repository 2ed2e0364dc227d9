/-! PROPOSE 6: one, not, and all of them by how deep they stand -/
theorem NT.mn {B : Nat → Int32} {n t k o D cM mM H D' H' : Nat} (N : NT B n t k o D cM mM H) (hD : D ≤ D') (hH : H ≤ H') : NT B n t k o D' cM mM H' := by
  intro p m op w l hp hm
  obtain ⟨ok, p1, m1, op1, w1, l1, U, C, M, Z⟩ := N p m op w l hp hm
  exact ⟨ok, p1, m1, op1, w1, l1, U.mn hH, fun h0 h R => Cl.mono (C h0 h R) hD (fun _ _ q => q), fun h0 h R => Cl.mono (M h0 h R) hD (fun _ _ q => q), Z⟩
theorem Rm.s56 {B : Nat → Int32} {n t k o p m : Nat} {h0 h : AH} {op w : Nat → Int32} {l l' : Int32} (R : Rm B n t k o h0 p m op w l h) : Rm B n t k o h0 p m op w l' (am_si h 216 56 l') := by
  obtain ⟨r1, r2, r0, r4, r5, r6, r7, r8, r9, r10, r11, r12, r13⟩ := R
  exact ⟨r1, r2.si _ (by omega), fun i => by rw [gi_ne (by omega)]; exact r0 i, by rw [gi_ne (by omega)]; exact r4, by rw [gi_ne (by omega)]; exact r5, by rw [gi_ne (by omega)]; exact r6, fun z => by rw [gi_ne (by omega)]; exact r7 z, by rw [gi_ne (by omega)]; exact r8, by rw [gi_eq], by rw [gi_ne (by omega)]; exact r10, by rw [gi_ne (by omega)]; exact r11, by rw [gi_ne (by omega)]; exact r12, fun i hi => by rw [gi_ne (by omega), gi_ne (by omega)]; exact r13 i hi⟩
theorem Rm.tok {B : Nat → Int32} {n t k o p m : Nat} {h0 h : AH} {op w : Nat → Int32} {l : Int32} (R : Rm B n t k o h0 p m op w l h) : am_gi h 216 53 = tk B n p := R.2.2.2.2.2.1
theorem Rm.v57 {B : Nat → Int32} {n t k o p m : Nat} {h0 h : AH} {op w : Nat → Int32} {l : Int32} (R : Rm B n t k o h0 p m op w l h) : am_gi h 216 57 = zI o := R.2.2.2.2.2.2.2.2.2.1
theorem Rm.close {B : Nat → Int32} {n t k o p m : Nat} {h0 h : AH} {op w : Nat → Int32} {l : Int32} (R : Rm B n t k (o + 1) h0 p m op w l h) : Rm B n t k o h0 p m op w l (am_si h 216 57 (am_gi h 216 57 - 1)) := by
  rw [R.v57, zI_pred]; exact R.s57
theorem nt_one {B : Nat → Int32} {n t k o D H : Nat} (hn : n ≤ 400) (hk : k < 4) (ho : o ≤ 8) (hD : 5 ≤ D) (hH : 1 ≤ H) (N1 : o < 8 → NT B n t k (o + 1) D 40 210 H) (N2 : o < 8 → NT B n t k (o + 1) D 34 204 H) : NT B n t k o (D + 1) 40 210 H := by
  intro p m op w l hp hm
  have le := (en_b (B := B) hp).2.1
  by_cases z1 : tk B n p = 1
  · have t0 : ¬ tk B n p = 0 := fun y => by rw [z1] at y; exact absurd y (by decide)
    have t2 : ¬ tk B n p = 2 := fun y => by rw [z1] at y; exact absurd y (by decide)
    have lt := (en_b (B := B) hp).2.2 t0
    refine ⟨true, en B n p, m + 1, wr op m 0, wr w m (vl B n p), l, PU.opd hn hp hH t2 t0 (Or.inl ⟨rfl, rfl⟩), fun h0 h R => ?_, fun h0 h R => ?_, fun _ _ => ⟨rfl, rfl, rfl⟩⟩
    · exact wc40 _ R.ly ⟨fun _ => Cl.qvc (c41 R hp (by omega) z1) hD (fun h1 R1 => ⟨R1.ly, rfl, R1⟩), fun y => absurd ((R.tok (c := 2) (T := 1) (by decide) rfl).mpr z1) y⟩
    · refine ws210 R.ly (Cl.i R.is (by omega) R.ly ⟨fun _ => ⟨fun y => absurd (R.tok.trans z1) y, fun _ => ?_⟩, fun y => absurd rfl y⟩)
      rw [R.2.2.2.2.2.2.1 (Or.inl z1)]
      exact Cl.qv (R.emit (by omega)) (by omega) (fun h1 R1 => ⟨R1.ly, Cl.qv (R1.nxt hp) (by omega) (fun h2 R2 => ⟨R2.ly, rfl, fun _ => R2, fun y => absurd y (by decide)⟩)⟩)
  · by_cases z3 : tk B n p = 3
    · have t0 : ¬ tk B n p = 0 := fun y => by rw [z3] at y; exact absurd y (by decide)
      have t2 : ¬ tk B n p = 2 := fun y => by rw [z3] at y; exact absurd y (by decide)
      have lt := (en_b (B := B) hp).2.2 t0
      obtain ⟨l', N⟩ := LN_ex k l (vl B n p) (bgn B n p)
      refine ⟨true, en B n p, m + 1, wr op m 1, wr w m (vl B n p), l', PU.opd hn hp hH t2 t0 (Or.inr ⟨rfl, N⟩), fun h0 h R => ?_, fun h0 h R => ?_, fun y1 _ => ⟨rfl, rfl, ?_⟩⟩
      · exact wc40 _ R.ly ⟨fun y => absurd ((R.tok (c := 2) (T := 1) (by decide) rfl).mp y) z1, fun _ => ⟨fun y => absurd ((R.tok (c := 3) (T := 3) (by decide) rfl).mpr z3) y, fun _ => Cl.qvc (c41n R hk hp (by omega) z3 N) hD (fun h1 R1 => ⟨R1.ly, rfl, R1⟩)⟩⟩
      · obtain ⟨j, hj, ej⟩ := (vl_b (B := B) hp).2 z3
        have e54 : am_gi h 216 54 = vl B n p := R.2.2.2.2.2.2.1 (Or.inr z3)
        have e56 : am_gi h 216 56 = l := R.2.2.2.2.2.2.2.2.1
        have fin : ∀ h2, h2 = am_si h 216 56 l' → Cl D 202 [.ref 216, .int 1, .int (am_gi h2 216 54)] h2 (fun r22 h21 => r22 = none ∧ Lay h21 ∧ Cl D 195 [.ref 216] h21 (fun r24 h23 => r24 = none ∧ Lay h23 ∧ (none : Option Value) = none ∧ RF B n t k o h0 p m true (en B n p) (m + 1) (wr op m 1) (wr w m (vl B n p)) l' h23)) := fun h2 e2 => by
          have R2 : Rm B n t k o h0 p m op w l' h2 := by rw [e2]; exact R.s56
          rw [R2.2.2.2.2.2.2.1 (Or.inr z3)]
          exact Cl.qv (R2.emit (by omega)) (by omega) (fun h3 R3 => ⟨R3.ly, Cl.qv (R3.nxt hp) (by omega) (fun h4 R4 => ⟨R4.ly, rfl, fun _ => R4, fun y => absurd y (by decide)⟩)⟩)
        refine ws210 R.ly (Cl.i R.is (by omega) R.ly ⟨fun _ => ⟨fun _ => ⟨fun y => absurd (R.tok.trans z3) y, fun _ => ⟨fun y h2 e2 => ?_, fun y => ?_⟩⟩, fun y => absurd (R.tok.symm.trans (Decidable.not_not.mp y)) z1⟩, fun y => absurd rfl y⟩)
        · refine fin h2 ?_
          rw [e56] at y e2
          rcases N with N | N | N
          · rw [N.2]; exact e2
          · exact absurd N.1 y
          · exact absurd N.1 y
        · have y := Decidable.not_not.mp y
          rw [show am_gi h 216 54 = zI j from e54.trans ej]
          rw [e56] at y
          refine Cl.mono (m209 R.ly hk R.2.2.2.2.2.2.2.2.2.2.2.1 hj) (by omega) (fun r h3 q => ?_)
          obtain ⟨q1, q⟩ := q
          rw [q1]
          rcases q with ⟨q2, q3⟩ | ⟨q2, q3⟩
          · refine ⟨1, q3, R.ly, fun _ h2 e2 => fin h2 ?_, fun x => absurd (by decide) x⟩
            rw [e56] at e2
            rcases N with N | N | N
            · exact absurd y N.1
            · rw [N.2.2]; exact e2
            · rw [ej] at N; exact absurd q2 N.2.1
          · refine ⟨0, q3, R.ly, fun x => absurd rfl x, fun _ h2 e2 => fin h2 ?_⟩
            rw [R.2.2.2.2.1] at e2
            rcases N with N | N | N
            · exact absurd y N.1
            · rw [ej] at N; exact absurd N.2.1 q2
            · rw [N.2.2]; exact e2
      · rcases N with N | N | N
        · exact N.2
        · exact N.2.2
        · rcases y1 with y | y
          · exact absurd y z1
          · exact absurd y.2 N.2.1
    · have sv : ∀ (l' : Int32) (ok : Bool) (p' : Nat), SI B n k p l ok p' l' := fun l' ok p' y1 _ => y1.elim (fun y => absurd y z1) (fun y => absurd y.1 z3)
      have c1 : ∀ {h0 h : AH}, Rc B n k h0 p m op w l h → ¬ am_gi h 71 9 = 2 := fun R y => z1 ((R.tok (c := 2) (T := 1) (by decide) rfl).mp y)
      have c3 : ∀ {h0 h : AH}, Rc B n k h0 p m op w l h → ¬ am_gi h 71 9 = 3 := fun R y => z3 ((R.tok (c := 3) (T := 3) (by decide) rfl).mp y)
      have m1 : ∀ {h0 h : AH}, Rm B n t k o h0 p m op w l h → ¬ am_gi h 216 53 = 1 := fun R y => z1 (R.tok.symm.trans y)
      have m3 : ∀ {h0 h : AH}, Rm B n t k o h0 p m op w l h → ¬ am_gi h 216 53 = 3 := fun R y => z3 (R.tok.symm.trans y)
      by_cases o8 : o < 8
      · have lo : zI o < (8 : Int32) := (zI_lt (n := 8) (by omega) (by decide)).mpr o8
        by_cases z4 : tk B n p = 40
        · have t0 : ¬ tk B n p = 0 := fun y => by rw [z4] at y; exact absurd y (by decide)
          have t2 : ¬ tk B n p = 2 := fun y => by rw [z4] at y; exact absurd y (by decide)
          have t45 : ¬ tk B n p = 45 := fun y => by rw [z4] at y; exact absurd y (by decide)
          have lt := (en_b (B := B) hp).2.2 t0
          obtain ⟨ok, p1, k1, op1, w1, l1, U, C, M, -⟩ := N2 o8 (en B n p) m op w l le (by omega)
          have u1 := U.1
          have A : PU B n k H 0 0 p m op w l true (en B n p) m op w l := PU.con hp t2
          have cc : ∀ {Q : Option Value → AH → Prop} {h0 h : AH}, Rc B n k h0 p m op w l h → (∀ h1, Rc B n k h0 (en B n p) m op w l h1 → Cl D 34 [.ref 71, .int (zI (o + 1))] h1 (fun r13 h12 => ∃ x14, r13 = some (.int x14) ∧ LyC h12 ∧ (x14 = (0 : Int32) → Q (some (.int (0 : Int32))) h12) ∧ (¬ x14 = (0 : Int32) → Cl D 42 [.ref 71, .int (41 : Int32)] h12 (fun r16 h15 => ∃ x17, r16 = some (.int x17) ∧ LyC h15 ∧ (x17 = (0 : Int32) → Q (some (.int (0 : Int32))) h15) ∧ (¬ x17 = (0 : Int32) → Q (some (.int (1 : Int32))) h15))))) → Cl (D + 1) 40 [.ref 71, .int (zI o)] h Q := fun R K => by
            refine wc40 _ R.ly ⟨fun y => absurd y (c1 R), fun _ => ⟨fun _ => ⟨fun _ => ⟨fun y => absurd ((R.tok (c := 40) (T := 40) (by decide) rfl).mpr z4) y, fun _ => Cl.qvc (R.adv hp) (by omega) (fun h1 R1 => ⟨R1.ly, ?_⟩)⟩, fun y => absurd lo y⟩, fun y => absurd (Decidable.not_not.mp y) (c3 R)⟩⟩
            rw [zI_succ]; exact K h1 R1
          have mc : ∀ {Q : Option Value → AH → Prop} {h0 h : AH}, Rm B n t k o h0 p m op w l h → (∀ h1, Rm B n t k (o + 1) h0 (en B n p) m op w l h1 → Cl D 204 [.ref 216] h1 (fun r9 h8 => r9 = none ∧ Lay h8 ∧ Cl D 200 [.ref 216, .int (41 : Int32)] h8 (fun r11 h10 => r11 = none ∧ Lay h10 ∧ ∀ h12, h12 = am_si h10 216 57 ((am_gi h10 216 57) - (1 : Int32)) → Q none h12))) → Cl (D + 1) 210 [.ref 216] h Q := fun R K =>
            ws210 R.ly (Cl.i R.is (by omega) R.ly ⟨fun _ => ⟨fun _ => ⟨fun _ => ⟨fun _ => ⟨fun y => absurd (R.tok.trans z4) y, fun _ => Cl.qv (R.opens hp o8) (by omega) (fun h1 R1 => ⟨R1.ly, K h1 R1⟩)⟩, fun y => absurd (R.tok.symm.trans (Decidable.not_not.mp y)) t45⟩, fun y => absurd (Decidable.not_not.mp y) (m3 R)⟩, fun y => absurd (Decidable.not_not.mp y) (m1 R)⟩, fun y => absurd rfl y⟩)
          cases ok with
          | false =>
            refine ⟨false, p1, k1, op1, w1, l1, A.seq U, fun h0 h R => ?_, fun h0 h R => ?_, sv _ _ _⟩
            · exact cc R (fun h1 R1 => Cl.qic (C h0 h1 R1) (Nat.le_refl _) (fun h2 R2 => ⟨R2.ly, fun _ => ⟨rfl, R2⟩, fun y => absurd rfl y⟩))
            · refine mc R (fun h1 R1 => Cl.qv (M h0 h1 R1) (Nat.le_refl _) (fun h2 P => ?_))
              have P2 := P.2 rfl
              refine ⟨P2.ly, Cl.gv (P2.need 41) (by omega) P2.ly (fun h3 e3 => ⟨rfl, fun y => absurd y (by decide), fun _ => ?_⟩)⟩
              rw [e3]; exact (P2.s57 _).mn (by omega)
          | true =>
            by_cases z5 : tk B n p1 = 41
            · have t2' : ¬ tk B n p1 = 2 := fun y => by rw [z5] at y; exact absurd y (by decide)
              refine ⟨true, en B n p1, k1, op1, w1, l1, (A.seq U).seq (PU.con u1.2.1 t2'), fun h0 h R => ?_, fun h0 h R => ?_, sv _ _ _⟩
              · exact cc R (fun h1 R1 => Cl.qic (C h0 h1 R1) (Nat.le_refl _) (fun h2 R2 => ⟨R2.ly, fun y => absurd y (by decide), fun _ => Cl.qic ((R2.skip (T := 41) u1.2.1 (by decide) rfl).1 z5) (by omega) (fun h3 R3 => ⟨R3.ly, fun y => absurd y (by decide), fun _ => ⟨rfl, R3⟩⟩)⟩))
              · refine mc R (fun h1 R1 => Cl.qv (M h0 h1 R1) (Nat.le_refl _) (fun h2 P => ?_))
                have P2 := P.1 rfl
                refine ⟨P2.ly, Cl.qv ((P2.need u1.2.1).1 z5) (by omega) (fun h3 P3 => ⟨P3.ly, fun h4 e4 => ⟨rfl, fun _ => ?_, fun y => absurd y (by decide)⟩⟩)⟩
                rw [e4]; exact P3.close
            · refine ⟨false, p1, k1, op1, w1, l1, (A.seq U).seq (PU.rf u1.2.1), fun h0 h R => ?_, fun h0 h R => ?_, sv _ _ _⟩
              · exact cc R (fun h1 R1 => Cl.qic (C h0 h1 R1) (Nat.le_refl _) (fun h2 R2 => ⟨R2.ly, fun y => absurd y (by decide), fun _ => Cl.ic ((R2.skip (T := 41) u1.2.1 (by decide) rfl).2 z5) (by omega) R2.ly ⟨fun _ => ⟨rfl, R2⟩, fun y => absurd rfl y⟩⟩))
              · refine mc R (fun h1 R1 => Cl.qv (M h0 h1 R1) (Nat.le_refl _) (fun h2 P => ?_))
                have P2 := P.1 rfl
                refine ⟨P2.ly, Cl.qv ((P2.need u1.2.1).2 z5) (by omega) (fun h3 P3 => ⟨P3.ly, fun h4 e4 => ⟨rfl, fun y => absurd y (by decide), fun _ => ?_⟩⟩)⟩
                rw [e4]; exact (P3.s57 _).mn (by omega)
        · have c4 : ∀ {h0 h : AH}, Rc B n k h0 p m op w l h → ¬ am_gi h 71 9 = 40 := fun R y => z4 ((R.tok (c := 40) (T := 40) (by decide) rfl).mp y)
          by_cases z5 : tk B n p = 45
          · have t0 : ¬ tk B n p = 0 := fun y => by rw [z5] at y; exact absurd y (by decide)
            have t2 : ¬ tk B n p = 2 := fun y => by rw [z5] at y; exact absurd y (by decide)
            have lt := (en_b (B := B) hp).2.2 t0
            obtain ⟨ok, p1, k1, op1, w1, l1, U, C, M, -⟩ := N1 o8 (en B n p) m op w l le (by omega)
            have u1 := U.1
            have cc : ∀ {Q : Option Value → AH → Prop} {h0 h : AH}, Rc B n k h0 p m op w l h → (∀ h1, Rc B n k h0 (en B n p) m op w l h1 → Cl D 40 [.ref 71, .int (zI (o + 1))] h1 (fun r6 h5 => ∃ x7, r6 = some (.int x7) ∧ LyC h5 ∧ ((¬ x7 = (0 : Int32)) → Cl D 43 [.ref 71, .int (-29 : Int32)] h5 (fun r9 h8 => r9 = none ∧ LyC h8 ∧ Q (some (.int (1 : Int32))) h8)) ∧ (¬ (¬ x7 = (0 : Int32)) → Q (some (.int (0 : Int32))) h5))) → Cl (D + 1) 40 [.ref 71, .int (zI o)] h Q := fun R K => by
              refine wc40 _ R.ly ⟨fun y => absurd y (c1 R), fun _ => ⟨fun _ => ⟨fun _ => ⟨fun _ => ⟨fun _ => Cl.qvc (R.adv hp) (by omega) (fun h1 R1 => ⟨R1.ly, ?_⟩), fun y => absurd ((R.tok (c := 45) (T := 45) (by decide) rfl).mpr z5) y⟩, fun y => absurd (Decidable.not_not.mp y) (c4 R)⟩, fun y => absurd lo y⟩, fun y => absurd (Decidable.not_not.mp y) (c3 R)⟩⟩
              rw [zI_succ]; exact K h1 R1
            have mc : ∀ {Q : Option Value → AH → Prop} {h0 h : AH}, Rm B n t k o h0 p m op w l h → (∀ h1, Rm B n t k (o + 1) h0 (en B n p) m op w l h1 → Cl D 210 [.ref 216] h1 (fun r16 h15 => r16 = none ∧ Lay h15 ∧ ∀ h17, h17 = am_si h15 216 57 ((am_gi h15 216 57) - (1 : Int32)) → Cl D 202 [.ref 216, .int (10 : Int32), .int (0 : Int32)] h17 (fun r19 h18 => r19 = none ∧ Lay h18 ∧ Q none h18))) → Cl (D + 1) 210 [.ref 216] h Q := fun R K =>
              ws210 R.ly (Cl.i R.is (by omega) R.ly ⟨fun _ => ⟨fun _ => ⟨fun _ => ⟨fun y => absurd (R.tok.trans z5) y, fun _ => Cl.qv (R.opens hp o8) (by omega) (fun h1 R1 => ⟨R1.ly, K h1 R1⟩)⟩, fun y => absurd (Decidable.not_not.mp y) (m3 R)⟩, fun y => absurd (Decidable.not_not.mp y) (m1 R)⟩, fun y => absurd rfl y⟩)
            cases ok with
            | false =>
              refine ⟨false, p1, k1, op1, w1, l1, U.apf hp, fun h0 h R => ?_, fun h0 h R => ?_, sv _ _ _⟩
              · exact cc R (fun h1 R1 => Cl.qic (C h0 h1 R1) (Nat.le_refl _) (fun h2 R2 => ⟨R2.ly, fun y => absurd rfl y, fun _ => ⟨rfl, R2⟩⟩))
              · refine mc R (fun h1 R1 => Cl.qv (M h0 h1 R1) (Nat.le_refl _) (fun h2 P => ?_))
                have P2 := P.2 rfl
                refine ⟨P2.ly, fun h3 e3 => ?_⟩
                rw [e3]
                exact Cl.qv ((P2.s57 _).emit (by omega)) (by omega) (fun h4 P4 => ⟨P4.ly, rfl, fun y => absurd y (by decide), fun _ => P4.mn (by omega)⟩)
            | true =>
              have V := PU.app (o := 10) (c := 1) hp t2 t0 U (by decide)
              have v1 := V.1
              refine ⟨true, p1, k1 + 1, wr op1 k1 10, wr w1 k1 0, l1, V, fun h0 h R => ?_, fun h0 h R => ?_, sv _ _ _⟩
              · exact cc R (fun h1 R1 => Cl.qic (C h0 h1 R1) (Nat.le_refl _) (fun h2 R2 => ⟨R2.ly, fun _ => Cl.qvc (R2.emit (o := 10) (v := 0) (by omega) (cR_o (by decide))) (by omega) (fun h3 R3 => ⟨R3.ly, rfl, R3⟩), fun y => absurd (by decide) y⟩))
              · refine mc R (fun h1 R1 => Cl.qv (M h0 h1 R1) (Nat.le_refl _) (fun h2 P => ?_))
                have P2 := P.1 rfl
                refine ⟨P2.ly, fun h3 e3 => ?_⟩
                rw [e3]
                exact Cl.qv (P2.close.emit (by omega)) (by omega) (fun h4 P4 => ⟨P4.ly, rfl, fun _ => P4, fun y => absurd y (by decide)⟩)
          · refine ⟨false, p, m, op, w, l, (PU.rf (H := H) (a := 0) hp).fl, fun h0 h R => ?_, fun h0 h R => ?_, sv _ _ _⟩
            · exact wc40 _ R.ly ⟨fun y => absurd y (c1 R), fun _ => ⟨fun _ => ⟨fun _ => ⟨fun _ => ⟨fun y => absurd ((R.tok (c := 45) (T := 45) (by decide) rfl).mp y) z5, fun _ => ⟨rfl, R⟩⟩, fun y => absurd (Decidable.not_not.mp y) (c4 R)⟩, fun y => absurd lo y⟩, fun y => absurd (Decidable.not_not.mp y) (c3 R)⟩⟩
            · exact ws210 R.ly (Cl.i R.is (by omega) R.ly ⟨fun _ => ⟨fun _ => ⟨fun _ => ⟨fun _ => ⟨fun _ => Cl.qv (R.cannot hp) (by omega) (fun h1 P1 => ⟨P1.ly, rfl, fun y => absurd y (by decide), fun _ => P1.mn (by omega)⟩), fun y => absurd (R.tok.symm.trans (Decidable.not_not.mp y)) z4⟩, fun y => absurd (R.tok.symm.trans (Decidable.not_not.mp y)) z5⟩, fun y => absurd (Decidable.not_not.mp y) (m3 R)⟩, fun y => absurd (Decidable.not_not.mp y) (m1 R)⟩, fun y => absurd rfl y⟩)
      · have e8 : o = 8 := by omega
        subst e8
        refine ⟨false, p, m, op, w, l, (PU.rf (H := H) (a := 0) hp).fl, fun h0 h R => ?_, fun h0 h R => ?_, sv _ _ _⟩
        · exact wc40 _ R.ly ⟨fun y => absurd y (c1 R), fun _ => ⟨fun _ => ⟨fun y => absurd y (by decide), fun _ => ⟨rfl, R⟩⟩, fun y => absurd (Decidable.not_not.mp y) (c3 R)⟩⟩
        · refine ws210 R.ly (Cl.i R.is (by omega) R.ly ⟨fun _ => ⟨fun _ => ⟨fun _ => ⟨fun _ => ⟨fun _ => ?_, fun _ => ?_⟩, fun _ => ?_⟩, fun y => absurd (Decidable.not_not.mp y) (m3 R)⟩, fun y => absurd (Decidable.not_not.mp y) (m1 R)⟩, fun y => absurd rfl y⟩)
          · exact Cl.qv (R.cannot hp) (by omega) (fun h1 P1 => ⟨P1.ly, rfl, fun y => absurd y (by decide), fun _ => P1.mn (by omega)⟩)
          · refine Cl.qv (R.opens8 hp) (by omega) (fun h1 P1 => ⟨P1.ly, Cl.gv P1.either (by omega) P1.ly (Cl.gv (P1.need 41) (by omega) P1.ly (fun h3 e3 => ⟨rfl, fun y => absurd y (by decide), fun _ => ?_⟩))⟩)
            rw [e3]; exact (P1.s57 _).mn (by omega)
          · refine Cl.qv (R.opens8 hp) (by omega) (fun h1 P1 => ⟨P1.ly, Cl.gv P1.one (by omega) P1.ly (fun h3 e3 => ?_)⟩)
            rw [e3]
            exact Cl.qv ((P1.s57 _).emit (by omega)) (by omega) (fun h4 P4 => ⟨P4.ly, rfl, fun y => absurd y (by decide), fun _ => P4.mn (by omega)⟩)
theorem nt_not {B : Nat → Int32} {n t k o D H : Nat} (hn : n ≤ 400) (ho : o ≤ 8) (hD : 4 ≤ D) (Ns : NT B n t k o D 38 207 H) (Nn : o < 8 → NT B n t k (o + 1) (D + 1) 36 206 (H + 1)) : NT B n t k o (D + 2) 36 206 (H + 1) := by
  intro p m op w l hp hm
  have le := (en_b (B := B) hp).2.1
  by_cases z1 : tk B n p = 306
  · have t0 : ¬ tk B n p = 0 := fun y => by rw [z1] at y; exact absurd y (by decide)
    have t2 : ¬ tk B n p = 2 := fun y => by rw [z1] at y; exact absurd y (by decide)
    have lt := (en_b (B := B) hp).2.2 t0
    have sv : ∀ (l' : Int32) (ok : Bool) (p' : Nat), SI B n k p l ok p' l' := fun l' ok p' y1 _ => y1.elim (fun y => by rw [z1] at y; exact absurd y (by decide)) (fun y => by rw [z1] at y; exact absurd y.1 (by decide))
    by_cases o8 : o < 8
    · have lo : zI o < (8 : Int32) := (zI_lt (n := 8) (by omega) (by decide)).mpr o8
      obtain ⟨ok, p1, k1, op1, w1, l1, U, C, M, -⟩ := Nn o8 (en B n p) m op w l le (by omega)
      have u1 := U.1
      have cc : ∀ {Q : Option Value → AH → Prop} {h0 h : AH}, Rc B n k h0 p m op w l h → (∀ h1, Rc B n k h0 (en B n p) m op w l h1 → Cl (D + 1) 36 [.ref 71, .int (zI (o + 1))] h1 (fun r4 h3 => ∃ x5, r4 = some (.int x5) ∧ LyC h3 ∧ ((¬ x5 = (0 : Int32)) → Cl (D + 1) 43 [.ref 71, .int (-23 : Int32)] h3 (fun r7 h6 => r7 = none ∧ LyC h6 ∧ Q (some (.int (1 : Int32))) h6)) ∧ (¬ (¬ x5 = (0 : Int32)) → Q (some (.int (0 : Int32))) h3))) → Cl (D + 2) 36 [.ref 71, .int (zI o)] h Q := fun R K => by
        refine wc36 (d := D + 1) _ R.ly ⟨fun _ => ⟨fun _ => Cl.qvc (R.adv hp) (by omega) (fun h1 R1 => ⟨R1.ly, ?_⟩), fun y => absurd lo y⟩, fun y => absurd ((R.tok (c := 14) (T := 306) (by decide) rfl).mpr z1) y⟩
        rw [zI_succ]; exact K h1 R1
      have mc : ∀ {Q : Option Value → AH → Prop} {h0 h : AH}, Rm B n t k o h0 p m op w l h → (∀ h1, Rm B n t k (o + 1) h0 (en B n p) m op w l h1 → Cl (D + 1) 206 [.ref 216] h1 (fun r12 h11 => r12 = none ∧ Lay h11 ∧ ∀ h13, h13 = am_si h11 216 57 ((am_gi h11 216 57) - (1 : Int32)) → Cl (D + 1) 202 [.ref 216, .int (4 : Int32), .int (0 : Int32)] h13 (fun r15 h14 => r15 = none ∧ Lay h14 ∧ Q none h14))) → Cl (D + 2) 206 [.ref 216] h Q := fun R K =>
        ws206 (d := D + 1) R.ly (Cl.i R.is (by omega) R.ly ⟨fun _ => ⟨fun y => absurd (R.tok.trans z1) y, fun _ => Cl.qv (R.opens hp o8) (by omega) (fun h1 R1 => ⟨R1.ly, K h1 R1⟩)⟩, fun y => absurd rfl y⟩)
      cases ok with
      | false =>
        refine ⟨false, p1, k1, op1, w1, l1, U.apf hp, fun h0 h R => ?_, fun h0 h R => ?_, sv _ _ _⟩
        · exact cc R (fun h1 R1 => Cl.qic (C h0 h1 R1) (Nat.le_refl _) (fun h2 R2 => ⟨R2.ly, fun y => absurd rfl y, fun _ => ⟨rfl, R2⟩⟩))
        · refine mc R (fun h1 R1 => Cl.qv (M h0 h1 R1) (Nat.le_refl _) (fun h2 P => ?_))
          have P2 := P.2 rfl
          refine ⟨P2.ly, fun h3 e3 => ?_⟩
          rw [e3]
          exact Cl.qv ((P2.s57 _).emit (by omega)) (by omega) (fun h4 P4 => ⟨P4.ly, rfl, fun y => absurd y (by decide), fun _ => P4.mn (by omega)⟩)
      | true =>
        have V := PU.app (o := 4) (c := 1) hp t2 t0 U (by decide)
        have v1 := V.1
        refine ⟨true, p1, k1 + 1, wr op1 k1 4, wr w1 k1 0, l1, V, fun h0 h R => ?_, fun h0 h R => ?_, sv _ _ _⟩
        · exact cc R (fun h1 R1 => Cl.qic (C h0 h1 R1) (Nat.le_refl _) (fun h2 R2 => ⟨R2.ly, fun _ => Cl.qvc (R2.emit (o := 4) (v := 0) (by omega) (cR_o (by decide))) (by omega) (fun h3 R3 => ⟨R3.ly, rfl, R3⟩), fun y => absurd (by decide) y⟩))
        · refine mc R (fun h1 R1 => Cl.qv (M h0 h1 R1) (Nat.le_refl _) (fun h2 P => ?_))
          have P2 := P.1 rfl
          refine ⟨P2.ly, fun h3 e3 => ?_⟩
          rw [e3]
          exact Cl.qv (P2.close.emit (by omega)) (by omega) (fun h4 P4 => ⟨P4.ly, rfl, fun _ => P4, fun y => absurd y (by decide)⟩)
    · have e8 : o = 8 := by omega
      subst e8
      refine ⟨false, p, m, op, w, l, (PU.rf (H := H) (a := 0) hp).fl, fun h0 h R => ?_, fun h0 h R => ?_, sv _ _ _⟩
      · exact wc36 (d := D + 1) _ R.ly ⟨fun _ => ⟨fun y => absurd y (by decide), fun _ => ⟨rfl, R⟩⟩, fun y => absurd ((R.tok (c := 14) (T := 306) (by decide) rfl).mpr z1) y⟩
      · refine ws206 (d := D + 1) R.ly (Cl.i R.is (by omega) R.ly ⟨fun _ => ⟨fun y => absurd (R.tok.trans z1) y, fun _ => ?_⟩, fun y => absurd rfl y⟩)
        refine Cl.qv (R.opens8 hp) (by omega) (fun h1 P1 => ⟨P1.ly, Cl.gv P1.not (by omega) P1.ly (fun h3 e3 => ?_)⟩)
        rw [e3]
        exact Cl.qv ((P1.s57 _).emit (by omega)) (by omega) (fun h4 P4 => ⟨P4.ly, rfl, fun y => absurd y (by decide), fun _ => P4.mn (by omega)⟩)
  · obtain ⟨ok, p1, k1, op1, w1, l1, U, C, M, Z⟩ := Ns p m op w l hp hm
    have u1 := U.1
    have c36 : ∀ {ok : Bool} {P : AH → Prop} {h0 h : AH}, Rc B n k h0 p m op w l h → Cl (D + 1) 37 [.ref 71, .int (zI o)] h (fun r h' => r = some (.int (cond ok 1 0)) ∧ P h') → (∀ h', P h' → LyC h') → Cl (D + 2) 36 [.ref 71, .int (zI o)] h (fun r h' => r = some (.int (cond ok 1 0)) ∧ P h') := fun {ok P h0 h} R K L => by
      refine wc36 (d := D + 1) _ R.ly ⟨fun y => absurd ((R.tok (c := 14) (T := 306) (by decide) rfl).mp y) z1, fun _ => Cl.qic K (Nat.le_refl _) (fun h' R' => ⟨L h' R', ?_, rfl, R'⟩)⟩
      cases ok
      · exact Or.inl rfl
      · exact Or.inr rfl
    have m36 : ∀ {Q : Option Value → AH → Prop} {h0 h : AH}, Rm B n t k o h0 p m op w l h → (∀ h4, RF B n t k o h0 p m ok p1 k1 op1 w1 l1 h4 → Lay h4 ∧ Cl (D + 1) 198 [.ref 216] h4 (fun r7 h6 => ∃ x8, r7 = some (.int x8) ∧ Lay h6 ∧ ((¬ x8 = (0 : Int32)) → Q none h6) ∧ (¬ (¬ x8 = (0 : Int32)) → ((am_gi h6 216 53) = (60 : Int32) → Ev (D + 2) 206 72 [.ref 216, .null] [] h6 Q) ∧ (¬ (am_gi h6 216 53) = (60 : Int32) → ((¬ (am_gi h6 216 53) = (61 : Int32)) → Q none h6) ∧ (¬ (¬ (am_gi h6 216 53) = (61 : Int32)) → Ev (D + 2) 206 72 [.ref 216, .null] [] h6 Q))))) → Cl (D + 2) 206 [.ref 216] h Q := fun {Q h0 h} R K =>
      ws206 (d := D + 1) R.ly (Cl.i R.is (by omega) R.ly ⟨fun _ => ⟨fun _ => Cl.qv (M h0 h R) (by omega) (fun h4 P => K h4 P), fun y => absurd (R.tok.symm.trans (Decidable.not_not.mp y)) z1⟩, fun y => absurd rfl y⟩)
    cases ok with
    | false =>
      refine ⟨false, p1, k1, op1, w1, l1, U.fl, fun h0 h R => ?_, fun h0 h R => ?_, Z⟩
      · exact c36 (ok := false) R (wc37 _ R.ly (Cl.qic (C h0 h R) (Nat.le_refl _) (fun h2 R2 => ⟨R2.ly, fun y => absurd rfl y, fun _ => ⟨rfl, R2⟩⟩))) (fun h' R' => R'.ly)
      · exact m36 R (fun h4 P => ⟨(P.2 rfl).ly, Cl.i (P.2 rfl).is (by omega) (P.2 rfl).ly ⟨fun _ => ⟨rfl, fun y => absurd y (by decide), fun _ => P.2 rfl⟩, fun y => absurd (by decide) y⟩⟩)
    | true =>
      have Us := U.mn (H' := H + 1) (by omega)
      have lq : ∀ {h0 h : AH}, Rc B n k h0 p1 k1 op1 w1 l1 h → (am_gi h 71 9 = 60 ↔ tk B n p1 = 60) ∧ (am_gi h 71 9 = 61 ↔ tk B n p1 = 61) := fun R => ⟨R.tok (by decide) rfl, R.tok (by decide) rfl⟩
      by_cases zz : tk B n p1 = 60 ∨ tk B n p1 = 61
      · have t0 : ¬ tk B n p1 = 0 := fun y => by rw [y] at zz; exact absurd zz (by decide)
        have t2 : ¬ tk B n p1 = 2 := fun y => by rw [y] at zz; exact absurd zz (by decide)
        have lt := (en_b (B := B) u1.2.1).2.2 t0
        have le1 := (en_b (B := B) u1.2.1).2.1
        obtain ⟨ok2, p2, k2, op2, w2, l2, U2, C2, M2, -⟩ := Ns (en B n p1) k1 op1 w1 l1 le1 (by omega)
        have u2 := U2.1
        have sv : ∀ (l' : Int32) (ok : Bool) (p' : Nat), SI B n k p l ok p' l' := fun l' ok p' y1 y2 => by
          have := (Z y1 y2).2.1
          rw [← this] at y2; rw [y2] at zz; exact absurd zz (by decide)
        have cc : ∀ {Q : Option Value → AH → Prop} {h0 h : AH}, Rc B n k h0 p m op w l h → (∀ h1 h2, Rc B n k h0 p1 k1 op1 w1 l1 h1 → Rc B n k h0 (en B n p1) k1 op1 w1 l1 h2 → Cl D 38 [.ref 71, .int (zI o)] h2 (fun r4 h3 => ∃ x5, r4 = some (.int x5) ∧ LyC h3 ∧ ((¬ x5 = (0 : Int32)) → ((¬ am_gi h1 71 9 = (60 : Int32)) → Cl D 43 [.ref 71, .int (-25 : Int32)] h3 (fun r7 h6 => r7 = none ∧ LyC h6 ∧ Q (some (.int (1 : Int32))) h6)) ∧ (¬ (¬ am_gi h1 71 9 = (60 : Int32)) → Cl D 43 [.ref 71, .int (-24 : Int32)] h3 (fun r9 h8 => r9 = none ∧ LyC h8 ∧ Q (some (.int (1 : Int32))) h8))) ∧ (¬ (¬ x5 = (0 : Int32)) → Q (some (.int (0 : Int32))) h3))) → Cl (D + 1) 37 [.ref 71, .int (zI o)] h Q := fun {Q h0 h} R K => by
          have go : ∀ h1, Rc B n k h0 p1 k1 op1 w1 l1 h1 → Ev (D + 1) 37 29 [.ref 71, .int (zI o), .int (am_gi h1 71 9)] [] h1 Q := fun h1 R1 => wc37_29 _ _ R1.ly (Cl.qvc (R1.adv u1.2.1) (by omega) (fun h2 R2 => ⟨R2.ly, K h1 h2 R1 R2⟩))
          refine wc37 _ R.ly (Cl.qic (C h0 h R) (Nat.le_refl _) (fun h1 R1 => ⟨R1.ly, fun _ => ⟨fun _ => go h1 R1, fun y => ⟨fun _ => go h1 R1, fun x => absurd ?_ x⟩⟩, fun y => absurd (by decide) y⟩))
          exact (lq R1).2.mpr (zz.resolve_left (fun v => y ((lq R1).1.mpr v)))
        have mc : ∀ {Q : Option Value → AH → Prop} {h0 h : AH}, Rm B n t k o h0 p m op w l h → (∀ h2, Rm B n t k o h0 (en B n p1) k1 op1 w1 l1 h2 → Cl (D + 1) 207 [.ref 216] h2 (fun r4 h3 => r4 = none ∧ Lay h3 ∧ Cl (D + 1) 202 [.ref 216, .int (if tk B n p1 = 60 then 5 else 6 : Int32), .int (0 : Int32)] h3 (fun r6 h5 => r6 = none ∧ Lay h5 ∧ Q none h5))) → Cl (D + 2) 206 [.ref 216] h Q := fun {Q h0 h} R K => by
          refine m36 R (fun h4 P => ?_)
          have P1 := P.1 rfl
          have go : Ev (D + 2) 206 72 [.ref 216, .null] [] h4 Q := by
            refine ws206_72 (d := D + 1) P1.ly ⟨fun y => Cl.qv (P1.nxt u1.2.1) (by omega) (fun h2 R2 => ⟨R2.ly, ?_⟩), fun y => Cl.qv (P1.nxt u1.2.1) (by omega) (fun h2 R2 => ⟨R2.ly, ?_⟩)⟩
            · have := K h2 R2
              rw [if_neg (fun x => y (P1.tok.trans x))] at this; exact this
            · have := K h2 R2
              rw [if_pos (P1.tok.symm.trans (Decidable.not_not.mp y))] at this; exact this
          refine ⟨P1.ly, Cl.i P1.is (by omega) P1.ly ⟨fun y => absurd rfl y, fun _ => ⟨fun _ => go, fun y => ⟨fun x => absurd ?_ x, fun _ => go⟩⟩⟩⟩
          exact P1.tok.trans (zz.resolve_left (fun v => y (P1.tok.trans v)))
        cases ok2 with
        | false =>
          refine ⟨false, p2, k2, op2, w2, l2, Us.seq (U2.apf (a' := 1) (b' := 1) u1.2.1), fun h0 h R => ?_, fun h0 h R => ?_, sv _ _ _⟩
          · exact c36 (ok := false) R (cc R (fun h1 h2 R1 R2 => Cl.qic (C2 h0 h2 R2) (Nat.le_refl _) (fun h3 R3 => ⟨R3.ly, fun y => absurd rfl y, fun _ => ⟨rfl, R3⟩⟩))) (fun h' R' => R'.ly)
          · refine mc R (fun h2 R2 => Cl.qv (M2 h0 h2 R2) (by omega) (fun h3 P3 => ?_))
            have P4 := P3.2 rfl
            exact ⟨P4.ly, Cl.qv (P4.emit (by omega)) (by omega) (fun h4 P5 => ⟨P5.ly, rfl, fun y => absurd y (by decide), fun _ => P5.mn (by omega)⟩)⟩
        | true =>
          obtain ⟨x, hx, ex⟩ : ∃ x : Int32, (x = 5 ∨ x = 6) ∧ (if tk B n p1 = 60 then 5 else 6 : Int32) = x := ⟨_, by split <;> decide, rfl⟩
          have V := PU.app (o := x) (c := 1) u1.2.1 t2 t0 U2.sh (Or.inr ⟨by rcases hx with e | e <;> (rw [e]; decide), rfl, by decide⟩)
          have v1 := V.1
          refine ⟨true, p2, k2 + 1, wr op2 k2 x, wr w2 k2 0, l2, Us.seq V, fun h0 h R => ?_, fun h0 h R => ?_, sv _ _ _⟩
          · refine c36 (ok := true) R (cc R (fun h1 h2 R1 R2 => Cl.qic (C2 h0 h2 R2) (Nat.le_refl _) (fun h3 R3 => ⟨R3.ly, fun _ => ⟨fun y => ?_, fun y => ?_⟩, fun y => absurd (by decide) y⟩))) (fun h' R' => R'.ly)
            · rw [if_neg (fun v => y ((lq R1).1.mpr v))] at ex
              subst ex
              exact Cl.qvc (R3.emit (o := 6) (v := 0) (by omega) (cR_o (by decide))) (by omega) (fun h4 R4 => ⟨R4.ly, rfl, R4⟩)
            · rw [if_pos ((lq R1).1.mp (Decidable.not_not.mp y))] at ex
              subst ex
              exact Cl.qvc (R3.emit (o := 5) (v := 0) (by omega) (cR_o (by decide))) (by omega) (fun h4 R4 => ⟨R4.ly, rfl, R4⟩)
          · refine mc R (fun h2 R2 => Cl.qv (M2 h0 h2 R2) (by omega) (fun h3 P3 => ?_))
            have P4 := P3.1 rfl
            rw [ex]
            exact ⟨P4.ly, Cl.qv (P4.emit (by omega)) (by omega) (fun h4 P5 => ⟨P5.ly, rfl, fun _ => P5, fun y => absurd y (by decide)⟩)⟩
      · refine ⟨true, p1, k1, op1, w1, l1, Us, fun h0 h R => ?_, fun h0 h R => ?_, Z⟩
        · exact c36 (ok := true) R (wc37 _ R.ly (Cl.qic (C h0 h R) (Nat.le_refl _) (fun h1 R1 => ⟨R1.ly, fun _ => ⟨fun y => absurd (Or.inl ((lq R1).1.mp y)) zz, fun _ => ⟨fun y => absurd (Or.inr ((lq R1).2.mp y)) zz, fun _ => ⟨rfl, R1⟩⟩⟩, fun y => absurd (by decide) y⟩))) (fun h' R' => R'.ly)
        · exact m36 R (fun h4 P => ⟨(P.1 rfl).ly, Cl.i (P.1 rfl).is (by omega) (P.1 rfl).ly ⟨fun y => absurd rfl y, fun _ => ⟨fun y => absurd (Or.inl ((P.1 rfl).tok.symm.trans y)) zz, fun _ => ⟨fun _ => ⟨rfl, fun _ => P.1 rfl, fun y => absurd y (by decide)⟩, fun y => absurd (Or.inr ((P.1 rfl).tok.symm.trans (Decidable.not_not.mp y))) zz⟩⟩⟩⟩)
/-- all of them, by what may still stand in each other -/
theorem nts {B : Nat → Int32} {n t k : Nat} (hn : n ≤ 400) (hk : k < 4) : ∀ j o, o + j = 8 → NT B n t k o (10 * j + 6) 40 210 (5 * j + 1) ∧ NT B n t k o (10 * j + 10) 36 206 (5 * j + 4) ∧ NT B n t k o (10 * j + 12) 34 204 (5 * j + 6)
  | 0, o, e => by
    have n1 : NT B n t k o 6 40 210 1 := nt_one hn hk (by omega) (by decide) (by decide) (fun z => absurd z (by omega)) (fun z => absurd z (by omega))
    have n2 := nt_sum hn (by decide) (nt_term hn (by decide) n1)
    have n3 := nt_not hn (by omega) (by decide) n2 (fun z => absurd z (by omega))
    exact ⟨n1, n3, nt_or hn (by decide) (nt_and hn (by decide) n3)⟩
  | j + 1, o, e => by
    obtain ⟨i1, i2, i3⟩ := nts (t := t) hn hk j (o + 1) (by omega)
    have n1 : NT B n t k o (10 * (j + 1) + 6) 40 210 (5 * (j + 1) + 1) := nt_one hn hk (by omega) (by omega) (by omega) (fun _ => i1.mn (by omega) (by omega)) (fun _ => i3.mn (by omega) (by omega))
    have n2 := nt_sum hn (by omega) (nt_term hn (by omega) n1)
    have n3 := nt_not hn (by omega) (by omega) n2 (fun _ => i2.mn (by omega) (by omega))
    exact ⟨n1, n3, nt_or hn (by omega) (nt_and hn (by omega) n3)⟩
theorem nt0 {B : Nat → Int32} {n t k : Nat} (hn : n ≤ 400) (hk : k < 4) : NT B n t k 0 92 34 204 46 := (nts hn hk 8 0 rfl).2.2
