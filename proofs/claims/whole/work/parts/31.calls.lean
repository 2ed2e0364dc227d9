/-! CALLS 2 -/
theorem tpm {a k t : Nat} {ts : List Nat} (e : tp a k = t) (m : t ∈ ts) : tp a k ∈ ts := by rw [e]; exact m
theorem in_N {x : Int32} {n m : Nat} (h : inN x n) (hn : n ≤ m) : am_in x m := in_of h.1 (by have := h.2; omega)
theorem inN_tn {x : Int32} {n : Nat} (h : inN x n) : x.toNatClampNeg < n := by
  rw [tn_of h.1]; have := h.1; have := h.2; omega
theorem p22 {h : AH} (Ly : Lay h) {j : Nat} (hj : j < 24) (d : Int32) : PF 0 22 [.ref (124 + j), .int d] h (.int (bI (¬ d < am_gi h (124 + j) 1 ∧ (am_gi h (124 + j) 2 = -1 ∨ ¬ am_gi h (124 + j) 2 ≤ d)))) := by
  refine ws22 hj d Ly ⟨fun a => ⟨?_, rfl⟩, fun a => ⟨fun b => ⟨?_, rfl⟩, fun b => ⟨fun c => ⟨?_, rfl⟩, fun c => ⟨?_, rfl⟩⟩⟩⟩
  · rw [bI_f]; exact fun z => z.1 a
  · rw [bI_t]; exact ⟨a, Or.inl b⟩
  · rw [bI_f]; exact fun z => z.2.elim b (fun w => w c)
  · rw [bI_t]; exact ⟨a, Or.inr c⟩
theorem p146 {L : Nat} {xs : Nat → Int32} {c : Nat} {h : AH} {nh nm nr na nt nc : Nat} (I : InvN L xs c h nh nm nr na nt nc) {x : Int32} (hx : inN x nm) : PF 1 146 [.ref 6, .int x] h (.int (bI (am_gi h 224 (Int32.toNatClampNeg x) = (-1 : Int32)))) := by
  have b2 := I.ime.1
  have hi := inN_tn hx
  have e := I.ime.2.2.2.2.1 _ hi
  obtain ⟨q1, q2, q3⟩ := I.ix1 _ hi
  refine ws146 _ I.lay ⟨in_N hx b2, Cl.i ((p22 I.lay (by omega) _).c ?_) (by decide) I.lay ⟨bI_01, rfl, rfl⟩⟩
  rw [I.ida.1, e.2.1, e.2.2.1, i_lt, i_le]
  refine ⟨fun z => z.2.elim id (fun w => q2.elim id (fun v => absurd v w)), fun z => ⟨by omega, Or.inl z⟩⟩
theorem p170 {h : AH} (Ly : Lay h) {x : Int32} (hx : am_in x 24) : PF 0 170 [.ref 216, .int x] h (.int (bI (am_gi h 224 (Int32.toNatClampNeg x) = (-1 : Int32)))) := by
  refine ws170 _ Ly ⟨hx, fun a => ⟨?_, rfl⟩, fun a => ⟨?_, rfl⟩⟩
  · rw [bI_f a]
  · rw [bI_t (Decidable.not_not.mp a)]
theorem p23 {h : AH} (Ly : Lay h) {j : Nat} (hj : j < 24) : PF 0 23 [.ref (124 + j)] h (.int (bI (¬ am_gi h (124 + j) 3 = -1))) := by
  refine ws23 hj Ly ⟨fun a => ⟨?_, rfl⟩, fun a => ⟨?_, rfl⟩⟩
  · rw [bI_f (not_not_intro a)]
  · rw [bI_t a]
theorem p171x {h : AH} (Ly : Lay h) {n : Nat} {g : Nat → Nat → Int32} (V : vMR h n g) {x : Int32} (hx : inN x n) (d : Int32) : PF 0 171 [.ref 216, .int x, .int d] h (.int (bI (onR g (Int32.toNatClampNeg x) d = true))) := by
  obtain ⟨i, hi, rfl⟩ := hx.ex
  have := V.1
  rw [zI_tn (by omega)]
  exact p171 Ly V hi d
theorem p65x {h : AH} (Ly : Lay h) {n : Nat} {g : Nat → Nat → Int32} (V : vCR h n g) {x : Int32} (hx : inN x n) (d : Int32) : PF 0 65 [.ref (11 + Int32.toNatClampNeg x), .int d] h (.int (bI (onR g (Int32.toNatClampNeg x) d = true))) := p65 Ly V (inN_tn hx) d
theorem p54 {h : AH} (Ly : Lay h) {n : Nat} (hn : n ≤ 60) (e : am_gi h 9 1 = zI n) (k : Nat) (hk : k ≤ 100) : PF 0 54 [.ref 9, .int (zI k)] h (.int (bI (n + k ≤ 60))) := by
  have r : ¬ (60 : Int32) < am_gi h 9 1 + zI k ↔ n + k ≤ 60 := by
    rw [e, zI_add, show (60 : Int32) = zI 60 from rfl, zI_lt (by omega) (by omega)]; omega
  refine PF.c ?_ r
  refine ws54 _ Ly ⟨fun a => ⟨?_, rfl⟩, fun a => ⟨?_, rfl⟩⟩
  · rw [bI_f (not_not_intro a)]
  · rw [bI_t a]
theorem OPi.wr {Mr : Nat} {as : List Value} {L : Nat} {xs : Nat → Int32} {c : Nat} {h h1 : AH} {x : Int32} {ts : List Nat} (E : OC ts h h1) (Ly : Lay h) (Ic : ICo L xs h) (n : 12 ∉ ts) (K : ∀ k1, k1 = h1 → Lay k1 → (∀ a k, 216 ≤ a → a < 263 → am_gi k1 a k = am_gi h a k ∧ am_gl k1 a k = am_gl h a k) → Cl 700 Mr as k1 (fun r2 h2 => r2 = some (.int x) ∧ Inv L xs (c + 1) h2)) : ∃ y : Int32, some (Value.int x) = some (.int y) ∧ Lay h1 ∧ ICo L xs h1 ∧ Cl 700 Mr as h1 (fun r2 h2 => r2 = some (.int y) ∧ Inv L xs (c + 1) h2) :=
  ⟨x, rfl, E.lay Ly, Ic.ex E.ex n, K h1 rfl (E.lay Ly) (fun a k g1 g2 => E.2 a k (Or.inl ⟨g1, g2⟩))⟩
theorem OPl.wr {Mr : Nat} {as : List Value} {L : Nat} {xs : Nat → Int32} {c : Nat} {h h1 : AH} {x : Int64} {ts : List Nat} (E : OC ts h h1) (Ly : Lay h) (Ic : ICo L xs h) (n : 12 ∉ ts) (K : ∀ k1, k1 = h1 → Lay k1 → (∀ a k, 216 ≤ a → a < 263 → am_gi k1 a k = am_gi h a k ∧ am_gl k1 a k = am_gl h a k) → Cl 700 Mr as k1 (fun r2 h2 => r2 = some (.long x) ∧ Inv L xs (c + 1) h2)) : ∃ y : Int64, some (Value.long x) = some (.long y) ∧ Lay h1 ∧ ICo L xs h1 ∧ Cl 700 Mr as h1 (fun r2 h2 => r2 = some (.long y) ∧ Inv L xs (c + 1) h2) :=
  ⟨x, rfl, E.lay Ly, Ic.ex E.ex n, K h1 rfl (E.lay Ly) (fun a k g1 g2 => E.2 a k (Or.inl ⟨g1, g2⟩))⟩
theorem vMR.fr {h h1 : AH} {n : Nat} {g : Nat → Nat → Int32} (V : vMR h n g) (hM : ∀ a k, 216 ≤ a → a < 263 → am_gi h1 a k = am_gi h a k ∧ am_gl h1 a k = am_gl h a k) : vMR h1 n g := ⟨V.1, by rw [(hM 216 14 (by decide) (by decide)).1]; exact V.2.1, fun i hi k hk => by rw [(hM _ i (by omega) (by omega)).1]; exact V.2.2 i hi k hk⟩
theorem in07 {x : Int32} (n0 : ¬ x = 0) (n1 : ¬ x = 1) (n2 : ¬ x = 2) (n3 : ¬ x = 3) (n4 : ¬ x = 4) (n5 : ¬ x = 5) (n6 : ¬ x = 6) : ¬ inR x 0 6 := fun z => by
  have z := inR_i z
  rw [i_eq] at n0 n1 n2 n3 n4 n5 n6
  have e0 : (0 : Int32).toInt = 0 := rfl
  have e1 : (1 : Int32).toInt = 1 := rfl
  have e2 : (2 : Int32).toInt = 2 := rfl
  have e3 : (3 : Int32).toInt = 3 := rfl
  have e4 : (4 : Int32).toInt = 4 := rfl
  have e5 : (5 : Int32).toInt = 5 := rfl
  have e6 : (6 : Int32).toInt = 6 := rfl
  omega
theorem op_rightTold {L : Nat} {xs : Nat → Int32} {c : Nat} {h : AH} {nh nm nr na nt nc : Nat} (I : InvN L xs c h nh nm nr na nt nc) (i1 : Int32) (i2 : Int32) : OPi 105 187 [.int i1, .int i2] L xs c h := by
  have Ly := I.lay
  have b1 := I.iho.1
  have b2 := I.ime.1
  have b3 := I.iri.1
  have b4 := I.itx.1
  have b5 := I.ics.1
  have b6 := I.ita.1
  refine ws105 _ _ Ly ?_
  refine Cl.i (p53 Ly (by omega) I.iri.2.1 _) (by decide) Ly ?_
  refine ⟨fun z1 => ?_, fun z1 => ?_⟩
  · replace z1 := bI_n0.mp (z1)
    refine ⟨(in_N z1 (by omega)), ?_⟩
    refine ⟨fun z2 => ?_, fun z2 => ?_, fun z2 => ?_, fun z2 => ?_, fun z2 => ?_, fun z2 => ?_, fun z2 => ?_, fun z2 => ?_⟩
    · subst z2
      refine ⟨_, rfl, Ly, I.ico, ?_⟩
      refine ws187 _ _ Ly ?_
      refine Cl.i (p181 Ly (n := nr) (by omega) (I.iri.2.2.1) _) (by decide) Ly ?_
      refine ⟨fun z => absurd z (bI_n0.mpr z1), fun _ => ?_⟩
      refine Cl.i (p167 Ly _ _ _) (by decide) Ly ?_
      refine ⟨fun _ => ?_, fun z => absurd (bI_n0.mpr (by decide)) z⟩
      refine ⟨fun _ => ?_, fun z => absurd z (by decide), fun z => absurd z (by decide), fun z => absurd z (by decide), fun z => absurd z (by decide), fun z => absurd z (by decide), fun z => absurd z (by decide)⟩
      refine ⟨(in_N z1 (by omega)), ?_⟩
      exact ⟨by rw [I.iri.2.2.2 _ (inN_tn z1) 0 (by decide)], I.sc (Ex.rf _ _)⟩
    · subst z2
      refine ⟨_, rfl, Ly, I.ico, ?_⟩
      refine ws187 _ _ Ly ?_
      refine Cl.i (p181 Ly (n := nr) (by omega) (I.iri.2.2.1) _) (by decide) Ly ?_
      refine ⟨fun z => absurd z (bI_n0.mpr z1), fun _ => ?_⟩
      refine Cl.i (p167 Ly _ _ _) (by decide) Ly ?_
      refine ⟨fun _ => ?_, fun z => absurd (bI_n0.mpr (by decide)) z⟩
      refine ⟨fun z => absurd z (by decide), fun _ => ?_, fun z => absurd z (by decide), fun z => absurd z (by decide), fun z => absurd z (by decide), fun z => absurd z (by decide), fun z => absurd z (by decide)⟩
      refine ⟨(in_N z1 (by omega)), ?_⟩
      exact ⟨by rw [I.iri.2.2.2 _ (inN_tn z1) 1 (by decide)], I.sc (Ex.rf _ _)⟩
    · subst z2
      refine ⟨_, rfl, Ly, I.ico, ?_⟩
      refine ws187 _ _ Ly ?_
      refine Cl.i (p181 Ly (n := nr) (by omega) (I.iri.2.2.1) _) (by decide) Ly ?_
      refine ⟨fun z => absurd z (bI_n0.mpr z1), fun _ => ?_⟩
      refine Cl.i (p167 Ly _ _ _) (by decide) Ly ?_
      refine ⟨fun _ => ?_, fun z => absurd (bI_n0.mpr (by decide)) z⟩
      refine ⟨fun z => absurd z (by decide), fun z => absurd z (by decide), fun _ => ?_, fun z => absurd z (by decide), fun z => absurd z (by decide), fun z => absurd z (by decide), fun z => absurd z (by decide)⟩
      refine ⟨(in_N z1 (by omega)), ?_⟩
      exact ⟨by rw [I.iri.2.2.2 _ (inN_tn z1) 2 (by decide)], I.sc (Ex.rf _ _)⟩
    · subst z2
      refine ⟨_, rfl, Ly, I.ico, ?_⟩
      refine ws187 _ _ Ly ?_
      refine Cl.i (p181 Ly (n := nr) (by omega) (I.iri.2.2.1) _) (by decide) Ly ?_
      refine ⟨fun z => absurd z (bI_n0.mpr z1), fun _ => ?_⟩
      refine Cl.i (p167 Ly _ _ _) (by decide) Ly ?_
      refine ⟨fun _ => ?_, fun z => absurd (bI_n0.mpr (by decide)) z⟩
      refine ⟨fun z => absurd z (by decide), fun z => absurd z (by decide), fun z => absurd z (by decide), fun _ => ?_, fun z => absurd z (by decide), fun z => absurd z (by decide), fun z => absurd z (by decide)⟩
      refine ⟨(in_N z1 (by omega)), ?_⟩
      exact ⟨by rw [I.iri.2.2.2 _ (inN_tn z1) 3 (by decide)], I.sc (Ex.rf _ _)⟩
    · subst z2
      refine ⟨_, rfl, Ly, I.ico, ?_⟩
      refine ws187 _ _ Ly ?_
      refine Cl.i (p181 Ly (n := nr) (by omega) (I.iri.2.2.1) _) (by decide) Ly ?_
      refine ⟨fun z => absurd z (bI_n0.mpr z1), fun _ => ?_⟩
      refine Cl.i (p167 Ly _ _ _) (by decide) Ly ?_
      refine ⟨fun _ => ?_, fun z => absurd (bI_n0.mpr (by decide)) z⟩
      refine ⟨fun z => absurd z (by decide), fun z => absurd z (by decide), fun z => absurd z (by decide), fun z => absurd z (by decide), fun _ => ?_, fun z => absurd z (by decide), fun z => absurd z (by decide)⟩
      refine ⟨(in_N z1 (by omega)), ?_⟩
      exact ⟨by rw [I.iri.2.2.2 _ (inN_tn z1) 4 (by decide)], I.sc (Ex.rf _ _)⟩
    · subst z2
      refine ⟨_, rfl, Ly, I.ico, ?_⟩
      refine ws187 _ _ Ly ?_
      refine Cl.i (p181 Ly (n := nr) (by omega) (I.iri.2.2.1) _) (by decide) Ly ?_
      refine ⟨fun z => absurd z (bI_n0.mpr z1), fun _ => ?_⟩
      refine Cl.i (p167 Ly _ _ _) (by decide) Ly ?_
      refine ⟨fun _ => ?_, fun z => absurd (bI_n0.mpr (by decide)) z⟩
      refine ⟨fun z => absurd z (by decide), fun z => absurd z (by decide), fun z => absurd z (by decide), fun z => absurd z (by decide), fun z => absurd z (by decide), fun _ => ?_, fun z => absurd z (by decide)⟩
      refine ⟨(in_N z1 (by omega)), ?_⟩
      exact ⟨by rw [I.iri.2.2.2 _ (inN_tn z1) 5 (by decide)], I.sc (Ex.rf _ _)⟩
    · subst z2
      refine Cl.i (by rw [I.ida.1]; exact p65x Ly (vCR.of I.iri) z1 _) (by decide) Ly ?_
      refine ⟨fun z3 => ?_, fun z3 => ?_⟩
      · replace z3 := bI_0.mp (z3)
        refine ⟨_, rfl, Ly, I.ico, ?_⟩
        refine ws187 _ _ Ly ?_
        refine Cl.i (p181 Ly (n := nr) (by omega) (I.iri.2.2.1) _) (by decide) Ly ?_
        refine ⟨fun z => absurd z (bI_n0.mpr z1), fun _ => ?_⟩
        refine Cl.i (p167 Ly _ _ _) (by decide) Ly ?_
        refine ⟨fun _ => ?_, fun z => absurd (bI_n0.mpr (by decide)) z⟩
        refine ⟨fun z => absurd z (by decide), fun z => absurd z (by decide), fun z => absurd z (by decide), fun z => absurd z (by decide), fun z => absurd z (by decide), fun z => absurd z (by decide), fun _ => ?_⟩
        refine Cl.i (p171x Ly (vMR.of I.iri) z1 _) (by decide) Ly ?_
        refine ⟨fun _ => ?_, fun z => absurd (bI_0.mpr z3) z⟩
        exact ⟨rfl, I.sc (Ex.rf _ _)⟩
      · replace z3 := bI_n0.mp (z3)
        refine ⟨_, rfl, Ly, I.ico, ?_⟩
        refine ws187 _ _ Ly ?_
        refine Cl.i (p181 Ly (n := nr) (by omega) (I.iri.2.2.1) _) (by decide) Ly ?_
        refine ⟨fun z => absurd z (bI_n0.mpr z1), fun _ => ?_⟩
        refine Cl.i (p167 Ly _ _ _) (by decide) Ly ?_
        refine ⟨fun _ => ?_, fun z => absurd (bI_n0.mpr (by decide)) z⟩
        refine ⟨fun z => absurd z (by decide), fun z => absurd z (by decide), fun z => absurd z (by decide), fun z => absurd z (by decide), fun z => absurd z (by decide), fun z => absurd z (by decide), fun _ => ?_⟩
        refine Cl.i (p171x Ly (vMR.of I.iri) z1 _) (by decide) Ly ?_
        refine ⟨fun z => absurd z (bI_n0.mpr z3), fun _ => ?_⟩
        exact ⟨rfl, I.sc (Ex.rf _ _)⟩
    · skip
      refine ⟨_, rfl, Ly, I.ico, ?_⟩
      refine ws187 _ _ Ly ?_
      refine Cl.i (p181 Ly (n := nr) (by omega) (I.iri.2.2.1) _) (by decide) Ly ?_
      refine ⟨fun z => absurd z (bI_n0.mpr z1), fun _ => ?_⟩
      refine Cl.i (p167 Ly _ _ _) (by decide) Ly ?_
      refine ⟨fun z => absurd z (not_not_intro (bI_0.mpr (in07 z2.1 z2.2.1 z2.2.2.1 z2.2.2.2.1 z2.2.2.2.2.1 z2.2.2.2.2.2.1 z2.2.2.2.2.2.2))), fun _ => ?_⟩
      exact ⟨rfl, I.sc (Ex.rf _ _)⟩
  · replace z1 := bI_0.mp (Decidable.not_not.mp z1)
    refine ⟨_, rfl, Ly, I.ico, ?_⟩
    refine ws187 _ _ Ly ?_
    refine Cl.i (p181 Ly (n := nr) (by omega) (I.iri.2.2.1) _) (by decide) Ly ?_
    refine ⟨fun _ => ?_, fun z => absurd (bI_0.mpr z1) z⟩
    exact ⟨rfl, I.sc (Ex.rf _ _)⟩
theorem IX4.off {h h' : AH} {nr : Nat} (I : IX4 h nr) (A : Ag 1 h h') (C : Ag 4 h h') (B : ∀ i, am_gi h' 220 i = am_gi h 220 i ∨ am_gi h' 220 i = 0) : IX4 h' nr := fun i hi z => by
  have e : am_gi h' 216 0 = am_gi h 216 0 := (A 216 0 rfl).1
  rw [e, hoR_congr (C.rR (by omega)) (C.rR (by omega)) (C.rR (by omega))] at z
  rw [C.rR (by omega)]
  exact (B _).elim (fun w => w.trans (I i hi z)) id
/-- one number of a member, in both programs -/
theorem IMe.set {h h' : AH} {n : Nat} (I : IMe h n) {i k : Nat} {v : Int32} (hi : i < n) (hk : k < 4) (e : h' = am_si (am_si h (124 + i) k v) (222 + k) i v) : IMe h' n := by
  have b := I.1
  subst e
  refine ⟨I.1, by (repeat (first | rw [gi_eq] | rw [gl_eq] | rw [gi_ne (by omega)] | rw [gl_ne (by omega)] | rw [gi_sl] | rw [gl_si])); exact I.2.1, by (repeat (first | rw [gi_eq] | rw [gl_eq] | rw [gi_ne (by omega)] | rw [gl_ne (by omega)] | rw [gi_sl] | rw [gl_si])); exact I.2.2.1, fun j hj => ?_, fun j hj => ?_, fun j h1 hj => ?_⟩
  · (repeat (first | rw [gi_eq] | rw [gl_eq] | rw [gi_ne (by omega)] | rw [gl_ne (by omega)] | rw [gi_sl] | rw [gl_si])); exact I.2.2.2.1 j hj
  · have q := I.2.2.2.2.1 j hj
    by_cases hij : j = i
    · subst hij
      rcases (show k = 0 ∨ k = 1 ∨ k = 2 ∨ k = 3 by omega) with rfl | rfl | rfl | rfl <;> ((repeat (first | rw [gi_eq] | rw [gl_eq] | rw [gi_ne (by omega)] | rw [gl_ne (by omega)] | rw [gi_sl] | rw [gl_si])); first | exact ⟨rfl, q.2⟩ | exact ⟨q.1, rfl, q.2.2⟩ | exact ⟨q.1, q.2.1, rfl, q.2.2.2⟩ | exact ⟨q.1, q.2.1, q.2.2.1, rfl⟩)
    · rcases (show k = 0 ∨ k = 1 ∨ k = 2 ∨ k = 3 by omega) with rfl | rfl | rfl | rfl <;> ((repeat (first | rw [gi_eq] | rw [gl_eq] | rw [gi_ne (by omega)] | rw [gl_ne (by omega)] | rw [gi_sl] | rw [gl_si])); exact q)
  · (repeat (first | rw [gi_eq] | rw [gl_eq] | rw [gi_ne (by omega)] | rw [gl_ne (by omega)] | rw [gi_sl] | rw [gl_si])); exact I.2.2.2.2.2 j h1 hj
theorem op_withdraw {L : Nat} {xs : Nat → Int32} {c : Nat} {h : AH} {nh nm nr na nt nc : Nat} (I : InvN L xs c h nh nm nr na nt nc) (i1 : Int32) : OPi 122 234 [.int i1] L xs c h := by
  have Ly := I.lay
  have b1 := I.iho.1
  have b2 := I.ime.1
  have b3 := I.iri.1
  have b4 := I.itx.1
  have b5 := I.ics.1
  have b6 := I.ita.1
  refine ws122 _ Ly ?_
  refine Cl.i (p138 Ly (by omega) I.iho.2.1 _) (by decide) Ly ?_
  refine ⟨fun z1 => ?_, fun z1 => ?_⟩
  · replace z1 := bI_n0.mp (z1)
    refine ⟨(in_N z1 (by omega)), ?_⟩
    refine ⟨fun z2 => ?_, fun z2 => ?_⟩
    · skip
      refine ⟨(in_N z1 (by omega)), ?_⟩
      intro k3 ek3; subst ek3
      have t1 := inN_tn z1
      refine OPi.wr (h1 := am_si h (112 + (Int32.toNatClampNeg i1)) 3 (0 : Int32)) (((OC.rf [2] h).si (a := (112 + (Int32.toNatClampNeg i1))) (k := 3) (by omega) (tpm (tp_home (by omega)) (by decide)))) Ly I.ico (by decide) (fun h1 eh Ly1 hM => ?_)
      refine ws234 _ Ly1 ?_
      have mi220 : ∀ k, am_gi h1 220 k = am_gi h 220 k := fun k => (hM 220 k (by decide) (by decide)).1
      try simp only [mi220]
      refine Cl.i (p168 Ly1 (n := nh) (by omega) (by rw [(hM 216 1 (by decide) (by decide)).1]; exact I.iho.2.2.1) _) (by decide) Ly1 ?_
      try simp only [mi220]
      refine ⟨fun _ => ?_, fun z => absurd (bI_n0.mpr z1) z⟩
      refine ⟨(in_N z1 (by omega)), ?_⟩
      refine ⟨fun _ => ?_, fun z => absurd (by have t0 := inN_tn z1; rw [← (I.iho.2.2.2.1 _ (by omega : Int32.toNatClampNeg i1 < 12)).1]; exact z2) z⟩
      refine ⟨(in_N z1 (by omega)), ?_⟩
      intro k104 ek104; subst ek104
      subst eh
      have E : Ex [2] h (am_si (am_si h (112 + (Int32.toNatClampNeg i1)) 3 (0 : Int32)) 220 (Int32.toNatClampNeg i1) (0 : Int32)) := (((OC.rf [2] h).si (a := (112 + (Int32.toNatClampNeg i1))) (k := 3) (by omega) (tpm (tp_home (by omega)) (by decide))).ex.tr ((OM.rf [2] _).si (a := 220) (k := (Int32.toNatClampNeg i1)) (by omega) (tpm (t := tp 220 0) rfl (by simp [tp]))).ex)
      refine ⟨by trivial, nh, nm, nr, na, nt, nc, I.up E (g2 := Or.inr ?_) (gx2 := Or.inr ?_) (gx4 := Or.inr ?_)⟩
      · refine ⟨I.iho.1, by (repeat (first | rw [gi_eq] | rw [gl_eq] | rw [gi_ne (by omega)] | rw [gl_ne (by omega)] | rw [gi_sl] | rw [gl_si])); exact I.iho.2.1, by (repeat (first | rw [gi_eq] | rw [gl_eq] | rw [gi_ne (by omega)] | rw [gl_ne (by omega)] | rw [gi_sl] | rw [gl_si])); exact I.iho.2.2.1, fun i hi => ?_, fun i hi => ?_⟩
        · by_cases hij : i = Int32.toNatClampNeg i1
          · subst hij; (repeat (first | rw [gi_eq] | rw [gl_eq] | rw [gi_ne (by omega)] | rw [gl_ne (by omega)] | rw [gi_sl] | rw [gl_si])); exact ⟨rfl, Or.inl rfl⟩
          · (repeat (first | rw [gi_eq] | rw [gl_eq] | rw [gi_ne (by omega)] | rw [gl_ne (by omega)] | rw [gi_sl] | rw [gl_si])); exact I.iho.2.2.2.1 i hi
        · (repeat (first | rw [gi_eq] | rw [gl_eq] | rw [gi_ne (by omega)] | rw [gl_ne (by omega)] | rw [gi_sl] | rw [gl_si])); exact I.iho.2.2.2.2 i hi
      · intro i hi j hj; (repeat (first | rw [gi_eq] | rw [gl_eq] | rw [gi_ne (by omega)] | rw [gl_ne (by omega)] | rw [gi_sl] | rw [gl_si])); exact I.ix2 i hi j hj
      · exact I.ix4.off (E.ag (by decide)) (E.ag (by decide)) (fun i => by rw [am_si_gi]; split; exact Or.inr rfl; exact Or.inl (by (repeat (first | rw [gi_eq] | rw [gl_eq] | rw [gi_ne (by omega)] | rw [gl_ne (by omega)] | rw [gi_sl] | rw [gl_si]))))
    · replace z2 := Decidable.not_not.mp z2
      refine ⟨_, rfl, Ly, I.ico, ?_⟩
      refine ws234 _ Ly ?_
      refine Cl.i (p168 Ly (n := nh) (by omega) (I.iho.2.2.1) _) (by decide) Ly ?_
      refine ⟨fun _ => ?_, fun z => absurd (bI_n0.mpr z1) z⟩
      refine ⟨(in_N z1 (by omega)), ?_⟩
      refine ⟨fun z => absurd z (not_not_intro (by have t0 := inN_tn z1; rw [← (I.iho.2.2.2.1 _ (by omega : Int32.toNatClampNeg i1 < 12)).1]; exact z2)), fun _ => ?_⟩
      exact ⟨rfl, I.sc (Ex.rf _ _)⟩
  · replace z1 := bI_0.mp (Decidable.not_not.mp z1)
    refine ⟨_, rfl, Ly, I.ico, ?_⟩
    refine ws234 _ Ly ?_
    refine Cl.i (p168 Ly (n := nh) (by omega) (I.iho.2.2.1) _) (by decide) Ly ?_
    refine ⟨fun z => absurd z (not_not_intro (bI_0.mpr z1)), fun _ => ?_⟩
    exact ⟨rfl, I.sc (Ex.rf _ _)⟩
theorem op_family {L : Nat} {xs : Nat → Int32} {c : Nat} {h : AH} {nh nm nr na nt nc : Nat} (I : InvN L xs c h nh nm nr na nt nc) (i1 : Int32) (i2 : Int32) : OPi 100 179 [.int i1, .int i2] L xs c h := by
  have Ly := I.lay
  have b1 := I.iho.1
  have b2 := I.ime.1
  have b3 := I.iri.1
  have b4 := I.itx.1
  have b5 := I.ics.1
  have b6 := I.ita.1
  refine ws100 _ _ Ly ?_
  refine Cl.i (p139 Ly (by omega) I.ime.2.1 _) (by decide) Ly ?_
  refine ⟨fun z1 => ?_, fun z1 => ?_⟩
  · replace z1 := bI_0.mp (z1)
    refine ⟨_, rfl, Ly, I.ico, ?_⟩
    refine ws179 _ _ Ly ?_
    refine Cl.i (p169 Ly (n := nm) (by omega) (I.ime.2.2.1) _) (by decide) Ly ?_
    refine ⟨fun _ => ?_, fun z => absurd (bI_0.mpr z1) z⟩
    exact ⟨rfl, I.sc (Ex.rf _ _)⟩
  · replace z1 := bI_n0.mp (z1)
    refine Cl.i (p142 Ly _) (by decide) Ly ?_
    refine ⟨fun z2 => ?_, fun z2 => ?_⟩
    · replace z2 := bI_n0.mp (z2)
      refine Cl.i (p146 I z1) (by decide) Ly ?_
      refine ⟨fun z3 => ?_, fun z3 => ?_⟩
      · replace z3 := bI_n0.mp (z3)
        refine ⟨(in_N z1 (by omega)), ?_⟩
        refine ⟨(in_N z1 (by omega)), ?_⟩
        intro k4 ek4; subst ek4
        have t1 := inN_tn z1
        refine OPi.wr (h1 := am_si h (124 + (Int32.toNatClampNeg i1)) 0 i2) (((OC.rf [3] h).si (a := (124 + (Int32.toNatClampNeg i1))) (k := 0) (by omega) (tpm (tp_member (by omega)) (by decide)))) Ly I.ico (by decide) (fun h1 eh Ly1 hM => ?_)
        refine ws179 _ _ Ly1 ?_
        have mi222 : ∀ k, am_gi h1 222 k = am_gi h 222 k := fun k => (hM 222 k (by decide) (by decide)).1
        try simp only [mi222]
        refine Cl.i (p169 Ly1 (n := nm) (by omega) (by rw [(hM 216 7 (by decide) (by decide)).1]; exact I.ime.2.2.1) _) (by decide) Ly1 ?_
        try simp only [mi222]
        refine ⟨fun z => absurd z (bI_n0.mpr z1), fun _ => ?_⟩
        refine Cl.i (p167 Ly1 _ _ _) (by decide) Ly1 ?_
        try simp only [mi222]
        refine ⟨fun _ => ?_, fun z => absurd (bI_n0.mpr z2) z⟩
        refine Cl.i ((p170 Ly1 (in_N z1 (by omega))).c (q := am_gi h 224 (Int32.toNatClampNeg i1) = (-1 : Int32)) (by rw [(hM 224 _ (by decide) (by decide)).1])) (by decide) Ly1 ?_
        try simp only [mi222]
        refine ⟨fun _ => ?_, fun z => absurd (bI_n0.mpr z3) z⟩
        refine ⟨(in_N z1 (by omega)), ?_⟩
        refine ⟨(in_N z1 (by omega)), ?_⟩
        intro k105 ek105; subst ek105
        subst eh
        have E : Ex [3] h (am_si (am_si h (124 + (Int32.toNatClampNeg i1)) 0 i2) 222 (Int32.toNatClampNeg i1) i2) := (((OC.rf [3] h).si (a := (124 + (Int32.toNatClampNeg i1))) (k := 0) (by omega) (tpm (tp_member (by omega)) (by decide))).ex.tr ((OM.rf [3] _).si (a := 222) (k := (Int32.toNatClampNeg i1)) (by omega) (tpm (t := tp 222 0) rfl (by simp [tp]))).ex)
        refine ⟨by rw [(I.ime.2.2.2.2.1 _ (inN_tn z1)).1], nh, nm, nr, na, nt, nc, I.up E (g3 := Or.inr ?_) (gx1 := Or.inr ?_) (gx2 := Or.inr ?_)⟩
        · exact I.ime.set (k := 0) (inN_tn z1) (by decide) rfl
        · intro j hj; (repeat (first | rw [gi_eq] | rw [gl_eq] | rw [gi_ne (by omega)] | rw [gl_ne (by omega)] | rw [gi_sl] | rw [gl_si])); exact I.ix1 j hj
        · intro i hi j hj; (repeat (first | rw [gi_eq] | rw [gl_eq] | rw [gi_ne (by omega)] | rw [gl_ne (by omega)] | rw [gi_sl] | rw [gl_si])); exact I.ix2 i hi j hj
      · replace z3 := bI_0.mp (Decidable.not_not.mp z3)
        refine ⟨_, rfl, Ly, I.ico, ?_⟩
        refine ws179 _ _ Ly ?_
        refine Cl.i (p169 Ly (n := nm) (by omega) (I.ime.2.2.1) _) (by decide) Ly ?_
        refine ⟨fun z => absurd z (bI_n0.mpr z1), fun _ => ?_⟩
        refine Cl.i (p167 Ly _ _ _) (by decide) Ly ?_
        refine ⟨fun _ => ?_, fun z => absurd (bI_n0.mpr z2) z⟩
        refine Cl.i (p170 Ly (in_N z1 (by omega))) (by decide) Ly ?_
        refine ⟨fun z => absurd z (not_not_intro (bI_0.mpr z3)), fun _ => ?_⟩
        exact ⟨rfl, I.sc (Ex.rf _ _)⟩
    · replace z2 := bI_0.mp (Decidable.not_not.mp z2)
      refine ⟨_, rfl, Ly, I.ico, ?_⟩
      refine ws179 _ _ Ly ?_
      refine Cl.i (p169 Ly (n := nm) (by omega) (I.ime.2.2.1) _) (by decide) Ly ?_
      refine ⟨fun z => absurd z (bI_n0.mpr z1), fun _ => ?_⟩
      refine Cl.i (p167 Ly _ _ _) (by decide) Ly ?_
      refine ⟨fun z => absurd z (not_not_intro (bI_0.mpr z2)), fun _ => ?_⟩
      exact ⟨rfl, I.sc (Ex.rf _ _)⟩
theorem op_wait {L : Nat} {xs : Nat → Int32} {c : Nat} {h : AH} {nh nm nr na nt nc : Nat} (I : InvN L xs c h nh nm nr na nt nc) (i1 : Int32) : OPi 117 225 [.int i1] L xs c h := by
  have Ly := I.lay
  have b1 := I.iho.1
  have b2 := I.ime.1
  have b3 := I.iri.1
  have b4 := I.itx.1
  have b5 := I.ics.1
  have b6 := I.ita.1
  refine ws117 _ Ly ?_
  refine Cl.i (p139 Ly (by omega) I.ime.2.1 _) (by decide) Ly ?_
  refine ⟨fun z1 => ?_, fun z1 => ?_⟩
  · replace z1 := bI_n0.mp (z1)
    refine Cl.i (p146 I z1) (by decide) Ly ?_
    refine ⟨fun z2 => ?_, fun z2 => ?_⟩
    · replace z2 := bI_n0.mp (z2)
      refine ⟨(in_N z1 (by omega)), ?_⟩
      refine Cl.i ((p23 Ly (by have := inN_tn z1; omega)).c (q := ¬ am_gi h 225 (Int32.toNatClampNeg i1) = (-1 : Int32)) (by rw [(I.ime.2.2.2.2.1 _ (inN_tn z1)).2.2.2])) (by decide) Ly ?_
      refine ⟨fun z3 => ?_, fun z3 => ?_⟩
      · replace z3 := bI_0.mp (z3)
        refine ⟨(in_N z1 (by omega)), ?_⟩
        intro k4 ek4; subst ek4
        have t1 := inN_tn z1
        refine OPi.wr (h1 := am_si h (124 + (Int32.toNatClampNeg i1)) 3 (am_gi h 6 0)) (((OC.rf [3] h).si (a := (124 + (Int32.toNatClampNeg i1))) (k := 3) (by omega) (tpm (tp_member (by omega)) (by decide)))) Ly I.ico (by decide) (fun h1 eh Ly1 hM => ?_)
        refine ws225 _ Ly1 ?_
        have mi216 : ∀ k, am_gi h1 216 k = am_gi h 216 k := fun k => (hM 216 k (by decide) (by decide)).1
        have mi225 : ∀ k, am_gi h1 225 k = am_gi h 225 k := fun k => (hM 225 k (by decide) (by decide)).1
        try simp only [mi216, mi225]
        refine Cl.i (p169 Ly1 (n := nm) (by omega) (by rw [(hM 216 7 (by decide) (by decide)).1]; exact I.ime.2.2.1) _) (by decide) Ly1 ?_
        try simp only [mi216, mi225]
        refine ⟨fun _ => ?_, fun z => absurd (bI_n0.mpr z1) z⟩
        refine Cl.i ((p170 Ly1 (in_N z1 (by omega))).c (q := am_gi h 224 (Int32.toNatClampNeg i1) = (-1 : Int32)) (by rw [(hM 224 _ (by decide) (by decide)).1])) (by decide) Ly1 ?_
        try simp only [mi216, mi225]
        refine ⟨fun _ => ?_, fun z => absurd (bI_n0.mpr z2) z⟩
        refine ⟨(in_N z1 (by omega)), ?_⟩
        refine ⟨fun _ => ?_, fun z => absurd (Decidable.not_not.mp z3) z⟩
        refine ⟨(in_N z1 (by omega)), ?_⟩
        intro k105 ek105; subst ek105
        subst eh
        have E : Ex [3] h (am_si (am_si h (124 + (Int32.toNatClampNeg i1)) 3 (am_gi h 6 0)) 225 (Int32.toNatClampNeg i1) (am_gi h 216 0)) := (((OC.rf [3] h).si (a := (124 + (Int32.toNatClampNeg i1))) (k := 3) (by omega) (tpm (tp_member (by omega)) (by decide))).ex.tr ((OM.rf [3] _).si (a := 225) (k := (Int32.toNatClampNeg i1)) (by omega) (tpm (t := tp 225 0) rfl (by simp [tp]))).ex)
        refine ⟨by trivial, nh, nm, nr, na, nt, nc, I.up E (g3 := Or.inr ?_) (gx1 := Or.inr ?_) (gx2 := Or.inr ?_)⟩
        · refine I.ime.set (k := 3) (v := am_gi h 6 0) (inN_tn z1) (by decide) ?_
          rw [I.ida.1]
        · intro j hj
          by_cases hij : j = Int32.toNatClampNeg i1
          · subst hij; (repeat (first | rw [gi_eq] | rw [gl_eq] | rw [gi_ne (by omega)] | rw [gl_ne (by omega)] | rw [gi_sl] | rw [gl_si])); have q := I.ix1 _ hj; exact ⟨q.1, q.2.1, Or.inl z2⟩
          · (repeat (first | rw [gi_eq] | rw [gl_eq] | rw [gi_ne (by omega)] | rw [gl_ne (by omega)] | rw [gi_sl] | rw [gl_si])); exact I.ix1 j hj
        · intro i hi j hj; (repeat (first | rw [gi_eq] | rw [gl_eq] | rw [gi_ne (by omega)] | rw [gl_ne (by omega)] | rw [gi_sl] | rw [gl_si])); exact I.ix2 i hi j hj
      · replace z3 := bI_n0.mp (z3)
        refine ⟨_, rfl, Ly, I.ico, ?_⟩
        refine ws225 _ Ly ?_
        refine Cl.i (p169 Ly (n := nm) (by omega) (I.ime.2.2.1) _) (by decide) Ly ?_
        refine ⟨fun _ => ?_, fun z => absurd (bI_n0.mpr z1) z⟩
        refine Cl.i (p170 Ly (in_N z1 (by omega))) (by decide) Ly ?_
        refine ⟨fun _ => ?_, fun z => absurd (bI_n0.mpr z2) z⟩
        refine ⟨(in_N z1 (by omega)), ?_⟩
        refine ⟨fun z => absurd z z3, fun _ => ?_⟩
        exact ⟨rfl, I.sc (Ex.rf _ _)⟩
    · replace z2 := bI_0.mp (Decidable.not_not.mp z2)
      refine ⟨_, rfl, Ly, I.ico, ?_⟩
      refine ws225 _ Ly ?_
      refine Cl.i (p169 Ly (n := nm) (by omega) (I.ime.2.2.1) _) (by decide) Ly ?_
      refine ⟨fun _ => ?_, fun z => absurd (bI_n0.mpr z1) z⟩
      refine Cl.i (p170 Ly (in_N z1 (by omega))) (by decide) Ly ?_
      refine ⟨fun z => absurd z (not_not_intro (bI_0.mpr z2)), fun _ => ?_⟩
      exact ⟨rfl, I.sc (Ex.rf _ _)⟩
  · replace z1 := bI_0.mp (Decidable.not_not.mp z1)
    refine ⟨_, rfl, Ly, I.ico, ?_⟩
    refine ws225 _ Ly ?_
    refine Cl.i (p169 Ly (n := nm) (by omega) (I.ime.2.2.1) _) (by decide) Ly ?_
    refine ⟨fun z => absurd z (not_not_intro (bI_0.mpr z1)), fun _ => ?_⟩
    exact ⟨rfl, I.sc (Ex.rf _ _)⟩
theorem op_pay {L : Nat} {xs : Nat → Int32} {c : Nat} {h : AH} {nh nm nr na nt nc : Nat} (I : InvN L xs c h nh nm nr na nt nc) (i1 : Int32) (i2 : Int32) : OPl 129 246 [.int i1, .int i2] L xs c h := by
  have Ly := I.lay
  have b1 := I.iho.1
  have b2 := I.ime.1
  have b3 := I.iri.1
  have b4 := I.itx.1
  have b5 := I.ics.1
  have b6 := I.ita.1
  refine ws129 _ _ Ly ?_
  refine Cl.i (p139 Ly (by omega) I.ime.2.1 _) (by decide) Ly ?_
  refine ⟨fun z1 => ?_, fun z1 => ?_⟩
  · replace z1 := bI_0.mp (z1)
    refine ⟨_, rfl, Ly, I.ico, ?_⟩
    refine ws246 _ _ Ly ?_
    refine Cl.i (p169 Ly (n := nm) (by omega) (I.ime.2.2.1) _) (by decide) Ly ?_
    refine ⟨fun _ => ?_, fun z => absurd (bI_0.mpr z1) z⟩
    exact ⟨rfl, I.sc (Ex.rf _ _)⟩
  · replace z1 := bI_n0.mp (z1)
    refine Cl.i (p144 Ly _) (by decide) Ly ?_
    refine ⟨fun z2 => ?_, fun z2 => ?_⟩
    · replace z2 := bI_n0.mp (z2)
      refine ⟨(in_N z1 (by omega)), ?_⟩
      intro k3 ek3; subst ek3
      refine ⟨(in_N z1 (by omega)), ?_⟩
      have t0 := inN_tn z1
      refine OPl.wr (h1 := am_sl h (124 + (Int32.toNatClampNeg i1)) 5 ((am_gl h (124 + (Int32.toNatClampNeg i1)) 5) - (Int32.toInt64 i2))) (((OC.rf [3] h).sl (a := (124 + (Int32.toNatClampNeg i1))) (k := 5) (by omega) (tpm (tp_member (by omega)) (by decide)))) Ly I.ico (by decide) (fun h1 eh Ly1 hM => ?_)
      refine ws246 _ _ Ly1 ?_
      have ml227 : ∀ k, am_gl h1 227 k = am_gl h 227 k := fun k => (hM 227 k (by decide) (by decide)).2
      try simp only [ml227]
      refine Cl.i (p169 Ly1 (n := nm) (by omega) (by rw [(hM 216 7 (by decide) (by decide)).1]; exact I.ime.2.2.1) _) (by decide) Ly1 ?_
      try simp only [ml227]
      refine ⟨fun z => absurd z (bI_n0.mpr z1), fun _ => ?_⟩
      refine Cl.i (p167 Ly1 _ _ _) (by decide) Ly1 ?_
      try simp only [ml227]
      refine ⟨fun _ => ?_, fun z => absurd (bI_n0.mpr z2) z⟩
      refine ⟨(in_N z1 (by omega)), ?_⟩
      refine ⟨(in_N z1 (by omega)), ?_⟩
      intro k104 ek104; subst ek104
      refine ⟨(in_N z1 (by omega)), ?_⟩
      subst eh
      have E : Ex [3] h (am_sl (am_sl h (124 + (Int32.toNatClampNeg i1)) 5 ((am_gl h (124 + (Int32.toNatClampNeg i1)) 5) - (Int32.toInt64 i2))) 227 (Int32.toNatClampNeg i1) ((am_gl h 227 (Int32.toNatClampNeg i1)) - (Int32.toInt64 i2))) := (((OC.rf [3] h).sl (a := (124 + (Int32.toNatClampNeg i1))) (k := 5) (by omega) (tpm (tp_member (by omega)) (by decide))).ex.tr ((OM.rf [3] _).sl (a := 227) (k := (Int32.toNatClampNeg i1)) (by omega) (tpm (t := tp 227 0) rfl (by simp [tp]))).ex)
      refine ⟨by (repeat (first | rw [gi_eq] | rw [gl_eq] | rw [gi_ne (by omega)] | rw [gl_ne (by omega)] | rw [gi_sl] | rw [gl_si])); rw [(I.ime.2.2.2.1 _ (by omega)).2.2], nh, nm, nr, na, nt, nc, I.up E (g3 := Or.inr ?_) (gx1 := Or.inr ?_) (gx2 := Or.inr ?_)⟩
      · refine ⟨I.ime.1, by (repeat (first | rw [gi_eq] | rw [gl_eq] | rw [gi_ne (by omega)] | rw [gl_ne (by omega)] | rw [gi_sl] | rw [gl_si])); exact I.ime.2.1, by (repeat (first | rw [gi_eq] | rw [gl_eq] | rw [gi_ne (by omega)] | rw [gl_ne (by omega)] | rw [gi_sl] | rw [gl_si])); exact I.ime.2.2.1, fun j hj => ?_, fun j hj => ?_, fun j h1 hj => ?_⟩
        · by_cases hij : j = Int32.toNatClampNeg i1
          · subst hij; have q := I.ime.2.2.2.1 _ hj; (repeat (first | rw [gi_eq] | rw [gl_eq] | rw [gi_ne (by omega)] | rw [gl_ne (by omega)] | rw [gi_sl] | rw [gl_si])); exact ⟨q.1, q.2.1, by rw [q.2.2]⟩
          · (repeat (first | rw [gi_eq] | rw [gl_eq] | rw [gi_ne (by omega)] | rw [gl_ne (by omega)] | rw [gi_sl] | rw [gl_si])); exact I.ime.2.2.2.1 j hj
        · (repeat (first | rw [gi_eq] | rw [gl_eq] | rw [gi_ne (by omega)] | rw [gl_ne (by omega)] | rw [gi_sl] | rw [gl_si])); exact I.ime.2.2.2.2.1 j hj
        · (repeat (first | rw [gi_eq] | rw [gl_eq] | rw [gi_ne (by omega)] | rw [gl_ne (by omega)] | rw [gi_sl] | rw [gl_si])); exact I.ime.2.2.2.2.2 j h1 hj
      · intro j hj; (repeat (first | rw [gi_eq] | rw [gl_eq] | rw [gi_ne (by omega)] | rw [gl_ne (by omega)] | rw [gi_sl] | rw [gl_si])); exact I.ix1 j hj
      · intro i hi j hj; (repeat (first | rw [gi_eq] | rw [gl_eq] | rw [gi_ne (by omega)] | rw [gl_ne (by omega)] | rw [gi_sl] | rw [gl_si])); exact I.ix2 i hi j hj
    · replace z2 := bI_0.mp (Decidable.not_not.mp z2)
      refine ⟨_, rfl, Ly, I.ico, ?_⟩
      refine ws246 _ _ Ly ?_
      refine Cl.i (p169 Ly (n := nm) (by omega) (I.ime.2.2.1) _) (by decide) Ly ?_
      refine ⟨fun z => absurd z (bI_n0.mpr z1), fun _ => ?_⟩
      refine Cl.i (p167 Ly _ _ _) (by decide) Ly ?_
      refine ⟨fun z => absurd z (not_not_intro (bI_0.mpr z2)), fun _ => ?_⟩
      exact ⟨rfl, I.sc (Ex.rf _ _)⟩
/-- a right ends today -/
def gEnd (g : Nat → Nat → Int32) (j : Nat) (d : Int32) : Nat → Nat → Int32 := fun k i => if k = 5 ∧ i = j then d else g k i
theorem onR_end {g : Nat → Nat → Int32} {i j : Nat} {d : Int32} (hd : 0 ≤ d.toInt) : onR (gEnd g j d) i d = true ↔ i ≠ j ∧ onR g i d = true := by
  unfold onR gEnd
  rw [Bool.and_eq_true, Bool.or_eq_true, decide_eq_true_eq, decide_eq_true_eq, decide_eq_true_eq, Bool.and_eq_true, Bool.or_eq_true, decide_eq_true_eq, decide_eq_true_eq, decide_eq_true_eq, if_neg (by omega)]
  by_cases hij : i = j
  · rw [if_pos ⟨rfl, hij⟩]
    refine ⟨fun h => absurd h.2 (fun z => z.elim (fun w => ?_) (fun w => Int32.lt_irrefl w)), fun h => absurd hij h.1⟩
    rw [w] at hd; exact absurd hd (by decide)
  · rw [if_neg (fun z => hij z.2)]
    exact ⟨fun h => ⟨hij, h⟩, fun h => h.2⟩
theorem hoR_end {g : Nat → Nat → Int32} {i j : Nat} {d : Int32} (hd : 0 ≤ d.toInt) : hoR (gEnd g j d) i d = true ↔ i ≠ j ∧ hoR g i d = true := by
  rw [hoR_e, hoR_e, onR_end hd]
  unfold gEnd
  rw [if_neg (by omega)]
  exact ⟨fun z => ⟨z.2.1, z.1, z.2.2⟩, fun z => ⟨z.2.1, z.1, z.2.2⟩⟩
theorem ofR_end {g : Nat → Nat → Int32} {i j : Nat} {d w : Int32} : ofR (gEnd g j d) i w = ofR g i w := by
  refine ofR_congr ?_ ?_ ?_ <;> (unfold gEnd; rw [if_neg (by omega)])
theorem vCR.end {h : AH} {n : Nat} {g : Nat → Nat → Int32} (V : vCR h n g) {j : Nat} (hj : j < n) (d : Int32) : vCR (am_si h (11 + j) 5 d) n (gEnd g j d) := by
  have b := V.1
  refine ⟨V.1, by (repeat (first | rw [gi_eq] | rw [gl_eq] | rw [gi_ne (by omega)] | rw [gl_ne (by omega)] | rw [gi_sl] | rw [gl_si])); exact V.2.1, fun i hi k hk => ?_⟩
  unfold gEnd
  by_cases z : k = 5 ∧ i = j
  · rw [if_pos z, z.1, z.2]; (repeat (first | rw [gi_eq] | rw [gl_eq] | rw [gi_ne (by omega)] | rw [gl_ne (by omega)] | rw [gi_sl] | rw [gl_si]))
  · rw [if_neg z]; (repeat (first | rw [gi_eq] | rw [gl_eq] | rw [gi_ne (by omega)] | rw [gl_ne (by omega)] | rw [gi_sl] | rw [gl_si])); exact V.2.2 i hi k hk
theorem vMR.end {h : AH} {n : Nat} {g : Nat → Nat → Int32} (V : vMR h n g) {j : Nat} (hj : j < n) (d : Int32) : vMR (am_si h 233 j d) n (gEnd g j d) := by
  have b := V.1
  refine ⟨V.1, by (repeat (first | rw [gi_eq] | rw [gl_eq] | rw [gi_ne (by omega)] | rw [gl_ne (by omega)] | rw [gi_sl] | rw [gl_si])); exact V.2.1, fun i hi k hk => ?_⟩
  unfold gEnd
  by_cases z : k = 5 ∧ i = j
  · rw [if_pos z, z.1, z.2]; (repeat (first | rw [gi_eq] | rw [gl_eq] | rw [gi_ne (by omega)] | rw [gl_ne (by omega)] | rw [gi_sl] | rw [gl_si]))
  · rw [if_neg z]; (repeat (first | rw [gi_eq] | rw [gl_eq] | rw [gi_ne (by omega)] | rw [gl_ne (by omega)] | rw [gi_sl] | rw [gl_si])); exact V.2.2 i hi k hk
/-- rights that are as they must be: over n homes, m members, on the day d, what is on offer o -/
def RW (g : Nat → Nat → Int32) (nh nm nr : Nat) (d : Int32) : Prop := (∀ i, i < nr → (0 ≤ (g 0 i).toInt ∧ (g 0 i).toInt ≤ 4) ∧ (0 ≤ (g 1 i).toInt ∧ (g 1 i).toInt < nh) ∧ (0 ≤ (g 2 i).toInt ∧ (g 2 i).toInt < nm) ∧ ((g 0 i ≠ 3 ∧ g 3 i = -1) ∨ (g 0 i = 3 ∧ 0 ≤ (g 3 i).toInt ∧ (g 3 i).toInt < nm ∧ g 3 i ≠ g 2 i)) ∧ g 4 i ≤ d) ∧
  (∀ i j w, i < nr → j < nr → hoR g i d = true → hoR g j d = true → ofR g i w = true → ofR g j w = true → i = j) ∧
  (∀ i j, i < nr → j < nr → hoR g i d = true → hoR g j d = true → g 1 i = g 1 j → i = j)
theorem RW.of {h : AH} {nh nm nr : Nat} (I : IX3 h nh nm nr) : RW (rR h) nh nm nr (am_gi h 216 0) := I
theorem RW.end {g : Nat → Nat → Int32} {nh nm nr : Nat} {d : Int32} (W : RW g nh nm nr d) (hd : 0 ≤ d.toInt) (j : Nat) : RW (gEnd g j d) nh nm nr d := by
  have e : ∀ k i, k < 5 → gEnd g j d k i = g k i := fun k i hk => by unfold gEnd; rw [if_neg (by omega)]
  refine ⟨fun i hi => ?_, fun i i' w hi hi' h1 h2 h3 h4 => ?_, fun i i' hi hi' h1 h2 h3 => ?_⟩
  · rw [e 0 i (by omega), e 1 i (by omega), e 2 i (by omega), e 3 i (by omega), e 4 i (by omega)]; exact W.1 i hi
  · rw [hoR_end hd] at h1 h2; rw [ofR_end] at h3 h4; exact W.2.1 i i' w hi hi' h1.2 h2.2 h3 h4
  · rw [hoR_end hd] at h1 h2; rw [e 1 i (by omega), e 1 i' (by omega)] at h3; exact W.2.2 i i' hi hi' h1.2 h2.2 h3
/-- the table of the heap behind a call -/
theorem vMR.rR {h : AH} {n : Nat} {g : Nat → Nat → Int32} (V : vMR h n g) {i k : Nat} (hi : i < n) (hk : k < 6) : rR h k i = g k i := V.2.2 i hi k hk
theorem IX3.mk {h : AH} {nh nm nr : Nat} {g : Nat → Nat → Int32} {d : Int32} (V : vMR h nr g) (W : RW g nh nm nr d) (e : am_gi h 216 0 = d) : IX3 h nh nm nr := by
  have f := fun i (hi : i < nr) k (hk : k < 6) => V.rR (i := i) (k := k) hi hk
  have g1 : ∀ i, i < nr → ∀ d, hoR (rR h) i d = hoR g i d := fun i hi d => hoR_congr (f i hi 0 (by omega)) (f i hi 4 (by omega)) (f i hi 5 (by omega))
  have g2 : ∀ i, i < nr → ∀ w, ofR (rR h) i w = ofR g i w := fun i hi w => ofR_congr (f i hi 0 (by omega)) (f i hi 2 (by omega)) (f i hi 3 (by omega))
  refine ⟨fun i hi => ?_, fun i j w hi hj h1 h2 h3 h4 => ?_, fun i j hi hj h1 h2 h3 => ?_⟩
  · rw [f i hi 0 (by omega), f i hi 1 (by omega), f i hi 2 (by omega), f i hi 3 (by omega), f i hi 4 (by omega), e]; exact W.1 i hi
  · rw [e, g1 _ hi] at h1; rw [e, g1 _ hj] at h2; rw [g2 _ hi] at h3; rw [g2 _ hj] at h4; exact W.2.1 i j w hi hj h1 h2 h3 h4
  · rw [e, g1 _ hi] at h1; rw [e, g1 _ hj] at h2; rw [f i hi 1 (by omega), f j hj 1 (by omega)] at h3; exact W.2.2 i j hi hj h1 h2 h3
def RO (g : Nat → Nat → Int32) (nr : Nat) (d : Int32) (o : Nat → Int32) : Prop := ∀ i, i < nr → hoR g i d = true → o (g 1 i).toNatClampNeg = 0
theorem RO.of {h : AH} {nr : Nat} (I : IX4 h nr) : RO (rR h) nr (am_gi h 216 0) (am_gi h 220) := I
theorem RO.end {g : Nat → Nat → Int32} {nr : Nat} {d : Int32} {o : Nat → Int32} (W : RO g nr d o) (hd : 0 ≤ d.toInt) (j : Nat) : RO (gEnd g j d) nr d o := fun i hi z => by
  rw [hoR_end hd] at z
  have e : gEnd g j d 1 i = g 1 i := by unfold gEnd; rw [if_neg (by omega)]
  rw [e]; exact W i hi z.2
theorem IX4.mk {h : AH} {nr : Nat} {g : Nat → Nat → Int32} {d : Int32} {o : Nat → Int32} (V : vMR h nr g) (W : RO g nr d o) (e : am_gi h 216 0 = d) (e2 : ∀ i, am_gi h 220 i = o i) : IX4 h nr := fun i hi z => by
  rw [e, hoR_congr (V.rR hi (by omega)) (V.rR hi (by omega)) (V.rR hi (by omega))] at z
  rw [e2, V.rR hi (by omega)]; exact W i hi z
/-- the trays, when rights are added or end -/
theorem ITr.rt {h h' : AH} {nr nr' : Nat} {ts : List Nat} (I : ITr h nr) (E : Ex ts h h') (hn : nr ≤ nr') (n6 : 6 ∉ ts) (n11 : 11 ∉ ts) (K : ∀ r, r < nr → am_gi h' 228 r = am_gi h 228 r ∧ am_gi h' 229 r = am_gi h 229 r) : ITr h' nr' := fun t ht =>
  (I t ht).of ht hn (E.ag n11) (E.ag n6) K (Nat.le_of_eq E.1.1.symm) (fun a _ => by rw [E.1.2.2.1, E.1.2.2.2.1]; exact ⟨rfl, rfl⟩) (by rw [E.1.2.2.2.2])
theorem vCR.si {h : AH} {n : Nat} {g : Nat → Nat → Int32} (V : vCR h n g) {a k : Nat} {v : Int32} (ha : 71 ≤ a ∨ a < 9) : vCR (am_si h a k v) n g := by
  have b := V.1
  exact ⟨V.1, by rw [gi_ne (by omega)]; exact V.2.1, fun i hi k hk => by rw [gi_ne (by omega)]; exact V.2.2 i hi k hk⟩
theorem vMR.si {h : AH} {n : Nat} {g : Nat → Nat → Int32} (V : vMR h n g) {a k : Nat} {v : Int32} (ha : (a < 228 ∧ (a ≠ 216 ∨ k ≠ 14)) ∨ 234 ≤ a) : vMR (am_si h a k v) n g := by
  have b := V.1
  exact ⟨V.1, by rw [gi_ne (by omega)]; exact V.2.1, fun i hi k hk => by rw [gi_ne (by omega)]; exact V.2.2 i hi k hk⟩
theorem op_end {L : Nat} {xs : Nat → Int32} {c : Nat} {h : AH} {nh nm nr na nt nc : Nat} (I : InvN L xs c h nh nm nr na nt nc) (i1 : Int32) : OPi 103 183 [.int i1] L xs c h := by
  have Ly := I.lay
  have b1 := I.iho.1
  have b2 := I.ime.1
  have b3 := I.iri.1
  have b4 := I.itx.1
  have b5 := I.ics.1
  have b6 := I.ita.1
  refine ws103 _ Ly ?_
  refine Cl.i (p53 Ly (by omega) I.iri.2.1 _) (by decide) Ly ?_
  refine ⟨fun z1 => ?_, fun z1 => ?_⟩
  · replace z1 := bI_n0.mp (z1)
    refine ⟨(in_N z1 (by omega)), ?_⟩
    refine Cl.i (by rw [I.ida.1]; exact p65x Ly (vCR.of I.iri) z1 _) (by decide) Ly ?_
    refine ⟨fun z2 => ?_, fun z2 => ?_⟩
    · replace z2 := bI_n0.mp (z2)
      refine ⟨(in_N z1 (by omega)), ?_⟩
      intro k3 ek3; subst ek3
      have t0 := inN_tn z1
      refine OPi.wr (h1 := am_si h (11 + (Int32.toNatClampNeg i1)) 5 (am_gi h 6 0)) (((OC.rf [4] h).si (a := (11 + (Int32.toNatClampNeg i1))) (k := 5) (by omega) (tpm (tp_right (by omega)) (by decide)))) Ly I.ico (by decide) (fun h1 eh Ly1 hM => ?_)
      refine ws183 _ Ly1 ?_
      have mi216 : ∀ k, am_gi h1 216 k = am_gi h 216 k := fun k => (hM 216 k (by decide) (by decide)).1
      try simp only [mi216]
      refine Cl.i (p181 Ly1 (n := nr) (by omega) (by rw [(hM 216 14 (by decide) (by decide)).1]; exact I.iri.2.2.1) _) (by decide) Ly1 ?_
      try simp only [mi216]
      refine ⟨fun _ => ?_, fun z => absurd (bI_n0.mpr z1) z⟩
      refine Cl.i (p171x Ly1 ((vMR.of I.iri).fr hM) z1 _) (by decide) Ly1 ?_
      try simp only [mi216]
      refine ⟨fun _ => ?_, fun z => absurd (bI_n0.mpr z2) z⟩
      refine ⟨(in_N z1 (by omega)), ?_⟩
      intro k104 ek104; subst ek104
      subst eh
      have E : Ex [4] h (am_si (am_si h (11 + (Int32.toNatClampNeg i1)) 5 (am_gi h 6 0)) 233 (Int32.toNatClampNeg i1) (am_gi h 216 0)) := (((OC.rf [4] h).si (a := (11 + (Int32.toNatClampNeg i1))) (k := 5) (by omega) (tpm (tp_right (by omega)) (by decide))).ex.tr ((OM.rf [4] _).si (a := 233) (k := (Int32.toNatClampNeg i1)) (by omega) (tpm (t := tp 233 0) rfl (by simp [tp]))).ex)
      refine ⟨by trivial, nh, nm, nr, na, nt, nc, I.up E (g4 := Or.inr ?_) (gx3 := Or.inr ?_) (g11 := Or.inr ?_) (gx4 := Or.inr ?_)⟩
      · refine IRi.mk (g := gEnd (rR h) (Int32.toNatClampNeg i1) (am_gi h 216 0)) ?_ ?_
        · rw [← I.ida.1]; exact ((vCR.of I.iri).end (inN_tn z1) _).si (by omega)
        · exact ((vMR.of I.iri).si (by omega)).end (inN_tn z1) _
      · exact IX3.mk (((vMR.of I.iri).si (by omega)).end (inN_tn z1) _) ((RW.of I.ix3).end I.ida.2.1 _) (by (repeat (first | rw [gi_eq] | rw [gl_eq] | rw [gi_ne (by omega)] | rw [gl_ne (by omega)] | rw [gi_sl] | rw [gl_si])))
      · exact I.itr.rt E (Nat.le_refl _) (by decide) (by decide) (fun r hr => by (repeat (first | rw [gi_eq] | rw [gl_eq] | rw [gi_ne (by omega)] | rw [gl_ne (by omega)] | rw [gi_sl] | rw [gl_si])); exact ⟨rfl, rfl⟩)
      · exact IX4.mk (((vMR.of I.iri).si (by omega)).end (inN_tn z1) _) ((RO.of I.ix4).end I.ida.2.1 _) (by (repeat (first | rw [gi_eq] | rw [gl_eq] | rw [gi_ne (by omega)] | rw [gl_ne (by omega)] | rw [gi_sl] | rw [gl_si]))) (fun i => by (repeat (first | rw [gi_eq] | rw [gl_eq] | rw [gi_ne (by omega)] | rw [gl_ne (by omega)] | rw [gi_sl] | rw [gl_si])))
    · replace z2 := bI_0.mp (Decidable.not_not.mp z2)
      refine ⟨_, rfl, Ly, I.ico, ?_⟩
      refine ws183 _ Ly ?_
      refine Cl.i (p181 Ly (n := nr) (by omega) (I.iri.2.2.1) _) (by decide) Ly ?_
      refine ⟨fun _ => ?_, fun z => absurd (bI_n0.mpr z1) z⟩
      refine Cl.i (p171x Ly (vMR.of I.iri) z1 _) (by decide) Ly ?_
      refine ⟨fun z => absurd z (not_not_intro (bI_0.mpr z2)), fun _ => ?_⟩
      exact ⟨rfl, I.sc (Ex.rf _ _)⟩
  · replace z1 := bI_0.mp (Decidable.not_not.mp z1)
    refine ⟨_, rfl, Ly, I.ico, ?_⟩
    refine ws183 _ Ly ?_
    refine Cl.i (p181 Ly (n := nr) (by omega) (I.iri.2.2.1) _) (by decide) Ly ?_
    refine ⟨fun z => absurd z (not_not_intro (bI_0.mpr z1)), fun _ => ?_⟩
    exact ⟨rfl, I.sc (Ex.rf _ _)⟩
