/-! homeTold, offer, take -/
def gsP (g : Nat → Nat → Int32) (w d : Int32) (i : Nat) : Bool := decide (g 1 i = w) && (decide (g 0 i = 2) && onR g i d)
theorem l58 {h : AH} (Ly : Lay h) {n : Nat} {g : Nat → Nat → Int32} (V : vCR h n g) (w d : Int32) : ∀ m i, i + m = n → Ev 1 58 5 [.ref 9, .int w, .int d, .int (zI (cnt (gsP g w d) i)), .int (zI i)] [] h (fun r h' => r = some (.int (zI (cnt (gsP g w d) n))) ∧ h' = h)
  | 0, i, e => by
    have e' : i = n := by omega
    subst e'
    exact ws58_5 _ _ _ _ Ly ⟨fun _ => ⟨rfl, rfl⟩, fun z => absurd (by rw [V.2.1]; exact Int32.le_refl _) z⟩
  | m + 1, i, e => by
    have b := V.1
    have ih := l58 Ly V w d m (i + 1) (by omega)
    have i60 : am_in (zI i) 60 := in_zI (by omega) (by decide)
    refine ws58_5 _ _ _ _ Ly ⟨fun z => absurd z (by rw [V.2.1, zI_le (by omega) (by omega)]; omega), fun _ => ⟨i60, ?_⟩⟩
    rw [zI_tn (by omega), zI_succ, zI_succ, V.2.2 i (by omega) 0 (by decide), V.2.2 i (by omega) 1 (by decide)]
    refine ⟨fun z => ?_, fun z => ⟨i60, fun y => ?_, fun y => ⟨i60, Cl.i (p65 Ly V (by omega) d) (by decide) Ly ⟨fun x => ?_, fun x => ?_⟩⟩⟩⟩
    · rw [cnt_s0 (by unfold gsP; rw [decide_eq_false_iff_not.mpr z]; rfl)] at ih; exact ih
    · rw [cnt_s0 (by unfold gsP; rw [decide_eq_false_iff_not.mpr y]; simp)] at ih; exact ih
    · have x' : onR g i d = false := by simpa using bI_0.mp x
      rw [cnt_s0 (by unfold gsP; rw [x']; simp)] at ih; exact ih
    · rw [cnt_s1 (by unfold gsP; rw [decide_eq_true_iff.mpr (Decidable.not_not.mp z), decide_eq_true_iff.mpr (Decidable.not_not.mp y), bI_n0.mp x]; rfl)] at ih; exact ih
theorem p58 {h : AH} (Ly : Lay h) {n : Nat} {g : Nat → Nat → Int32} (V : vCR h n g) (w : Int32) {d d' : Int32} (e : d' = d) : PF 1 58 [.ref 9, .int w, .int d'] h (.int (zI (cnt (gsP g w d) n))) := by
  subst e; exact ws58 _ _ Ly (l58 Ly V w d' n 0 (by omega))
theorem l189 {h : AH} (Ly : Lay h) {n : Nat} {g : Nat → Nat → Int32} (V : vMR h n g) (w : Int32) : ∀ m i, i + m = n → Ev 1 189 126 [.ref 216, .int w, .null, .int (zI (cnt (gsP g w (am_gi h 216 0)) i)), .int (zI i)] [] h (fun r h' => r = some (.int (zI (cnt (gsP g w (am_gi h 216 0)) n))) ∧ h' = h)
  | 0, i, e => by
    have e' : i = n := by omega
    subst e'
    exact ws189_126 _ _ _ Ly ⟨fun _ => ⟨rfl, rfl⟩, fun z => absurd (by rw [V.2.1]; exact Int32.le_refl _) z⟩
  | m + 1, i, e => by
    have b := V.1
    have ih := l189 Ly V w m (i + 1) (by omega)
    have i60 : am_in (zI i) 60 := in_zI (by omega) (by decide)
    have e0 : am_gi h 228 i = g 0 i := V.2.2 i (by omega) 0 (by decide)
    have e1 : am_gi h 229 i = g 1 i := V.2.2 i (by omega) 1 (by decide)
    refine ws189_126 _ _ _ Ly ⟨fun z => absurd z (by rw [V.2.1, zI_le (by omega) (by omega)]; omega), fun _ => ⟨i60, ?_⟩⟩
    rw [zI_tn (by omega), zI_succ, zI_succ, zI_a0, e0, e1]
    refine ⟨fun y => ?_, fun y => ⟨i60, fun z => ?_, fun z => Cl.i (p171 Ly V (by omega) _) (by decide) Ly ⟨fun x => ?_, fun x => ?_⟩⟩⟩
    · rw [cnt_s0 (by unfold gsP; rw [decide_eq_false_iff_not.mpr y]; simp)] at ih; exact ih
    · rw [cnt_s0 (by unfold gsP; rw [decide_eq_false_iff_not.mpr z]; rfl)] at ih; exact ih
    · have x' : onR g i (am_gi h 216 0) = false := by simpa using bI_0.mp x
      rw [cnt_s0 (by unfold gsP; rw [x']; simp)] at ih; exact ih
    · rw [cnt_s1 (by unfold gsP; rw [decide_eq_true_iff.mpr (Decidable.not_not.mp z), decide_eq_true_iff.mpr (Decidable.not_not.mp y), bI_n0.mp x]; rfl)] at ih; exact ih
theorem op_homeTold {L : Nat} {xs : Nat → Int32} {c : Nat} {h : AH} {nh nm nr na nt nc : Nat} (I : InvN L xs c h nh nm nr na nt nc) (x y : Int32) : OPi 107 189 [.int x, .int y] L xs c h := by
  have Ly := I.lay
  have b1 := I.iho.1
  by_cases hx : inN x nh
  · obtain ⟨j, hj, rfl⟩ := hx.ex
    have i12 : am_in (zI j) 12 := in_zI (by omega) (by decide)
    have tj : Int32.toNatClampNeg (zI j) = j := zI_tn (by omega)
    have q := I.iho.2.2.2.2 j hj
    have q3 := (I.iho.2.2.2.1 j (by omega)).1
    by_cases h0 : y = 0
    · subst h0; refine OPi.pf I (x := am_gi h 217 j) (d := 9) (d' := 9) (ws107 _ _ Ly (Cl.i (p138 Ly (by omega) I.iho.2.1 _) (by decide) Ly ⟨fun _ => ⟨i12, fun _ => ⟨by rw [tj, q.1], rfl⟩, fun z => absurd z (by decide), fun z => absurd z (by decide), fun z => absurd z (by decide), fun z => absurd z (by decide), fun z => absurd z (by decide), fun z => absurd z (by decide), fun z => absurd z (by decide)⟩, fun z => absurd (bI_n0.mpr hx) z⟩)) (ws189 _ _ Ly (Cl.i (p168 Ly (n := nh) (by omega) I.iho.2.2.1 _) (by decide) Ly ⟨fun z => absurd hx (bI_0.mp z), fun _ => Cl.i (p167 Ly _ _ _) (by decide) Ly ⟨fun _ => ⟨fun _ => ⟨i12, by rw [tj], rfl⟩, fun z => absurd z (by decide), fun z => absurd z (by decide), fun z => absurd z (by decide), fun z => absurd z (by decide), fun z => absurd z (by decide), fun z => absurd z (by decide)⟩, fun z => absurd (bI_n0.mpr (by decide)) z⟩⟩))
    by_cases h1 : y = 1
    · subst h1; refine OPi.pf I (x := am_gi h 218 j) (d := 9) (d' := 9) (ws107 _ _ Ly (Cl.i (p138 Ly (by omega) I.iho.2.1 _) (by decide) Ly ⟨fun _ => ⟨i12, fun z => absurd z (by decide), fun _ => ⟨by rw [tj, q.2.1], rfl⟩, fun z => absurd z (by decide), fun z => absurd z (by decide), fun z => absurd z (by decide), fun z => absurd z (by decide), fun z => absurd z (by decide), fun z => absurd z (by decide)⟩, fun z => absurd (bI_n0.mpr hx) z⟩)) (ws189 _ _ Ly (Cl.i (p168 Ly (n := nh) (by omega) I.iho.2.2.1 _) (by decide) Ly ⟨fun z => absurd hx (bI_0.mp z), fun _ => Cl.i (p167 Ly _ _ _) (by decide) Ly ⟨fun _ => ⟨fun z => absurd z (by decide), fun _ => ⟨i12, by rw [tj], rfl⟩, fun z => absurd z (by decide), fun z => absurd z (by decide), fun z => absurd z (by decide), fun z => absurd z (by decide), fun z => absurd z (by decide)⟩, fun z => absurd (bI_n0.mpr (by decide)) z⟩⟩))
    by_cases h2 : y = 2
    · subst h2; refine OPi.pf I (x := am_gi h 219 j) (d := 9) (d' := 9) (ws107 _ _ Ly (Cl.i (p138 Ly (by omega) I.iho.2.1 _) (by decide) Ly ⟨fun _ => ⟨i12, fun z => absurd z (by decide), fun z => absurd z (by decide), fun _ => ⟨by rw [tj, q.2.2], rfl⟩, fun z => absurd z (by decide), fun z => absurd z (by decide), fun z => absurd z (by decide), fun z => absurd z (by decide), fun z => absurd z (by decide)⟩, fun z => absurd (bI_n0.mpr hx) z⟩)) (ws189 _ _ Ly (Cl.i (p168 Ly (n := nh) (by omega) I.iho.2.2.1 _) (by decide) Ly ⟨fun z => absurd hx (bI_0.mp z), fun _ => Cl.i (p167 Ly _ _ _) (by decide) Ly ⟨fun _ => ⟨fun z => absurd z (by decide), fun z => absurd z (by decide), fun _ => ⟨i12, by rw [tj], rfl⟩, fun z => absurd z (by decide), fun z => absurd z (by decide), fun z => absurd z (by decide), fun z => absurd z (by decide)⟩, fun z => absurd (bI_n0.mpr (by decide)) z⟩⟩))
    by_cases h3 : y = 3
    · subst h3
      refine OPi.pf I (x := bI (fHo (rR h) nr (zI j) (am_gi h 216 0) = -1)) (d := 9) (d' := 9) (ws107 _ _ Ly (Cl.i (p138 Ly (by omega) I.iho.2.1 _) (by decide) Ly ⟨fun _ => ⟨i12, fun z => absurd z (by decide), fun z => absurd z (by decide), fun z => absurd z (by decide), fun _ => Cl.i (by rw [← I.ida.1]; exact p147 Ly (vCR.of I.iri) _ : PF 3 147 [.ref 6, .int (zI j)] h (.int (bI (fHo (rR h) nr (zI j) (am_gi h 216 0) = -1)))) (by decide) Ly ⟨fun z => ⟨by rw [z], rfl⟩, fun z => ⟨by rw [bI_t (bI_n0.mp z)], rfl⟩⟩, fun z => absurd z (by decide), fun z => absurd z (by decide), fun z => absurd z (by decide), fun z => absurd z (by decide)⟩, fun z => absurd (bI_n0.mpr hx) z⟩)) (ws189 _ _ Ly (Cl.i (p168 Ly (n := nh) (by omega) I.iho.2.2.1 _) (by decide) Ly ⟨fun z => absurd hx (bI_0.mp z), fun _ => Cl.i (p167 Ly _ _ _) (by decide) Ly ⟨fun _ => ⟨fun z => absurd z (by decide), fun z => absurd z (by decide), fun z => absurd z (by decide), fun _ => Cl.i (p173 Ly (vMR.of I.iri) _ _) (by decide) Ly ⟨fun z => ⟨by rw [bI_f z], rfl⟩, fun z => ⟨by rw [bI_t (Decidable.not_not.mp z)], rfl⟩⟩, fun z => absurd z (by decide), fun z => absurd z (by decide), fun z => absurd z (by decide)⟩, fun z => absurd (bI_n0.mpr (by decide)) z⟩⟩))
    by_cases h4 : y = 4
    · subst h4
      refine OPi.rd I (x := oTo h nt nm j) (d := 10) (d' := 10) (ws107 _ _ Ly (Cl.i (p138 Ly (by omega) I.iho.2.1 _) (by decide) Ly ⟨fun _ => ⟨i12, fun z => absurd z (by decide), fun z => absurd z (by decide), fun z => absurd z (by decide), fun z => absurd z (by decide), fun _ => Cl.qi (c159 I hj) (by decide) (fun g p => ⟨p.lay Ly, rfl, p⟩), fun z => absurd z (by decide), fun z => absurd z (by decide), fun z => absurd z (by decide)⟩, fun z => absurd (bI_n0.mpr hx) z⟩)) (fun h1' E => ?_)
      have I1 := I.keep E
      have Ly := I1.lay
      exact ws189 _ _ Ly (Cl.i (p168 Ly (n := nh) (by omega) I1.iho.2.2.1 _) (by decide) Ly ⟨fun z => absurd hx (bI_0.mp z), fun _ => Cl.i (p167 Ly _ _ _) (by decide) Ly ⟨fun _ => ⟨fun z => absurd z (by decide), fun z => absurd z (by decide), fun z => absurd z (by decide), fun z => absurd z (by decide), fun _ => Cl.qi (m231 I1 (by omega)) (by decide) (fun g p => ⟨p.lay Ly, by rw [oTo_ex E], p.ex⟩), fun z => absurd z (by decide), fun z => absurd z (by decide)⟩, fun z => absurd (bI_n0.mpr (by decide)) z⟩⟩)
    by_cases h5 : y = 5
    · subst h5
      refine OPi.pf I (x := bI (¬ am_gi h 220 j = 0)) (d := 9) (d' := 9) (ws107 _ _ Ly (Cl.i (p138 Ly (by omega) I.iho.2.1 _) (by decide) Ly ⟨fun _ => ⟨i12, fun z => absurd z (by decide), fun z => absurd z (by decide), fun z => absurd z (by decide), fun z => absurd z (by decide), fun z => absurd z (by decide), fun _ => ⟨fun z => ⟨by rw [tj, q3] at z; rw [bI_f (not_not_intro z)], rfl⟩, fun z => ⟨by rw [tj, q3] at z; rw [bI_t z], rfl⟩⟩, fun z => absurd z (by decide), fun z => absurd z (by decide)⟩, fun z => absurd (bI_n0.mpr hx) z⟩)) (ws189 _ _ Ly (Cl.i (p168 Ly (n := nh) (by omega) I.iho.2.2.1 _) (by decide) Ly ⟨fun z => absurd hx (bI_0.mp z), fun _ => Cl.i (p167 Ly _ _ _) (by decide) Ly ⟨fun _ => ⟨fun z => absurd z (by decide), fun z => absurd z (by decide), fun z => absurd z (by decide), fun z => absurd z (by decide), fun z => absurd z (by decide), fun _ => ⟨i12, fun z => ⟨by rw [tj] at z; rw [bI_f (not_not_intro z)], rfl⟩, fun z => ⟨by rw [tj] at z; rw [bI_t z], rfl⟩⟩, fun z => absurd z (by decide)⟩, fun z => absurd (bI_n0.mpr (by decide)) z⟩⟩))
    by_cases h6 : y = 6
    · subst h6
      refine OPi.pf I (x := zI (cnt (gsP (rR h) (zI j) (am_gi h 216 0)) nr)) (d := 9) (d' := 9) (ws107 _ _ Ly (Cl.i (p138 Ly (by omega) I.iho.2.1 _) (by decide) Ly ⟨fun _ => ⟨i12, fun z => absurd z (by decide), fun z => absurd z (by decide), fun z => absurd z (by decide), fun z => absurd z (by decide), fun z => absurd z (by decide), fun z => absurd z (by decide), fun _ => Cl.i (p58 Ly (vCR.of I.iri) (zI j) I.ida.1) (by decide) Ly ⟨rfl, rfl⟩, fun z => absurd z (by decide)⟩, fun z => absurd (bI_n0.mpr hx) z⟩)) (ws189 _ _ Ly (Cl.i (p168 Ly (n := nh) (by omega) I.iho.2.2.1 _) (by decide) Ly ⟨fun z => absurd hx (bI_0.mp z), fun _ => Cl.i (p167 Ly _ _ _) (by decide) Ly ⟨fun _ => ⟨fun z => absurd z (by decide), fun z => absurd z (by decide), fun z => absurd z (by decide), fun z => absurd z (by decide), fun z => absurd z (by decide), fun z => absurd z (by decide), fun _ => Ev.mono (l189 Ly (vMR.of I.iri) (zI j) nr 0 (by omega)) (by decide) (fun _ _ p => p)⟩, fun z => absurd (bI_n0.mpr (by decide)) z⟩⟩))
    refine OPi.pf I (x := -2) (d := 9) (d' := 9) (ws107 _ _ Ly (Cl.i (p138 Ly (by omega) I.iho.2.1 _) (by decide) Ly ⟨fun _ => ⟨i12, fun z => absurd z h0, fun z => absurd z h1, fun z => absurd z h2, fun z => absurd z h3, fun z => absurd z h4, fun z => absurd z h5, fun z => absurd z h6, fun _ => ⟨rfl, rfl⟩⟩, fun z => absurd (bI_n0.mpr hx) z⟩)) ?_
    exact ws189 _ _ Ly (Cl.i (p168 Ly (n := nh) (by omega) I.iho.2.2.1 _) (by decide) Ly ⟨fun z => absurd hx (bI_0.mp z), fun _ => Cl.i (p167 Ly _ _ _) (by decide) Ly ⟨fun z => absurd (bI_n0.mp z) (in07 h0 h1 h2 h3 h4 h5 h6), fun _ => ⟨rfl, rfl⟩⟩⟩)
  · refine OPi.pf I (x := -2) (d := 9) (d' := 9) ?_ ?_
    · exact ws107 _ _ Ly (Cl.i (p138 Ly (by omega) I.iho.2.1 _) (by decide) Ly ⟨fun z => absurd (bI_n0.mp z) hx, fun _ => ⟨rfl, rfl⟩⟩)
    · exact ws189 _ _ Ly (Cl.i (p168 Ly (n := nh) (by omega) I.iho.2.2.1 _) (by decide) Ly ⟨fun _ => ⟨rfl, rfl⟩, fun z => absurd (bI_n0.mp z) hx⟩)
theorem OPi.ce {Mc Mr : Nat} {as : List Value} {L : Nat} {xs : Nat → Int32} {c : Nat} {h : AH} {nh nm nr na nt nc : Nat} {ts : List Nat} {v : Int32} {d d' : Nat} {P1 : AH → Prop} (I : InvN L xs c h nh nm nr na nt nc) (C : Cl d Mc (.ref 6 :: as) h (fun r h' => r = some (.int v) ∧ P1 h' ∧ Ex ts h h')) (M : ∀ h1, P1 h1 → Ex ts h h1 → Lay h1 → Cl d' Mr (.ref 216 :: as) h1 (fun r h' => r = some (.int v) ∧ Inv L xs (c + 1) h')) (n : 12 ∉ ts := by decide) (hd : d ≤ 700 := by decide) (hd' : d' ≤ 700 := by decide) : OPi Mc Mr as L xs c h :=
  Cl.mono C hd (fun _ h1 q => ⟨v, q.1, q.2.2.lay I.lay, I.ico.ex q.2.2 n, Cl.mono (M h1 q.2.1 q.2.2 (q.2.2.lay I.lay)) hd' (fun _ h2 q2 => q2)⟩)
/-- a home comes on offer, in both programs -/
theorem op_offer {L : Nat} {xs : Nat → Int32} {c : Nat} {h : AH} {nh nm nr na nt nc : Nat} (I : InvN L xs c h nh nm nr na nt nc) (x : Int32) : OPi 120 232 [.int x] L xs c h := by
  have Ly := I.lay
  have b1 := I.iho.1
  have b2 := I.ime.1
  have b3 := I.iri.1
  by_cases hx : inN x nh
  · obtain ⟨j, hj, rfl⟩ := hx.ex
    have i12 : am_in (zI j) 12 := in_zI (by omega) (by decide)
    have tj : Int32.toNatClampNeg (zI j) = j := zI_tn (by omega)
    have q3 := (I.iho.2.2.2.1 j (by omega)).1
    have P147 : PF 3 147 [.ref 6, .int (zI j)] h (.int (bI (fHo (rR h) nr (zI j) (am_gi h 216 0) = -1))) := by rw [← I.ida.1]; exact p147 Ly (vCR.of I.iri) _
    by_cases he : fHo (rR h) nr (zI j) (am_gi h 216 0) = -1
    · by_cases ho : am_gi h 220 j = 0
      · have E1 : OC [0, 2] h (am_si (am_si h (112 + j) 3 1) (112 + j) 4 0) := ((OC.rf [0, 2] h).si (a := 112 + j) (k := 3) (by omega) (tpm (tp_home (by omega)) (by decide))).si (a := 112 + j) (k := 4) (by omega) (tpm (tp_home (by omega)) (by decide))
        refine OPi.ce (d := 10) (d' := 10) (ts := [0, 2]) (v := plc h nt nm j 0 0) (P1 := fun h' => Ex [0] (am_si (am_si h (112 + j) 3 1) (112 + j) 4 0) h') I ?_ ?_
        · refine ws120 _ Ly (Cl.i (p138 Ly (by omega) I.iho.2.1 _) (by decide) Ly ⟨fun _ => Cl.i P147 (by decide) Ly ⟨fun z => absurd he (bI_0.mp z), fun _ => ⟨i12, ?_⟩⟩, fun z => absurd (bI_n0.mpr hx) z⟩)
          rw [tj, q3]
          refine ⟨fun _ => ⟨i12, ?_⟩, fun z => absurd ho z⟩
          intro k1 e1; subst e1
          refine ⟨i12, ?_⟩
          intro k2 e2; subst e2
          have K : InvK L xs c (am_si (am_si h (112 + j) 3 1) (112 + j) 4 0) nh nm nr na nt nc := by
            have A := fun t (ht : t ∉ [0, 2]) => E1.ex.ag (t := t) ht
            refine ⟨E1.lay Ly, I.ico.ex E1.ex (by decide), I.2.2.1, I.ida.of (A 1 (by decide)), ⟨b1, by (repeat (first | rw [gi_eq] | rw [gl_eq] | rw [gi_ne (by omega)] | rw [gl_ne (by omega)] | rw [gi_sl] | rw [gl_si])); exact I.iho.2.1, by (repeat (first | rw [gi_eq] | rw [gl_eq] | rw [gi_ne (by omega)] | rw [gl_ne (by omega)] | rw [gi_sl] | rw [gl_si])); exact I.iho.2.2.1, trivial, fun i hi => by (repeat (first | rw [gi_eq] | rw [gl_eq] | rw [gi_ne (by omega)] | rw [gl_ne (by omega)] | rw [gi_sl] | rw [gl_si])); exact I.iho.2.2.2.2 i hi⟩, I.ime.of (A 3 (by decide)), I.itx.of E1.1.t (A 6 (by decide))⟩
          have C := c159k K hj (by rw [gi_ne (by omega), gi_eq]; decide)
          rw [gi_eq, plc_pc E1.pc] at C
          exact Cl.qi C (by decide) (fun g p => ⟨p.lay K.lay, rfl, p, E1.ex.tr (p.wk (by decide))⟩)
        · intro h1 E0 E Ly1
          have V : ∀ a k, tp a k ≠ 0 → am_gi h1 a k = am_gi (am_si (am_si h (112 + j) 3 1) (112 + j) 4 0) a k ∧ am_gl h1 a k = am_gl (am_si (am_si h (112 + j) 3 1) (112 + j) 4 0) a k := fun a k e => E0.2 a k (fun z => e (List.mem_singleton.mp z))
          have VM : vMR h1 nr (rR h) := ⟨b3, by rw [(V 216 14 (by decide)).1]; (repeat (first | rw [gi_eq] | rw [gl_eq] | rw [gi_ne (by omega)] | rw [gl_ne (by omega)] | rw [gi_sl] | rw [gl_si])); exact I.iri.2.2.1, fun i hi k hk => by rw [(V (228 + k) i (by rw [tp_rr hk]; decide)).1]; (repeat (first | rw [gi_eq] | rw [gl_eq] | rw [gi_ne (by omega)] | rw [gl_ne (by omega)] | rw [gi_sl] | rw [gl_si])); rfl⟩
          have e0 : am_gi h1 216 0 = am_gi h 216 0 := by rw [(V 216 0 (by decide)).1]; (repeat (first | rw [gi_eq] | rw [gl_eq] | rw [gi_ne (by omega)] | rw [gl_ne (by omega)] | rw [gi_sl] | rw [gl_si]))
          have e220 : ∀ i, am_gi h1 220 i = am_gi h 220 i := fun i => by rw [(V 220 i (by show (2 : Nat) ≠ 0; decide)).1]; (repeat (first | rw [gi_eq] | rw [gl_eq] | rw [gi_ne (by omega)] | rw [gl_ne (by omega)] | rw [gi_sl] | rw [gl_si]))
          have e221 : ∀ i, am_gi h1 221 i = am_gi h 221 i := fun i => by rw [(V 221 i (by show (2 : Nat) ≠ 0; decide)).1]; (repeat (first | rw [gi_eq] | rw [gl_eq] | rw [gi_ne (by omega)] | rw [gl_ne (by omega)] | rw [gi_sl] | rw [gl_si]))
          have eh : ∀ i k, i < 12 → am_gi h1 (112 + i) k = am_gi (am_si (am_si h (112 + j) 3 1) (112 + j) 4 0) (112 + i) k := fun i k hi => (V _ k (by rw [tp_home hi]; decide)).1
          refine ws232 _ Ly1 (Cl.i (p168 Ly1 (n := nh) (by omega) (by rw [(V 216 1 (by decide)).1]; (repeat (first | rw [gi_eq] | rw [gl_eq] | rw [gi_ne (by omega)] | rw [gl_ne (by omega)] | rw [gi_sl] | rw [gl_si])); exact I.iho.2.2.1) _) (by decide) Ly1 ⟨fun _ => ?_, fun z => absurd (bI_n0.mpr hx) z⟩)
          rw [e0]
          refine Cl.i (p173 Ly1 VM _ _) (by decide) Ly1 ⟨fun z => absurd he z, fun _ => ⟨i12, ?_⟩⟩
          rw [tj, e220]
          refine ⟨fun _ => ⟨i12, ?_⟩, fun z => absurd ho z⟩
          intro k1 e1; subst e1
          refine ⟨i12, ?_⟩
          intro k2 e2; subst e2
          have E2 : Ex [0, 2] h (am_si (am_si h1 220 j 1) 221 j 0) := E.tr (((OM.rf [0, 2] h1).si (a := 220) (k := j) (by omega) (tpm (t := 2) rfl (by decide))).si (a := 221) (k := j) (by omega) (tpm (t := 2) rfl (by decide))).ex
          have J : InvN L xs (c + 1) (am_si (am_si h1 220 j 1) 221 j 0) nh nm nr na nt nc := by
            refine I.up E2 (g2 := Or.inr ⟨b1, ?_, ?_, fun i hi => ?_, fun i hi => ?_⟩) (gx2 := Or.inr (fun i hi k hk => ?_)) (gx4 := Or.inr (fun i hi z => ?_))
            · (repeat (first | rw [gi_eq] | rw [gl_eq] | rw [gi_ne (by omega)] | rw [gl_ne (by omega)] | rw [gi_sl] | rw [gl_si])); rw [(V 6 2 (by decide)).1]; (repeat (first | rw [gi_eq] | rw [gl_eq] | rw [gi_ne (by omega)] | rw [gl_ne (by omega)] | rw [gi_sl] | rw [gl_si])); exact I.iho.2.1
            · (repeat (first | rw [gi_eq] | rw [gl_eq] | rw [gi_ne (by omega)] | rw [gl_ne (by omega)] | rw [gi_sl] | rw [gl_si])); rw [(V 216 1 (by decide)).1]; (repeat (first | rw [gi_eq] | rw [gl_eq] | rw [gi_ne (by omega)] | rw [gl_ne (by omega)] | rw [gi_sl] | rw [gl_si])); exact I.iho.2.2.1
            · by_cases hij : i = j
              · subst hij
                (repeat (first | rw [gi_eq] | rw [gl_eq] | rw [gi_ne (by omega)] | rw [gl_ne (by omega)] | rw [gi_sl] | rw [gl_si])); rw [eh i 3 hi]; (repeat (first | rw [gi_eq] | rw [gl_eq] | rw [gi_ne (by omega)] | rw [gl_ne (by omega)] | rw [gi_sl] | rw [gl_si])); exact ⟨rfl, Or.inr rfl⟩
              · (repeat (first | rw [gi_eq] | rw [gl_eq] | rw [gi_ne (by omega)] | rw [gl_ne (by omega)] | rw [gi_sl] | rw [gl_si])); rw [eh i 3 hi, e220]; (repeat (first | rw [gi_eq] | rw [gl_eq] | rw [gi_ne (by omega)] | rw [gl_ne (by omega)] | rw [gi_sl] | rw [gl_si])); exact I.iho.2.2.2.1 i hi
            · have w : ∀ a, 217 ≤ a → a < 220 → am_gi h1 a i = am_gi h a i := fun a q1 q2 => by
                rcases (show a = 217 ∨ a = 218 ∨ a = 219 by omega) with rfl | rfl | rfl
                · rw [(V 217 i (by show (2 : Nat) ≠ 0; decide)).1]; (repeat (first | rw [gi_eq] | rw [gl_eq] | rw [gi_ne (by omega)] | rw [gl_ne (by omega)] | rw [gi_sl] | rw [gl_si]))
                · rw [(V 218 i (by show (2 : Nat) ≠ 0; decide)).1]; (repeat (first | rw [gi_eq] | rw [gl_eq] | rw [gi_ne (by omega)] | rw [gl_ne (by omega)] | rw [gi_sl] | rw [gl_si]))
                · rw [(V 219 i (by show (2 : Nat) ≠ 0; decide)).1]; (repeat (first | rw [gi_eq] | rw [gl_eq] | rw [gi_ne (by omega)] | rw [gl_ne (by omega)] | rw [gi_sl] | rw [gl_si]))
              (repeat (first | rw [gi_eq] | rw [gl_eq] | rw [gi_ne (by omega)] | rw [gl_ne (by omega)] | rw [gi_sl] | rw [gl_si])); rw [eh i 0 (by omega), eh i 1 (by omega), eh i 2 (by omega), w 217 (by decide) (by decide), w 218 (by decide) (by decide), w 219 (by decide) (by decide)]
              (repeat (first | rw [gi_eq] | rw [gl_eq] | rw [gi_ne (by omega)] | rw [gl_ne (by omega)] | rw [gi_sl] | rw [gl_si])); exact I.iho.2.2.2.2 i hi
            · have w224 : am_gi h1 224 k = am_gi h 224 k := by rw [(V 224 k (by show (3 : Nat) ≠ 0; decide)).1]; (repeat (first | rw [gi_eq] | rw [gl_eq] | rw [gi_ne (by omega)] | rw [gl_ne (by omega)] | rw [gi_sl] | rw [gl_si]))
              by_cases hij : i = j
              · subst hij
                (repeat (first | rw [gi_eq] | rw [gl_eq] | rw [gi_ne (by omega)] | rw [gl_ne (by omega)] | rw [gi_sl] | rw [gl_si])); rw [eh i 4 hi]; (repeat (first | rw [gi_eq] | rw [gl_eq] | rw [gi_ne (by omega)] | rw [gl_ne (by omega)] | rw [gi_sl] | rw [gl_si])); exact Or.inr rfl
              · (repeat (first | rw [gi_eq] | rw [gl_eq] | rw [gi_ne (by omega)] | rw [gl_ne (by omega)] | rw [gi_sl] | rw [gl_si])); rw [eh i 4 hi, e221, w224]; (repeat (first | rw [gi_eq] | rw [gl_eq] | rw [gi_ne (by omega)] | rw [gl_ne (by omega)] | rw [gi_sl] | rw [gl_si])); exact I.ix2 i hi k hk
            · have A4 := E2.ag (t := 4) (by decide)
              have z' : hoR (rR h) i (am_gi h 216 0) = true := by
                rw [hoR_congr (A4.rR (by omega)) (A4.rR (by omega)) (A4.rR (by omega))] at z
                rw [gi_ne (by omega), gi_ne (by omega)] at z
                rw [e0] at z; exact z
              rw [A4.rR (by omega), gi_ne (by omega), am_si_gi, if_neg, e220]
              · exact I.ix4 i hi z'
              · rintro ⟨_, q⟩
                have q1 := (I.ix3.1 i hi).2.1
                exact fHo_n he b3 i hi z' (by rw [← q, tn_of q1.1]; exact zI_of q1.1)
          have PCx : PC h (am_si (am_si h1 220 j 1) 221 j 0) := fun a k z => by
            have t0 : tp a k ≠ 0 := by
              rcases z with ⟨rfl, rfl⟩ | z | z | z
              · decide
              · rcases (show a = 217 ∨ a = 218 ∨ a = 219 by omega) with rfl | rfl | rfl <;> (show (2 : Nat) ≠ 0; decide)
              · rcases (show a = 222 ∨ a = 223 ∨ a = 224 ∨ a = 225 ∨ a = 226 ∨ a = 227 by omega) with rfl | rfl | rfl | rfl | rfl | rfl <;> (show (3 : Nat) ≠ 0; decide)
              · rcases (show a = 237 ∨ a = 238 ∨ a = 239 ∨ a = 240 ∨ a = 241 ∨ a = 242 ∨ a = 243 by omega) with rfl | rfl | rfl | rfl | rfl | rfl | rfl <;> (show (6 : Nat) ≠ 0; decide)
            have v := V a k t0
            refine ⟨?_, ?_⟩
            · (repeat (first | rw [gi_eq] | rw [gl_eq] | rw [gi_ne (by omega)] | rw [gl_ne (by omega)] | rw [gi_sl] | rw [gl_si])); rw [v.1]; (repeat (first | rw [gi_eq] | rw [gl_eq] | rw [gi_ne (by omega)] | rw [gl_ne (by omega)] | rw [gi_sl] | rw [gl_si]))
            · rw [gl_si, gl_si, v.2]; rfl
          refine Cl.qi (m231 J (hm := j) (by omega)) (by decide) (fun g p => ⟨p.lay J.lay, ?_, ⟨nh, nm, nr, na, nt, nc, J.keep p.ex⟩⟩)
          unfold oTo
          rw [gi_ne (by omega), gi_eq, if_neg (by decide), gi_eq, ahd_pc PCx, plc0, qL0]
          have ei : (fun m => !tb 0 m && isq (am_si (am_si h1 220 j 1) 221 j 0) nt nm j m) = isq h nt nm j := funext fun m => by
            rw [tb_zero]
            show isq _ nt nm j m = _
            unfold isq waitP
            rw [PT_pc PCx, (PCx 225 m (by omega)).1]
          rw [ei]
      · refine OPi.pf I (x := -3) (d := 9) (d' := 9) ?_ ?_
        · refine ws120 _ Ly (Cl.i (p138 Ly (by omega) I.iho.2.1 _) (by decide) Ly ⟨fun _ => Cl.i P147 (by decide) Ly ⟨fun z => absurd he (bI_0.mp z), fun _ => ⟨i12, ?_⟩⟩, fun z => absurd (bI_n0.mpr hx) z⟩)
          rw [tj, q3]
          exact ⟨fun z => absurd z ho, fun _ => ⟨rfl, rfl⟩⟩
        · refine ws232 _ Ly (Cl.i (p168 Ly (n := nh) (by omega) I.iho.2.2.1 _) (by decide) Ly ⟨fun _ => Cl.i (p173 Ly (vMR.of I.iri) _ _) (by decide) Ly ⟨fun z => absurd he z, fun _ => ⟨i12, ?_⟩⟩, fun z => absurd (bI_n0.mpr hx) z⟩)
          rw [tj]
          exact ⟨fun z => absurd z ho, fun _ => ⟨rfl, rfl⟩⟩
    · refine OPi.pf I (x := -3) (d := 9) (d' := 9) ?_ ?_
      · exact ws120 _ Ly (Cl.i (p138 Ly (by omega) I.iho.2.1 _) (by decide) Ly ⟨fun _ => Cl.i P147 (by decide) Ly ⟨fun _ => ⟨rfl, rfl⟩, fun z => absurd (bI_n0.mp z) he⟩, fun z => absurd (bI_n0.mpr hx) z⟩)
      · exact ws232 _ Ly (Cl.i (p168 Ly (n := nh) (by omega) I.iho.2.2.1 _) (by decide) Ly ⟨fun _ => Cl.i (p173 Ly (vMR.of I.iri) _ _) (by decide) Ly ⟨fun _ => ⟨rfl, rfl⟩, fun z => absurd he z⟩, fun z => absurd (bI_n0.mpr hx) z⟩)
  · refine OPi.pf I (x := -2) (d := 9) (d' := 9) ?_ ?_
    · exact ws120 _ Ly (Cl.i (p138 Ly (by omega) I.iho.2.1 _) (by decide) Ly ⟨fun z => absurd (bI_n0.mp z) hx, fun _ => ⟨rfl, rfl⟩⟩)
    · exact ws232 _ Ly (Cl.i (p168 Ly (n := nh) (by omega) I.iho.2.2.1 _) (by decide) Ly ⟨fun z => absurd (bI_n0.mp z) hx, fun _ => ⟨rfl, rfl⟩⟩)
