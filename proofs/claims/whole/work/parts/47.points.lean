/-! NAMES, points -/
theorem InvN.keep {L : Nat} {xs : Nat → Int32} {c : Nat} {h h' : AH} {nh nm nr na nt nc : Nat} (I : InvN L xs c h nh nm nr na nt nc) (E : Ex [0] h h') : InvN L xs c h' nh nm nr na nt nc := by
  have A : ∀ t, t ≠ 0 → Ag t h h' := fun t ht => E.ag (fun z => ht (List.mem_singleton.mp z))
  obtain ⟨i1, i2, ⟨i3, i4⟩, i5, i6, i7, i8, i9, i10, i11, i12, i13, i14, i15, i16, i17, i18, i19⟩ := I
  exact ⟨E.lay i1, i2.ex E (by decide), ⟨by rw [E.1.1]; exact i3, by rw [E.1.2.1]; exact i4⟩, i5.of (A 1 (by decide)), i6.of (A 7 (by decide)), i7.of (A 9 (by decide)), i8.of (A 10 (by decide)), i9.of (A 2 (by decide)), i10.of (A 3 (by decide)), i11.of (A 4 (by decide)), i12.of (A 5 (by decide)), i13.of (A 8 (by decide)), i14.of (A 1 (by decide)) (A 3 (by decide)), i15.of (A 2 (by decide)) (A 3 (by decide)), i16.of (A 1 (by decide)) (A 4 (by decide)), i17.of E.1.t (A 6 (by decide)), i18.of E.1 (A 11 (by decide)) (A 6 (by decide)) (A 4 (by decide)), i19.of (A 1 (by decide)) (A 2 (by decide)) (A 4 (by decide))⟩
theorem SW.ex {h h' : AH} (A : SW h h') : Ex [0] h h' := A.oc.ex
theorem SM.ex {h h' : AH} (A : SM h h') : Ex [0] h h' := A.om.ex
def S76 (h h' : AH) : Prop := Sm h h' ∧ ∀ a k, a ≠ 76 → am_gi h' a k = am_gi h a k ∧ am_gl h' a k = am_gl h a k
theorem S76.rf (h : AH) : S76 h h := ⟨Sm.rfl' h, fun _ _ _ => ⟨rfl, rfl⟩⟩
theorem S76.sl {h h1 : AH} (A : S76 h h1) {k : Nat} {v : Int64} : S76 h (am_sl h1 76 k v) := ⟨A.1, fun a j e => ⟨(A.2 a j e).1, by rw [gl_ne (by omega)]; exact (A.2 a j e).2⟩⟩
theorem S76.ex {h h' : AH} (A : S76 h h') : Ex [0] h h' := ⟨A.1, fun a k e => A.2 a k (fun z => e (by rw [z]; exact List.mem_singleton.mpr rfl))⟩
theorem wth_ag {h h' : AH} (A : Ag 6 h h') (t k : Nat) (nm : Nat → Int64) : wth h' t k nm = wth h t k nm := by
  unfold wth
  rw [(A 239 _ rfl).1, (A 239 _ rfl).1, show (fun i => am_gi h' 237 (400 * t + i)) = (fun i => am_gi h 237 (400 * t + i)) from funext fun i => (A 237 _ rfl).1, show (fun i => am_gi h' 238 (400 * t + i)) = (fun i => am_gi h 238 (400 * t + i)) from funext fun i => (A 238 _ rfl).1]
theorem nmF_ex {h h' : AH} (E : Ex [0] h h') (n m hm : Nat) : nmF h' n m hm = nmF h n m hm := funext fun w => by
  have A1 := E.ag (t := 1) (by decide)
  have A2 := E.ag (t := 2) (by decide)
  have A3 := E.ag (t := 3) (by decide)
  have eh : hereP h' = hereP h := funext fun i => by unfold hereP; rw [(A3 224 i rfl).1]
  unfold nmF
  rw [(A3 225 m rfl).1, (A3 222 m rfl).1, (A3 223 m rfl).1, (A3 227 m rfl).2, (A2 217 hm rfl).1, (A2 218 hm rfl).1, (A2 219 hm rfl).1, (A1 216 0 rfl).1, eh]
/-- what part k of the text in force is worth for member m and home hm -/
def PT (h : AH) (nt nm m hm k : Nat) : Int64 := wth h (tOn h nt (am_gi h 216 0)) k (nmF h nm m hm)
theorem PT_ex {h h' : AH} (E : Ex [0] h h') (nt nm m hm k : Nat) : PT h' nt nm m hm k = PT h nt nm m hm k := by
  have A6 := E.ag (t := 6) (by decide)
  unfold PT
  rw [(E.ag (t := 1) (by decide) 216 0 rfl).1, tOn_ag A6, wth_ag A6, nmF_ex E]
theorem tn_lit : Int32.toNatClampNeg 0 = 0 ∧ Int32.toNatClampNeg 1 = 1 ∧ Int32.toNatClampNeg 2 = 2 ∧ Int32.toNatClampNeg 3 = 3 ∧ Int32.toNatClampNeg 4 = 4 ∧ Int32.toNatClampNeg 5 = 5 ∧ Int32.toNatClampNeg 6 = 6 ∧ Int32.toNatClampNeg 7 = 7 := by decide
theorem in8 : ∀ k, k < 8 → am_in (zI k) 8 := fun k hk => in_zI hk (by decide)
theorem c158 {L : Nat} {xs : Nat → Int32} {c : Nat} {h : AH} {nh nm nr na nt nc : Nat} (I : InvN L xs c h nh nm nr na nt nc) {hm : Nat} (hh : hm < nh) (m : Nat) : Cl 0 158 [.ref 6, .int (zI hm)] h (fun r h' => r = none ∧ (am_gl h' 76 2 = nmF h nm m hm 2 ∧ am_gl h' 76 5 = nmF h nm m hm 5 ∧ am_gl h' 76 6 = nmF h nm m hm 6 ∧ am_gl h' 76 0 = am_gl h 76 0 ∧ am_gl h' 76 1 = am_gl h 76 1 ∧ am_gl h' 76 3 = am_gl h 76 3 ∧ am_gl h' 76 4 = am_gl h 76 4) ∧ S76 h h') := by
  have b := I.iho.1
  have q := I.iho.2.2.2.2 hm hh
  refine ws158 _ I.lay ⟨in_zI (by omega) (by decide), in8 2 (by decide), ?_⟩
  rw [zI_tn (by omega), tn_lit.2.2.1, tn_lit.2.2.2.2.2.1, tn_lit.2.2.2.2.2.2.1]
  intro k1 e1; subst e1
  refine ⟨in8 5 (by decide), ?_⟩
  intro k2 e2; subst e2
  refine ⟨in8 6 (by decide), ?_⟩
  intro k3 e3; subst e3
  refine ⟨rfl, ⟨?_, ?_, ?_, ?_, ?_, ?_, ?_⟩, ((S76.rf h).sl.sl).sl⟩
  · rw [gl_ne (by omega), gl_ne (by omega), gl_eq, q.2.1]
    unfold nmF; rw [if_neg (by decide), if_neg (by decide), if_pos rfl]
  · rw [gl_ne (by omega), gl_eq, gi_sl, q.1]
    unfold nmF; rw [if_neg (by decide), if_neg (by decide), if_neg (by decide), if_neg (by decide), if_neg (by decide), if_pos rfl]
  · rw [gl_eq, gi_sl, gi_sl, q.2.2]
    unfold nmF; rw [if_neg (by decide), if_neg (by decide), if_neg (by decide), if_neg (by decide), if_neg (by decide), if_neg (by decide), if_pos rfl]
  · rw [gl_ne (by omega), gl_ne (by omega), gl_ne (by omega)]
  · rw [gl_ne (by omega), gl_ne (by omega), gl_ne (by omega)]
  · rw [gl_ne (by omega), gl_ne (by omega), gl_ne (by omega)]
  · rw [gl_ne (by omega), gl_ne (by omega), gl_ne (by omega)]
theorem c157 {L : Nat} {xs : Nat → Int32} {c : Nat} {h : AH} {nh nm nr na nt nc : Nat} (I : InvN L xs c h nh nm nr na nt nc) {m : Nat} (hm' : m < nm) (hm : Nat) : Cl 2 157 [.ref 6, .int (zI m)] h (fun r h' => r = none ∧ (am_gl h' 76 0 = nmF h nm m hm 0 ∧ am_gl h' 76 1 = nmF h nm m hm 1 ∧ am_gl h' 76 3 = nmF h nm m hm 3 ∧ am_gl h' 76 4 = nmF h nm m hm 4 ∧ am_gl h' 76 2 = am_gl h 76 2 ∧ am_gl h' 76 5 = am_gl h 76 5 ∧ am_gl h' 76 6 = am_gl h 76 6) ∧ S76 h h') := by
  have b := I.ime.1
  have q := I.ime.2.2.2.2.1 m hm'
  have q2 := I.ime.2.2.2.1 m (by omega)
  have main : ∀ v : Int64, v = nmF h nm m hm 0 → Ev 2 157 36 [.ref 6, .null, .ref (124 + m)] [.long v, .int 0, .ref 76] h (fun r h' => r = none ∧ (am_gl h' 76 0 = nmF h nm m hm 0 ∧ am_gl h' 76 1 = nmF h nm m hm 1 ∧ am_gl h' 76 3 = nmF h nm m hm 3 ∧ am_gl h' 76 4 = nmF h nm m hm 4 ∧ am_gl h' 76 2 = am_gl h 76 2 ∧ am_gl h' 76 5 = am_gl h 76 5 ∧ am_gl h' 76 6 = am_gl h 76 6) ∧ S76 h h') := fun v ev => by
    refine ws157_36 (by omega) _ _ I.lay ⟨in8 0 (by decide), ?_⟩
    rw [tn_lit.1, tn_lit.2.1, tn_lit.2.2.2.1, tn_lit.2.2.2.2.1]
    intro k1 e1; subst e1
    refine ⟨in8 1 (by decide), ?_⟩
    intro k2 e2; subst e2
    refine ⟨in8 3 (by decide), ?_⟩
    intro k3 e3; subst e3
    refine ⟨in8 4 (by decide), ?_⟩
    intro k4 e4; subst e4
    refine ⟨rfl, ⟨?_, ?_, ?_, ?_, ?_, ?_, ?_⟩, ((S76.rf h).sl.sl.sl).sl⟩
    · rw [gl_ne (by omega), gl_ne (by omega), gl_ne (by omega), gl_eq]; exact ev
    · rw [gl_ne (by omega), gl_ne (by omega), gl_eq, gi_sl, q.1]
      unfold nmF; rw [if_neg (by decide), if_pos rfl]
    · rw [gl_ne (by omega), gl_eq, gi_sl, gi_sl, gi_sl, gi_sl, q.2.1, I.ida.1]
      unfold nmF; rw [if_neg (by decide), if_neg (by decide), if_neg (by decide), if_pos rfl]
    · rw [gl_eq, gl_ne (by omega), gl_ne (by omega), gl_ne (by omega), q2.2.2]
      unfold nmF; rw [if_neg (by decide), if_neg (by decide), if_neg (by decide), if_neg (by decide), if_pos rfl]
    · rw [gl_ne (by omega), gl_ne (by omega), gl_ne (by omega), gl_ne (by omega)]
    · rw [gl_ne (by omega), gl_ne (by omega), gl_ne (by omega), gl_ne (by omega)]
    · rw [gl_ne (by omega), gl_ne (by omega), gl_ne (by omega), gl_ne (by omega)]
  refine ws157 _ I.lay ⟨in_zI (by omega) (by decide), ?_⟩
  rw [zI_tn (by omega)]
  refine Cl.i (p23 I.lay (by omega)) (by decide) I.lay ⟨fun z => main _ ?_, fun z => main _ ?_⟩
  · rw [bI_0, q.2.2.2] at z
    unfold nmF; rw [if_pos rfl, if_pos (Decidable.not_not.mp z)]
  · rw [bI_n0, q.2.2.2] at z
    unfold nmF; rw [if_pos rfl, if_neg z, q.2.2.2, I.ida.1]
theorem c70n {L : Nat} {xs : Nat → Int32} {c : Nat} {h : AH} {nh nm nr na nt nc : Nat} (I : InvN L xs c h nh nm nr na nt nc) {m hm k : Nat} (hk : k < 2) (N : ∀ w, w < 7 → am_gl h 76 w = nmF h nm m hm w) : Cl 3 70 [.ref 75, .ref (148 + 4 * tOn h nt (am_gi h 216 0)), .int (zI k)] h (fun r h' => r = some (.long (PT h nt nm m hm k)) ∧ SW h h') :=
  c70 I (tOn_lt I.itx.1.1) (by omega) (fun w h0 h8 al => by
    have : w.toInt < 7 := by unfold alw at al; rw [if_pos hk] at al; exact al
    exact N _ (by rw [tn_of h0]; omega))
theorem m213n {L : Nat} {xs : Nat → Int32} {c : Nat} {h : AH} {nh nm nr na nt nc : Nat} (I : InvN L xs c h nh nm nr na nt nc) {m hm k : Nat} (hk : k < 2) (h1 : m < 24) (h2 : hm < 12) : Cl 3 213 [.ref 216, .int (zI k), .int (zI m), .int (zI hm)] h (fun r h' => r = some (.long (PT h nt nm m hm k)) ∧ SM h h') :=
  m213 I (by omega) (fun w g h0 h8 al S Lg => by
    have : w.toInt < 7 := by unfold alw at al; rw [if_pos hk] at al; exact al
    rw [← nmF_ex S.ex]
    exact p211a Lg nm h1 h2 h0 this)
theorem N7 {h h' : AH} {n m hm : Nat} (e0 : am_gl h' 76 0 = nmF h n m hm 0) (e1 : am_gl h' 76 1 = nmF h n m hm 1) (e2 : am_gl h' 76 2 = nmF h n m hm 2) (e3 : am_gl h' 76 3 = nmF h n m hm 3) (e4 : am_gl h' 76 4 = nmF h n m hm 4) (e5 : am_gl h' 76 5 = nmF h n m hm 5) (e6 : am_gl h' 76 6 = nmF h n m hm 6) : ∀ w, w < 7 → am_gl h' 76 w = nmF h n m hm w := fun w hw => by
  rcases (show w = 0 ∨ w = 1 ∨ w = 2 ∨ w = 3 ∨ w = 4 ∨ w = 5 ∨ w = 6 by omega) with rfl | rfl | rfl | rfl | rfl | rfl | rfl <;> assumption
theorem op_points {L : Nat} {xs : Nat → Int32} {c : Nat} {h : AH} {nh nm nr na nt nc : Nat} (I : InvN L xs c h nh nm nr na nt nc) (x y z : Int32) : OPl 118 226 [.int x, .int y, .int z] L xs c h := by
  have Ly := I.lay
  have b1 := I.iho.1
  have b2 := I.ime.1
  have bt := I.itx.1
  by_cases hx : inN x nm
  · by_cases hy : inN y nh
    · by_cases hz : inR z 0 1
      · obtain ⟨m, hm, rfl⟩ := hx.ex
        obtain ⟨j, hj, rfl⟩ := hy.ex
        obtain ⟨k, hk, rfl⟩ : ∃ k, k < 2 ∧ z = zI k := by
          have q := inR_i hz
          have z0 : (0 : Int32).toInt = 0 := rfl
          have z1 : (1 : Int32).toInt = 1 := rfl
          exact ⟨z.toInt.toNat, by omega, zI_of (by omega)⟩
        refine OPl.rd I (x := PT h nt nm m j k) (d := 9) (d' := 9) ?_ (fun h1 E => ?_)
        · refine ws118 _ _ _ Ly (Cl.i (p139 Ly (by omega) I.ime.2.1 _) (by decide) Ly ⟨fun w => absurd hx (bI_0.mp w), fun _ => Cl.i (p138 Ly (by omega) I.iho.2.1 _) (by decide) Ly ⟨fun w => absurd hy (bI_0.mp w), fun _ => ⟨fun w => absurd w hz.1, fun _ => ⟨fun _ => ?_, fun w => absurd (i_ge.mp hz.2) w⟩⟩⟩⟩)
          refine Cl.qv (c157 I hm j) (by decide) (fun g1 q1 => ⟨q1.2.ex.lay Ly, ?_⟩)
          have I1 := I.keep q1.2.ex
          refine Cl.qv (c158 I1 hj m) (by decide) (fun g2 q2 => ⟨q2.2.ex.lay I1.lay, ?_⟩)
          have E2 := q1.2.ex.tr q2.2.ex
          have I2 := I.keep E2
          have t2 : am_gi g2 6 0 = am_gi g2 216 0 := I2.ida.1
          have p1 := q1.1; have p2 := q2.1
          have s2 := q2.2.2
          have n1 := nmF_ex q1.2.ex nm m j
          have n2 := nmF_ex E2 nm m j
          have N : ∀ w, w < 7 → am_gl g2 76 w = nmF g2 nm m j w := by
            rw [n2]
            rw [n1] at p2
            exact N7 (p2.2.2.2.1.trans p1.1) (p2.2.2.2.2.1.trans p1.2.1) p2.1 (p2.2.2.2.2.2.1.trans p1.2.2.1) (p2.2.2.2.2.2.2.trans p1.2.2.2.1) p2.2.1 p2.2.2.1
          rw [t2]
          refine Cl.i (p154 I2 _) (by decide) I2.lay ⟨in_zI (by have := tOn_lt (h := g2) (d := am_gi g2 216 0) bt.1; omega) (by decide), ?_⟩
          rw [zI_tn (by have := tOn_lt (h := g2) (d := am_gi g2 216 0) bt.1; omega)]
          refine ⟨fun w => ?_, fun w => ?_⟩
          · have k1 : k = 1 := by
              have : ¬ k = 0 := fun e => w (by rw [e]; rfl)
              omega
            subst k1
            exact Cl.ql (c70n I2 (k := 1) hk N) (by decide) (fun g3 q3 => ⟨q3.lay I2.lay, by rw [PT_ex E2], E2.tr q3.ex⟩)
          · have k0 : k = 0 := (zI_inj (n := 0) (by omega) (by decide)).mp (Decidable.not_not.mp w)
            subst k0
            exact Cl.ql (c70n I2 (k := 0) hk N) (by decide) (fun g3 q3 => ⟨q3.lay I2.lay, by rw [PT_ex E2], E2.tr q3.ex⟩)
        · have I1 := I.keep E
          refine ws226 _ _ _ I1.lay (Cl.i (p169 I1.lay (n := nm) (by omega) I1.ime.2.2.1 _) (by decide) I1.lay ⟨fun w => absurd hx (bI_0.mp w), fun _ => Cl.i (p168 I1.lay (n := nh) (by omega) I1.iho.2.2.1 _) (by decide) I1.lay ⟨fun w => absurd hy (bI_0.mp w), fun _ => Cl.i (p167 I1.lay _ _ _) (by decide) I1.lay ⟨fun w => absurd hz (bI_0.mp w), fun _ => Cl.ql (m213n I1 hk (by omega) (by omega)) (by decide) (fun g q => ⟨q.lay I1.lay, by rw [PT_ex E], q.ex⟩)⟩⟩⟩)
      · refine OPl.pf I (x := -4611686018427387904) (d := 9) (d' := 9) ?_ ?_
        · exact ws118 _ _ _ Ly (Cl.i (p139 Ly (by omega) I.ime.2.1 _) (by decide) Ly ⟨fun w => absurd hx (bI_0.mp w), fun _ => Cl.i (p138 Ly (by omega) I.iho.2.1 _) (by decide) Ly ⟨fun w => absurd hy (bI_0.mp w), fun _ => ⟨fun _ => ⟨rfl, rfl⟩, fun a => ⟨fun w => absurd ⟨a, i_ge.mpr w⟩ hz, fun _ => ⟨rfl, rfl⟩⟩⟩⟩⟩)
        · exact ws226 _ _ _ Ly (Cl.i (p169 Ly (n := nm) (by omega) I.ime.2.2.1 _) (by decide) Ly ⟨fun w => absurd hx (bI_0.mp w), fun _ => Cl.i (p168 Ly (n := nh) (by omega) I.iho.2.2.1 _) (by decide) Ly ⟨fun w => absurd hy (bI_0.mp w), fun _ => Cl.i (p167 Ly _ _ _) (by decide) Ly ⟨fun _ => ⟨rfl, rfl⟩, fun w => absurd (bI_n0.mp w) hz⟩⟩⟩)
    · refine OPl.pf I (x := -4611686018427387904) (d := 9) (d' := 9) ?_ ?_
      · exact ws118 _ _ _ Ly (Cl.i (p139 Ly (by omega) I.ime.2.1 _) (by decide) Ly ⟨fun w => absurd hx (bI_0.mp w), fun _ => Cl.i (p138 Ly (by omega) I.iho.2.1 _) (by decide) Ly ⟨fun _ => ⟨rfl, rfl⟩, fun w => absurd (bI_n0.mp w) hy⟩⟩)
      · exact ws226 _ _ _ Ly (Cl.i (p169 Ly (n := nm) (by omega) I.ime.2.2.1 _) (by decide) Ly ⟨fun w => absurd hx (bI_0.mp w), fun _ => Cl.i (p168 Ly (n := nh) (by omega) I.iho.2.2.1 _) (by decide) Ly ⟨fun _ => ⟨rfl, rfl⟩, fun w => absurd (bI_n0.mp w) hy⟩⟩)
  · refine OPl.pf I (x := -4611686018427387904) (d := 9) (d' := 9) ?_ ?_
    · exact ws118 _ _ _ Ly (Cl.i (p139 Ly (by omega) I.ime.2.1 _) (by decide) Ly ⟨fun _ => ⟨rfl, rfl⟩, fun w => absurd (bI_n0.mp w) hx⟩)
    · exact ws226 _ _ _ Ly (Cl.i (p169 Ly (n := nm) (by omega) I.ime.2.2.1 _) (by decide) Ly ⟨fun _ => ⟨rfl, rfl⟩, fun w => absurd (bI_n0.mp w) hx⟩)
