/-! CALLS 1: day, fault, status, gain, year, withdraw, wait, pay, family, home, member -/
theorem hoR_mono {g : Nat → Nat → Int32} {i : Nat} {d d' : Int32} (h1 : g 4 i ≤ d) (h2 : d ≤ d') (h : hoR g i d' = true) : hoR g i d = true := by
  rw [hoR_e] at h ⊢
  refine ⟨h.1, ?_⟩
  have h3 := h.2
  unfold onR at h3 ⊢
  rw [Bool.and_eq_true, Bool.or_eq_true, decide_eq_true_eq, decide_eq_true_eq, decide_eq_true_eq] at h3 ⊢
  refine ⟨h1, h3.2.imp id (fun z => ?_)⟩
  rw [i_lt] at z ⊢; rw [i_le] at h2; omega
theorem inR_n {x a b : Int32} (n : ¬ inR x a b) : x < a ∨ b < x := by
  by_cases z : x < a
  · exact Or.inl z
  · exact Or.inr (Decidable.byContradiction fun w => n ⟨z, w⟩)
theorem inR_i {x a b : Int32} (n : inR x a b) : a.toInt ≤ x.toInt ∧ x.toInt ≤ b.toInt := by
  have h1 := n.1; have h2 := n.2
  rw [i_lt] at h1 h2; omega
theorem vCR.of {h : AH} {n : Nat} (I : IRi h n) : vCR h n (rR h) := ⟨I.1, I.2.1, I.2.2.2⟩
theorem vMR.of {h : AH} {n : Nat} (I : IRi h n) : vMR h n (rR h) := ⟨I.1, I.2.2.1, fun _ _ _ _ => rfl⟩
theorem IRi.mk {h : AH} {n : Nat} {g : Nat → Nat → Int32} (A : vCR h n g) (B : vMR h n g) : IRi h n := ⟨A.1, A.2.1, B.2.1, fun i hi k hk => by rw [A.2.2 i hi k hk, B.2.2 i hi k hk]⟩
theorem IX3.rv {h : AH} {nh nm nr : Nat} (I : IX3 h nh nm nr) : RV nr (rR h) := fun i hi n => (I.1 i hi).2.2.2.1.elim (fun z => z.2) (fun z => absurd z.1 n)
theorem IX3.day {h h' : AH} {nh nm nr : Nat} (I : IX3 h nh nm nr) (A : Ag 4 h h') (hd : am_gi h 216 0 ≤ am_gi h' 216 0) : IX3 h' nh nm nr := by
  obtain ⟨a, b, c⟩ := I
  have f : ∀ k, k < 6 → ∀ i, rR h' k i = rR h k i := fun k hk i => A.rR hk
  have g1 : ∀ i d, hoR (rR h') i d = hoR (rR h) i d := fun i d => hoR_congr (f 0 (by omega) i) (f 4 (by omega) i) (f 5 (by omega) i)
  have g2 : ∀ i w, ofR (rR h') i w = ofR (rR h) i w := fun i w => ofR_congr (f 0 (by omega) i) (f 2 (by omega) i) (f 3 (by omega) i)
  refine ⟨fun i hi => ?_, fun i j w hi hj h1 h2 h3 h4 => ?_, fun i j hi hj h1 h2 h3 => ?_⟩
  · rw [f 0 (by omega), f 1 (by omega), f 2 (by omega), f 3 (by omega), f 4 (by omega)]
    obtain ⟨a1, a2, a3, a4, a5⟩ := a i hi
    exact ⟨a1, a2, a3, a4, Int32.le_trans a5 hd⟩
  · rw [g1] at h1 h2; rw [g2] at h3 h4
    exact b i j w hi hj (hoR_mono (a i hi).2.2.2.2 hd h1) (hoR_mono (a j hj).2.2.2.2 hd h2) h3 h4
  · rw [g1] at h1 h2; rw [f 1 (by omega), f 1 (by omega)] at h3
    exact c i j hi hj (hoR_mono (a i hi).2.2.2.2 hd h1) (hoR_mono (a j hj).2.2.2.2 hd h2) h3
theorem IX4.day {h h' : AH} {nh nm nr : Nat} (I : IX4 h nr) (J : IX3 h nh nm nr) (A : Ag 4 h h') (B : Ag 2 h h') (hd : am_gi h 216 0 ≤ am_gi h' 216 0) : IX4 h' nr := fun i hi z => by
  rw [hoR_congr (A.rR (by omega)) (A.rR (by omega)) (A.rR (by omega))] at z
  rw [(B 220 _ rfl).1, A.rR (by omega)]
  exact I i hi (hoR_mono (J.1 i hi).2.2.2.2 hd z)
theorem op_day {L : Nat} {xs : Nat → Int32} {c : Nat} {h : AH} {nh nm nr na nt nc : Nat} (I : InvN L xs c h nh nm nr na nt nc) (x : Int32) : OPi 97 176 [.int x] L xs c h := by
  have Ly := I.lay
  by_cases hr : inR x 0 10000
  · by_cases hf : am_gi h 216 0 + x ≤ 1000000
    · have e0 := I.ida.1
      have e1 : am_gi (am_si h 6 0 (am_gi h 216 0 + x)) 216 0 = am_gi h 216 0 := gi_ne (Or.inl (by decide))
      have E : Ex [1] h (am_si (am_si h 6 0 (am_gi h 216 0 + x)) 216 0 (am_gi h 216 0 + x)) := (((OC.rf [1] h).si (by omega) (by decide)).ex.tr ((OM.rf [1] _).si (by omega) (by decide)).ex)
      refine OPi.gf (d := 5) (d' := 5) (x := am_gi h 216 0 + x) (h1 := am_si h 6 0 (am_gi h 216 0 + x)) (h2 := am_si (am_si h 6 0 (am_gi h 216 0 + x)) 216 0 (am_gi h 216 0 + x)) (ts := [1]) Ly I.ico ?_ ((OC.rf [1] h).si (by omega) (by decide)).ex ?_ ?_
      · rw [← e0] at hf ⊢
        refine ws97 _ Ly ?_
        refine ⟨fun z => absurd z (hr.1), fun _ => ?_⟩
        refine ⟨fun _ => ?_, fun z => absurd ((i_ge.mp hr.2)) z⟩
        refine ⟨fun _ => ?_, fun z => absurd (hf) z⟩
        intro h1 eh1; subst eh1
        exact ⟨by rw [gi_eq], rfl⟩
      · skip
        refine ws176 _ (Ly.si _ _ _) ?_
        refine Cl.i (p167 (Ly.si _ _ _) _ _ _) (by decide) (Ly.si _ _ _) ?_
        refine ⟨fun _ => ?_, fun z => absurd ((bI_n0.mpr hr)) z⟩
        refine ⟨fun _ => ?_, fun z => absurd ((by rw [e1]; exact hf)) z⟩
        intro h4 eh4; subst eh4
        exact ⟨by rw [gi_eq, e1], by rw [e1]⟩
      · have h0 := I.ida.2.1
        have h2 := inR_i hr
        have z0 : (0 : Int32).toInt = 0 := rfl
        have z1 : (10000 : Int32).toInt = 10000 := by decide
        have z2 : (1000000 : Int32).toInt = 1000000 := by decide
        have h3 := I.ida.2.2
        have hs : (am_gi h 216 0 + x).toInt = (am_gi h 216 0).toInt + x.toInt := i_add (by omega) (by omega)
        rw [i_le, hs, z2] at hf
        have hle : am_gi h 216 0 ≤ am_gi h 216 0 + x := by rw [i_le, hs]; omega
        refine ⟨nh, nm, nr, na, nt, nc, I.up E (g1 := Or.inr ⟨?_, ?_, ?_⟩) (gx1 := Or.inr (fun j hj => ?_)) (gx3 := Or.inr (I.ix3.day (E.ag (by decide)) ?_)) (gx4 := Or.inr (I.ix4.day I.ix3 (E.ag (by decide)) (E.ag (by decide)) ?_))⟩
        · rw [gi_eq, gi_ne (Or.inl (by decide)), gi_eq]
        · rw [gi_eq, hs]; omega
        · rw [gi_eq, hs]; exact hf
        · have A3 := E.ag (t := 3) (by decide)
          rw [(A3 223 j rfl).1, (A3 224 j rfl).1, (A3 225 j rfl).1, gi_eq, hs]
          obtain ⟨q1, q2, q3⟩ := I.ix1 j hj
          exact ⟨by omega, q2.imp id (fun z => by omega), q3⟩
        · rw [gi_eq]; exact hle
        · rw [gi_eq]; exact hle
    · refine OPi.pf I (x := -4) (d := 5) (d' := 5) ?_ ?_
      · have hf' := hf
        rw [← I.ida.1] at hf'
        refine ws97 _ Ly ?_
        refine ⟨fun z => absurd z (hr.1), fun _ => ?_⟩
        refine ⟨fun _ => ?_, fun z => absurd ((i_ge.mp hr.2)) z⟩
        refine ⟨fun z => absurd z (hf'), fun _ => ?_⟩
        exact ⟨rfl, rfl⟩
      · skip
        refine ws176 _ Ly ?_
        refine Cl.i (p167 Ly _ _ _) (by decide) Ly ?_
        refine ⟨fun _ => ?_, fun z => absurd ((bI_n0.mpr hr)) z⟩
        refine ⟨fun z => absurd z (hf), fun _ => ?_⟩
        exact ⟨rfl, rfl⟩
  · refine OPi.pf I (x := -2) (d := 5) (d' := 5) ?_ ?_
    · by_cases ha : x < 0
      · skip
        refine ws97 _ Ly ?_
        refine ⟨fun _ => ?_, fun z => absurd (ha) z⟩
        exact ⟨rfl, rfl⟩
      · skip
        refine ws97 _ Ly ?_
        refine ⟨fun z => absurd z (ha), fun _ => ?_⟩
        refine ⟨fun z => absurd z ((fun z => hr ⟨ha, i_ge.mpr z⟩)), fun _ => ?_⟩
        exact ⟨rfl, rfl⟩
    · skip
      refine ws176 _ Ly ?_
      refine Cl.i (p167 Ly _ _ _) (by decide) Ly ?_
      refine ⟨fun z => absurd z ((not_not_intro (bI_0.mpr hr))), fun _ => ?_⟩
      exact ⟨rfl, rfl⟩
theorem op_fault {L : Nat} {xs : Nat → Int32} {c : Nat} {h : AH} {nh nm nr na nt nc : Nat} (I : InvN L xs c h nh nm nr na nt nc) (x : Int32) : OPi 111 218 [.int x] L xs c h := by
  have Ly := I.lay
  by_cases h0 : x = 0
  · subst h0
    refine OPi.pf I (x := am_gi h 6 11) (d := 5) (d' := 5) (ws111 _ Ly ⟨fun _ => ⟨rfl, rfl⟩, fun z => absurd z (by decide), fun z => absurd rfl z.1⟩) (ws218 _ Ly ⟨fun z => absurd rfl z, fun _ => ⟨by rw [I.ifa.1], rfl⟩⟩)
  · by_cases h1 : x = 1
    · subst h1
      refine OPi.pf I (x := am_gi h 6 12) (d := 5) (d' := 5) (ws111 _ Ly ⟨fun z => absurd z (by decide), fun _ => ⟨rfl, rfl⟩, fun z => absurd rfl z.2⟩) (ws218 _ Ly ⟨fun _ => ⟨fun z => absurd rfl z, fun _ => ⟨by rw [I.ifa.2], rfl⟩⟩, fun z => absurd h0 z⟩)
    · exact OPi.pf I (x := -2) (d := 5) (d' := 5) (ws111 _ Ly ⟨fun z => absurd z h0, fun z => absurd z h1, fun _ => ⟨rfl, rfl⟩⟩) (ws218 _ Ly ⟨fun _ => ⟨fun _ => ⟨rfl, rfl⟩, fun z => absurd h1 z⟩, fun z => absurd h0 z⟩)
theorem op_status {L : Nat} {xs : Nat → Int32} {c : Nat} {h : AH} {nh nm nr na nt nc : Nat} (I : InvN L xs c h nh nm nr na nt nc) : OPi 137 261 [] L xs c h := OPi.pf I (x := am_gi h 6 18) (d := 5) (d' := 5) (ws137 I.lay ⟨rfl, rfl⟩) (ws261 I.lay ⟨by rw [I.ist], rfl⟩)
theorem op_gain {L : Nat} {xs : Nat → Int32} {c : Nat} {h : AH} {nh nm nr na nt nc : Nat} (I : InvN L xs c h nh nm nr na nt nc) (x : Int32) : OPi 131 248 [.int x] L xs c h := by
  have Ly := I.lay
  by_cases hr : inR x 0 100
  · have e1 : am_gi (am_si h 109 1 x) 216 42 = am_gi h 216 42 := gi_ne (Or.inl (by decide))
    have E : Ex [9] h (am_si (am_si h 109 1 x) 216 42 x) := (((OC.rf [9] h).si (by omega) (by decide)).ex.tr ((OM.rf [9] _).si (by omega) (by decide)).ex)
    refine OPi.gf (d := 5) (d' := 5) (x := am_gi h 109 1) (h1 := am_si h 109 1 x) (h2 := am_si (am_si h 109 1 x) 216 42 x) (ts := [9]) Ly I.ico ?_ ((OC.rf [9] h).si (by omega) (by decide)).ex ?_ ?_
    · skip
      refine ws131 _ Ly ?_
      refine ⟨fun z => absurd z (hr.1), fun _ => ?_⟩
      refine ⟨fun _ => ?_, fun z => absurd ((i_ge.mp hr.2)) z⟩
      intro h1 eh1; subst eh1
      exact ⟨rfl, rfl⟩
    · skip
      refine ws248 _ (Ly.si _ _ _) ?_
      refine Cl.i (p167 (Ly.si _ _ _) _ _ _) (by decide) Ly ?_
      refine ⟨fun _ => ?_, fun z => absurd ((bI_n0.mpr hr)) z⟩
      intro h4 eh4; subst eh4
      exact ⟨by rw [e1, I.ifu.1], rfl⟩
    · have h2 := inR_i hr
      have z0 : (0 : Int32).toInt = 0 := rfl
      have z1 : (100 : Int32).toInt = 100 := by decide
      refine ⟨nh, nm, nr, na, nt, nc, I.up E (g9 := Or.inr ⟨?_, ?_, fun i hi => ?_⟩)⟩
      · rw [gi_eq, gi_ne (Or.inl (by decide)), gi_eq]
      · rw [gi_eq]; omega
      · rw [gi_ne (Or.inl (by decide)), gi_ne (Or.inl (by decide)), gi_ne (Or.inl (by decide)), gi_ne (Or.inl (by decide))]; exact I.ifu.2.2 i hi
  · refine OPi.pf I (x := -2) (d := 5) (d' := 5) ?_ ?_
    · by_cases ha : x < 0
      · skip
        refine ws131 _ Ly ?_
        refine ⟨fun _ => ?_, fun z => absurd (ha) z⟩
        exact ⟨rfl, rfl⟩
      · skip
        refine ws131 _ Ly ?_
        refine ⟨fun z => absurd z (ha), fun _ => ?_⟩
        refine ⟨fun z => absurd z ((fun z => hr ⟨ha, i_ge.mpr z⟩)), fun _ => ?_⟩
        exact ⟨rfl, rfl⟩
    · skip
      refine ws248 _ Ly ?_
      refine Cl.i (p167 Ly _ _ _) (by decide) Ly ?_
      refine ⟨fun z => absurd z ((not_not_intro (bI_0.mpr hr))), fun _ => ?_⟩
      exact ⟨rfl, rfl⟩
theorem in40 {x : Int32} : inR x 0 39 ↔ inN x 40 := by
  unfold inR inN; rw [i_lt, i_lt]
  have z0 : (0 : Int32).toInt = 0 := rfl
  have z1 : (39 : Int32).toInt = 39 := by decide
  omega
theorem op_year {L : Nat} {xs : Nat → Int32} {c : Nat} {h : AH} {nh nm nr na nt nc : Nat} (I : InvN L xs c h nh nm nr na nt nc) (x y : Int32) : OPi 130 247 [.int x, .int y] L xs c h := by
  have Ly := I.lay
  by_cases hx : inN x 40
  · have hx2 := in40.mpr hx
    by_cases hr : inR y 0 1000000
    · obtain ⟨i, hi, rfl⟩ := hx.ex
      have hi' : i < 2147483648 := by omega
      have e1 : am_gi (am_si h 110 i y) 248 i = am_gi h 248 i := gi_ne (Or.inl (by decide))
      have E : Ex [9] h (am_si (am_si h 110 i y) 248 i y) := (((OC.rf [9] h).si (by omega) (List.mem_singleton.mpr rfl)).ex.tr ((OM.rf [9] _).si (by omega) (List.mem_singleton.mpr rfl)).ex)
      refine OPi.gf (d := 5) (d' := 5) (x := am_gi h 110 i) (h1 := am_si h 110 i y) (h2 := am_si (am_si h 110 i y) 248 i y) (ts := [9]) Ly I.ico ?_ ((OC.rf [9] h).si (by omega) (List.mem_singleton.mpr rfl)).ex ?_ ?_
      · skip
        refine ws130 _ _ Ly ?_
        refine Cl.i (p12 Ly _) (by decide) Ly ?_
        refine ⟨fun z => absurd z ((bI_n0.mpr hx)), fun _ => ?_⟩
        refine Cl.i (p144 Ly _) (by decide) Ly ?_
        refine ⟨fun _ => ?_, fun z => absurd ((bI_n0.mpr hr)) z⟩
        refine ⟨(in_zI (by omega) (by omega)), ?_⟩
        refine ⟨(in_zI (by omega) (by omega)), ?_⟩
        intro h9 eh9; subst eh9
        rw [zI_tn hi']; exact ⟨rfl, rfl⟩
      · skip
        refine ws247 _ _ (Ly.si _ _ _) ?_
        refine Cl.i (p167 (Ly.si _ _ _) _ _ _) (by decide) (Ly.si _ _ _) ?_
        refine ⟨fun z => absurd z ((bI_n0.mpr hx2)), fun _ => ?_⟩
        refine Cl.i (p167 (Ly.si _ _ _) _ _ _) (by decide) (Ly.si _ _ _) ?_
        refine ⟨fun _ => ?_, fun z => absurd ((bI_n0.mpr hr)) z⟩
        refine ⟨(in_zI (by omega) (by omega)), ?_⟩
        refine ⟨(in_zI (by omega) (by omega)), ?_⟩
        intro h9 eh9; subst eh9
        rw [zI_tn hi', e1]; exact ⟨by rw [(I.ifu.2.2 i hi).1], rfl⟩
      · have h2 := inR_i hr
        have z0 : (0 : Int32).toInt = 0 := rfl
        have z1 : (1000000 : Int32).toInt = 1000000 := by decide
        refine ⟨nh, nm, nr, na, nt, nc, I.up E (g9 := Or.inr ⟨?_, ?_, fun j hj => ?_⟩)⟩
        · rw [gi_ne (Or.inl (by decide)), gi_ne (Or.inl (by decide)), gi_ne (Or.inl (by decide)), gi_ne (Or.inl (by decide))]; exact I.ifu.1
        · rw [gi_ne (Or.inl (by decide)), gi_ne (Or.inl (by decide))]; exact I.ifu.2.1
        · by_cases hij : j = i
          · subst hij
            rw [gi_eq, gi_ne (Or.inl (by decide)), gi_eq]; exact ⟨rfl, by omega, by omega⟩
          · rw [gi_ne (Or.inl (by decide)), gi_ne (Or.inr hij), gi_ne (Or.inr hij), gi_ne (Or.inl (by decide))]; exact I.ifu.2.2 j hj
    · refine OPi.pf I (x := -2) (d := 5) (d' := 5) ?_ ?_
      · skip
        refine ws130 _ _ Ly ?_
        refine Cl.i (p12 Ly _) (by decide) Ly ?_
        refine ⟨fun z => absurd z ((bI_n0.mpr hx)), fun _ => ?_⟩
        refine Cl.i (p144 Ly _) (by decide) Ly ?_
        refine ⟨fun z => absurd z ((not_not_intro (bI_0.mpr hr))), fun _ => ?_⟩
        exact ⟨rfl, rfl⟩
      · skip
        refine ws247 _ _ Ly ?_
        refine Cl.i (p167 Ly _ _ _) (by decide) Ly ?_
        refine ⟨fun z => absurd z ((bI_n0.mpr hx2)), fun _ => ?_⟩
        refine Cl.i (p167 Ly _ _ _) (by decide) Ly ?_
        refine ⟨fun z => absurd z ((not_not_intro (bI_0.mpr hr))), fun _ => ?_⟩
        exact ⟨rfl, rfl⟩
  · refine OPi.pf I (x := -2) (d := 5) (d' := 5) ?_ ?_
    · skip
      refine ws130 _ _ Ly ?_
      refine Cl.i (p12 Ly _) (by decide) Ly ?_
      refine ⟨fun _ => ?_, fun z => absurd ((bI_0.mpr hx)) z⟩
      exact ⟨rfl, rfl⟩
    · skip
      refine ws247 _ _ Ly ?_
      refine Cl.i (p167 Ly _ _ _) (by decide) Ly ?_
      refine ⟨fun _ => ?_, fun z => absurd ((bI_0.mpr (fun z => hx (in40.mp z)))) z⟩
      exact ⟨rfl, rfl⟩
