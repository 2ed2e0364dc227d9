/-! CALLS 3: home, member, wish, parted, inForce, right, join -/
theorem cntL {x y : Int32} {n : Nat} (m : Nat) (ex : x = zI n) (ey : y = zI n) (hn : n ≤ m) (hm : m < 2147483648) (z : x < zI m) : ¬ y = zI m := by
  rw [ex, zI_lt (by omega) hm] at z; rw [ey, zI_inj (by omega) hm]; omega
theorem cntG {x y : Int32} {n : Nat} (m : Nat) (ex : x = zI n) (ey : y = zI n) (hn : n ≤ m) (hm : m < 2147483648) (z : ¬ x < zI m) : y = zI m := by
  rw [ex, zI_lt (by omega) hm] at z; rw [ey, zI_inj (by omega) hm]; omega
theorem cntN {x : Int32} {n : Nat} (m : Nat) (ex : x = zI n) (hn : n ≤ m) (hm : m < 2147483648) (z : x < zI m) : n < m := by
  rw [ex, zI_lt (by omega) hm] at z; exact z
theorem zI_pred (n : Nat) : zI (n + 1) - 1 = zI n := by
  rw [← zI_succ]; exact Int32.add_sub_cancel _ _
theorem g18 {h : AH} (Ly : Lay h) {j : Nat} (hj : j < 12) (a b c : Int32) : GF 0 18 [.ref (112 + j), .int a, .int b, .int c] h none (am_si (am_si (am_si h (112 + j) 0 a) (112 + j) 1 b) (112 + j) 2 c) :=
  ws18 hj a b c Ly (fun _ e1 _ e2 _ e3 => ⟨rfl, by rw [e3, e2, e1]⟩)
theorem g20 {h : AH} (Ly : Lay h) {j : Nat} (hj : j < 24) (a b : Int32) : GF 0 20 [.ref (124 + j), .int a, .int b] h none (am_si (am_si h (124 + j) 0 a) (124 + j) 1 b) :=
  ws20 hj a b Ly (fun _ e1 _ e2 => ⟨rfl, by rw [e2, e1]⟩)
theorem op_home {L : Nat} {xs : Nat → Int32} {c : Nat} {h : AH} {nh nm nr na nt nc : Nat} (I : InvN L xs c h nh nm nr na nt nc) (x y w : Int32) : OPi 98 177 [.int x, .int y, .int w] L xs c h := by
  have Ly := I.lay
  have b1 := I.iho.1
  have e1 := I.iho.2.1
  have e2 := I.iho.2.2.1
  by_cases hr : inR x 0 3 ∧ inR y 1 6 ∧ inR w 1 100
  · obtain ⟨ra, rb, rc⟩ := hr
    by_cases hn : nh < 12
    · have hc : am_gi h 6 2 < 12 := by rw [e1]; exact (zI_lt (by omega) (by decide)).mpr hn
      have hc2 : ¬ am_gi h 216 1 = 12 := cntL 12 e1 e2 b1 (by decide) hc
      have q1 : Int32.toNatClampNeg (am_gi h 6 2) = nh := by rw [e1, zI_tn (by omega)]
      have E1 : OC [2] h (am_si (am_si (am_si (am_si h (112 + nh) 0 x) (112 + nh) 1 y) (112 + nh) 2 w) 6 2 (zI (nh + 1))) := (((((OC.rf [2] h).si (a := 112 + nh) (k := 0) (by omega) (tpm (tp_home (by omega)) (by decide))).si (a := 112 + nh) (k := 1) (by omega) (tpm (tp_home (by omega)) (by decide))).si (a := 112 + nh) (k := 2) (by omega) (tpm (tp_home (by omega)) (by decide))).si (by omega) (by decide))
      refine OPi.gf (d := 5) (d' := 5) (x := zI nh) (ts := [2]) (h2 := am_si (am_si (am_si (am_si (am_si (am_si (am_si (am_si h (112 + nh) 0 x) (112 + nh) 1 y) (112 + nh) 2 w) 6 2 (zI (nh + 1))) 217 nh x) 218 nh y) 219 nh w) 216 1 (zI (nh + 1))) Ly I.ico ?_ E1.ex ?_ ?_
      · skip
        refine ws98 _ _ _ Ly ?_
        refine ⟨fun z => absurd z (ra.1), fun _ => ?_⟩
        refine ⟨fun z => absurd z (ra.2), fun _ => ?_⟩
        refine ⟨fun z => absurd z (rb.1), fun _ => ?_⟩
        refine ⟨fun z => absurd z (rb.2), fun _ => ?_⟩
        refine ⟨fun z => absurd z (rc.1), fun _ => ?_⟩
        refine ⟨fun _ => ?_, fun z => absurd ((i_ge.mp rc.2)) z⟩
        refine ⟨fun _ => ?_, fun z => absurd (hc) z⟩
        refine ⟨(by rw [e1]; exact in_zI hn (by decide)), ?_⟩
        refine Cl.gv (g18 Ly (by rw [q1]; exact hn) _ _ _) (by decide) (((Ly.si _ _ _).si _ _ _).si _ _ _) ?_
        intro h4 eh4; subst eh4
        rw [q1]; exact ⟨by rw [gi_eq, gi_ne (by omega), gi_ne (by omega), gi_ne (by omega), e1, zI_succ, zI_pred], by rw [gi_ne (by omega), gi_ne (by omega), gi_ne (by omega), e1, zI_succ]⟩
      · have Ly1 := E1.lay Ly
        have e3 : am_gi (am_si (am_si (am_si (am_si h (112 + nh) 0 x) (112 + nh) 1 y) (112 + nh) 2 w) 6 2 (zI (nh + 1))) 216 1 = zI nh := by rw [(E1.2 216 1 (Or.inl (by decide))).1]; exact e2
        generalize (am_si (am_si (am_si (am_si h (112 + nh) 0 x) (112 + nh) 1 y) (112 + nh) 2 w) 6 2 (zI (nh + 1))) = h1 at Ly1 e3 ⊢
        have q3 : Int32.toNatClampNeg (am_gi h1 216 1) = nh := by rw [e3, zI_tn (by omega)]
        refine ws177 _ _ _ Ly1 ?_
        refine Cl.i (p167 Ly1 _ _ _) (by decide) Ly1 ?_
        refine ⟨fun z => absurd z ((bI_n0.mpr ra)), fun _ => ?_⟩
        refine Cl.i (p167 Ly1 _ _ _) (by decide) Ly1 ?_
        refine ⟨fun z => absurd z ((bI_n0.mpr rb)), fun _ => ?_⟩
        refine Cl.i (p167 Ly1 _ _ _) (by decide) Ly1 ?_
        refine ⟨fun _ => ?_, fun z => absurd ((bI_n0.mpr rc)) z⟩
        refine ⟨fun _ => ?_, fun z => absurd ((by rw [e3]; rw [e2] at hc2; exact hc2)) z⟩
        refine ⟨(by rw [e3]; exact in_zI hn (by decide)), ?_⟩
        intro h11 eh11; subst eh11
        refine ⟨(by rw [gi_ne (by omega), e3]; exact in_zI hn (by decide)), ?_⟩
        intro h13 eh13; subst eh13
        refine ⟨(by rw [gi_ne (by omega), gi_ne (by omega), e3]; exact in_zI hn (by decide)), ?_⟩
        intro h15 eh15; subst eh15
        intro h16 eh16; subst eh16
        exact ⟨by rw [gi_eq]; (repeat (first | rw [gi_eq] | rw [gl_eq] | rw [gi_ne (by omega)] | rw [gl_ne (by omega)] | rw [gi_sl] | rw [gl_si])); rw [e3, zI_succ, zI_pred], by (repeat (first | rw [gi_eq] | rw [gl_eq] | rw [gi_ne (by omega)] | rw [gl_ne (by omega)] | rw [gi_sl] | rw [gl_si])); rw [e3, zI_tn (by omega), zI_succ]⟩
      · have E : Ex [2] h (am_si (am_si (am_si (am_si (am_si (am_si (am_si (am_si h (112 + nh) 0 x) (112 + nh) 1 y) (112 + nh) 2 w) 6 2 (zI (nh + 1))) 217 nh x) 218 nh y) 219 nh w) 216 1 (zI (nh + 1))) := E1.ex.tr (((((OM.rf [2] _).si (a := 217) (k := nh) (by omega) (List.mem_singleton.mpr rfl)).si (a := 218) (k := nh) (by omega) (List.mem_singleton.mpr rfl)).si (a := 219) (k := nh) (by omega) (List.mem_singleton.mpr rfl)).si (by omega) (by decide)).ex
        refine ⟨nh + 1, nm, nr, na, nt, nc, I.up E (g2 := Or.inr ⟨by omega, by (repeat (first | rw [gi_eq] | rw [gl_eq] | rw [gi_ne (by omega)] | rw [gl_ne (by omega)] | rw [gi_sl] | rw [gl_si])), by (repeat (first | rw [gi_eq] | rw [gl_eq] | rw [gi_ne (by omega)] | rw [gl_ne (by omega)] | rw [gi_sl] | rw [gl_si])), fun i hi => ?_, fun i hi => ?_⟩) (gx2 := Or.inr (fun i hi j hj => ?_)) (gx4 := Or.inr (I.ix4.off (E.ag (by decide)) (E.ag (by decide)) (fun i => Or.inl (by (repeat (first | rw [gi_eq] | rw [gl_eq] | rw [gi_ne (by omega)] | rw [gl_ne (by omega)] | rw [gi_sl] | rw [gl_si]))))))⟩
        · (repeat (first | rw [gi_eq] | rw [gl_eq] | rw [gi_ne (by omega)] | rw [gl_ne (by omega)] | rw [gi_sl] | rw [gl_si])); exact I.iho.2.2.2.1 i hi
        · by_cases hij : i = nh
          · subst hij; (repeat (first | rw [gi_eq] | rw [gl_eq] | rw [gi_ne (by omega)] | rw [gl_ne (by omega)] | rw [gi_sl] | rw [gl_si])); exact ⟨rfl, rfl, rfl⟩
          · (repeat (first | rw [gi_eq] | rw [gl_eq] | rw [gi_ne (by omega)] | rw [gl_ne (by omega)] | rw [gi_sl] | rw [gl_si])); exact I.iho.2.2.2.2 i (by omega)
        · (repeat (first | rw [gi_eq] | rw [gl_eq] | rw [gi_ne (by omega)] | rw [gl_ne (by omega)] | rw [gi_sl] | rw [gl_si])); exact I.ix2 i hi j hj
    · have hc : ¬ am_gi h 6 2 < 12 := by rw [e1]; exact fun z => hn ((zI_lt (by omega) (by decide)).mp z)
      have hc2 : am_gi h 216 1 = 12 := cntG 12 e1 e2 b1 (by decide) hc
      refine OPi.pf I (x := -4) (d := 5) (d' := 5) ?_ ?_
      · skip
        refine ws98 _ _ _ Ly ?_
        refine ⟨fun z => absurd z (ra.1), fun _ => ?_⟩
        refine ⟨fun z => absurd z (ra.2), fun _ => ?_⟩
        refine ⟨fun z => absurd z (rb.1), fun _ => ?_⟩
        refine ⟨fun z => absurd z (rb.2), fun _ => ?_⟩
        refine ⟨fun z => absurd z (rc.1), fun _ => ?_⟩
        refine ⟨fun _ => ?_, fun z => absurd ((i_ge.mp rc.2)) z⟩
        refine ⟨fun z => absurd z (hc), fun _ => ?_⟩
        exact ⟨rfl, rfl⟩
      · skip
        refine ws177 _ _ _ Ly ?_
        refine Cl.i (p167 Ly _ _ _) (by decide) Ly ?_
        refine ⟨fun z => absurd z ((bI_n0.mpr ra)), fun _ => ?_⟩
        refine Cl.i (p167 Ly _ _ _) (by decide) Ly ?_
        refine ⟨fun z => absurd z ((bI_n0.mpr rb)), fun _ => ?_⟩
        refine Cl.i (p167 Ly _ _ _) (by decide) Ly ?_
        refine ⟨fun _ => ?_, fun z => absurd ((bI_n0.mpr rc)) z⟩
        refine ⟨fun z => absurd z ((not_not_intro hc2)), fun _ => ?_⟩
        exact ⟨rfl, rfl⟩
  · refine OPi.pf I (x := -2) (d := 5) (d' := 5) ?_ ?_
    · refine ws98 _ _ _ Ly ⟨fun _ => ⟨rfl, rfl⟩, fun a => ⟨fun _ => ⟨rfl, rfl⟩, fun b => ⟨fun _ => ⟨rfl, rfl⟩, fun cc => ⟨fun _ => ⟨rfl, rfl⟩, fun d => ⟨fun _ => ⟨rfl, rfl⟩, fun e => ⟨fun z => absurd ⟨⟨a, b⟩, ⟨cc, d⟩, ⟨e, i_ge.mpr z⟩⟩ hr, fun _ => ⟨rfl, rfl⟩⟩⟩⟩⟩⟩⟩
    · refine ws177 _ _ _ Ly (Cl.i (p167 Ly _ _ _) (by decide) Ly ⟨fun _ => ⟨rfl, rfl⟩, fun z1 => Cl.i (p167 Ly _ _ _) (by decide) Ly ⟨fun _ => ⟨rfl, rfl⟩, fun z2 => Cl.i (p167 Ly _ _ _) (by decide) Ly ⟨fun z3 => absurd ⟨bI_n0.mp z1, bI_n0.mp z2, bI_n0.mp z3⟩ hr, fun _ => ⟨rfl, rfl⟩⟩⟩⟩)
theorem op_member {L : Nat} {xs : Nat → Int32} {c : Nat} {h : AH} {nh nm nr na nt nc : Nat} (I : InvN L xs c h nh nm nr na nt nc) (x : Int32) : OPi 99 178 [.int x] L xs c h := by
  have Ly := I.lay
  have b1 := I.ime.1
  have e1 := I.ime.2.1
  have e2 := I.ime.2.2.1
  by_cases hr : inR x 1 9
  · by_cases hn : nm < 24
    · have hc : am_gi h 6 4 < 24 := by rw [e1]; exact (zI_lt (by omega) (by decide)).mpr hn
      have hc2 : ¬ am_gi h 216 7 = 24 := cntL 24 e1 e2 b1 (by decide) hc
      have q1 : Int32.toNatClampNeg (am_gi h 6 4) = nm := by rw [e1, zI_tn (by omega)]
      have E1 : OC [3] h (am_si (am_si (am_si h (124 + nm) 0 x) (124 + nm) 1 (am_gi h 6 0)) 6 4 (zI (nm + 1))) := (((OC.rf [3] h).si (a := 124 + nm) (k := 0) (by omega) (tpm (tp_member (by omega)) (by decide))).si (a := 124 + nm) (k := 1) (by omega) (tpm (tp_member (by omega)) (by decide))).si (by omega) (by decide)
      refine OPi.gf (d := 5) (d' := 5) (x := zI nm) (ts := [3]) (h2 := am_si (am_si (am_si (am_si (am_si (am_si (am_si (am_si h (124 + nm) 0 x) (124 + nm) 1 (am_gi h 6 0)) 6 4 (zI (nm + 1))) 222 nm x) 223 nm (am_gi h 216 0)) 224 nm (-1)) 225 nm (-1)) 216 7 (zI (nm + 1))) Ly I.ico ?_ E1.ex ?_ ?_
      · skip
        refine ws99 _ Ly ?_
        refine Cl.i (p142 Ly _) (by decide) Ly ?_
        refine ⟨fun _ => ?_, fun z => absurd ((bI_n0.mpr hr)) z⟩
        refine ⟨fun _ => ?_, fun z => absurd (hc) z⟩
        refine ⟨(by rw [e1]; exact in_zI hn (by decide)), ?_⟩
        refine Cl.gv (g20 Ly (by rw [q1]; exact hn) _ _) (by decide) ((Ly.si _ _ _).si _ _ _) ?_
        intro h7 eh7; subst eh7
        rw [q1]; exact ⟨by rw [gi_eq, gi_ne (by omega), gi_ne (by omega), e1, zI_succ, zI_pred], by rw [gi_ne (by omega), gi_ne (by omega), e1, zI_succ]⟩
      · have Ly1 := E1.lay Ly
        have e3 : am_gi (am_si (am_si (am_si h (124 + nm) 0 x) (124 + nm) 1 (am_gi h 6 0)) 6 4 (zI (nm + 1))) 216 7 = zI nm := by rw [(E1.2 216 7 (Or.inl (by decide))).1]; exact e2
        have e4 : am_gi (am_si (am_si (am_si h (124 + nm) 0 x) (124 + nm) 1 (am_gi h 6 0)) 6 4 (zI (nm + 1))) 216 0 = am_gi h 216 0 := (E1.2 216 0 (Or.inl (by decide))).1
        generalize (am_si (am_si (am_si h (124 + nm) 0 x) (124 + nm) 1 (am_gi h 6 0)) 6 4 (zI (nm + 1))) = h1 at Ly1 e3 e4 ⊢
        have q3 : Int32.toNatClampNeg (am_gi h1 216 7) = nm := by rw [e3, zI_tn (by omega)]
        refine ws178 _ Ly1 ?_
        refine Cl.i (p167 Ly1 _ _ _) (by decide) Ly1 ?_
        refine ⟨fun _ => ?_, fun z => absurd ((bI_n0.mpr hr)) z⟩
        refine ⟨fun _ => ?_, fun z => absurd ((by rw [e3]; rw [e2] at hc2; exact hc2)) z⟩
        refine ⟨(by rw [e3]; exact in_zI hn (by decide)), ?_⟩
        intro h5 eh5; subst eh5
        refine ⟨(by (repeat (first | rw [gi_eq] | rw [gl_eq] | rw [gi_ne (by omega)] | rw [gl_ne (by omega)] | rw [gi_sl] | rw [gl_si])); rw [e3]; exact in_zI hn (by decide)), ?_⟩
        intro h7 eh7; subst eh7
        refine ⟨(by (repeat (first | rw [gi_eq] | rw [gl_eq] | rw [gi_ne (by omega)] | rw [gl_ne (by omega)] | rw [gi_sl] | rw [gl_si])); rw [e3]; exact in_zI hn (by decide)), ?_⟩
        intro h9 eh9; subst eh9
        refine ⟨(by (repeat (first | rw [gi_eq] | rw [gl_eq] | rw [gi_ne (by omega)] | rw [gl_ne (by omega)] | rw [gi_sl] | rw [gl_si])); rw [e3]; exact in_zI hn (by decide)), ?_⟩
        intro h11 eh11; subst eh11
        intro h12 eh12; subst eh12
        exact ⟨by rw [gi_eq]; (repeat (first | rw [gi_eq] | rw [gl_eq] | rw [gi_ne (by omega)] | rw [gl_ne (by omega)] | rw [gi_sl] | rw [gl_si])); rw [e3, zI_succ, zI_pred], by (repeat (first | rw [gi_eq] | rw [gl_eq] | rw [gi_ne (by omega)] | rw [gl_ne (by omega)] | rw [gi_sl] | rw [gl_si])); rw [e3, e4, zI_tn (by omega), zI_succ]⟩
      · have E : Ex [3] h (am_si (am_si (am_si (am_si (am_si (am_si (am_si (am_si h (124 + nm) 0 x) (124 + nm) 1 (am_gi h 6 0)) 6 4 (zI (nm + 1))) 222 nm x) 223 nm (am_gi h 216 0)) 224 nm (-1)) 225 nm (-1)) 216 7 (zI (nm + 1))) := E1.ex.tr ((((((OM.rf [3] _).si (a := 222) (k := nm) (by omega) (List.mem_singleton.mpr rfl)).si (a := 223) (k := nm) (by omega) (List.mem_singleton.mpr rfl)).si (a := 224) (k := nm) (by omega) (List.mem_singleton.mpr rfl)).si (a := 225) (k := nm) (by omega) (List.mem_singleton.mpr rfl)).si (by omega) (by decide)).ex
        have hg := I.ime.2.2.2.2.2 nm (Nat.le_refl _) hn
        refine ⟨nh, nm + 1, nr, na, nt, nc, I.up E (g3 := Or.inr ⟨by omega, by (repeat (first | rw [gi_eq] | rw [gl_eq] | rw [gi_ne (by omega)] | rw [gl_ne (by omega)] | rw [gi_sl] | rw [gl_si])), by (repeat (first | rw [gi_eq] | rw [gl_eq] | rw [gi_ne (by omega)] | rw [gl_ne (by omega)] | rw [gi_sl] | rw [gl_si])), fun i hi => ?_, fun i hi => ?_, fun i hi hi2 => ?_⟩) (gx1 := Or.inr (fun j hj => ?_)) (gx2 := Or.inr (fun i hi j hj => ?_))⟩
        · (repeat (first | rw [gi_eq] | rw [gl_eq] | rw [gi_ne (by omega)] | rw [gl_ne (by omega)] | rw [gi_sl] | rw [gl_si])); exact I.ime.2.2.2.1 i hi
        · by_cases hij : i = nm
          · subst hij; (repeat (first | rw [gi_eq] | rw [gl_eq] | rw [gi_ne (by omega)] | rw [gl_ne (by omega)] | rw [gi_sl] | rw [gl_si])); exact ⟨rfl, I.ida.1, hg.1, hg.2⟩
          · (repeat (first | rw [gi_eq] | rw [gl_eq] | rw [gi_ne (by omega)] | rw [gl_ne (by omega)] | rw [gi_sl] | rw [gl_si])); exact I.ime.2.2.2.2.1 i (by omega)
        · (repeat (first | rw [gi_eq] | rw [gl_eq] | rw [gi_ne (by omega)] | rw [gl_ne (by omega)] | rw [gi_sl] | rw [gl_si])); exact I.ime.2.2.2.2.2 i (by omega) hi2
        · by_cases hij : j = nm
          · subst hij; (repeat (first | rw [gi_eq] | rw [gl_eq] | rw [gi_ne (by omega)] | rw [gl_ne (by omega)] | rw [gi_sl] | rw [gl_si])); exact ⟨Int.le_refl _, Or.inl rfl, Or.inl rfl⟩
          · (repeat (first | rw [gi_eq] | rw [gl_eq] | rw [gi_ne (by omega)] | rw [gl_ne (by omega)] | rw [gi_sl] | rw [gl_si])); exact I.ix1 j (by omega)
        · by_cases hij : j = nm
          · subst hij; (repeat (first | rw [gi_eq] | rw [gl_eq] | rw [gi_ne (by omega)] | rw [gl_ne (by omega)] | rw [gi_sl] | rw [gl_si]))
            exact (I.ix2 i hi j hj).elim (fun z => absurd z.1 (by omega)) Or.inr
          · (repeat (first | rw [gi_eq] | rw [gl_eq] | rw [gi_ne (by omega)] | rw [gl_ne (by omega)] | rw [gi_sl] | rw [gl_si]))
            exact (I.ix2 i hi j hj).imp (fun z => ⟨by omega, z.2⟩) id
    · have hc : ¬ am_gi h 6 4 < 24 := by rw [e1]; exact fun z => hn ((zI_lt (by omega) (by decide)).mp z)
      have hc2 : am_gi h 216 7 = 24 := cntG 24 e1 e2 b1 (by decide) hc
      refine OPi.pf I (x := -4) (d := 5) (d' := 5) ?_ ?_
      · skip
        refine ws99 _ Ly ?_
        refine Cl.i (p142 Ly _) (by decide) Ly ?_
        refine ⟨fun _ => ?_, fun z => absurd ((bI_n0.mpr hr)) z⟩
        refine ⟨fun z => absurd z (hc), fun _ => ?_⟩
        exact ⟨rfl, rfl⟩
      · skip
        refine ws178 _ Ly ?_
        refine Cl.i (p167 Ly _ _ _) (by decide) Ly ?_
        refine ⟨fun _ => ?_, fun z => absurd ((bI_n0.mpr hr)) z⟩
        refine ⟨fun z => absurd z ((not_not_intro hc2)), fun _ => ?_⟩
        exact ⟨rfl, rfl⟩
  · refine OPi.pf I (x := -2) (d := 5) (d' := 5) ?_ ?_
    · skip
      refine ws99 _ Ly ?_
      refine Cl.i (p142 Ly _) (by decide) Ly ?_
      refine ⟨fun z => absurd z ((not_not_intro (bI_0.mpr hr))), fun _ => ?_⟩
      exact ⟨rfl, rfl⟩
    · skip
      refine ws178 _ Ly ?_
      refine Cl.i (p167 Ly _ _ _) (by decide) Ly ?_
      refine ⟨fun z => absurd z ((not_not_intro (bI_0.mpr hr))), fun _ => ?_⟩
      exact ⟨rfl, rfl⟩
