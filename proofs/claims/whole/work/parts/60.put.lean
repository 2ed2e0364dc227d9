/-! PUT: the call -/
theorem OPi.gx {Mc Mr : Nat} {as : List Value} {L : Nat} {xs : Nat → Int32} {c : Nat} {h : AH} {x : Int32} {P : AH → Prop} {d d' : Nat} (H1 : Cl d Mc (.ref 6 :: as) h (fun r h1 => r = some (.int x) ∧ P h1)) (H2 : ∀ h1, P h1 → Lay h1 ∧ ICo L xs h1 ∧ Cl d' Mr (.ref 216 :: as) h1 (fun r2 h2 => r2 = some (.int x) ∧ Inv L xs (c + 1) h2)) (hd : d ≤ 700 := by decide) (hd' : d' ≤ 700 := by decide) : OPi Mc Mr as L xs c h :=
  Cl.mono H1 hd (fun r h1 q => ⟨x, q.1, (H2 h1 q.2).1, (H2 h1 q.2).2.1, Cl.mono (H2 h1 q.2).2.2 hd' (fun _ _ q2 => q2)⟩)
theorem put_go {L : Nat} {xs : Nat → Int32} {c : Nat} {h : AH} {nh nm nr na nt nc : Nat} (I : InvN L xs c h nh nm nr na nt nc) {t n : Nat} (ht : t < 6) {k i3 : Int32} {f : Nat → Int64} (hk : inR k 0 4) (hr : k = 1 → inN i3 nr) (hn : n ≤ 400) (sz : zI n = if k = 2 then am_gi h 235 (tOn h nt (am_gi h 216 0)) else if k = 3 then am_gi h 216 7 else if k = 4 then am_gi h 216 1 else 0) (c2 : k = 2 → ∀ j, j < n → Int32.toInt64 (am_gi h 236 (400 * (tOn h nt (am_gi h 216 0)) + j)) = f j) (c3 : k = 3 → n ≤ 24 ∧ ∀ j, j < n → am_gl h 227 j = f j) (c4 : ¬ k = 2 → ¬ k = 3 → ∀ j, j < n → f j = if fHo (rR h) nr (zI j) (am_gi h 216 0) = -1 then 1 else 0) {P : AH → Prop} (H1 : Cl 60 135 [.ref 6, .int (zI t), .int k, .int i3] h (fun r h1 => r = some (.int 1) ∧ PK h h1 t ∧ P h1)) (Y : ∀ h1 h2, PK h h1 t → P h1 → PM h1 h2 t k i3 n f → ITy h2 nr t) : OPi 135 255 [.int (zI t), .int k, .int i3] L xs c h := by
  refine OPi.gx H1 (d' := 20) (fun h1 q => ?_)
  obtain ⟨K, p⟩ := q
  obtain ⟨v, E⟩ := K.ex ht
  have Lv : Lay (am_sr h (196 + 3 * t) 3 v) := I.lay.sr_tray ht rfl
  have Cv : ICo L xs (am_sr h (196 + 3 * t) 3 v) := I.ico
  have G : ∀ a j, 216 ≤ a → am_gi h1 a j = am_gi h a j := fun a j z => K.2.1 a j (by omega) (by omega)
  have W : ∀ a j, 216 ≤ a → am_gl h1 a j = am_gl h a j := fun a j z => K.2.2.1 a j (by omega)
  have A6 : Ag 6 h h1 := fun a j e => E.2 a j (by rw [e]; decide)
  refine ⟨E.lay Lv, Cv.ex E (by decide), ?_⟩
  refine Cl.mono (m255 (E.lay Lv) (nt := nt) (nr := nr) (n := n) (T := tOn h nt (am_gi h 216 0)) (f := f) (g := rR h) ht hk I.itx.1.2 (by rw [G _ _ (by decide)]; exact I.itx.2.2.1) (by rw [G _ _ (by decide), tOn_ag A6]) (tOn12 I) ⟨I.iri.1, by rw [G _ _ (by decide)]; exact I.iri.2.2.1, fun i hi k hk => by rw [G _ _ (by omega)]; rfl⟩ hr hn (by rw [G _ _ (by decide), G _ _ (by decide), G _ _ (by decide)]; exact sz) (fun z j hj => by rw [G _ _ (by decide)]; exact c2 z j hj) (fun z => ⟨(c3 z).1, fun j hj => by rw [W _ _ (by decide)]; exact (c3 z).2 j hj⟩) (fun z y j hj => by rw [G _ _ (by decide)]; exact c4 z y j hj)) (by decide) (fun r h2 q => ⟨q.1, put_fin I ht K q.2 (Y h1 h2 K p q.2)⟩)
theorem c135 {L : Nat} {xs : Nat → Int32} {c : Nat} {h : AH} {nh nm nr na nt nc : Nat} (I : InvN L xs c h nh nm nr na nt nc) {t : Nat} (ht : t < 6) {k i3 : Int32} (hr : k = 1 → inN i3 nr) {Q : Option Value → AH → Prop} (H : Ev 60 135 30 [.ref 6, .int (zI t), .int k, .int i3, .null] [] h Q) : Cl 60 135 [.ref 6, .int (zI t), .int k, .int i3] h Q := by
  have Ly := I.lay
  have q : (zI t).toInt = t := zI_toInt (by omega)
  exact ws135 _ _ _ Ly (Cl.i (p141 Ly _) (by decide) Ly ⟨fun z => absurd z (bI_n0.mpr (by show 0 ≤ (zI t).toInt ∧ (zI t).toInt < ((6 : Nat) : Int); omega)), fun _ => ⟨fun _ => H, fun z => Cl.i (p53 Ly (by have := I.iri.1; omega) I.iri.2.1 _) (by decide) Ly ⟨fun _ => H, fun y => absurd (bI_n0.mpr (hr (Decidable.not_not.mp z))) y⟩⟩⟩)
theorem g83 {h : AH} (Ly : Lay h) {t : Nat} (ht : t < 6) : GF 0 83 [.ref (196 + 3 * t)] h none (am_si h (196 + 3 * t) 0 0) := ws83 ht Ly (fun _ e => ⟨rfl, e⟩)
theorem g84 {h : AH} (Ly : Lay h) {t r : Nat} (ht : t < 6) (hr : r < 60) : GF 0 84 [.ref (196 + 3 * t), .ref (11 + r)] h none (am_si (am_si (am_si h (196 + 3 * t) 0 1) (196 + 3 * t) 1 (am_gi h (11 + r) 0)) (196 + 3 * t) 2 (am_gi h (11 + r) 1)) := ws84 ht hr Ly (fun _ e1 _ e2 _ e3 => ⟨rfl, by rw [e3, e2, e1, gi_ne (by omega), gi_ne (by omega), gi_ne (by omega)]⟩)
theorem g85 {h : AH} (Ly : Lay h) {t u b n : Nat} (ht : t < 6) (hu : u < 12) (e : am_gr h (148 + 4 * u) 0 = some b) (kd : am_kd h b = 102) (ln : am_ln h b = n) : GF 0 85 [.ref (196 + 3 * t), .ref (148 + 4 * u)] h none (am_si (am_sr (am_si h (196 + 3 * t) 0 2) (196 + 3 * t) 3 (some b)) (196 + 3 * t) 6 (zI n)) :=
  ws85 ht hu Ly (fun g1 e1 => ⟨b, by rw [e1]; exact e, fun g2 e2 => ⟨b, by rw [e2, am_sr_gr, if_pos ⟨rfl, rfl⟩], by
    rw [e2, e1]; show 100 ≤ am_kd h b ∧ am_kd h b ≤ 109; omega, fun g3 e3 => ⟨rfl, by
      rw [e3, e2, e1]; show am_si _ _ _ (Int32.ofNat (am_ln h b)) = _; rw [ln]⟩⟩⟩)
theorem g87 {h : AH} (Ly : Lay h) {t : Nat} (ht : t < 6) (x y : Int32) : GF 0 87 [.ref (196 + 3 * t), .int x, .int y] h none (am_si (am_si (am_si h (196 + 3 * t) 0 4) (196 + 3 * t) 5 x) (196 + 3 * t) 6 y) := ws87 ht x y Ly (fun _ e1 _ e2 _ e3 => ⟨rfl, by rw [e3, e2, e1]⟩)
theorem put_0 {L : Nat} {xs : Nat → Int32} {c : Nat} {h : AH} {nh nm nr na nt nc : Nat} (I : InvN L xs c h nh nm nr na nt nc) {t : Nat} (ht : t < 6) (i3 : Int32) : OPi 135 255 [.int (zI t), .int 0, .int i3] L xs c h := by
  have Ly := I.lay
  have qt : Int32.toNatClampNeg (zI t) = t := zI_tn (by omega)
  have it : am_in (zI t) 6 := in_zI ht (by decide)
  have L2 : Lay (am_si h 6 18 0) := Ly.si _ _ _
  refine put_go I ht (n := 0) (f := fun _ => 0) (P := fun h1 => am_gi h1 (196 + 3 * t) 0 = 0) (by decide) (fun z => absurd z (by decide)) (by decide) rfl (fun z => absurd z (by decide)) (fun z => absurd z (by decide)) (fun _ _ j hj => absurd hj (by omega)) ?_ ?_
  · refine c135 I ht (fun z => absurd z (by decide)) (ws135_30 _ _ _ Ly ⟨it, fun g eg => ?_⟩)
    subst eg
    rw [qt]
    exact ⟨fun _ => Cl.gv (g83 L2 ht) (by decide) (L2.si _ _ _) ⟨rfl, ⟨Sm.sv (((Sm.rfl' h).si _ _ _).si _ _ _) _ _, fun a j z1 z2 => by rw [gi_ne (by omega), gi_ne (by omega)], fun _ _ _ => rfl, by rw [gi_ne (by omega), gi_eq]⟩, gi_eq⟩, fun z => absurd z (by decide), fun z => absurd z (by decide), fun z => absurd z (by decide), fun z => absurd z (by decide), fun z => absurd z (by decide)⟩
  · intro h1 h2 K p M
    have E0 : am_gi h2 (196 + 3 * t) 0 = am_gi h1 (196 + 3 * t) 0 := M.2.1 _ _ (by omega) (by omega)
    have z249 := M.2.2.2.2.1
    have GH : ∀ a j, ¬ (a = 6 ∧ j = 18) → a ≠ 196 + 3 * t → ¬ (a = 216 ∧ j = 47) → ¬ ((a = 249 ∨ a = 250 ∨ a = 251) ∧ j = t) → am_gi h2 a j = am_gi h a j := fun a j z1 z2 z3 z4 => (M.2.1 a j z3 z4).trans (K.2.1 a j z1 z2)
    unfold ITy
    rw [z249, E0, p]
    exact ⟨rfl, by decide, fun z => absurd z (by decide), fun z => absurd z (by decide), fun z => absurd z (by decide), fun z => absurd z (by decide)⟩
theorem put_1 {L : Nat} {xs : Nat → Int32} {c : Nat} {h : AH} {nh nm nr na nt nc : Nat} (I : InvN L xs c h nh nm nr na nt nc) {t : Nat} (ht : t < 6) (i3 : Int32) (hr : inN i3 nr) : OPi 135 255 [.int (zI t), .int 1, .int i3] L xs c h := by
  have Ly := I.lay
  have qt : Int32.toNatClampNeg (zI t) = t := zI_tn (by omega)
  have it : am_in (zI t) 6 := in_zI ht (by decide)
  have L2 : Lay (am_si h 6 18 0) := Ly.si _ _ _
  have ⟨r, rr, er⟩ : ∃ r, r < nr ∧ i3 = zI r := ⟨i3.toInt.toNat, by omega, zI_of hr.1⟩
  subst er
  have b := I.iri.1
  have e1 := I.iri.2.2.2 r rr 0 (by decide)
  have e2 := I.iri.2.2.2 r rr 1 (by decide)
  refine put_go I ht (n := 0) (f := fun _ => 0) (P := fun h1 => am_gi h1 (196 + 3 * t) 0 = 1 ∧ am_gi h1 (196 + 3 * t) 1 = am_gi h 228 r ∧ am_gi h1 (196 + 3 * t) 2 = am_gi h 229 r) (by decide) (fun _ => hr) (by decide) rfl (fun z => absurd z (by decide)) (fun z => absurd z (by decide)) (fun _ _ j hj => absurd hj (by omega)) ?_ ?_
  · refine c135 I ht (fun _ => hr) (ws135_30 _ _ _ Ly ⟨it, fun g eg => ?_⟩)
    subst eg
    rw [qt, zI_tn (show r < 2147483648 by omega)]
    exact ⟨fun z => absurd z (by decide), fun _ => ⟨in_zI (by omega) (by decide), Cl.gv (g84 L2 ht (by omega)) (by decide) (((L2.si _ _ _).si _ _ _).si _ _ _) ⟨rfl, ⟨Sm.sv (((((Sm.rfl' h).si _ _ _).si _ _ _).si _ _ _).si _ _ _) _ _, fun a j z1 z2 => by rw [gi_ne (by omega), gi_ne (by omega), gi_ne (by omega), gi_ne (by omega)], fun _ _ _ => rfl, by rw [gi_ne (by omega), gi_ne (by omega), gi_ne (by omega), gi_eq]⟩, by rw [gi_ne (by omega), gi_ne (by omega), gi_eq], by rw [gi_ne (by omega), gi_eq, gi_ne (by omega)]; exact e1, by rw [gi_eq, gi_ne (by omega)]; exact e2⟩⟩, fun z => absurd z (by decide), fun z => absurd z (by decide), fun z => absurd z (by decide), fun z => absurd z (by decide)⟩
  · intro h1 h2 K p M
    have E0 : am_gi h2 (196 + 3 * t) 0 = am_gi h1 (196 + 3 * t) 0 := M.2.1 _ _ (by omega) (by omega)
    have z249 := M.2.2.2.2.1
    have GH : ∀ a j, ¬ (a = 6 ∧ j = 18) → a ≠ 196 + 3 * t → ¬ (a = 216 ∧ j = 47) → ¬ ((a = 249 ∨ a = 250 ∨ a = 251) ∧ j = t) → am_gi h2 a j = am_gi h a j := fun a j z1 z2 z3 z4 => (M.2.1 a j z3 z4).trans (K.2.1 a j z1 z2)
    unfold ITy
    rw [z249, E0, p.1, M.2.1 _ 1 (by omega) (by omega), p.2.1, M.2.1 _ 2 (by omega) (by omega), p.2.2, M.2.2.2.2.2.1]
    exact ⟨rfl, by decide, fun _ => ⟨r, rr, rfl, (GH 228 r (by omega) (by omega) (by omega) (by omega)).symm, (GH 229 r (by omega) (by omega) (by omega) (by omega)).symm⟩, fun z => absurd z (by decide), fun z => absurd z (by decide), fun z => absurd z (by decide)⟩
theorem put_2 {L : Nat} {xs : Nat → Int32} {c : Nat} {h : AH} {nh nm nr na nt nc : Nat} (I : InvN L xs c h nh nm nr na nt nc) {t : Nat} (ht : t < 6) (i3 : Int32) : OPi 135 255 [.int (zI t), .int 2, .int i3] L xs c h := by
  have Ly := I.lay
  have qt : Int32.toNatClampNeg (zI t) = t := zI_tn (by omega)
  have it : am_in (zI t) 6 := in_zI ht (by decide)
  have L2 : Lay (am_si h 6 18 0) := Ly.si _ _ _
  have hT := tOn12 I
  have hT2 : tOn h nt (am_gi h 216 0) < nt := tOn_lt I.itx.1.1
  obtain ⟨b, n, r1, r2, r3, r4, r5, r6, r7, r8, r9⟩ := (I.itx.2.2.2.2.1 _ hT2).2.1
  have X2 : ITx (am_si h 6 18 0) nt c := I.itx.of ((Sm.rfl' h).si _ _ _).t (((OC.rf [10] h).si (a := 6) (k := 18) (v := 0) (by omega) (by decide)).ex.ag (by decide))
  have eT : tOn (am_si h 6 18 0) nt (am_gi (am_si h 6 18 0) 6 0) = tOn h nt (am_gi h 216 0) := by rw [tOn_ag (((OC.rf [10] h).si (a := 6) (k := 18) (v := 0) (by omega) (by decide)).ex.ag (by decide)), gi_ne (by omega), I.ida.1]
  refine put_go I ht (n := n) (f := fun j => Int32.toInt64 (am_gi h 236 (400 * (tOn h nt (am_gi h 216 0)) + j))) (P := fun h1 => am_gi h1 (196 + 3 * t) 0 = 2 ∧ am_gi h1 (196 + 3 * t) 6 = zI n ∧ am_gr h1 (196 + 3 * t) 3 = some b) (by decide) (fun z => absurd z (by decide)) r7 (by rw [if_pos rfl]; exact r8.symm) (fun _ _ _ => rfl) (fun z => absurd z (by decide)) (fun z => absurd rfl z) ?_ ?_
  · refine c135 I ht (fun z => absurd z (by decide)) (ws135_30 _ _ _ Ly ⟨it, fun g eg => ?_⟩)
    subst eg
    rw [qt]
    refine ⟨fun z => absurd z (by decide), fun z => absurd z (by decide), fun _ => ?_, fun z => absurd z (by decide), fun z => absurd z (by decide), fun z => absurd z (by decide)⟩
    have P := p154x L2 X2 (am_gi (am_si h 6 18 0) 6 0)
    rw [eT] at P
    refine Cl.i P (by decide) L2 ⟨in_zI hT (by decide), ?_⟩
    rw [zI_tn (show tOn h nt (am_gi h 216 0) < 2147483648 by omega)]
    exact Cl.gv (g85 L2 ht hT r1 r5 r6) (by decide) (((L2.si _ _ _).sr_tray ht rfl).si _ _ _) ⟨rfl, ⟨⟨some b, Sm.rfl' _⟩, fun a j z1 z2 => by rw [gi_ne (by omega)]; show am_gi (am_si (am_si h 6 18 0) _ _ _) a j = _; rw [gi_ne (by omega), gi_ne (by omega)], fun _ _ _ => rfl, by rw [gi_ne (by omega)]; show am_gi (am_si (am_si h 6 18 0) _ _ _) 6 18 = _; rw [gi_ne (by omega), gi_eq]⟩, by rw [gi_ne (by omega)]; show am_gi (am_si (am_si h 6 18 0) _ _ _) _ 0 = _; rw [gi_eq], gi_eq, by show am_gr (am_sr _ _ _ _) _ _ = _; rw [am_sr_gr, if_pos ⟨rfl, rfl⟩]⟩
  · intro h1 h2 K p M
    have E0 : am_gi h2 (196 + 3 * t) 0 = am_gi h1 (196 + 3 * t) 0 := M.2.1 _ _ (by omega) (by omega)
    have z249 := M.2.2.2.2.1
    have GH : ∀ a j, ¬ (a = 6 ∧ j = 18) → a ≠ 196 + 3 * t → ¬ (a = 216 ∧ j = 47) → ¬ ((a = 249 ∨ a = 250 ∨ a = 251) ∧ j = t) → am_gi h2 a j = am_gi h a j := fun a j z1 z2 z3 z4 => (M.2.1 a j z3 z4).trans (K.2.1 a j z1 z2)
    obtain ⟨v, S⟩ := K.1
    have kd : am_kd h2 = am_kd h := M.1.2.2.1.trans S.2.2.1
    have ln : am_ln h2 = am_ln h := M.1.2.2.2.1.trans S.2.2.2.1
    have zz : am_sz h2 = am_sz h := M.1.1.trans S.1
    unfold ITy
    rw [z249, E0, p.1, M.2.1 _ 6 (by omega) (by omega), p.2.1, M.2.2.2.2.2.2.1, M.1.2.2.2.2, p.2.2, kd, ln, zz]
    exact ⟨rfl, by decide, fun z => absurd z (by decide), fun _ => ⟨b, n, r7, rfl, r2, r3, r4, r5, rfl, rfl, r6, fun i hi => by rw [M.2.2.2.2.2.2.2 i hi, GH b i (by omega) (by omega) (by omega) (by omega), (r9 i hi).1]⟩, fun z => absurd z (by decide), fun z => absurd z (by decide)⟩
theorem put_3 {L : Nat} {xs : Nat → Int32} {c : Nat} {h : AH} {nh nm nr na nt nc : Nat} (I : InvN L xs c h nh nm nr na nt nc) {t : Nat} (ht : t < 6) (i3 : Int32) : OPi 135 255 [.int (zI t), .int 3, .int i3] L xs c h := by
  have Ly := I.lay
  have qt : Int32.toNatClampNeg (zI t) = t := zI_tn (by omega)
  have it : am_in (zI t) 6 := in_zI ht (by decide)
  have L2 : Lay (am_si h 6 18 0) := Ly.si _ _ _
  have b := I.ime.1
  have e1 := I.ime.2.1
  refine put_go I ht (n := nm) (f := fun j => am_gl h 227 j) (P := fun h1 => am_gi h1 (196 + 3 * t) 0 = 3 ∧ am_gi h1 (196 + 3 * t) 6 = zI nm ∧ ∀ j, j < nm → am_gl h1 (198 + 3 * t) j = am_gl h (124 + j) 5) (by decide) (fun z => absurd z (by decide)) (by omega) (by rw [if_neg (by decide), if_pos rfl]; exact I.ime.2.2.1.symm) (fun z => absurd z (by decide)) (fun _ => ⟨b, fun _ _ => rfl⟩) (fun _ z => absurd rfl z) ?_ ?_
  · refine c135 I ht (fun z => absurd z (by decide)) (ws135_30 _ _ _ Ly ⟨it, fun g eg => ?_⟩)
    subst eg
    rw [qt]
    refine ⟨fun z => absurd z (by decide), fun z => absurd z (by decide), fun z => absurd z (by decide), fun _ => ?_, fun z => absurd z (by decide), fun z => absurd z (by decide)⟩
    rw [gi_ne (by omega), e1]
    refine ws86 ht _ L2 (fun g3 eg3 => ?_)
    subst eg3
    have L3 : Lay (am_si (am_si h 6 18 0) (196 + 3 * t) 0 3) := L2.si _ _ _
    refine Cl.i (p265 (a := nm) (b := 24) b (by decide)) (by decide) L3 (fun g5 eg5 => ?_)
    subst eg5
    have L5 : Lay (am_si (am_si (am_si h 6 18 0) (196 + 3 * t) 0 3) (196 + 3 * t) 6 (zI nm)) := L3.si _ _ _
    refine Ev.mono (l86 L5 ht b gi_eq nm 0 _ (by omega) ⟨Sm.rfl' _, fun _ _ => rfl, fun _ _ _ => rfl, fun j hj => absurd hj (by omega)⟩) (by decide) ?_
    rintro r h1 ⟨q1, q2, q3, q4, q5⟩
    exact ⟨q1, q2.lay L5, rfl, ⟨Sm.sv ((((((Sm.rfl' h).si 6 18 0).si (196 + 3 * t) 0 3).si (196 + 3 * t) 6 (zI nm))).trans q2) _ _, fun a j z1 z2 => by rw [q3, gi_ne (by omega), gi_ne (by omega), gi_ne (by omega)], fun a j z => q4 a j z, by rw [q3, gi_ne (by omega), gi_ne (by omega), gi_eq]⟩, by rw [q3, gi_ne (by omega), gi_eq], by rw [q3, gi_eq], fun j hj => q5 j hj⟩
  · intro h1 h2 K p M
    have E0 : am_gi h2 (196 + 3 * t) 0 = am_gi h1 (196 + 3 * t) 0 := M.2.1 _ _ (by omega) (by omega)
    have z249 := M.2.2.2.2.1
    have GH : ∀ a j, ¬ (a = 6 ∧ j = 18) → a ≠ 196 + 3 * t → ¬ (a = 216 ∧ j = 47) → ¬ ((a = 249 ∨ a = 250 ∨ a = 251) ∧ j = t) → am_gi h2 a j = am_gi h a j := fun a j z1 z2 z3 z4 => (M.2.1 a j z3 z4).trans (K.2.1 a j z1 z2)
    unfold ITy
    rw [z249, E0, p.1, M.2.1 _ 6 (by omega) (by omega), p.2.1, M.2.2.2.2.2.2.1]
    exact ⟨rfl, by decide, fun z => absurd z (by decide), fun z => absurd z (by decide), fun _ => ⟨nm, b, rfl, rfl, fun i hi => by rw [M.2.2.2.2.2.2.2 i hi, M.2.2.1 _ _ (by omega), p.2.2 i hi]; exact (I.ime.2.2.2.1 i (by omega)).2.2⟩, fun z => absurd z (by decide)⟩
theorem put_4 {L : Nat} {xs : Nat → Int32} {c : Nat} {h : AH} {nh nm nr na nt nc : Nat} (I : InvN L xs c h nh nm nr na nt nc) {t : Nat} (ht : t < 6) (i3 : Int32) : OPi 135 255 [.int (zI t), .int 4, .int i3] L xs c h := by
  have Ly := I.lay
  have qt : Int32.toNatClampNeg (zI t) = t := zI_tn (by omega)
  have it : am_in (zI t) 6 := in_zI ht (by decide)
  have L2 : Lay (am_si h 6 18 0) := Ly.si _ _ _
  have b := I.iho.1
  have e1 := I.iho.2.1
  have V2 : vCR (am_si h 6 18 0) nr (rR h) := (vCR.of I.iri).si (Or.inr (by decide))
  refine put_go I ht (n := nh) (f := fun j => if fHo (rR h) nr (zI j) (am_gi h 216 0) = -1 then 1 else 0) (P := fun h1 => am_gi h1 (196 + 3 * t) 0 = 4 ∧ am_gi h1 (196 + 3 * t) 6 = zI nh ∧ am_gi h1 (196 + 3 * t) 5 = bset (fun j => decide (fHo (rR h) nr (zI j) (am_gi h 216 0) = -1)) nh) (by decide) (fun z => absurd z (by decide)) (by omega) (by rw [if_neg (by decide), if_neg (by decide), if_pos rfl]; exact I.iho.2.2.1.symm) (fun z => absurd z (by decide)) (fun z => absurd z (by decide)) (fun _ _ _ _ => rfl) ?_ ?_
  · refine c135 I ht (fun z => absurd z (by decide)) (ws135_30 _ _ _ Ly ⟨it, fun g eg => ?_⟩)
    subst eg
    rw [qt]
    refine ⟨fun z => absurd z (by decide), fun z => absurd z (by decide), fun z => absurd z (by decide), fun z => absurd z (by decide), fun _ => ?_, fun z => absurd z (by decide)⟩
    have P := p148 L2 V2 (by rw [gi_ne (by omega)]; exact e1) b
    rw [gi_ne (by omega), I.ida.1] at P
    refine Cl.i P (by decide) L2 ?_
    rw [gi_ne (by omega), e1]
    exact Cl.gv (g87 L2 ht _ _) (by decide) (((L2.si _ _ _).si _ _ _).si _ _ _) ⟨rfl, ⟨Sm.sv (((((Sm.rfl' h).si _ _ _).si _ _ _).si _ _ _).si _ _ _) _ _, fun a j z1 z2 => by rw [gi_ne (by omega), gi_ne (by omega), gi_ne (by omega), gi_ne (by omega)], fun _ _ _ => rfl, by rw [gi_ne (by omega), gi_ne (by omega), gi_ne (by omega), gi_eq]⟩, by rw [gi_ne (by omega), gi_ne (by omega), gi_eq], gi_eq, by rw [gi_ne (by omega), gi_eq]⟩
  · intro h1 h2 K p M
    have E0 : am_gi h2 (196 + 3 * t) 0 = am_gi h1 (196 + 3 * t) 0 := M.2.1 _ _ (by omega) (by omega)
    have z249 := M.2.2.2.2.1
    have GH : ∀ a j, ¬ (a = 6 ∧ j = 18) → a ≠ 196 + 3 * t → ¬ (a = 216 ∧ j = 47) → ¬ ((a = 249 ∨ a = 250 ∨ a = 251) ∧ j = t) → am_gi h2 a j = am_gi h a j := fun a j z1 z2 z3 z4 => (M.2.1 a j z3 z4).trans (K.2.1 a j z1 z2)
    unfold ITy
    rw [z249, E0, p.1, M.2.1 _ 6 (by omega) (by omega), p.2.1, M.2.2.2.2.2.2.1, M.2.1 _ 5 (by omega) (by omega), p.2.2]
    refine ⟨rfl, by decide, fun z => absurd z (by decide), fun z => absurd z (by decide), fun z => absurd z (by decide), fun _ => ⟨nh, b, rfl, rfl, fun i hi => ?_⟩⟩
    rw [M.2.2.2.2.2.2.2 i hi, bq_tb (by omega), bset_tb _ _ (by omega) _ (by omega), decide_eq_true_iff.mpr hi]
    show _ = if fHo (rR h) nr (zI i) (am_gi h 216 0) = -1 then (1 : Int64) else 0
    by_cases z : fHo (rR h) nr (zI i) (am_gi h 216 0) = -1
    · rw [if_pos z, decide_eq_true_iff.mpr z]; rfl
    · rw [if_neg z, decide_eq_false_iff_not.mpr z]; rfl
theorem op_put {L : Nat} {xs : Nat → Int32} {c : Nat} {h : AH} {nh nm nr na nt nc : Nat} (I : InvN L xs c h nh nm nr na nt nc) (x k i3 : Int32) : OPi 135 255 [.int x, .int k, .int i3] L xs c h := by
  have Ly := I.lay
  by_cases hx : inN x 6 ∧ inR k 0 4 ∧ (k = 1 → inN i3 nr)
  · obtain ⟨x0, hk, hr⟩ := hx
    have ⟨t, ht, e⟩ : ∃ t, t < 6 ∧ x = zI t := ⟨x.toInt.toNat, by omega, zI_of x0.1⟩
    subst e
    have ⟨n, hn, e⟩ : ∃ n, n < 5 ∧ k = zI n := i_pl hk.1 (by have := hk.2; rw [i_lt] at this ⊢; have e8 : (4 : Int32).toInt = 4 := rfl; rw [e8] at this; show k.toInt < 5; omega) (by decide)
    rcases (by omega : n = 0 ∨ n = 1 ∨ n = 2 ∨ n = 3 ∨ n = 4) with rfl | rfl | rfl | rfl | rfl <;> subst e
    · exact put_0 I ht i3
    · exact put_1 I ht i3 (hr rfl)
    · exact put_2 I ht i3
    · exact put_3 I ht i3
    · exact put_4 I ht i3
  · refine OPi.gx (d := 40) (d' := 20) (x := -1) (P := fun h1 => OC [10] h h1 ∧ am_gi h1 6 18 = 1) ?_ (fun h1 q => ?_)
    · have o1 : OC [10] h (am_si h 6 18 1) := (OC.rf [10] h).si (by omega) (by decide)
      refine ws135 _ _ _ Ly (Cl.i (p141 Ly _) (by decide) Ly ⟨fun _ g eg => ⟨rfl, by rw [eg]; exact ⟨o1, gi_eq⟩⟩, fun y1 => ⟨fun y2 => ws135_30 _ _ _ Ly ⟨in_of (bI_n0.mp y1).1 (bI_n0.mp y1).2, fun g eg => ?_⟩, fun y2 => Cl.i (p53 Ly (by have := I.iri.1; omega) I.iri.2.1 _) (by decide) Ly ⟨fun y3 => absurd ⟨bI_n0.mp y1, by rw [Decidable.not_not.mp y2]; decide, fun _ => bI_n0.mp y3⟩ hx, fun _ g eg => ⟨rfl, by rw [eg]; exact ⟨o1, gi_eq⟩⟩⟩⟩⟩)
      have nz : ∀ n : Nat, n < 5 → ¬ n = 1 → ¬ k = zI n := fun n hn h1 z => hx ⟨bI_n0.mp y1, by rw [z]; exact ⟨zI_nonneg (by omega), fun y => by have := (zI_lt (m := 4) (n := n) (by decide) (by omega)).mp y; omega⟩, fun w => absurd w y2⟩
      subst eg
      exact ⟨fun z => absurd z (nz 0 (by decide) (by decide)), fun z => absurd z y2, fun z => absurd z (nz 2 (by decide) (by decide)), fun z => absurd z (nz 3 (by decide) (by decide)), fun z => absurd z (nz 4 (by decide) (by decide)), fun _ g eg => ⟨rfl, by rw [eg]; exact ⟨((OC.rf [10] h).si (by omega) (by decide)).si (by omega) (by decide), gi_eq⟩⟩⟩
    · obtain ⟨E1, es⟩ := q
      have L1 := E1.lay Ly
      have e14 : am_gi h1 216 14 = zI nr := by rw [E1.gi (by decide)]; exact I.iri.2.2.1
      have E2 : OM [10] h1 (am_si h1 216 47 1) := (OM.rf _ _).si (by omega) (by decide)
      have D : Inv L xs (c + 1) (am_si h1 216 47 1) := ⟨nh, nm, nr, na, nt, nc, I.up (E1.ex.tr E2.ex) (g10 := Or.inr (by show am_gi _ 6 18 = am_gi _ 216 47; rw [gi_eq, gi_ne (by omega)]; exact es))⟩
      refine ⟨L1, I.ico.ex E1.ex (by decide), ?_⟩
      refine ws255 _ _ _ L1 (Cl.i (p167 L1 _ _ _) (by decide) L1 ⟨fun _ => Cl.gi (g254 L1 _) (by decide) (L1.si _ _ _) ⟨rfl, D⟩, fun y1 => Cl.i (p167 L1 _ _ _) (by decide) L1 ⟨fun _ => Cl.gi (g254 L1 _) (by decide) (L1.si _ _ _) ⟨rfl, D⟩, fun y2 => ⟨fun y3 => absurd ⟨?_, bI_n0.mp y2, fun w => absurd w y3⟩ hx, fun y3 => Cl.i (p181 L1 (by have := I.iri.1; omega) e14 _) (by decide) L1 ⟨fun y4 => absurd ⟨?_, bI_n0.mp y2, fun _ => bI_n0.mp y4⟩ hx, fun _ => Cl.gi (g254 L1 _) (by decide) (L1.si _ _ _) ⟨rfl, D⟩⟩⟩⟩⟩)
      all_goals
        have w1 := bI_n0.mp y1
        have e0 : (0 : Int32).toInt = 0 := rfl
        have e5 : (5 : Int32).toInt = 5 := rfl
        have a1 := w1.1
        have a2 := w1.2
        rw [i_lt] at a1 a2
        exact ⟨by omega, by omega⟩
