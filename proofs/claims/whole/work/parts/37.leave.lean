/-! leave -/
theorem l186 {n : Nat} {g : Nat → Nat → Int32} {x d i2 : Int32} (hx : inN x 24) : ∀ m i, i + m = n → ∀ h, Lay h → vMR h n (gEA g i x d) → am_gi h 216 0 = d → Ev 3 186 50 [.ref 216, .int x, .int i2, .int (zI i)] [] h (fun r h' => r = some (.int i2) ∧ ∃ h1, vMR h1 n (gEA g n x d) ∧ OM [4] h h1 ∧ h' = am_si (am_si (am_si h1 224 (Int32.toNatClampNeg x) d) 225 (Int32.toNatClampNeg x) (-1)) 226 (Int32.toNatClampNeg x) 0)
  | 0, i, e, h, Ly, V, ed => by
    have e' : i = n := by omega
    subst e'
    have hi := in_N hx (Nat.le_refl 24)
    refine ws186_50 _ _ _ Ly ⟨fun _ => ?_, fun z => absurd (by rw [V.2.1]; exact Int32.le_refl _) z⟩
    rw [ed]
    refine ⟨hi, ?_⟩
    intro k1 e1; subst e1
    refine ⟨hi, ?_⟩
    intro k2 e2; subst e2
    refine ⟨hi, ?_⟩
    intro k3 e3; subst e3
    exact ⟨rfl, h, V, OM.rf _ _, rfl⟩
  | m + 1, i, e, h, Ly, V, ed => by
    have b := V.1
    have hi : i < n := by omega
    have t0 : ∀ k, gEA g i x d k i = g k i := fun k => gEA_o (by omega)
    have en : onR (gEA g i x d) i d = onR g i d := onR_congr (t0 _) (t0 _)
    have hin : am_in (zI i) 60 := in_zI (by omega) (by omega)
    have ih := l186 (n := n) (g := g) (x := x) (d := d) (i2 := i2) hx m (i + 1) (by omega)
    have q0 : am_gi h 228 i = g 0 i := (V.2.2 i hi 0 (by decide)).trans (t0 0)
    have q2 : am_gi h 230 i = g 2 i := (V.2.2 i hi 2 (by decide)).trans (t0 2)
    refine ws186_50 _ _ _ Ly ⟨fun z => absurd z (by rw [V.2.1, zI_le (by omega) (by omega)]; omega), fun _ => ⟨hin, ?_⟩⟩
    rw [zI_tn (show i < 2147483648 by omega), zI_succ, q0, q2, ed]
    refine ⟨fun z => ?_, fun z => ⟨hin, fun y => ?_, fun y => Cl.i (p171 Ly V hi d) (by decide) Ly ⟨fun u => ?_, fun u => ⟨hin, ?_⟩⟩⟩⟩
    · exact ih h Ly (V.cg (fun k j _ _ => gEA_s1 (fun c => z c.1) k j)) ed
    · exact ih h Ly (V.cg (fun k j _ _ => gEA_s1 (fun c => y c.2.1) k j)) ed
    · rw [bI_0, en] at u
      exact ih h Ly (V.cg (fun k j _ _ => gEA_s1 (fun c => u c.2.2) k j)) ed
    · rw [bI_n0, en] at u
      rw [ed]
      intro k1 ek; subst ek
      refine Ev.mono (ih _ (Ly.si _ _ _) ((V.end hi d).cg (fun k j _ _ => gEA_s2 ⟨Decidable.not_not.mp z, Decidable.not_not.mp y, u⟩ k j)) (by rw [gi_ne (by omega)]; exact ed)) (by decide) (fun r h' q => ?_)
      obtain ⟨q1, h1, q2, q3, q4⟩ := q
      exact ⟨q1, h1, q2, OM.tr ((OM.rf [4] h).si (a := 233) (k := i) (by omega) (List.mem_singleton.mpr rfl)) q3, q4⟩
/-- the class's homes forget what a member refused -/
def RfR (m nh : Nat) (h h' : AH) : Prop := OC [2] h h' ∧ am_gi h' 6 2 = am_gi h 6 2 ∧ (∀ i k, i < 12 → k ≠ 4 → am_gi h' (112 + i) k = am_gi h (112 + i) k) ∧ (∀ i j, i < 12 → j < 24 → j ≠ m → bq (am_gi h' (112 + i) 4) j = bq (am_gi h (112 + i) 4) j)
theorem l104 {nh m : Nat} {i2 : Int32} (hn : nh ≤ 12) (hm : m < 24) : ∀ k i, i + k = nh → ∀ h, Lay h → am_gi h 6 2 = zI nh → Ev 9 104 87 [.ref 6, .int (zI m), .int i2, .int (zI i)] [] h (fun r h' => r = some (.int i2) ∧ RfR m nh h h')
  | 0, i, e, h, Ly, e2 => ws104_87 _ _ _ Ly ⟨fun _ => ⟨rfl, OC.rf _ _, rfl, fun _ _ _ _ => rfl, fun _ _ _ _ _ => rfl⟩, fun z => absurd (by rw [e2, ← e]; exact Int32.le_refl _) z⟩
  | k + 1, i, e, h, Ly, e2 => by
    have hi : i < nh := by omega
    refine ws104_87 _ _ _ Ly ⟨fun z => absurd z (by rw [e2, zI_le (by omega) (by omega)]; omega), fun _ => ⟨in_zI (by omega) (by omega), ?_⟩⟩
    rw [zI_tn (show i < 2147483648 by omega), zI_succ]
    intro k1 ek; subst ek
    refine Ev.mono (l104 hn hm k (i + 1) (by omega) _ (Ly.si _ _ _) (by rw [gi_ne (by omega)]; exact e2)) (Nat.le_refl _) (fun r h' q => ⟨q.1, ?_⟩)
    obtain ⟨_, a, b, c, d⟩ := q
    refine ⟨OC.tr ((OC.rf [2] h).si (a := 112 + i) (k := 4) (by omega) (tpm (tp_home (by omega)) (by decide))) a, by rw [b, gi_ne (by omega)], fun j k h1 h2 => by rw [c j k h1 h2, gi_ne (by omega)], fun j jj h1 h2 h3 => ?_⟩
    rw [d j jj h1 h2 h3]
    by_cases hij : j = i
    · subst hij; rw [gi_eq, bq_clr (by omega) (by omega) h3]
    · rw [gi_ne (by omega)]
theorem g21 {h : AH} (Ly : Lay h) {j : Nat} (hj : j < 24) (a : Int32) : GF 0 21 [.ref (124 + j), .int a] h none (am_si (am_si (am_si h (124 + j) 2 a) (124 + j) 3 (-1)) (124 + j) 4 0) :=
  ws21 hj a Ly (fun _ e1 _ e2 _ e3 => ⟨rfl, by rw [e3, e2, e1]⟩)
theorem p54b {h : AH} (Ly : Lay h) {n : Nat} (hn : n ≤ 60) (e : am_gi h 9 1 = zI n) (p : Prop) [Decidable p] : PF 0 54 [.ref 9, .int (bI p)] h (.int (bI (p → n < 60))) := by
  by_cases z : p
  · rw [bI_t z]
    exact (p54 Ly hn e 1 (by decide)).c ⟨fun y _ => by omega, fun y => by have := y z; omega⟩
  · rw [bI_f z]
    exact (p54 Ly hn e 0 (by decide)).c ⟨fun _ y => absurd y z, fun _ => by omega⟩
theorem op_leave {L : Nat} {xs : Nat → Int32} {c : Nat} {h : AH} {nh nm nr na nt nc : Nat} (I : InvN L xs c h nh nm nr na nt nc) (x : Int32) : OPi 104 186 [.int x] L xs c h := by
  have Ly := I.lay
  have b1 := I.iho.1
  have b2 := I.ime.1
  have b3 := I.iri.1
  have VC := vCR.of I.iri
  have VM := vMR.of I.iri
  have W := RW.of I.ix3
  have RVx := I.ix3.rv
  have hd := I.ida.2.1
  by_cases hx : inN x nm
  · by_cases he : am_gi h 224 (Int32.toNatClampNeg x) = -1
    · by_cases hr : JT (rR h) nr x (am_gi h 216 0) → nr < 60
      · obtain ⟨m, hm, rfl⟩ := hx.ex
        have hm' : Int32.toNatClampNeg (zI m) = m := zI_tn (by omega)
        have hx24 : inN (zI m) 24 := inN_zI (by omega) (by decide)
        have gv := gv_all (w := zI m) W (RO.of I.ix4) hd b3
        have gn := gvN_le (g := rR h) (n := nr) (w := zI m) (d := am_gi h 216 0)
        have RVg : RV (gvN (rR h) nr (zI m) (am_gi h 216 0)) (gvG (rR h) nr (zI m) (am_gi h 216 0)) := fun i hi q => (gv.1.1 i hi).2.2.2.1.elim (fun z => z.2) (fun z => absurd z.1 q)
        refine OPi.cm (d := 12) (d' := 12) (ts := [2, 3, 4]) (v := gvR (rR h) nr (zI m) (am_gi h 216 0)) (P1 := fun h' => vCR h' (gvN (rR h) nr (zI m) (am_gi h 216 0)) (gEA (gvG (rR h) nr (zI m) (am_gi h 216 0)) (gvN (rR h) nr (zI m) (am_gi h 216 0)) (zI m) (am_gi h 216 0)) ∧ ∃ h1, OC [4] h h1 ∧ RfR m nh (am_si (am_si (am_si h1 (124 + m) 2 (am_gi h 216 0)) (124 + m) 3 (-1)) (124 + m) 4 0) h') (P2 := fun h' => ∃ h1 h2, OC [2, 3, 4] h h1 ∧ vMR h2 (gvN (rR h) nr (zI m) (am_gi h 216 0)) (gEA (gvG (rR h) nr (zI m) (am_gi h 216 0)) (gvN (rR h) nr (zI m) (am_gi h 216 0)) (zI m) (am_gi h 216 0)) ∧ OM [4] h1 h2 ∧ h' = am_si (am_si (am_si h2 224 m (am_gi h 216 0)) 225 m (-1)) 226 m 0) I ?_ ?_ ?_
        · -- the class
          refine ws104 _ Ly (Cl.i (p139 Ly (by omega) I.ime.2.1 _) (by decide) Ly ⟨fun _ => Cl.i (p146 I hx) (by decide) Ly ⟨fun _ => ?_, fun z => absurd (bI_n0.mpr he) z⟩, fun z => absurd (bI_n0.mpr hx) z⟩)
          rw [I.ida.1]
          refine Cl.i (p60 Ly VC RVx (inN_n1 hx) _) (by decide) Ly (Cl.i (p54b Ly b3 I.iri.2.1 _) (by decide) Ly ⟨fun _ => ?_, fun z => absurd (bI_n0.mpr hr) z⟩)
          rw [I.ida.1]
          refine Cl.qi (c61 Ly VC RVx (inN_n1 hx) _ hr) (by decide) (fun g1 q => ⟨q.2.lay Ly, ?_⟩)
          have Ly1 := q.2.lay Ly
          have d1 : am_gi g1 6 0 = am_gi h 216 0 := by rw [(q.2.ex.ag (t := 1) (by decide) 6 0 rfl).1]; exact I.ida.1
          rw [d1]
          refine Cl.qv (c62 Ly1 q.1 RVg (inN_n1 hx) gv.2.2.1) (by decide) (fun g2 q2 => ⟨q2.2.lay Ly1, in_N hx b2, ?_⟩)
          have Ly2 := q2.2.lay Ly1
          have d2 : am_gi g2 6 0 = am_gi h 216 0 := by rw [(q2.2.ex.ag (t := 1) (by decide) 6 0 rfl).1]; exact d1
          have n2 : am_gi g2 6 2 = zI nh := by rw [(q2.2.ex.ag (t := 2) (by decide) 6 2 rfl).1, (q.2.ex.ag (t := 2) (by decide) 6 2 rfl).1]; exact I.iho.2.1
          rw [d2, hm']
          have O3 : OC [2, 3, 4] g2 (am_si (am_si (am_si g2 (124 + m) 2 (am_gi h 216 0)) (124 + m) 3 (-1)) (124 + m) 4 0) := (((OC.rf [2, 3, 4] g2).si (a := 124 + m) (k := 2) (by omega) (tpm (tp_member (by omega)) (by decide))).si (a := 124 + m) (k := 3) (by omega) (tpm (tp_member (by omega)) (by decide))).si (a := 124 + m) (k := 4) (by omega) (tpm (tp_member (by omega)) (by decide))
          refine Cl.gv (g21 Ly2 (by omega) _) (by decide) (((Ly2.si _ _ _).si _ _ _).si _ _ _) ?_
          refine Ev.mono (l104 b1 (by omega) nh 0 (by omega) _ (((Ly2.si _ _ _).si _ _ _).si _ _ _) (by rw [gi_ne (by omega), gi_ne (by omega), gi_ne (by omega)]; exact n2)) (by decide) (fun r h' p => ⟨p.1, ⟨?_, g2, q.2.tr q2.2, p.2⟩, ?_⟩)
          · exact vCR.oc (vCR.si (vCR.si (vCR.si q2.1 (by omega)) (by omega)) (by omega)) p.2.1 (by decide)
          · exact ((q.2.tr q2.2).wk (by decide)).tr (O3.tr (p.2.1.wk (by decide)))
        · -- the reference
          intro h1 _ E1 Ly1
          have et : am_gi h1 216 0 = am_gi h 216 0 := E1.gi (by omega)
          have V1 := VM.oc E1
          refine ws186 _ Ly1 (Cl.i (p169 Ly1 (n := nm) (by omega) (by rw [E1.gi (by omega)]; exact I.ime.2.2.1) _) (by decide) Ly1 ⟨fun _ => Cl.i ((p170 Ly1 (in_N hx b2)).c (q := am_gi h 224 (Int32.toNatClampNeg (zI m)) = (-1 : Int32)) (by rw [E1.gi (by omega)])) (by decide) Ly1 ⟨fun _ => ?_, fun z => absurd (bI_n0.mpr he) z⟩, fun z => absurd (bI_n0.mpr hx) z⟩)
          have fin : ∀ v, v = gvR (rR h) nr (zI m) (am_gi h 216 0) → ∀ g1, vMR g1 (gvN (rR h) nr (zI m) (am_gi h 216 0)) (gvG (rR h) nr (zI m) (am_gi h 216 0)) ∧ OM [4] h1 g1 → Lay g1 ∧ Ev 12 186 50 [.ref 216, .int (zI m), .int v, .int 0] [] g1 (fun r h' => r = some (.int (gvR (rR h) nr (zI m) (am_gi h 216 0))) ∧ (∃ h1 h2, OC [2, 3, 4] h h1 ∧ vMR h2 (gvN (rR h) nr (zI m) (am_gi h 216 0)) (gEA (gvG (rR h) nr (zI m) (am_gi h 216 0)) (gvN (rR h) nr (zI m) (am_gi h 216 0)) (zI m) (am_gi h 216 0)) ∧ OM [4] h1 h2 ∧ h' = am_si (am_si (am_si h2 224 m (am_gi h 216 0)) 225 m (-1)) 226 m 0) ∧ OM [2, 3, 4] h1 h') := by
            intro v ev g1 q
            subst ev
            have d1 : am_gi g1 216 0 = am_gi h 216 0 := by rw [(q.2.ex.ag (t := 1) (by decide) 216 0 rfl).1]; exact et
            refine ⟨q.2.lay Ly1, Ev.mono (l186 (g := gvG (rR h) nr (zI m) (am_gi h 216 0)) (d := am_gi h 216 0) hx24 _ 0 (Nat.zero_add _) g1 (q.2.lay Ly1) (q.1.cg (fun k i _ _ => (gEA_o (by omega)).symm)) d1) (by decide) (fun r h' p => ?_)⟩
            obtain ⟨p1, g2, p2, p3, p4⟩ := p
            rw [hm'] at p4
            refine ⟨p1, ⟨h1, g2, E1, p2, q.2.tr p3, p4⟩, ?_⟩
            rw [p4]
            exact ((q.2.tr p3).wk (by decide)).tr ((((OM.rf [2, 3, 4] g2).si (a := 224) (k := m) (by omega) (tpm (t := 3) rfl (by decide))).si (a := 225) (k := m) (by omega) (tpm (t := 3) rfl (by decide))).si (a := 226) (k := m) (by omega) (tpm (t := 3) rfl (by decide)))
          refine Cl.i (p185 Ly1 V1 (zI m)) (by decide) Ly1 ⟨fun z => Cl.qi (m184 Ly1 V1 (zI m) et hr) (by decide) (fin _ rfl), fun z => ⟨fun _ => Cl.qi (m184 Ly1 V1 (zI m) et hr) (by decide) (fin _ rfl), fun y => absurd ?_ y⟩⟩
          rw [bI_n0, et] at z
          rw [V1.2.1]
          exact fun e => absurd ((zI_inj (m := nr) (n := 60) (by omega) (by decide)).mp e) (by have := hr z; omega)
        · -- both
          rintro h1 h2 ⟨v1, g1, o1, f1⟩ E1 ⟨_, g2, o0, v2, o2, rfl⟩ E2
          have E := E1.ex.tr E2.ex
          have ed : am_gi (am_si (am_si (am_si g2 224 m (am_gi h 216 0)) 225 m (-1)) 226 m 0) 216 0 = am_gi h 216 0 := (E.ag (t := 1) (by decide) 216 0 rfl).1
          have VMf : vMR (am_si (am_si (am_si g2 224 m (am_gi h 216 0)) 225 m (-1)) 226 m 0) _ _ := vMR.si (vMR.si (vMR.si v2 (by omega)) (by omega)) (by omega)
          have g2h : ∀ a k, 216 ≤ a → a < 263 → tp a k ≠ 4 → am_gi g2 a k = am_gi h a k ∧ am_gl g2 a k = am_gl h a k := fun a k q1 q2 q3 => by
            have w1 := o2.2 a k (Or.inr (fun z => q3 (List.mem_singleton.mp z)))
            have w2 := o0.2 a k (Or.inl ⟨q1, q2⟩)
            exact ⟨w1.1.trans w2.1, w1.2.trans w2.2⟩
          have cls : ∀ a k, a < 216 → am_gi (am_si (am_si (am_si g2 224 m (am_gi h 216 0)) 225 m (-1)) 226 m 0) a k = am_gi h1 a k ∧ am_gl (am_si (am_si (am_si g2 224 m (am_gi h 216 0)) 225 m (-1)) 226 m 0) a k = am_gl h1 a k := fun a k q => E2.2 a k (Or.inl (Or.inl q))
          have eo : ∀ i, am_gi (am_si (am_si (am_si g2 224 m (am_gi h 216 0)) 225 m (-1)) 226 m 0) 220 i = am_gi h 220 i := fun i => by rw [gi_ne (by omega), gi_ne (by omega), gi_ne (by omega)]; exact (g2h 220 i (by decide) (by decide) (by show (2 : Nat) ≠ 4; decide)).1
          have kk : ∀ r, r < nr → gEA (gvG (rR h) nr (zI m) (am_gi h 216 0)) (gvN (rR h) nr (zI m) (am_gi h 216 0)) (zI m) (am_gi h 216 0) 0 r = rR h 0 r ∧ gEA (gvG (rR h) nr (zI m) (am_gi h 216 0)) (gvN (rR h) nr (zI m) (am_gi h 216 0)) (zI m) (am_gi h 216 0) 1 r = rR h 1 r := fun r hr2 => ⟨by rw [gEA_o (by omega), gvG_o hr2 (by decide)], by rw [gEA_o (by omega), gvG_o hr2 (by decide)]⟩
          have hm1 : ∀ i k, i < 24 → k < 6 → am_gi h1 (124 + i) k = (if i = m ∧ k = 2 then am_gi h 216 0 else if i = m ∧ k = 3 then -1 else if i = m ∧ k = 4 then 0 else am_gi h (124 + i) k) ∧ am_gl h1 (124 + i) k = am_gl h (124 + i) k := fun i k q1 q2 => by
            have w := f1.1.ex.ag (t := 3) (by decide) (124 + i) k (tp_member q1)
            have w2 := o1.ex.ag (t := 3) (by decide) (124 + i) k (tp_member q1)
            refine ⟨w.1.trans ?_, w.2.trans w2.2⟩
            rw [am_si_gi, am_si_gi, am_si_gi, w2.1]
            by_cases him : i = m
            · subst him
              rcases (show k = 2 ∨ k = 3 ∨ k = 4 ∨ (k ≠ 2 ∧ k ≠ 3 ∧ k ≠ 4) by omega) with rfl | rfl | rfl | ⟨n2, n3, n4⟩
              · rw [if_neg (by omega), if_neg (by omega), if_pos ⟨rfl, rfl⟩, if_pos ⟨rfl, rfl⟩]
              · rw [if_neg (by omega), if_pos ⟨rfl, rfl⟩, if_neg (by omega), if_pos ⟨rfl, rfl⟩]
              · rw [if_pos ⟨rfl, rfl⟩, if_neg (by omega), if_neg (by omega), if_pos ⟨rfl, rfl⟩]
              · rw [if_neg (by omega), if_neg (by omega), if_neg (by omega), if_neg (by omega), if_neg (by omega), if_neg (by omega)]
            · rw [if_neg (by omega), if_neg (by omega), if_neg (by omega), if_neg (by omega), if_neg (by omega), if_neg (by omega)]
          have n64 : am_gi h1 6 4 = am_gi h 6 4 := by
            rw [(f1.1.ex.ag (t := 3) (by decide) 6 4 rfl).1, gi_ne (by omega), gi_ne (by omega), gi_ne (by omega)]; exact (o1.ex.ag (t := 3) (by decide) 6 4 rfl).1
          have homes : ∀ i k, i < 12 → am_gi (am_si (am_si (am_si g1 (124 + m) 2 (am_gi h 216 0)) (124 + m) 3 (-1)) (124 + m) 4 0) (112 + i) k = am_gi h (112 + i) k := fun i k q => by
            rw [gi_ne (by omega), gi_ne (by omega), gi_ne (by omega)]; exact (o1.ex.ag (t := 2) (by decide) (112 + i) k (tp_home q)).1
          have n62 : am_gi h1 6 2 = am_gi h 6 2 := by
            rw [f1.2.1, gi_ne (by omega), gi_ne (by omega), gi_ne (by omega)]; exact (o1.ex.ag (t := 2) (by decide) 6 2 rfl).1
          refine ⟨nh, nm, gvN (rR h) nr (zI m) (am_gi h 216 0), na, nt, nc, I.up E (g2 := Or.inr ?_) (g3 := Or.inr ?_) (g4 := Or.inr (IRi.mk (v1.om E2) VMf)) (gx1 := Or.inr ?_) (gx2 := Or.inr ?_) (gx3 := Or.inr (IX3.mk VMf (gv.1.ea _ _ _) ed)) (gx4 := Or.inr (IX4.mk VMf (gv.2.1.ea _ _ _) ed eo)) (g11 := Or.inr (I.itr.rt E gn.1 (by decide) (by decide) (fun r hr2 => ⟨(VMf.rR (i := r) (k := 0) (by omega) (by decide)).trans (kk r hr2).1, (VMf.rR (i := r) (k := 1) (by omega) (by decide)).trans (kk r hr2).2⟩)))⟩
          · refine ⟨b1, by rw [(cls 6 2 (by decide)).1, n62]; exact I.iho.2.1, ?_, fun i hi => ?_, fun i hi => ?_⟩
            · rw [gi_ne (by omega), gi_ne (by omega), gi_ne (by omega), (g2h 216 1 (by decide) (by decide) (by decide)).1]; exact I.iho.2.2.1
            · rw [(cls _ 3 (by omega)).1, f1.2.2.1 i 3 hi (by decide), homes i 3 hi, eo]; exact I.iho.2.2.2.1 i hi
            · rw [(cls _ 0 (by omega)).1, (cls _ 1 (by omega)).1, (cls _ 2 (by omega)).1, f1.2.2.1 i 0 (by omega) (by decide), f1.2.2.1 i 1 (by omega) (by decide), f1.2.2.1 i 2 (by omega) (by decide), homes i 0 (by omega), homes i 1 (by omega), homes i 2 (by omega)]
              have w : ∀ a, 217 ≤ a → a < 220 → am_gi (am_si (am_si (am_si g2 224 m (am_gi h 216 0)) 225 m (-1)) 226 m 0) a i = am_gi h a i := fun a q1 q2 => by
                rw [gi_ne (by omega), gi_ne (by omega), gi_ne (by omega)]
                refine (g2h a i (by omega) (by omega) ?_).1
                rcases (show a = 217 ∨ a = 218 ∨ a = 219 by omega) with rfl | rfl | rfl <;> (show (2 : Nat) ≠ 4; decide)
              rw [w 217 (by decide) (by decide), w 218 (by decide) (by decide), w 219 (by decide) (by decide)]
              exact I.iho.2.2.2.2 i hi
          · have w : ∀ a i, 222 ≤ a → a < 228 → am_gi g2 a i = am_gi h a i ∧ am_gl g2 a i = am_gl h a i := fun a i q1 q2 => by
              refine g2h a i (by omega) (by omega) ?_
              rcases (show a = 222 ∨ a = 223 ∨ a = 224 ∨ a = 225 ∨ a = 226 ∨ a = 227 by omega) with rfl | rfl | rfl | rfl | rfl | rfl <;> (show (3 : Nat) ≠ 4; decide)
            refine ⟨b2, by rw [(cls 6 4 (by decide)).1, n64]; exact I.ime.2.1, ?_, fun i hi => ?_, fun i hi => ?_, fun i h1' hi => ?_⟩
            · rw [gi_ne (by omega), gi_ne (by omega), gi_ne (by omega), (g2h 216 7 (by decide) (by decide) (by decide)).1]; exact I.ime.2.2.1
            · have q := I.ime.2.2.2.1 i hi
              rw [(cls _ 4 (by omega)).1, (cls _ 5 (by omega)).2, (hm1 i 4 hi (by decide)).1, (hm1 i 5 hi (by decide)).2, gl_si, gl_si, gl_si, (w 227 i (by decide) (by decide)).2]
              by_cases him : i = m
              · subst him; rw [if_neg (by omega), if_neg (by omega), if_pos ⟨rfl, rfl⟩, gi_eq]; exact ⟨rfl, Int.le_refl _, q.2.2⟩
              · rw [if_neg (by omega), if_neg (by omega), if_neg (by omega), gi_ne (by omega), gi_ne (by omega), gi_ne (by omega), (w 226 i (by decide) (by decide)).1]; exact q
            · have q := I.ime.2.2.2.2.1 i hi
              rw [(cls _ 0 (by omega)).1, (cls _ 1 (by omega)).1, (cls _ 2 (by omega)).1, (cls _ 3 (by omega)).1, (hm1 i 0 (by omega) (by decide)).1, (hm1 i 1 (by omega) (by decide)).1, (hm1 i 2 (by omega) (by decide)).1, (hm1 i 3 (by omega) (by decide)).1]
              by_cases him : i = m
              · subst him
                (repeat (first | rw [gi_eq] | rw [gl_eq] | rw [gi_ne (by omega)] | rw [gl_ne (by omega)] | rw [gi_sl] | rw [gl_si]))
                rw [(w 222 i (by decide) (by decide)).1, (w 223 i (by decide) (by decide)).1]
                rw [if_neg (by omega), if_neg (by omega), if_neg (by omega), if_neg (by omega), if_neg (by omega), if_neg (by omega), if_pos ⟨rfl, rfl⟩, if_neg (by omega), if_pos ⟨rfl, rfl⟩]
                exact ⟨q.1, q.2.1, rfl, rfl⟩
              · (repeat (first | rw [gi_eq] | rw [gl_eq] | rw [gi_ne (by omega)] | rw [gl_ne (by omega)] | rw [gi_sl] | rw [gl_si]))
                rw [(w 222 i (by decide) (by decide)).1, (w 223 i (by decide) (by decide)).1, (w 224 i (by decide) (by decide)).1, (w 225 i (by decide) (by decide)).1]
                rw [if_neg (by omega), if_neg (by omega), if_neg (by omega), if_neg (by omega), if_neg (by omega), if_neg (by omega), if_neg (by omega), if_neg (by omega), if_neg (by omega), if_neg (by omega), if_neg (by omega), if_neg (by omega)]
                exact q
            · have q := I.ime.2.2.2.2.2 i h1' hi
              rw [(cls _ 2 (by omega)).1, (cls _ 3 (by omega)).1, (hm1 i 2 hi (by decide)).1, (hm1 i 3 hi (by decide)).1, if_neg (by omega), if_neg (by omega), if_neg (by omega), if_neg (by omega), if_neg (by omega), if_neg (by omega)]; exact q
          · intro j hj
            have q := I.ix1 j hj
            rw [ed]
            have w : ∀ a, 223 ≤ a → a < 226 → am_gi g2 a j = am_gi h a j := fun a q1 q2 => by
              refine (g2h a j (by omega) (by omega) ?_).1
              rcases (show a = 223 ∨ a = 224 ∨ a = 225 by omega) with rfl | rfl | rfl <;> (show (3 : Nat) ≠ 4; decide)
            by_cases hjm : j = m
            · subst hjm
              (repeat (first | rw [gi_eq] | rw [gl_eq] | rw [gi_ne (by omega)] | rw [gl_ne (by omega)] | rw [gi_sl] | rw [gl_si]))
              rw [w 223 (by decide) (by decide)]
              exact ⟨q.1, Or.inr (Int.le_refl _), Or.inr rfl⟩
            · (repeat (first | rw [gi_eq] | rw [gl_eq] | rw [gi_ne (by omega)] | rw [gl_ne (by omega)] | rw [gi_sl] | rw [gl_si]))
              rw [w 223 (by decide) (by decide), w 224 (by decide) (by decide), w 225 (by decide) (by decide)]; exact q
          · intro i hi j hj
            by_cases hjm : j = m
            · subst hjm
              refine Or.inl ⟨hm, ?_⟩
              (repeat (first | rw [gi_eq] | rw [gl_eq] | rw [gi_ne (by omega)] | rw [gl_ne (by omega)] | rw [gi_sl] | rw [gl_si]))
              exact fun e => by rw [e] at hd; exact absurd hd (by decide)
            · rw [(cls _ 4 (by omega)).1, f1.2.2.2 i j hi hj hjm, homes i 4 hi]
              (repeat (first | rw [gi_eq] | rw [gl_eq] | rw [gi_ne (by omega)] | rw [gl_ne (by omega)] | rw [gi_sl] | rw [gl_si]))
              rw [(g2h 224 j (by decide) (by decide) (by show (3 : Nat) ≠ 4; decide)).1, (g2h 221 i (by decide) (by decide) (by show (2 : Nat) ≠ 4; decide)).1]
              exact I.ix2 i hi j hj
      · refine OPi.pf I (x := -4) (d := 12) (d' := 12) ?_ ?_
        · refine ws104 _ Ly (Cl.i (p139 Ly (by omega) I.ime.2.1 _) (by decide) Ly ⟨fun _ => Cl.i (p146 I hx) (by decide) Ly ⟨fun _ => ?_, fun z => absurd (bI_n0.mpr he) z⟩, fun z => absurd (bI_n0.mpr hx) z⟩)
          rw [I.ida.1]
          exact Cl.i (p60 Ly VC RVx (inN_n1 hx) _) (by decide) Ly (Cl.i (p54b Ly b3 I.iri.2.1 _) (by decide) Ly ⟨fun z => absurd (bI_n0.mp z) hr, fun _ => ⟨rfl, rfl⟩⟩)
        · have jt : JT (rR h) nr x (am_gi h 216 0) := Decidable.byContradiction fun z => hr (fun y => absurd y z)
          refine ws186 _ Ly (Cl.i (p169 Ly (n := nm) (by omega) I.ime.2.2.1 _) (by decide) Ly ⟨fun _ => Cl.i (p170 Ly (in_N hx b2)) (by decide) Ly ⟨fun _ => Cl.i (p185 Ly VM x) (by decide) Ly ⟨fun z => absurd jt (bI_0.mp z), fun _ => ⟨fun z => absurd ?_ z, fun _ => ⟨rfl, rfl⟩⟩⟩, fun z => absurd (bI_n0.mpr he) z⟩, fun z => absurd (bI_n0.mpr hx) z⟩)
          rw [VM.2.1]
          refine (zI_inj (m := nr) (n := 60) (by omega) (by decide)).mpr ?_
          have : ¬ nr < 60 := fun z => hr (fun _ => z)
          omega
    · refine OPi.pf I (x := -3) (d := 12) (d' := 12) ?_ ?_
      · exact ws104 _ Ly (Cl.i (p139 Ly (by omega) I.ime.2.1 _) (by decide) Ly ⟨fun _ => Cl.i (p146 I hx) (by decide) Ly ⟨fun z => absurd (bI_n0.mp z) he, fun _ => ⟨rfl, rfl⟩⟩, fun z => absurd (bI_n0.mpr hx) z⟩)
      · exact ws186 _ Ly (Cl.i (p169 Ly (n := nm) (by omega) I.ime.2.2.1 _) (by decide) Ly ⟨fun _ => Cl.i (p170 Ly (in_N hx b2)) (by decide) Ly ⟨fun z => absurd (bI_n0.mp z) he, fun _ => ⟨rfl, rfl⟩⟩, fun z => absurd (bI_n0.mpr hx) z⟩)
  · refine OPi.pf I (x := -2) (d := 12) (d' := 12) ?_ ?_
    · exact ws104 _ Ly (Cl.i (p139 Ly (by omega) I.ime.2.1 _) (by decide) Ly ⟨fun z => absurd (bI_n0.mp z) hx, fun _ => ⟨rfl, rfl⟩⟩)
    · exact ws186 _ Ly (Cl.i (p169 Ly (n := nm) (by omega) I.ime.2.2.1 _) (by decide) Ly ⟨fun z => absurd (bI_n0.mp z) hx, fun _ => ⟨rfl, rfl⟩⟩)
