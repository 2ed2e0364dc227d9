/-! take: it is taken -/
def MN (h h' : AH) : Prop := ∀ a k, 216 ≤ a → a < 263 → tp a k ≠ 0 → am_gi h' a k = am_gi h a k ∧ am_gl h' a k = am_gl h a k
theorem Ex.mn {h h' : AH} (E : Ex [0] h h') : MN h h' := fun a k _ _ e => E.2 a k (fun z => e (List.mem_singleton.mp z))
theorem OC.mn {ts : List Nat} {h h' : AH} (E : OC ts h h') : MN h h' := fun a k h1 h2 _ => E.2 a k (Or.inl ⟨h1, h2⟩)
theorem MN.tr {h h1 h2 : AH} (A : MN h h1) (B : MN h1 h2) : MN h h2 := fun a k x y z => ⟨(B a k x y z).1.trans (A a k x y z).1, (B a k x y z).2.trans (A a k x y z).2⟩
theorem tne {a k : Nat} (z : (a = 216 ∧ k = 0) ∨ (217 ≤ a ∧ a ≤ 219) ∨ (222 ≤ a ∧ a ≤ 227) ∨ (237 ≤ a ∧ a ≤ 243)) : tp a k ≠ 0 := by
  rcases z with ⟨rfl, rfl⟩ | z | z | z
  · decide
  · rcases (show a = 217 ∨ a = 218 ∨ a = 219 by omega) with rfl | rfl | rfl <;> (show (2 : Nat) ≠ 0; decide)
  · rcases (show a = 222 ∨ a = 223 ∨ a = 224 ∨ a = 225 ∨ a = 226 ∨ a = 227 by omega) with rfl | rfl | rfl | rfl | rfl | rfl <;> (show (3 : Nat) ≠ 0; decide)
  · rcases (show a = 237 ∨ a = 238 ∨ a = 239 ∨ a = 240 ∨ a = 241 ∨ a = 242 ∨ a = 243 by omega) with rfl | rfl | rfl | rfl | rfl | rfl | rfl <;> (show (6 : Nat) ≠ 0; decide)
theorem MN.pc {h h' : AH} (E : MN h h') : PC h h' := fun a k z => E a k (by omega) (by omega) (tne z)
theorem MN.vm {h h' : AH} (E : MN h h') {n : Nat} {g : Nat → Nat → Int32} (V : vMR h n g) : vMR h' n g := ⟨V.1, by rw [(E 216 14 (by decide) (by decide) (by decide)).1]; exact V.2.1, fun i hi k hk => by rw [(E (228 + k) i (by omega) (by omega) (by rw [tp_rr hk]; decide)).1]; exact V.2.2 i hi k hk⟩
theorem MN.im {L : Nat} {xs : Nat → Int32} {c : Nat} {h h' : AH} {nh nm nr na nt nc : Nat} (E : MN h h') (I : InvM L xs c h nh nm nr na nt nc) (Ly : Lay h') : InvM L xs c h' nh nm nr na nt nc := I.mv Ly (E 216 7 (by decide) (by decide) (by decide)).1 (E 216 23 (by decide) (by decide) (by decide)).1 (fun a k q1 q2 => (E.pc a k (by omega)).1)
theorem Ex.vc {h h' : AH} (E : Ex [0] h h') {n : Nat} {g : Nat → Nat → Int32} (V : vCR h n g) : vCR h' n g := by
  have b := V.1
  have A := E.ag (t := 4) (by decide)
  exact ⟨V.1, by rw [(A 9 1 rfl).1]; exact V.2.1, fun i hi k hk => by rw [(A (11 + i) k (tp_right (by omega))).1]; exact V.2.2 i hi k hk⟩
theorem take_yes {L : Nat} {xs : Nat → Int32} {c : Nat} {h : AH} {nh nm nr na nt nc : Nat} (I : InvN L xs c h nh nm nr na nt nc) {j m : Nat} (hj : j < nh) (hm : m < nm) (on : ¬ am_gi h 220 j = 0) (em : oTo h nt nm j = zI m) {y : Int32} (hy : ¬ y = 0) (room : nr + (if JT (rR h) nr (zI m) (am_gi h 216 0) then 2 else 1) ≤ 60) : OPi 121 233 [.int (zI j), .int y] L xs c h := by
  have Ly := I.lay
  have b1 := I.iho.1
  have b2 := I.ime.1
  have b3 := I.iri.1
  have VC := vCR.of I.iri
  have VM := vMR.of I.iri
  have W := RW.of I.ix3
  have RVx := I.ix3.rv
  have hd := I.ida.2.1
  have hx : inN (zI j) nh := inN_zI hj (by omega)
  have hxm : inN (zI m) nm := inN_zI hm (by omega)
  have i12 : am_in (zI j) 12 := in_zI (by omega) (by decide)
  have i24 : am_in (zI m) 24 := in_zI (by omega) (by decide)
  have tj : Int32.toNatClampNeg (zI j) = j := zI_tn (by omega)
  have tm : Int32.toNatClampNeg (zI m) = m := zI_tn (by omega)
  have nm1 : ¬ zI m = -1 := zI_ne1 (by omega)
  obtain ⟨T, hT⟩ : ∃ T, T = am_gi h 216 0 := ⟨_, rfl⟩
  rw [← hT] at room
  have hr : JT (rR h) nr (zI m) T → nr < 60 := fun z => by rw [if_pos z] at room; omega
  have gv := gv_all (w := zI m) W (RO.of I.ix4) hd b3
  rw [← hT] at gv
  have gn := gvN_le (g := rR h) (n := nr) (w := zI m) (d := T)
  have gn60 : gvN (rR h) nr (zI m) T < 60 := by
    by_cases z : JT (rR h) nr (zI m) T
    · have e : gvN (rR h) nr (zI m) T = nr + 1 := if_pos z
      rw [if_pos z] at room; omega
    · have e : gvN (rR h) nr (zI m) T = nr := if_neg z
      rw [if_neg z] at room; omega
  obtain ⟨G, hG⟩ : ∃ G, G = gAdd (gvG (rR h) nr (zI m) T) (gvN (rR h) nr (zI m) T) 0 (zI j) (zI m) (-1) T (-1) := ⟨_, rfl⟩
  refine OPi.ce (d := 12) (d' := 12) (ts := [0, 2, 3, 4]) (v := zI (gvN (rR h) nr (zI m) T)) (P1 := fun h' => vCR h' (gvN (rR h) nr (zI m) T + 1) G ∧ MN h h' ∧ ∀ a k, a < 216 → (tp a k = 2 ∨ tp a k = 3) → am_gi h' a k = (if a = 124 + m ∧ k = 3 then -1 else if a = 112 + j ∧ k = 3 then 0 else am_gi h a k) ∧ am_gl h' a k = am_gl h a k) I ?_ ?_
  · refine ws121 _ _ Ly (Cl.i (p138 Ly (by omega) I.iho.2.1 _) (by decide) Ly ⟨fun _ => Cl.qi (c159 I hj) (by decide) (fun g0 p0 => ⟨p0.lay Ly, fun _ => ⟨fun _ => ?_, fun z => absurd hy z⟩, fun z => absurd (by rw [em]; exact nm1) z⟩), fun z => absurd (bI_n0.mpr hx) z⟩)
    have I0 := I.keep p0
    have L0 := I0.lay
    have d0 : am_gi g0 6 0 = T := by rw [hT, (p0.ag (t := 1) (by decide) 6 0 rfl).1]; exact I.ida.1
    have V0 : vCR g0 nr (rR h) := p0.vc VC
    rw [em, d0]
    refine Cl.i (p60 L0 V0 RVx nm1 _) (by decide) L0 (Cl.i (p54c L0 b3 V0.2.1 _) (by decide) L0 ⟨fun _ => ?_, fun z => absurd (bI_n0.mpr room) z⟩)
    rw [d0]
    refine Cl.qi (c61 L0 V0 RVx nm1 _ hr) (by decide) (fun g1 p1 => ⟨p1.2.lay L0, i24, ?_⟩)
    rw [tm, tj]
    have L1 := p1.2.lay L0
    intro k1 e1; subst e1
    refine ⟨i12, ?_⟩
    intro k2 e2; subst e2
    have d2 : am_gi (am_si (am_si g1 (124 + m) 3 (-1)) (112 + j) 3 0) 6 0 = T := by (repeat (first | rw [gi_eq] | rw [gl_eq] | rw [gi_ne (by omega)] | rw [gl_ne (by omega)] | rw [gi_sl] | rw [gl_si])); rw [(p1.2.ex.ag (t := 1) (by decide) 6 0 rfl).1]; exact d0
    rw [d2]
    have V2 : vCR (am_si (am_si g1 (124 + m) 3 (-1)) (112 + j) 3 0) (gvN (rR h) nr (zI m) T) (gvG (rR h) nr (zI m) T) := vCR.si (vCR.si p1.1 (by omega)) (by omega)
    have O2 : OC [0, 2, 3, 4] g1 (am_si (am_si g1 (124 + m) 3 (-1)) (112 + j) 3 0) := ((OC.rf [0, 2, 3, 4] g1).si (a := 124 + m) (k := 3) (by omega) (tpm (tp_member (by omega)) (by decide))).si (a := 112 + j) (k := 3) (by omega) (tpm (tp_home (by omega)) (by decide))
    refine Cl.qi (c55 ((L1.si _ _ _).si _ _ _) V2 gn60 _ _ _ _ _ _) (by decide) (fun g4 p4 => ⟨p4.2.lay ((L1.si _ _ _).si _ _ _), rfl, ⟨?_, ?_, fun a k ha ht => ?_⟩, ?_⟩)
    · rw [hG]; exact p4.1
    · exact ((p0.mn.tr p1.2.mn).tr O2.mn).tr p4.2.mn
    · have t4 : tp a k ≠ 4 := by rcases ht with e | e <;> (rw [e]; decide)
      have t0 : tp a k ≠ 0 := by rcases ht with e | e <;> (rw [e]; decide)
      have f4 := p4.2.2 a k (Or.inr (fun z => t4 (List.mem_singleton.mp z)))
      have f1 := p1.2.2 a k (Or.inr (fun z => t4 (List.mem_singleton.mp z)))
      have f0 := p0.2 a k (fun z => t0 (List.mem_singleton.mp z))
      refine ⟨?_, by rw [f4.2, gl_si, gl_si, f1.2, f0.2]⟩
      rw [f4.1, am_si_gi, am_si_gi, f1.1, f0.1]
      by_cases z1 : a = 124 + m ∧ k = 3
      · rw [if_neg (by omega), if_pos z1, if_pos z1]
      · rw [if_neg z1, if_neg z1]
    · exact ((p0.wk (by decide)).tr (p1.2.ex.wk (by decide))).tr (O2.ex.tr (p4.2.ex.wk (by decide)))
  · rintro h1 ⟨V1, N1, H1⟩ E Ly1
    have VM1 := N1.vm VM
    have M1 := N1.im I.m Ly1
    have e0 : am_gi h1 216 0 = T := by rw [hT]; exact (N1 216 0 (by decide) (by decide) (by decide)).1
    have eo : oTo h1 nt nm j = zI m := by
      rw [oTo_pc N1.pc nt nm j (N1 220 j (by decide) (by decide) (by show (2 : Nat) ≠ 0; decide)).1 (N1 221 j (by decide) (by decide) (by show (2 : Nat) ≠ 0; decide)).1]; exact em
    refine ws233 _ _ Ly1 (Cl.i (p168 Ly1 (n := nh) (by omega) (by rw [(N1 216 1 (by decide) (by decide) (by decide)).1]; exact I.iho.2.2.1) _) (by decide) Ly1 ⟨fun _ => Cl.qi (m231_m M1 (by omega)) (by decide) (fun g p => ⟨p.lay Ly1, fun _ => ⟨fun _ => ?_, fun z => absurd hy z⟩, fun z => absurd (by rw [eo]; exact nm1) z⟩), fun z => absurd (bI_n0.mpr hx) z⟩)
    have Lg := p.lay Ly1
    have Vg : vMR g nr (rR h) := VM1.om p.om (by decide)
    have eg : am_gi g 216 0 = T := by rw [(p.2 216 0 (by decide)).1]; exact e0
    rw [eo, Vg.2.1]
    have fin : ∀ s1 : Int32, s1 = (if JT (rR h) nr (zI m) T then 2 else 1) → Ev 12 233 64 [.ref 216, .int (zI j), .null, .int (zI m)] [.int s1, .int (zI nr)] g (fun r h' => r = some (.int (zI (gvN (rR h) nr (zI m) T))) ∧ Inv L xs (c + 1) h') := by
      intro s1 es
      have rm : zI nr + s1 ≤ 60 := by
        rw [es]
        by_cases z : JT (rR h) nr (zI m) T
        · rw [if_pos z] at room ⊢
          rw [show (2 : Int32) = zI 2 from rfl, zI_add]; exact (zI_le (n := 60) (by omega) (by decide)).mpr room
        · rw [if_neg z] at room ⊢
          rw [show (1 : Int32) = zI 1 from rfl, zI_add]; exact (zI_le (n := 60) (by omega) (by decide)).mpr room
      refine ws233_64 _ _ _ _ Lg ⟨fun _ => Cl.qi (m184 Lg Vg (zI m) eg hr) (by decide) (fun g1 p1 => ⟨p1.2.lay Lg, i24, ?_⟩), fun z => absurd rm z⟩
      have L1 := p1.2.lay Lg
      rw [tm, tj]
      intro k1 e1; subst e1
      refine ⟨i12, ?_⟩
      intro k2 e2; subst e2
      have d2 : am_gi (am_si (am_si g1 225 m (-1)) 220 j 0) 216 0 = T := by (repeat (first | rw [gi_eq] | rw [gl_eq] | rw [gi_ne (by omega)] | rw [gl_ne (by omega)] | rw [gi_sl] | rw [gl_si])); rw [(p1.2.ex.ag (t := 1) (by decide) 216 0 rfl).1]; exact eg
      have V2 : vMR (am_si (am_si g1 225 m (-1)) 220 j 0) (gvN (rR h) nr (zI m) T) (gvG (rR h) nr (zI m) T) := vMR.si (vMR.si p1.1 (by omega)) (by omega)
      have O2 : OM [0, 2, 3, 4] g1 (am_si (am_si g1 225 m (-1)) 220 j 0) := ((OM.rf [0, 2, 3, 4] g1).si (a := 225) (k := m) (by omega) (tpm (t := 3) rfl (by decide))).si (a := 220) (k := j) (by omega) (tpm (t := 2) rfl (by decide))
      refine Cl.qi (m175 ((L1.si _ _ _).si _ _ _) V2 gn60 _ _ _ _ _) (by decide) (fun g4 p4 => ⟨p4.2.lay ((L1.si _ _ _).si _ _ _), rfl, ?_⟩)
      have V4 : vMR g4 (gvN (rR h) nr (zI m) T + 1) G := by have q := p4.1; rw [d2] at q; rw [hG]; exact q
      have O4 : OM [0, 2, 3, 4] h1 g4 := ((p.om.wk (by decide)).tr (p1.2.wk (by decide))).tr (O2.tr (p4.2.wk (by decide)))
      have E4 : Ex [0, 2, 3, 4] h g4 := E.tr O4.ex
      have ed : am_gi g4 216 0 = am_gi h 216 0 := (E4.ag (t := 1) (by decide) 216 0 rfl).1
      have mc : ∀ a k, 216 ≤ a → a < 263 → (tp a k = 2 ∨ tp a k = 3) → am_gi g4 a k = (if a = 225 ∧ k = m then -1 else if a = 220 ∧ k = j then 0 else am_gi h a k) ∧ am_gl g4 a k = am_gl h a k := fun a k x1 x2 ht => by
        have t4 : tp a k ≠ 4 := by rcases ht with e | e <;> (rw [e]; decide)
        have t0 : tp a k ≠ 0 := by rcases ht with e | e <;> (rw [e]; decide)
        have a255 : a ≠ 255 := fun e => t0 (by rw [e]; rfl)
        have f4 := p4.2.2 a k (Or.inr (fun z => t4 (List.mem_singleton.mp z)))
        have f1 := p1.2.2 a k (Or.inr (fun z => t4 (List.mem_singleton.mp z)))
        have fp := p.2 a k a255
        have fn := N1 a k x1 x2 t0
        refine ⟨?_, by rw [f4.2, gl_si, gl_si, f1.2, fp.2, fn.2]⟩
        rw [f4.1, am_si_gi, am_si_gi, f1.1, fp.1, fn.1]
        by_cases z1 : a = 225 ∧ k = m
        · rw [if_neg (by omega), if_pos z1, if_pos z1]
        · rw [if_neg z1, if_neg z1]
      have cc : ∀ a k, a < 216 → (tp a k = 2 ∨ tp a k = 3) → am_gi g4 a k = (if a = 124 + m ∧ k = 3 then -1 else if a = 112 + j ∧ k = 3 then 0 else am_gi h a k) ∧ am_gl g4 a k = am_gl h a k := fun a k x1 ht => by
        have q := O4.2 a k (Or.inl (Or.inl x1))
        rw [q.1, q.2]; exact H1 a k x1 ht
      have th : ∀ i k, i < 12 → tp (112 + i) k = 2 := fun i k hi => tp_home hi
      have tme : ∀ i k, i < 24 → tp (124 + i) k = 3 := fun i k hi => tp_member hi
      have offn : ∀ i, i < gvN (rR h) nr (zI m) T → hoR (gvG (rR h) nr (zI m) T) i T = true → gvG (rR h) nr (zI m) T 1 i ≠ zI j := fun i hi z e => by
        have key : ∀ i', i' < nr → hoR (rR h) i' T = true → rR h 1 i' ≠ zI j := fun i' hi' z' e' => by
          have q := I.ix4 i' hi' (by rw [← hT]; exact z')
          rw [e', tj] at q; exact on q
        by_cases hin : i < nr
        · exact key i hin (gv.2.2.2.1 i hin z) (by rw [← gvG_o (g := rR h) (w := zI m) (d := T) (k := 1) hin (by decide)]; exact e)
        · obtain ⟨j', w1, w2, w3⟩ := gv.2.2.2.2 i (by omega) hi
          exact key j' w1 w2 (by rw [← w3]; exact e)
      have RWf : RW G nh nm (gvN (rR h) nr (zI m) T + 1) T := by
        rw [hG]
        exact gv.1.add ⟨by decide, by decide⟩ hx hxm (Or.inl ⟨by decide, rfl⟩) (fun _ i hi z => ⟨offn i hi z, gv.2.2.1 i hi z, fun e => absurd e (by decide)⟩)
      have o220 : ∀ i, am_gi g4 220 i = if i = j then 0 else am_gi h 220 i := fun i => by
        rw [(mc 220 i (by decide) (by decide) (Or.inl rfl)).1, if_neg (by omega)]
        by_cases hij : i = j
        · rw [if_pos ⟨rfl, hij⟩, if_pos hij]
        · rw [if_neg (fun z => hij z.2), if_neg hij]
      have ROf : RO G (gvN (rR h) nr (zI m) T + 1) T (fun i => if i = j then 0 else am_gi h 220 i) := by
        rw [hG]
        refine RO.add (fun i hi z => ?_) (fun _ => by rw [tj]; exact if_pos rfl)
        show (if _ then _ else _) = _
        split
        · rfl
        · exact gv.2.1 i hi z
      refine ⟨nh, nm, gvN (rR h) nr (zI m) T + 1, na, nt, nc, I.up E4 (g2 := Or.inr ⟨b1, ?_, ?_, fun i hi => ?_, fun i hi => ?_⟩) (g3 := Or.inr ⟨b2, ?_, ?_, fun i hi => ?_, fun i hi => ?_, fun i hi1 hi => ?_⟩) (g4 := Or.inr (IRi.mk (V1.om O4) V4)) (gx1 := Or.inr (fun i hi => ?_)) (gx2 := Or.inr (fun i hi k hk => ?_)) (gx3 := Or.inr (IX3.mk V4 RWf (by rw [ed, hT]))) (gx4 := Or.inr (IX4.mk V4 ROf (by rw [ed, hT]) o220)) (g11 := Or.inr (I.itr.rt E4 (by omega) (by decide) (by decide) (fun r hr2 => ⟨?_, ?_⟩)))⟩
      · rw [(cc 6 2 (by decide) (Or.inl rfl)).1, if_neg (by omega), if_neg (by omega)]; exact I.iho.2.1
      · rw [(mc 216 1 (by decide) (by decide) (Or.inl rfl)).1, if_neg (by omega), if_neg (by omega)]; exact I.iho.2.2.1
      · rw [(cc (112 + i) 3 (by omega) (Or.inl (th i 3 hi))).1, o220, if_neg (by omega)]
        by_cases hij : i = j
        · subst hij; rw [if_pos ⟨rfl, rfl⟩, if_pos rfl]; exact ⟨rfl, Or.inl rfl⟩
        · rw [if_neg (by omega), if_neg hij]; exact I.iho.2.2.2.1 i hi
      · rw [(cc (112 + i) 0 (by omega) (Or.inl (th i 0 (by omega)))).1, (cc (112 + i) 1 (by omega) (Or.inl (th i 1 (by omega)))).1, (cc (112 + i) 2 (by omega) (Or.inl (th i 2 (by omega)))).1, (mc 217 i (by decide) (by decide) (Or.inl rfl)).1, (mc 218 i (by decide) (by decide) (Or.inl rfl)).1, (mc 219 i (by decide) (by decide) (Or.inl rfl)).1]
        rw [if_neg (by omega), if_neg (by omega), if_neg (by omega), if_neg (by omega), if_neg (by omega), if_neg (by omega), if_neg (by omega), if_neg (by omega), if_neg (by omega), if_neg (by omega), if_neg (by omega), if_neg (by omega)]
        exact I.iho.2.2.2.2 i hi
      · rw [(cc 6 4 (by decide) (Or.inr rfl)).1, if_neg (by omega), if_neg (by omega)]; exact I.ime.2.1
      · rw [(mc 216 7 (by decide) (by decide) (Or.inr rfl)).1, if_neg (by omega), if_neg (by omega)]; exact I.ime.2.2.1
      · rw [(cc (124 + i) 4 (by omega) (Or.inr (tme i 4 hi))).1, (cc (124 + i) 5 (by omega) (Or.inr (tme i 5 hi))).2, (mc 226 i (by decide) (by decide) (Or.inr rfl)).1, (mc 227 i (by decide) (by decide) (Or.inr rfl)).2, if_neg (by omega), if_neg (by omega), if_neg (by omega), if_neg (by omega)]
        exact I.ime.2.2.2.1 i hi
      · have q := I.ime.2.2.2.2.1 i hi
        rw [(cc (124 + i) 0 (by omega) (Or.inr (tme i 0 (by omega)))).1, (cc (124 + i) 1 (by omega) (Or.inr (tme i 1 (by omega)))).1, (cc (124 + i) 2 (by omega) (Or.inr (tme i 2 (by omega)))).1, (cc (124 + i) 3 (by omega) (Or.inr (tme i 3 (by omega)))).1, (mc 222 i (by decide) (by decide) (Or.inr rfl)).1, (mc 223 i (by decide) (by decide) (Or.inr rfl)).1, (mc 224 i (by decide) (by decide) (Or.inr rfl)).1, (mc 225 i (by decide) (by decide) (Or.inr rfl)).1]
        refine ⟨?_, ?_, ?_, ?_⟩
        · rw [if_neg (by omega), if_neg (by omega), if_neg (by omega), if_neg (by omega)]; exact q.1
        · rw [if_neg (by omega), if_neg (by omega), if_neg (by omega), if_neg (by omega)]; exact q.2.1
        · rw [if_neg (by omega), if_neg (by omega), if_neg (by omega), if_neg (by omega)]; exact q.2.2.1
        · by_cases him : i = m
          · subst him; rw [if_pos ⟨rfl, rfl⟩, if_pos ⟨rfl, rfl⟩]
          · rw [if_neg (by omega), if_neg (by omega), if_neg (by omega), if_neg (by omega)]; exact q.2.2.2
      · rw [(cc (124 + i) 2 (by omega) (Or.inr (tme i 2 hi))).1, (cc (124 + i) 3 (by omega) (Or.inr (tme i 3 hi))).1, if_neg (by omega), if_neg (by omega), if_neg (by omega), if_neg (by omega)]
        exact I.ime.2.2.2.2.2 i hi1 hi
      · have q := I.ix1 i hi
        rw [ed, (mc 223 i (by decide) (by decide) (Or.inr rfl)).1, (mc 224 i (by decide) (by decide) (Or.inr rfl)).1, (mc 225 i (by decide) (by decide) (Or.inr rfl)).1]
        rw [if_neg (by omega), if_neg (by omega), if_neg (by omega), if_neg (by omega)]
        by_cases him : i = m
        · subst him; rw [if_pos ⟨rfl, rfl⟩]; exact ⟨q.1, q.2.1, Or.inr rfl⟩
        · rw [if_neg (by omega), if_neg (by omega)]; exact q
      · rw [(cc (112 + i) 4 (by omega) (Or.inl (th i 4 hi))).1, (mc 221 i (by decide) (by decide) (Or.inl rfl)).1, (mc 224 k (by decide) (by decide) (Or.inr rfl)).1, if_neg (by omega), if_neg (by omega), if_neg (by omega), if_neg (by omega), if_neg (by omega), if_neg (by omega)]
        exact I.ix2 i hi k hk
      · have q : am_gi g4 228 r = G 0 r := V4.2.2 r (by omega) 0 (by decide)
        rw [q, hG, gAdd_o (by omega), gvG_o hr2 (by decide)]; rfl
      · have q : am_gi g4 229 r = G 1 r := V4.2.2 r (by omega) 1 (by decide)
        rw [q, hG, gAdd_o (by omega), gvG_o hr2 (by decide)]; rfl
    refine Cl.i (p185 Lg Vg (zI m)) (by decide) Lg ⟨fun z => ?_, fun z => ?_⟩
    · rw [bI_0, eg] at z
      have := fin 1 (by rw [if_neg z])
      exact this
    · rw [bI_n0, eg] at z
      have := fin 2 (by rw [if_pos z])
      exact this
theorem op_take {L : Nat} {xs : Nat → Int32} {c : Nat} {h : AH} {nh nm nr na nt nc : Nat} (I : InvN L xs c h nh nm nr na nt nc) (x y : Int32) : OPi 121 233 [.int x, .int y] L xs c h := by
  have Ly := I.lay
  have b1 := I.iho.1
  have b3 := I.iri.1
  have b2 := I.ime.1
  by_cases hx : inN x nh
  · obtain ⟨j, hj, rfl⟩ := hx.ex
    by_cases ho : oTo h nt nm j = -1
    · refine OPi.rd I (x := -3) (d := 10) (d' := 10) ?_ (fun h1 E => ?_)
      · exact ws121 _ _ Ly (Cl.i (p138 Ly (by omega) I.iho.2.1 _) (by decide) Ly ⟨fun _ => Cl.qi (c159 I hj) (by decide) (fun g p => ⟨p.lay Ly, fun z => absurd ho z, fun _ => ⟨rfl, p⟩⟩), fun z => absurd (bI_n0.mpr hx) z⟩)
      · have I1 := I.keep E
        exact ws233 _ _ I1.lay (Cl.i (p168 I1.lay (n := nh) (by omega) I1.iho.2.2.1 _) (by decide) I1.lay ⟨fun _ => Cl.qi (m231 I1 (by omega)) (by decide) (fun g p => ⟨p.lay I1.lay, fun z => absurd (by rw [oTo_ex E]; exact ho) z, fun _ => ⟨rfl, p.ex⟩⟩), fun z => absurd (bI_n0.mpr hx) z⟩)
    · obtain ⟨on, m, hm, em, _⟩ := oTo_s ho
      by_cases hy : y = 0
      · subst hy; exact take_no I hj hm on em
      · by_cases room : nr + (if JT (rR h) nr (zI m) (am_gi h 216 0) then 2 else 1) ≤ 60
        · exact take_yes I hj hm on em hy room
        · have nm1 : ¬ zI m = -1 := zI_ne1 (by omega)
          refine OPi.rd I (x := -4) (d := 12) (d' := 12) ?_ (fun h1 E => ?_)
          · refine ws121 _ _ Ly (Cl.i (p138 Ly (by omega) I.iho.2.1 _) (by decide) Ly ⟨fun _ => Cl.qi (c159 I hj) (by decide) (fun g0 p0 => ⟨p0.lay Ly, fun _ => ⟨fun _ => ?_, fun z => absurd hy z⟩, fun z => absurd ho z⟩), fun z => absurd (bI_n0.mpr hx) z⟩)
            have L0 := p0.lay Ly
            have d0 : am_gi g0 6 0 = am_gi h 216 0 := by rw [(p0.ag (t := 1) (by decide) 6 0 rfl).1]; exact I.ida.1
            have V0 : vCR g0 nr (rR h) := p0.vc (vCR.of I.iri)
            rw [em, d0]
            exact Cl.i (p60 L0 V0 I.ix3.rv nm1 _) (by decide) L0 (Cl.i (p54c L0 b3 V0.2.1 _) (by decide) L0 ⟨fun z => absurd (bI_n0.mp z) room, fun _ => ⟨rfl, p0⟩⟩)
          · have I1 := I.keep E
            refine ws233 _ _ I1.lay (Cl.i (p168 I1.lay (n := nh) (by omega) I1.iho.2.2.1 _) (by decide) I1.lay ⟨fun _ => Cl.qi (m231 I1 (by omega)) (by decide) (fun g p => ⟨p.lay I1.lay, fun _ => ⟨fun _ => ?_, fun z => absurd hy z⟩, fun z => absurd (by rw [oTo_ex E]; exact ho) z⟩), fun z => absurd (bI_n0.mpr hx) z⟩)
            have Lg := p.lay I1.lay
            have Vg : vMR g nr (rR h) := (E.tr p.ex).mn.vm (vMR.of I.iri)
            have eg : am_gi g 216 0 = am_gi h 216 0 := ((E.tr p.ex).ag (t := 1) (by decide) 216 0 rfl).1
            rw [oTo_ex E, em, Vg.2.1]
            have no : ∀ s1 : Int32, s1 = (if JT (rR h) nr (zI m) (am_gi h 216 0) then 2 else 1) → Ev 12 233 64 [.ref 216, .int (zI j), .null, .int (zI m)] [.int s1, .int (zI nr)] g (fun r h' => r = some (.int (-4)) ∧ Ex [0] h1 h') := fun s1 es => by
              refine ws233_64 _ _ _ _ Lg ⟨fun z => ?_, fun _ => ⟨rfl, p.ex⟩⟩
              exfalso; apply room
              rw [es] at z
              by_cases w : JT (rR h) nr (zI m) (am_gi h 216 0)
              · rw [if_pos w] at z ⊢
                rw [show (2 : Int32) = zI 2 from rfl, zI_add] at z; exact (zI_le (n := 60) (by omega) (by decide)).mp z
              · rw [if_neg w] at z ⊢
                rw [show (1 : Int32) = zI 1 from rfl, zI_add] at z; exact (zI_le (n := 60) (by omega) (by decide)).mp z
            refine Cl.i (p185 Lg Vg (zI m)) (by decide) Lg ⟨fun z => ?_, fun z => ?_⟩
            · rw [bI_0, eg] at z
              exact no 1 (by rw [if_neg z])
            · rw [bI_n0, eg] at z
              exact no 2 (by rw [if_pos z])
  · refine OPi.pf I (x := -2) (d := 9) (d' := 9) ?_ ?_
    · exact ws121 _ _ Ly (Cl.i (p138 Ly (by omega) I.iho.2.1 _) (by decide) Ly ⟨fun z => absurd (bI_n0.mp z) hx, fun _ => ⟨rfl, rfl⟩⟩)
    · exact ws233 _ _ Ly (Cl.i (p168 Ly (n := nh) (by omega) I.iho.2.2.1 _) (by decide) Ly ⟨fun z => absurd (bI_n0.mp z) hx, fun _ => ⟨rfl, rfl⟩⟩)
