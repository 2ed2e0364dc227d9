/-! CALLS 5: right, join -/
theorem OPi.cm {Mc Mr : Nat} {as : List Value} {L : Nat} {xs : Nat → Int32} {c : Nat} {h : AH} {nh nm nr na nt nc : Nat} {ts : List Nat} {v : Int32} {d d' : Nat} {P1 P2 : AH → Prop} (I : InvN L xs c h nh nm nr na nt nc) (C : Cl d Mc (.ref 6 :: as) h (fun r h' => r = some (.int v) ∧ P1 h' ∧ OC ts h h')) (M : ∀ h1, P1 h1 → OC ts h h1 → Lay h1 → Cl d' Mr (.ref 216 :: as) h1 (fun r h' => r = some (.int v) ∧ P2 h' ∧ OM ts h1 h')) (F : ∀ h1 h2, P1 h1 → OC ts h h1 → P2 h2 → OM ts h1 h2 → Inv L xs (c + 1) h2) (n : 12 ∉ ts := by decide) (hd : d ≤ 700 := by decide) (hd' : d' ≤ 700 := by decide) : OPi Mc Mr as L xs c h :=
  Cl.mono C hd (fun _ h1 q => ⟨v, q.1, q.2.2.lay I.lay, I.ico.ex q.2.2.ex n, Cl.mono (M h1 q.2.1 q.2.2 (q.2.2.lay I.lay)) hd' (fun _ h2 q2 => ⟨q2.1, F h1 h2 q.2.1 q.2.2 q2.2.1 q2.2.2⟩)⟩)
theorem vCR.om {ts : List Nat} {h h' : AH} {n : Nat} {g : Nat → Nat → Int32} (V : vCR h n g) (E : OM ts h h') : vCR h' n g := by
  have b := V.1
  exact ⟨V.1, by rw [E.gi (by omega)]; exact V.2.1, fun i hi k hk => by rw [E.gi (by omega)]; exact V.2.2 i hi k hk⟩
theorem vMR.oc {ts : List Nat} {h h' : AH} {n : Nat} {g : Nat → Nat → Int32} (V : vMR h n g) (E : OC ts h h') : vMR h' n g :=
  ⟨V.1, by rw [E.gi (by omega)]; exact V.2.1, fun i hi k hk => by rw [E.gi (by omega)]; exact V.2.2 i hi k hk⟩
theorem vCR.oc {ts : List Nat} {h h' : AH} {n : Nat} {g : Nat → Nat → Int32} (V : vCR h n g) (E : OC ts h h') (n4 : 4 ∉ ts) : vCR h' n g := by
  have b := V.1
  have A := E.ex.ag n4
  exact ⟨V.1, by rw [(A 9 1 rfl).1]; exact V.2.1, fun i hi k hk => by rw [(A (11 + i) k (tp_right (by omega))).1]; exact V.2.2 i hi k hk⟩
theorem vMR.om {ts : List Nat} {h h' : AH} {n : Nat} {g : Nat → Nat → Int32} (V : vMR h n g) (E : OM ts h h') (n4 : 4 ∉ ts) : vMR h' n g := by
  have A := E.ex.ag n4
  exact ⟨V.1, by rw [(A 216 14 rfl).1]; exact V.2.1, fun i hi k hk => by rw [(A (228 + k) i (tp_rr hk)).1]; exact V.2.2 i hi k hk⟩
/-- only rights have changed -/
theorem InvN.rt {L : Nat} {xs : Nat → Int32} {c : Nat} {h h1 h2 : AH} {nh nm nr na nt nc n' : Nat} {g' : Nat → Nat → Int32} (I : InvN L xs c h nh nm nr na nt nc) (E1 : OC [4] h h1) (E2 : OM [4] h1 h2) (VC : vCR h1 n' g') (VM : vMR h2 n' g') (W : RW g' nh nm n' (am_gi h 216 0)) (O : RO g' n' (am_gi h 216 0) (am_gi h 220)) (hn : nr ≤ n') (K : ∀ r, r < nr → g' 0 r = rR h 0 r ∧ g' 1 r = rR h 1 r) : Inv L xs (c + 1) h2 := by
  have E := E1.ex.tr E2.ex
  have ed : am_gi h2 216 0 = am_gi h 216 0 := (E.ag (t := 1) (by decide) 216 0 rfl).1
  have eo : ∀ i, am_gi h2 220 i = am_gi h 220 i := fun i => (E.ag (t := 2) (by decide) 220 i rfl).1
  exact ⟨nh, nm, n', na, nt, nc, I.up E (g4 := Or.inr (IRi.mk (VC.om E2) VM)) (gx3 := Or.inr (IX3.mk VM W ed)) (gx4 := Or.inr (IX4.mk VM O ed eo)) (g11 := Or.inr (I.itr.rt E hn (by decide) (by decide) (fun r hr => ⟨(VM.rR (i := r) (k := 0) (by omega) (by decide)).trans (K r hr).1, (VM.rR (i := r) (k := 1) (by omega) (by decide)).trans (K r hr).2⟩)))⟩
theorem p145 {h : AH} (Ly : Lay h) (k d : Int32) : PF 0 145 [.int k, .int d] h (.int (bI ((k = 0 ∧ d = 0) ∨ (¬ k = 0 ∧ inR d 1 10000)))) := by
  refine ws145 _ _ Ly ⟨fun a => ⟨fun b => ⟨?_, rfl⟩, fun b => ⟨fun c => ⟨?_, rfl⟩, fun c => ⟨?_, rfl⟩⟩⟩, fun a => ⟨fun b => ⟨?_, rfl⟩, fun b => ⟨?_, rfl⟩⟩⟩
  · rw [bI_f]; exact fun z => z.elim (fun w => a w.1) (fun w => w.2.1 b)
  · rw [bI_f]; exact fun z => z.elim (fun w => a w.1) (fun w => w.2.2 c)
  · rw [bI_t]; exact Or.inr ⟨a, b, c⟩
  · rw [bI_f]; exact fun z => z.elim (fun w => b w.2) (fun w => w.1 (Decidable.not_not.mp a))
  · rw [bI_t]; exact Or.inl ⟨Decidable.not_not.mp a, Decidable.not_not.mp b⟩
/-- what a member holds: the home, or -1 -/
def hHm (g : Nat → Nat → Int32) (n : Nat) (w d : Int32) : Int32 := if fMe g n w d = -1 then -1 else g 1 (fMe g n w d).toNatClampNeg
theorem fMe_in {g : Nat → Nat → Int32} {n : Nat} {w d : Int32} (hn : n ≤ 60) (h : ¬ fMe g n w d = -1) : inN (fMe g n w d) n := by
  obtain ⟨j, hj, e, _, _⟩ := fMe_s h
  rw [e]; exact inN_zI hj (by omega)
theorem p149 {h : AH} (Ly : Lay h) {n : Nat} {g : Nat → Nat → Int32} (V : vCR h n g) (R : RV n g) {w : Int32} (hw : ¬ w = -1) : PF 3 149 [.ref 6, .int w] h (.int (hHm g n w (am_gi h 6 0))) := by
  have b := V.1
  refine ws149 _ Ly (Cl.i (p57 Ly V R hw _) (by decide) Ly ⟨fun z => ⟨in_N (fMe_in V.1 z) b, ?_, rfl⟩, fun z => ⟨?_, rfl⟩⟩)
  · unfold hHm; rw [if_neg z, V.2.2 _ (inN_tn (fMe_in V.1 z)) 1 (by decide)]
  · unfold hHm; rw [if_pos (Decidable.not_not.mp z)]
theorem p147 {h : AH} (Ly : Lay h) {n : Nat} {g : Nat → Nat → Int32} (V : vCR h n g) (w : Int32) : PF 3 147 [.ref 6, .int w] h (.int (bI (fHo g n w (am_gi h 6 0) = -1))) := by
  refine ws147 _ Ly (Cl.i (p56 Ly V _ _) (by decide) Ly ⟨fun z => ⟨?_, rfl⟩, fun z => ⟨?_, rfl⟩⟩)
  · rw [bI_f z]
  · rw [bI_t (Decidable.not_not.mp z)]
def MH (g : Nat → Nat → Int32) (n : Nat) (off k hm x d : Int32) : Prop := (k = 2 ∧ ¬ hHm g n x d = hm) ∨ (¬ k = 2 ∧ hHm g n x d = -1 ∧ fHo g n hm d = -1 ∧ off = 0)
theorem p150 {h : AH} (Ly : Lay h) {n : Nat} {g : Nat → Nat → Int32} (V : vCR h n g) (R : RV n g) {k hm x : Int32} (hw : ¬ x = -1) (hi : am_in hm 12) {p : Prop} [Decidable p] (e : p ↔ MH g n (am_gi h (112 + hm.toNatClampNeg) 3) k hm x (am_gi h 6 0)) : PF 4 150 [.ref 6, .int k, .int hm, .int x] h (.int (bI p)) := by
  refine ws150 _ _ _ Ly (Cl.i (p149 Ly V R hw) (by decide) Ly ⟨fun a => ⟨fun b => ⟨?_, rfl⟩, fun b => Cl.i (p147 Ly V hm) (by decide) Ly ⟨fun c => ⟨?_, rfl⟩, fun c => ⟨hi, fun d => ⟨?_, rfl⟩, fun d => ⟨?_, rfl⟩⟩⟩⟩, fun a => ⟨fun b => ⟨?_, rfl⟩, fun b => ⟨?_, rfl⟩⟩⟩)
  · rw [bI_f]; exact fun z => (e.mp z).elim (fun w => a w.1) (fun w => b w.2.1)
  · rw [bI_f]; exact fun z => (e.mp z).elim (fun w => a w.1) (fun w => bI_0.mp c w.2.2.1)
  · rw [bI_f]; exact fun z => (e.mp z).elim (fun w => a w.1) (fun w => d w.2.2.2)
  · rw [bI_t]; exact e.mpr (Or.inr ⟨a, Decidable.not_not.mp b, bI_n0.mp c, Decidable.not_not.mp d⟩)
  · rw [bI_f]; exact fun z => (e.mp z).elim (fun w => w.2 b) (fun w => w.1 (Decidable.not_not.mp a))
  · rw [bI_t]; exact e.mpr (Or.inl ⟨Decidable.not_not.mp a, b⟩)
theorem hHm_n {g : Nat → Nat → Int32} {nh nm nr : Nat} {d w : Int32} (W : RW g nh nm nr d) (hn : nr ≤ 60) : hHm g nr w d = -1 ↔ fMe g nr w d = -1 := by
  unfold hHm
  by_cases z : fMe g nr w d = -1
  · rw [if_pos z]; exact ⟨fun _ => z, fun _ => rfl⟩
  · rw [if_neg z]
    have q := (W.1 _ (inN_tn (fMe_in hn z))).2.1.1
    refine ⟨fun e => ?_, fun e => absurd e z⟩
    rw [e] at q; exact absurd q (by decide)
theorem m180 {h : AH} (Ly : Lay h) {k hm x d : Int32} {Q : Option Value → AH → Prop} (K : ∀ s0 : Int32, (inR k 0 2 → (¬ s0 = 0 ↔ (k = 0 ∧ d = 0) ∨ (¬ k = 0 ∧ inR d 1 10000))) → Ev 9 180 32 [.ref 216, .int k, .int hm, .int x, .int d, .null, .null] [.int s0] h Q) : Cl 9 180 [.ref 216, .int k, .int hm, .int x, .int d] h Q := by
  refine ws180 _ _ _ _ Ly ⟨fun a => Cl.i (p167 Ly _ _ _) (by decide) Ly (K _ (fun _ => ?_)), fun a => ⟨fun b => ⟨fun e => K _ (fun q => ?_), fun e => K _ (fun q => ?_)⟩, fun b => Cl.i (p167 Ly _ _ _) (by decide) Ly (K _ (fun _ => ?_))⟩⟩
  · rw [bI_n0, a]
    exact ⟨fun z => Or.inr ⟨by decide, z⟩, fun z => z.elim (fun w => absurd w.1 (by decide)) (fun w => w.2)⟩
  · have hk : k = 0 := by
      have q := inR_i q
      rw [i_eq] at a b ⊢
      have e0 : (0 : Int32).toInt = 0 := rfl
      have e1 : (1 : Int32).toInt = 1 := rfl
      have e2 : (2 : Int32).toInt = 2 := rfl
      omega
    exact ⟨fun z => absurd rfl z, fun z => z.elim (fun w => absurd w.2 e) (fun w => absurd hk w.1)⟩
  · have hk : k = 0 := by
      have q := inR_i q
      rw [i_eq] at a b ⊢
      have e0 : (0 : Int32).toInt = 0 := rfl
      have e1 : (1 : Int32).toInt = 1 := rfl
      have e2 : (2 : Int32).toInt = 2 := rfl
      omega
    exact ⟨fun _ => Or.inl ⟨hk, Decidable.not_not.mp e⟩, fun _ => by decide⟩
  · rw [bI_n0, Decidable.not_not.mp b]
    exact ⟨fun z => Or.inr ⟨by decide, z⟩, fun z => z.elim (fun w => absurd w.1 (by decide)) (fun w => w.2)⟩
/-- what the model's right asks, over a heap whose own cells are those of the start -/
theorem m180s {h h1 : AH} {nh nm nr : Nat} {T : Int32} (Ly : Lay h1) (V : vMR h1 nr (rR h)) (eh : am_gi h1 216 1 = zI nh) (em : am_gi h1 216 7 = zI nm) (et : am_gi h1 216 0 = T) (e224 : ∀ i, am_gi h1 224 i = am_gi h 224 i) (e220 : ∀ i, am_gi h1 220 i = am_gi h 220 i) (b1 : nh ≤ 12) (b2 : nm ≤ 24) (W : RW (rR h) nh nm nr T) {k hm x d : Int32} (hk : inR k 0 2) (hh : inN hm nh) (hx : inN x nm) (hd : (k = 0 ∧ d = 0) ∨ (¬ k = 0 ∧ inR d 1 10000)) {Q : Option Value → AH → Prop} (K1 : (¬ am_gi h 224 (Int32.toNatClampNeg x) = -1) → Q (some (.int (-3))) h1) (K2 : am_gi h 224 (Int32.toNatClampNeg x) = -1 → (¬ MH (rR h) nr (am_gi h 220 hm.toNatClampNeg) k hm x T) → Q (some (.int (-3))) h1) (K3 : am_gi h 224 (Int32.toNatClampNeg x) = -1 → MH (rR h) nr (am_gi h 220 hm.toNatClampNeg) k hm x T → Ev 9 180 150 [.ref 216, .int k, .int hm, .int x, .int d, .null, .null] [] h1 Q) : Cl 9 180 [.ref 216, .int k, .int hm, .int x, .int d] h1 Q := by
  have b3 := V.1
  refine m180 Ly (fun s0 hs => ws180_32 _ _ _ _ _ Ly (Cl.i (p167 Ly _ _ _) (by decide) Ly ⟨fun z => absurd hk (bI_0.mp z), fun _ => Cl.i (p168 Ly (n := nh) (by omega) eh _) (by decide) Ly ⟨fun z => absurd hh (bI_0.mp z), fun _ => Cl.i (p169 Ly (n := nm) (by omega) em _) (by decide) Ly ⟨fun z => absurd hx (bI_0.mp z), fun _ => ⟨fun _ => ?_, fun z => absurd ((hs hk).mpr hd) z⟩⟩⟩⟩))
  refine Cl.i ((p170 Ly (in_N hx b2)).c (q := am_gi h 224 (Int32.toNatClampNeg x) = (-1 : Int32)) (by rw [e224])) (by decide) Ly ⟨fun z1 => ?_, fun z1 => K1 (bI_0.mp (Decidable.not_not.mp z1))⟩
  replace z1 := bI_n0.mp z1
  rw [et]
  refine Cl.i (p174 Ly V x T) (by decide) Ly ?_
  rw [et]
  have hz : hHm (rR h) nr x T = -1 ↔ fMe (rR h) nr x T = -1 := hHm_n W b3
  refine ⟨fun k2 => ⟨fun z => absurd k2 z, fun _ => ⟨fun f1 => K3 z1 (Or.inl ⟨k2, ?_⟩), fun f1 => ⟨in_N (fMe_in b3 f1) b3, fun q => K3 z1 (Or.inl ⟨k2, ?_⟩), fun q => K2 z1 ?_⟩⟩⟩, fun k2 => Cl.i (p173 Ly V hm T) (by decide) Ly ⟨fun f2 => K2 z1 ?_, fun f2 => ⟨in_N hh b1, ?_⟩⟩⟩
  · rw [hz.mpr f1]; exact fun e => inN_n1 hh e.symm
  · unfold hHm; rw [if_neg f1]
    have e1 : am_gi h1 229 (Int32.toNatClampNeg (fMe (rR h) nr x T)) = rR h 1 (Int32.toNatClampNeg (fMe (rR h) nr x T)) := V.2.2 _ (inN_tn (fMe_in b3 f1)) 1 (by decide)
    rw [← e1]; exact q
  · rintro (w | w)
    · refine w.2 ?_
      unfold hHm; rw [if_neg f1]
      have e1 : am_gi h1 229 (Int32.toNatClampNeg (fMe (rR h) nr x T)) = rR h 1 (Int32.toNatClampNeg (fMe (rR h) nr x T)) := V.2.2 _ (inN_tn (fMe_in b3 f1)) 1 (by decide)
      rw [← e1]; exact Decidable.not_not.mp q
    · exact w.1 k2
  · rintro (w | w)
    · exact k2 w.1
    · exact f2 w.2.2.1
  · rw [e220]
    refine ⟨fun q => K2 z1 ?_, fun q => ⟨fun f1 => ⟨fun _ => K3 z1 (Or.inr ⟨k2, hz.mpr f1, Decidable.not_not.mp f2, Decidable.not_not.mp q⟩), fun z => absurd k2 z⟩, fun f1 => K2 z1 ?_⟩⟩
    · rintro (w | w)
      · exact k2 w.1
      · exact q w.2.2.2
    · rintro (w | w)
      · exact k2 w.1
      · exact f1 (hz.mp w.2.1)
def toR (k d T : Int32) : Int32 := if k = 0 then -1 else T + d
theorem op_right {L : Nat} {xs : Nat → Int32} {c : Nat} {h : AH} {nh nm nr na nt nc : Nat} (I : InvN L xs c h nh nm nr na nt nc) (k hm x d : Int32) : OPi 101 180 [.int k, .int hm, .int x, .int d] L xs c h := by
  have Ly := I.lay
  have b1 := I.iho.1
  have b2 := I.ime.1
  have b3 := I.iri.1
  have VC := vCR.of I.iri
  have VM := vMR.of I.iri
  have W := RW.of I.ix3
  have RVx := I.ix3.rv
  by_cases hA : inR k 0 2 ∧ inN hm nh ∧ inN x nm ∧ ((k = 0 ∧ d = 0) ∨ (¬ k = 0 ∧ inR d 1 10000))
  · obtain ⟨hk, hh, hx, hd⟩ := hA
    have hoff : am_gi h (112 + hm.toNatClampNeg) 3 = am_gi h 220 hm.toNatClampNeg := (I.iho.2.2.2.1 _ (by have := inN_tn hh; omega)).1
    have hMd : ∃ p : Prop, ∃ _ : Decidable p, (p ↔ MH (rR h) nr (am_gi h 220 hm.toNatClampNeg) k hm x (am_gi h 216 0)) := ⟨_, Classical.propDecidable _, Iff.rfl⟩
    obtain ⟨p, dp, hp⟩ := hMd
    have P150 : PF 4 150 [.ref 6, .int k, .int hm, .int x] h (.int (bI p)) := p150 Ly VC RVx (inN_n1 hx) (in_N hh b1) (by rw [hoff, I.ida.1]; exact hp)
    by_cases h1 : am_gi h 224 (Int32.toNatClampNeg x) = -1
    · by_cases h2 : p
      · by_cases h3 : nr + 1 ≤ 60
        · -- it is added
          refine OPi.cm (d := 9) (d' := 9) (ts := [4]) (v := zI nr) (P1 := fun h' => vCR h' (nr + 1) (gAdd (rR h) nr k hm x (-1) (am_gi h 216 0) (toR k d (am_gi h 216 0)))) (P2 := fun h' => vMR h' (nr + 1) (gAdd (rR h) nr k hm x (-1) (am_gi h 216 0) (toR k d (am_gi h 216 0)))) I ?_ ?_ ?_
          · refine ws101 _ _ _ _ Ly ⟨fun z => absurd z hk.1, fun _ => ⟨fun z => absurd z hk.2, fun _ => Cl.i (p138 Ly (by omega) I.iho.2.1 _) (by decide) Ly ⟨fun z => absurd hh (bI_0.mp z), fun _ => Cl.i (p139 Ly (by omega) I.ime.2.1 _) (by decide) Ly ⟨fun z => absurd hx (bI_0.mp z), fun _ => Cl.i (p145 Ly _ _) (by decide) Ly ⟨fun _ => Cl.i (p146 I hx) (by decide) Ly ⟨fun z => absurd h1 (bI_0.mp z), fun _ => Cl.i P150 (by decide) Ly ⟨fun _ => Cl.i (p54 Ly b3 I.iri.2.1 1 (by decide)) (by decide) Ly ⟨fun _ => ?_, fun z => absurd (bI_n0.mpr h3) z⟩, fun z => absurd (bI_n0.mpr h2) z⟩⟩, fun z => absurd (bI_n0.mpr hd) z⟩⟩⟩⟩⟩
            rw [I.ida.1]
            refine ⟨fun z => Cl.qi (c55 Ly VC (by omega) _ _ _ _ _ _) (by decide) (fun h' q => ⟨q.2.lay Ly, rfl, ?_, q.2⟩), fun z => Cl.qi (c55 Ly VC (by omega) _ _ _ _ _ _) (by decide) (fun h' q => ⟨q.2.lay Ly, rfl, ?_, q.2⟩)⟩
            · have e := q.1; unfold toR; rw [if_neg z]; exact e
            · have e := q.1; unfold toR; rw [if_pos (Decidable.not_not.mp z)]; exact e
          · intro g1 _ E1 Ly1
            have et : am_gi g1 216 0 = am_gi h 216 0 := E1.gi (by omega)
            refine m180s (T := am_gi h 216 0) Ly1 (VM.oc E1) (by rw [E1.gi (by omega)]; exact I.iho.2.2.1) (by rw [E1.gi (by omega)]; exact I.ime.2.2.1) et (fun i => E1.gi (by omega)) (fun i => E1.gi (by omega)) b1 b2 W hk hh hx hd (fun z => absurd h1 z) (fun _ z => absurd (hp.mp h2) z) (fun _ _ => ?_)
            refine ws180_150 _ _ _ _ Ly1 ⟨fun _ => ?_, fun z => absurd (by rw [E1.gi (by omega), I.iri.2.2.1]; exact fun e => absurd ((zI_inj (m := nr) (n := 60) (by omega) (by decide)).mp e) (by omega)) z⟩
            rw [et]
            refine ⟨fun z => Cl.qi (m175 Ly1 (VM.oc E1) (by omega) _ _ _ _ _) (by decide) (fun h' q => ⟨q.2.lay Ly1, rfl, ?_, q.2⟩), fun z => Cl.qi (m175 Ly1 (VM.oc E1) (by omega) _ _ _ _ _) (by decide) (fun h' q => ⟨q.2.lay Ly1, rfl, ?_, q.2⟩)⟩
            · have e := q.1; rw [et] at e; unfold toR; rw [if_neg z]; exact e
            · have e := q.1; rw [et] at e; unfold toR; rw [if_pos (Decidable.not_not.mp z)]; exact e
          · intro g1 g2 v1 E1 v2 E2
            have hq := hp.mp h2
            have hz : hHm (rR h) nr x (am_gi h 216 0) = -1 ↔ fMe (rR h) nr x (am_gi h 216 0) = -1 := hHm_n W b3
            have k3 : ¬ k = 3 := fun e => by have q := inR_i hk; rw [e] at q; exact absurd q.2 (by decide)
            have hki := inR_i hk
            have z0 : (0 : Int32).toInt = 0 := rfl
            have z2 : (2 : Int32).toInt = 2 := rfl
            refine I.rt E1 E2 v1 v2 (W.add ⟨by omega, by omega⟩ hh hx (Or.inl ⟨k3, rfl⟩) (fun n2 i hi z => ?_)) ((RO.of I.ix4).add (fun n2 => ?_)) (by omega) (fun r hr => ⟨gAdd_o (by omega), gAdd_o (by omega)⟩)
            · rcases hq with q | q
              · exact absurd q.1 n2
              · exact ⟨fHo_n q.2.2.1 b3 i hi z, fMe_n (hz.mp q.2.1) b3 i hi z, fun e => absurd e k3⟩
            · rcases hq with q | q
              · exact absurd q.1 n2
              · exact q.2.2.2
        · refine OPi.pf I (x := -4) (d := 9) (d' := 9) ?_ ?_
          · refine ws101 _ _ _ _ Ly ⟨fun z => absurd z hk.1, fun _ => ⟨fun z => absurd z hk.2, fun _ => Cl.i (p138 Ly (by omega) I.iho.2.1 _) (by decide) Ly ⟨fun z => absurd hh (bI_0.mp z), fun _ => Cl.i (p139 Ly (by omega) I.ime.2.1 _) (by decide) Ly ⟨fun z => absurd hx (bI_0.mp z), fun _ => Cl.i (p145 Ly _ _) (by decide) Ly ⟨fun _ => Cl.i (p146 I hx) (by decide) Ly ⟨fun z => absurd h1 (bI_0.mp z), fun _ => Cl.i P150 (by decide) Ly ⟨fun _ => Cl.i (p54 Ly b3 I.iri.2.1 1 (by decide)) (by decide) Ly ⟨fun z => absurd (bI_n0.mp z) h3, fun _ => ⟨rfl, rfl⟩⟩, fun z => absurd (bI_n0.mpr h2) z⟩⟩, fun z => absurd (bI_n0.mpr hd) z⟩⟩⟩⟩⟩
          · refine m180s (T := am_gi h 216 0) Ly VM I.iho.2.2.1 I.ime.2.2.1 rfl (fun _ => rfl) (fun _ => rfl) b1 b2 W hk hh hx hd (fun z => absurd h1 z) (fun _ z => absurd (hp.mp h2) z) (fun _ _ => ?_)
            refine ws180_150 _ _ _ _ Ly ⟨fun z => absurd (by rw [I.iri.2.2.1]; exact (zI_inj (m := nr) (n := 60) (by omega) (by decide)).mpr (by omega)) z, fun _ => ⟨rfl, rfl⟩⟩
      · refine OPi.pf I (x := -3) (d := 9) (d' := 9) ?_ ?_
        · refine ws101 _ _ _ _ Ly ⟨fun z => absurd z hk.1, fun _ => ⟨fun z => absurd z hk.2, fun _ => Cl.i (p138 Ly (by omega) I.iho.2.1 _) (by decide) Ly ⟨fun z => absurd hh (bI_0.mp z), fun _ => Cl.i (p139 Ly (by omega) I.ime.2.1 _) (by decide) Ly ⟨fun z => absurd hx (bI_0.mp z), fun _ => Cl.i (p145 Ly _ _) (by decide) Ly ⟨fun _ => Cl.i (p146 I hx) (by decide) Ly ⟨fun z => absurd h1 (bI_0.mp z), fun _ => Cl.i P150 (by decide) Ly ⟨fun z => absurd (bI_n0.mp z) h2, fun _ => ⟨rfl, rfl⟩⟩⟩, fun z => absurd (bI_n0.mpr hd) z⟩⟩⟩⟩⟩
        · exact m180s (T := am_gi h 216 0) Ly VM I.iho.2.2.1 I.ime.2.2.1 rfl (fun _ => rfl) (fun _ => rfl) b1 b2 W hk hh hx hd (fun z => absurd h1 z) (fun _ _ => ⟨rfl, rfl⟩) (fun _ z => absurd (hp.mpr z) h2)
    · refine OPi.pf I (x := -3) (d := 9) (d' := 9) ?_ ?_
      · refine ws101 _ _ _ _ Ly ⟨fun z => absurd z hk.1, fun _ => ⟨fun z => absurd z hk.2, fun _ => Cl.i (p138 Ly (by omega) I.iho.2.1 _) (by decide) Ly ⟨fun z => absurd hh (bI_0.mp z), fun _ => Cl.i (p139 Ly (by omega) I.ime.2.1 _) (by decide) Ly ⟨fun z => absurd hx (bI_0.mp z), fun _ => Cl.i (p145 Ly _ _) (by decide) Ly ⟨fun _ => Cl.i (p146 I hx) (by decide) Ly ⟨fun _ => ⟨rfl, rfl⟩, fun z => absurd (bI_n0.mp z) h1⟩, fun z => absurd (bI_n0.mpr hd) z⟩⟩⟩⟩⟩
      · exact m180s (T := am_gi h 216 0) Ly VM I.iho.2.2.1 I.ime.2.2.1 rfl (fun _ => rfl) (fun _ => rfl) b1 b2 W hk hh hx hd (fun _ => ⟨rfl, rfl⟩) (fun z => absurd z h1) (fun z => absurd z h1)
  · refine OPi.pf I (x := -2) (d := 9) (d' := 9) ?_ ?_
    · refine ws101 _ _ _ _ Ly ⟨fun _ => ⟨rfl, rfl⟩, fun a => ⟨fun _ => ⟨rfl, rfl⟩, fun b => Cl.i (p138 Ly (by omega) I.iho.2.1 _) (by decide) Ly ⟨fun _ => ⟨rfl, rfl⟩, fun z1 => Cl.i (p139 Ly (by omega) I.ime.2.1 _) (by decide) Ly ⟨fun _ => ⟨rfl, rfl⟩, fun z2 => Cl.i (p145 Ly _ _) (by decide) Ly ⟨fun z3 => absurd ⟨⟨a, b⟩, bI_n0.mp z1, bI_n0.mp z2, bI_n0.mp z3⟩ hA, fun _ => ⟨rfl, rfl⟩⟩⟩⟩⟩⟩
    · refine m180 Ly (fun s0 hs => ws180_32 _ _ _ _ _ Ly (Cl.i (p167 Ly _ _ _) (by decide) Ly ⟨fun _ => ⟨rfl, rfl⟩, fun z1 => Cl.i (p168 Ly (n := nh) (by omega) I.iho.2.2.1 _) (by decide) Ly ⟨fun _ => ⟨rfl, rfl⟩, fun z2 => Cl.i (p169 Ly (n := nm) (by omega) I.ime.2.2.1 _) (by decide) Ly ⟨fun _ => ⟨rfl, rfl⟩, fun z3 => ⟨fun z4 => absurd ⟨bI_n0.mp z1, bI_n0.mp z2, bI_n0.mp z3, (hs (bI_n0.mp z1)).mp z4⟩ hA, fun _ => ⟨rfl, rfl⟩⟩⟩⟩⟩))
theorem gEnd_o {g : Nat → Nat → Int32} {j k i : Nat} {d : Int32} (h : k ≠ 5 ∨ i ≠ j) : gEnd g j d k i = g k i := by unfold gEnd; rw [if_neg (by omega)]
theorem op_join {L : Nat} {xs : Nat → Int32} {c : Nat} {h : AH} {nh nm nr na nt nc : Nat} (I : InvN L xs c h nh nm nr na nt nc) (r x : Int32) : OPi 102 182 [.int r, .int x] L xs c h := by
  have Ly := I.lay
  have b1 := I.iho.1
  have b2 := I.ime.1
  have b3 := I.iri.1
  have VC := vCR.of I.iri
  have VM := vMR.of I.iri
  have W := RW.of I.ix3
  have RVx := I.ix3.rv
  by_cases hr : inN r nr
  · by_cases hx : inN x nm
    · have hrt := inN_tn hr
      have e0 : am_gi h (11 + Int32.toNatClampNeg r) 0 = am_gi h 228 (Int32.toNatClampNeg r) := VC.2.2 _ hrt 0 (by decide)
      have e0' : rR h 0 (Int32.toNatClampNeg r) = am_gi h 228 (Int32.toNatClampNeg r) := rfl
      by_cases k0 : am_gi h 228 (Int32.toNatClampNeg r) = 0
      · by_cases on : onR (rR h) (Int32.toNatClampNeg r) (am_gi h 216 0) = true
        · by_cases he : am_gi h 224 (Int32.toNatClampNeg x) = -1
          · by_cases hm : fMe (rR h) nr x (am_gi h 216 0) = -1
            · by_cases h3 : nr + 1 ≤ 60
              · refine OPi.cm (d := 9) (d' := 9) (ts := [4]) (v := zI nr) (P1 := fun h' => vCR h' (nr + 1) (gAdd (gEnd (rR h) (Int32.toNatClampNeg r) (am_gi h 216 0)) nr 3 (rR h 1 (Int32.toNatClampNeg r)) (rR h 2 (Int32.toNatClampNeg r)) x (am_gi h 216 0) (-1))) (P2 := fun h' => vMR h' (nr + 1) (gAdd (gEnd (rR h) (Int32.toNatClampNeg r) (am_gi h 216 0)) nr 3 (rR h 1 (Int32.toNatClampNeg r)) (rR h 2 (Int32.toNatClampNeg r)) x (am_gi h 216 0) (-1))) I ?_ ?_ ?_
                · skip
                  refine ws102 _ _ Ly ?_
                  refine Cl.i (p53 Ly (by omega) I.iri.2.1 _) (by decide) Ly ?_
                  refine ⟨fun z => absurd z ((bI_n0.mpr hr)), fun _ => ?_⟩
                  refine Cl.i (p139 Ly (by omega) I.ime.2.1 _) (by decide) Ly ?_
                  refine ⟨fun _ => ?_, fun z => absurd ((bI_n0.mpr hx)) z⟩
                  refine ⟨(in_N hr b3), ?_⟩
                  refine ⟨fun z => absurd z ((not_not_intro (by rw [e0]; exact k0))), fun _ => ?_⟩
                  refine Cl.i (by rw [I.ida.1]; exact p65x Ly VC hr _) (by decide) Ly ?_
                  refine ⟨fun _ => ?_, fun z => absurd ((bI_n0.mpr on)) z⟩
                  refine Cl.i (p146 I hx) (by decide) Ly ?_
                  refine ⟨fun z => absurd z ((bI_n0.mpr he)), fun _ => ?_⟩
                  refine Cl.i (by rw [I.ida.1]; exact p57 Ly VC RVx (inN_n1 hx) _) (by decide) Ly ?_
                  refine ⟨fun _ => ?_, fun z => absurd (hm) z⟩
                  refine Cl.i (p54 Ly b3 I.iri.2.1 1 (by decide)) (by decide) Ly ?_
                  refine ⟨fun _ => ?_, fun z => absurd ((bI_n0.mpr h3)) z⟩
                  intro h20 eh20; subst eh20
                  rw [gi_ne (b := 6) (by omega), I.ida.1, gi_ne (b := 11 + Int32.toNatClampNeg r) (j := 1) (by omega), gi_ne (b := 11 + Int32.toNatClampNeg r) (j := 2) (by omega), VC.2.2 _ hrt 1 (by decide), VC.2.2 _ hrt 2 (by decide)]
                  refine Cl.qi (c55 (Ly.si _ _ _) (VC.end hrt _) (by omega) _ _ _ _ _ _) (by decide) (fun h' q => ⟨q.2.lay (Ly.si _ _ _), ?_⟩)
                  exact ⟨rfl, q.1, (((OC.rf [4] h).si (a := 11 + Int32.toNatClampNeg r) (k := 5) (by omega) (tpm (tp_right (by omega)) (by decide))).tr q.2)⟩
                · intro g1 _ E1 Ly1
                  have et : am_gi g1 216 0 = am_gi h 216 0 := E1.gi (by omega)
                  have VM1 := VM.oc E1
                  have q0 : am_gi g1 228 (Int32.toNatClampNeg r) = 0 := by rw [E1.gi (by omega)]; exact k0
                  refine ws182 _ _ Ly1 ?_
                  refine Cl.i (p181 Ly1 (n := nr) (by omega) (VM1.2.1) _) (by decide) Ly1 ?_
                  refine ⟨fun z => absurd z ((bI_n0.mpr hr)), fun _ => ?_⟩
                  refine Cl.i (p169 Ly1 (n := nm) (by omega) (by rw [E1.gi (by omega)]; exact I.ime.2.2.1) _) (by decide) Ly1 ?_
                  refine ⟨fun _ => ?_, fun z => absurd ((bI_n0.mpr hx)) z⟩
                  refine ⟨(in_N hr b3), ?_⟩
                  refine ⟨fun z => absurd z ((not_not_intro q0)), fun _ => ?_⟩
                  refine Cl.i (by rw [et]; exact p171x Ly1 VM1 hr _) (by decide) Ly1 ?_
                  refine ⟨fun z => absurd z ((bI_n0.mpr on)), fun _ => ?_⟩
                  refine Cl.i ((p170 Ly1 (in_N hx b2)).c (q := am_gi h 224 (Int32.toNatClampNeg x) = (-1 : Int32)) (by rw [E1.gi (by omega)])) (by decide) Ly1 ?_
                  refine ⟨fun z => absurd z ((bI_n0.mpr he)), fun _ => ?_⟩
                  refine Cl.i (by rw [et]; exact p174 Ly1 VM1 x _) (by decide) Ly1 ?_
                  refine ⟨fun _ => ?_, fun z => absurd (hm) z⟩
                  refine ⟨fun _ => ?_, fun z => absurd ((by rw [VM1.2.1]; exact fun e => absurd ((zI_inj (m := nr) (n := 60) (by omega) (by decide)).mp e) (by omega))) z⟩
                  refine ⟨(in_N hr b3), ?_⟩
                  intro h18 eh18; subst eh18
                  refine ⟨(in_N hr b3), ?_⟩
                  refine ⟨(in_N hr b3), ?_⟩
                  rw [gi_ne (b := 229) (by omega), gi_ne (b := 230) (by omega), et, VM1.2.2 _ hrt 1 (by decide), VM1.2.2 _ hrt 2 (by decide)]
                  refine Cl.qi (m175 (Ly1.si _ _ _) (VM1.end hrt _) (by omega) _ _ _ _ _) (by decide) (fun h' q => ⟨q.2.lay (Ly1.si _ _ _), ?_⟩)
                  exact ⟨rfl, by have q1 := q.1; rw [gi_ne (by omega), et] at q1; exact q1, (((OM.rf [4] g1).si (a := 233) (k := Int32.toNatClampNeg r) (by omega) (List.mem_singleton.mpr rfl)).tr q.2)⟩
                · intro g1 g2 v1 E1 v2 E2
                  have hd := I.ida.2.1
                  have W1 := W.end hd (Int32.toNatClampNeg r)
                  have q := W.1 _ hrt
                  have hho : hoR (rR h) (Int32.toNatClampNeg r) (am_gi h 216 0) = true := hoR_e.mpr ⟨by rw [e0', k0]; decide, on⟩
                  have q4 : rR h 0 (Int32.toNatClampNeg r) ≠ 3 := by rw [e0', k0]; decide
                  have hof : ofR (rR h) (Int32.toNatClampNeg r) (rR h 2 (Int32.toNatClampNeg r)) = true := by unfold ofR; simp
                  have hno := fMe_n hm b3 _ hrt hho
                  refine I.rt E1 E2 v1 v2 (W1.add ⟨by decide, by decide⟩ q.2.1 q.2.2.1 (Or.inr ⟨rfl, hx.1, hx.2, fun e => ?_⟩) (fun _ i hi z => ?_)) (((RO.of I.ix4).end hd _).add (fun _ => I.ix4 _ hrt hho)) (by omega) (fun s hs => ⟨by rw [gAdd_o (by omega), gEnd_o (by omega)], by rw [gAdd_o (by omega), gEnd_o (by omega)]⟩)
                  · rw [e, hof] at hno; cases hno
                  · rw [hoR_end hd] at z
                    rw [gEnd_o (by omega), ofR_end, ofR_end]
                    refine ⟨fun e => z.1 (W.2.2 i _ hi hrt z.2 hho e), ?_, fun _ => fMe_n hm b3 i hi z.2⟩
                    cases hb : ofR (rR h) i (rR h 2 (Int32.toNatClampNeg r)) with
                    | false => rfl
                    | true => exact absurd (W.2.1 i _ _ hi hrt z.2 hho hb hof) z.1
              · refine OPi.pf I (x := -4) (d := 9) (d' := 9) ?_ ?_
                · skip
                  refine ws102 _ _ Ly ?_
                  refine Cl.i (p53 Ly (by omega) I.iri.2.1 _) (by decide) Ly ?_
                  refine ⟨fun z => absurd z ((bI_n0.mpr hr)), fun _ => ?_⟩
                  refine Cl.i (p139 Ly (by omega) I.ime.2.1 _) (by decide) Ly ?_
                  refine ⟨fun _ => ?_, fun z => absurd ((bI_n0.mpr hx)) z⟩
                  refine ⟨(in_N hr b3), ?_⟩
                  refine ⟨fun z => absurd z ((not_not_intro (by rw [e0]; exact k0))), fun _ => ?_⟩
                  refine Cl.i (by rw [I.ida.1]; exact p65x Ly VC hr _) (by decide) Ly ?_
                  refine ⟨fun _ => ?_, fun z => absurd ((bI_n0.mpr on)) z⟩
                  refine Cl.i (p146 I hx) (by decide) Ly ?_
                  refine ⟨fun z => absurd z ((bI_n0.mpr he)), fun _ => ?_⟩
                  refine Cl.i (by rw [I.ida.1]; exact p57 Ly VC RVx (inN_n1 hx) _) (by decide) Ly ?_
                  refine ⟨fun _ => ?_, fun z => absurd (hm) z⟩
                  refine Cl.i (p54 Ly b3 I.iri.2.1 1 (by decide)) (by decide) Ly ?_
                  refine ⟨fun z => absurd z ((not_not_intro (bI_0.mpr h3))), fun _ => ?_⟩
                  exact ⟨rfl, rfl⟩
                · skip
                  refine ws182 _ _ Ly ?_
                  refine Cl.i (p181 Ly (n := nr) (by omega) (I.iri.2.2.1) _) (by decide) Ly ?_
                  refine ⟨fun z => absurd z ((bI_n0.mpr hr)), fun _ => ?_⟩
                  refine Cl.i (p169 Ly (n := nm) (by omega) (I.ime.2.2.1) _) (by decide) Ly ?_
                  refine ⟨fun _ => ?_, fun z => absurd ((bI_n0.mpr hx)) z⟩
                  refine ⟨(in_N hr b3), ?_⟩
                  refine ⟨fun z => absurd z ((not_not_intro k0)), fun _ => ?_⟩
                  refine Cl.i (p171x Ly VM hr _) (by decide) Ly ?_
                  refine ⟨fun z => absurd z ((bI_n0.mpr on)), fun _ => ?_⟩
                  refine Cl.i (p170 Ly (in_N hx b2)) (by decide) Ly ?_
                  refine ⟨fun z => absurd z ((bI_n0.mpr he)), fun _ => ?_⟩
                  refine Cl.i (p174 Ly VM x _) (by decide) Ly ?_
                  refine ⟨fun _ => ?_, fun z => absurd (hm) z⟩
                  refine ⟨fun z => absurd z ((not_not_intro (by rw [I.iri.2.2.1]; exact (zI_inj (m := nr) (n := 60) (by omega) (by decide)).mpr (by omega)))), fun _ => ?_⟩
                  exact ⟨rfl, rfl⟩
            · refine OPi.pf I (x := -3) (d := 9) (d' := 9) ?_ ?_
              · skip
                refine ws102 _ _ Ly ?_
                refine Cl.i (p53 Ly (by omega) I.iri.2.1 _) (by decide) Ly ?_
                refine ⟨fun z => absurd z ((bI_n0.mpr hr)), fun _ => ?_⟩
                refine Cl.i (p139 Ly (by omega) I.ime.2.1 _) (by decide) Ly ?_
                refine ⟨fun _ => ?_, fun z => absurd ((bI_n0.mpr hx)) z⟩
                refine ⟨(in_N hr b3), ?_⟩
                refine ⟨fun z => absurd z ((not_not_intro (by rw [e0]; exact k0))), fun _ => ?_⟩
                refine Cl.i (by rw [I.ida.1]; exact p65x Ly VC hr _) (by decide) Ly ?_
                refine ⟨fun _ => ?_, fun z => absurd ((bI_n0.mpr on)) z⟩
                refine Cl.i (p146 I hx) (by decide) Ly ?_
                refine ⟨fun z => absurd z ((bI_n0.mpr he)), fun _ => ?_⟩
                refine Cl.i (by rw [I.ida.1]; exact p57 Ly VC RVx (inN_n1 hx) _) (by decide) Ly ?_
                refine ⟨fun z => absurd z (hm), fun _ => ?_⟩
                exact ⟨rfl, rfl⟩
              · skip
                refine ws182 _ _ Ly ?_
                refine Cl.i (p181 Ly (n := nr) (by omega) (I.iri.2.2.1) _) (by decide) Ly ?_
                refine ⟨fun z => absurd z ((bI_n0.mpr hr)), fun _ => ?_⟩
                refine Cl.i (p169 Ly (n := nm) (by omega) (I.ime.2.2.1) _) (by decide) Ly ?_
                refine ⟨fun _ => ?_, fun z => absurd ((bI_n0.mpr hx)) z⟩
                refine ⟨(in_N hr b3), ?_⟩
                refine ⟨fun z => absurd z ((not_not_intro k0)), fun _ => ?_⟩
                refine Cl.i (p171x Ly VM hr _) (by decide) Ly ?_
                refine ⟨fun z => absurd z ((bI_n0.mpr on)), fun _ => ?_⟩
                refine Cl.i (p170 Ly (in_N hx b2)) (by decide) Ly ?_
                refine ⟨fun z => absurd z ((bI_n0.mpr he)), fun _ => ?_⟩
                refine Cl.i (p174 Ly VM x _) (by decide) Ly ?_
                refine ⟨fun z => absurd z (hm), fun _ => ?_⟩
                exact ⟨rfl, rfl⟩
          · refine OPi.pf I (x := -3) (d := 9) (d' := 9) ?_ ?_
            · skip
              refine ws102 _ _ Ly ?_
              refine Cl.i (p53 Ly (by omega) I.iri.2.1 _) (by decide) Ly ?_
              refine ⟨fun z => absurd z ((bI_n0.mpr hr)), fun _ => ?_⟩
              refine Cl.i (p139 Ly (by omega) I.ime.2.1 _) (by decide) Ly ?_
              refine ⟨fun _ => ?_, fun z => absurd ((bI_n0.mpr hx)) z⟩
              refine ⟨(in_N hr b3), ?_⟩
              refine ⟨fun z => absurd z ((not_not_intro (by rw [e0]; exact k0))), fun _ => ?_⟩
              refine Cl.i (by rw [I.ida.1]; exact p65x Ly VC hr _) (by decide) Ly ?_
              refine ⟨fun _ => ?_, fun z => absurd ((bI_n0.mpr on)) z⟩
              refine Cl.i (p146 I hx) (by decide) Ly ?_
              refine ⟨fun _ => ?_, fun z => absurd ((bI_0.mpr he)) z⟩
              exact ⟨rfl, rfl⟩
            · skip
              refine ws182 _ _ Ly ?_
              refine Cl.i (p181 Ly (n := nr) (by omega) (I.iri.2.2.1) _) (by decide) Ly ?_
              refine ⟨fun z => absurd z ((bI_n0.mpr hr)), fun _ => ?_⟩
              refine Cl.i (p169 Ly (n := nm) (by omega) (I.ime.2.2.1) _) (by decide) Ly ?_
              refine ⟨fun _ => ?_, fun z => absurd ((bI_n0.mpr hx)) z⟩
              refine ⟨(in_N hr b3), ?_⟩
              refine ⟨fun z => absurd z ((not_not_intro k0)), fun _ => ?_⟩
              refine Cl.i (p171x Ly VM hr _) (by decide) Ly ?_
              refine ⟨fun z => absurd z ((bI_n0.mpr on)), fun _ => ?_⟩
              refine Cl.i (p170 Ly (in_N hx b2)) (by decide) Ly ?_
              refine ⟨fun _ => ?_, fun z => absurd ((bI_0.mpr he)) z⟩
              exact ⟨rfl, rfl⟩
        · refine OPi.pf I (x := -3) (d := 9) (d' := 9) ?_ ?_
          · skip
            refine ws102 _ _ Ly ?_
            refine Cl.i (p53 Ly (by omega) I.iri.2.1 _) (by decide) Ly ?_
            refine ⟨fun z => absurd z ((bI_n0.mpr hr)), fun _ => ?_⟩
            refine Cl.i (p139 Ly (by omega) I.ime.2.1 _) (by decide) Ly ?_
            refine ⟨fun _ => ?_, fun z => absurd ((bI_n0.mpr hx)) z⟩
            refine ⟨(in_N hr b3), ?_⟩
            refine ⟨fun z => absurd z ((not_not_intro (by rw [e0]; exact k0))), fun _ => ?_⟩
            refine Cl.i (by rw [I.ida.1]; exact p65x Ly VC hr _) (by decide) Ly ?_
            refine ⟨fun z => absurd z ((not_not_intro (bI_0.mpr on))), fun _ => ?_⟩
            exact ⟨rfl, rfl⟩
          · skip
            refine ws182 _ _ Ly ?_
            refine Cl.i (p181 Ly (n := nr) (by omega) (I.iri.2.2.1) _) (by decide) Ly ?_
            refine ⟨fun z => absurd z ((bI_n0.mpr hr)), fun _ => ?_⟩
            refine Cl.i (p169 Ly (n := nm) (by omega) (I.ime.2.2.1) _) (by decide) Ly ?_
            refine ⟨fun _ => ?_, fun z => absurd ((bI_n0.mpr hx)) z⟩
            refine ⟨(in_N hr b3), ?_⟩
            refine ⟨fun z => absurd z ((not_not_intro k0)), fun _ => ?_⟩
            refine Cl.i (p171x Ly VM hr _) (by decide) Ly ?_
            refine ⟨fun _ => ?_, fun z => absurd ((bI_0.mpr on)) z⟩
            exact ⟨rfl, rfl⟩
      · refine OPi.pf I (x := -3) (d := 9) (d' := 9) ?_ ?_
        · skip
          refine ws102 _ _ Ly ?_
          refine Cl.i (p53 Ly (by omega) I.iri.2.1 _) (by decide) Ly ?_
          refine ⟨fun z => absurd z ((bI_n0.mpr hr)), fun _ => ?_⟩
          refine Cl.i (p139 Ly (by omega) I.ime.2.1 _) (by decide) Ly ?_
          refine ⟨fun _ => ?_, fun z => absurd ((bI_n0.mpr hx)) z⟩
          refine ⟨(in_N hr b3), ?_⟩
          refine ⟨fun _ => ?_, fun z => absurd ((by rw [e0]; exact k0)) z⟩
          exact ⟨rfl, rfl⟩
        · skip
          refine ws182 _ _ Ly ?_
          refine Cl.i (p181 Ly (n := nr) (by omega) (I.iri.2.2.1) _) (by decide) Ly ?_
          refine ⟨fun z => absurd z ((bI_n0.mpr hr)), fun _ => ?_⟩
          refine Cl.i (p169 Ly (n := nm) (by omega) (I.ime.2.2.1) _) (by decide) Ly ?_
          refine ⟨fun _ => ?_, fun z => absurd ((bI_n0.mpr hx)) z⟩
          refine ⟨(in_N hr b3), ?_⟩
          refine ⟨fun _ => ?_, fun z => absurd (k0) z⟩
          exact ⟨rfl, rfl⟩
    · refine OPi.pf I (x := -2) (d := 9) (d' := 9) ?_ ?_
      · skip
        refine ws102 _ _ Ly ?_
        refine Cl.i (p53 Ly (by omega) I.iri.2.1 _) (by decide) Ly ?_
        refine ⟨fun z => absurd z ((bI_n0.mpr hr)), fun _ => ?_⟩
        refine Cl.i (p139 Ly (by omega) I.ime.2.1 _) (by decide) Ly ?_
        refine ⟨fun z => absurd z ((not_not_intro (bI_0.mpr hx))), fun _ => ?_⟩
        exact ⟨rfl, rfl⟩
      · skip
        refine ws182 _ _ Ly ?_
        refine Cl.i (p181 Ly (n := nr) (by omega) (I.iri.2.2.1) _) (by decide) Ly ?_
        refine ⟨fun z => absurd z ((bI_n0.mpr hr)), fun _ => ?_⟩
        refine Cl.i (p169 Ly (n := nm) (by omega) (I.ime.2.2.1) _) (by decide) Ly ?_
        refine ⟨fun z => absurd z ((not_not_intro (bI_0.mpr hx))), fun _ => ?_⟩
        exact ⟨rfl, rfl⟩
  · refine OPi.pf I (x := -2) (d := 9) (d' := 9) ?_ ?_
    · skip
      refine ws102 _ _ Ly ?_
      refine Cl.i (p53 Ly (by omega) I.iri.2.1 _) (by decide) Ly ?_
      refine ⟨fun _ => ?_, fun z => absurd ((bI_0.mpr hr)) z⟩
      exact ⟨rfl, rfl⟩
    · skip
      refine ws182 _ _ Ly ?_
      refine Cl.i (p181 Ly (n := nr) (by omega) (I.iri.2.2.1) _) (by decide) Ly ?_
      refine ⟨fun _ => ?_, fun z => absurd ((bI_0.mpr hr)) z⟩
      exact ⟨rfl, rfl⟩
