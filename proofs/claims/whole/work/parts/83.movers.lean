/-! BEST 7: who may move, and what lies in the rows -/
def rt (h : AH) (nr m : Nat) : Int32 := fMe (rR h) nr (zI m) (am_gi h 216 0)
def mayP (h : AH) (nr m : Nat) : Bool := !decide (rt h nr m = -1) && (!decide (rR h 0 (rt h nr m).toNatClampNeg = 1) && (decide (rR h 5 (rt h nr m).toNatClampNeg = -1) && decide (rR h 2 (rt h nr m).toNatClampNeg = zI m)))
def ownM (h : AH) (nr m : Nat) : Nat := (rR h 1 (rt h nr m).toNatClampNeg).toNatClampNeg
def obit (h : AH) (nh nr : Nat) : Nat → Nat → Bool
  | 0, j => decide (j < nh) && (decide (fHo (rR h) nr (zI j) (am_gi h 216 0) = -1) && !offP h j)
  | i + 1, j => obit h nh nr i j || (mayP h nr i && decide (ownM h nr i = j))
def memF (h : AH) (nr k : Nat) : Nat := (fst1 (fun m => mayP h nr m && decide (cnt (mayP h nr) m = k)) 0 24).toNatClampNeg
def ownF (h : AH) (nr k : Nat) : Nat := ownM h nr (memF h nr k)
def alF (h : AH) (nh nm nr k j : Nat) : Bool := tb (am_gi h 226 (memF h nr k)) j && obit h nh nr nm j
theorem cnt_up (p : Nat → Bool) {m n : Nat} (h : m ≤ n) : cnt p m ≤ cnt p n := by
  induction n with
  | zero => rw [show m = 0 by omega]; exact Nat.le_refl _
  | succ n ih =>
    by_cases z : m = n + 1
    · rw [z]; exact Nat.le_refl _
    · have := ih (by omega)
      cases w : p n
      · rw [cnt_s0 w]; exact this
      · rw [cnt_s1 w]; omega
theorem cnt_inj {p : Nat → Bool} {i j : Nat} (hi : p i = true) (hj : p j = true) (e : cnt p i = cnt p j) : i = j := by
  rcases Nat.lt_trichotomy i j with z | z | z
  · have := cnt_up p (show i + 1 ≤ j by omega); rw [cnt_s1 hi] at this; omega
  · exact z
  · have := cnt_up p (show j + 1 ≤ i by omega); rw [cnt_s1 hj] at this; omega
theorem cnt_ex (p : Nat → Bool) : ∀ n k, k < cnt p n → ∃ m, m < n ∧ p m = true ∧ cnt p m = k
  | 0, k, h => absurd h (by show ¬ k < 0; omega)
  | n + 1, k, h => by
    cases w : p n
    · rw [cnt_s0 w] at h
      obtain ⟨m, m1, m2⟩ := cnt_ex p n k h
      exact ⟨m, by omega, m2⟩
    · rw [cnt_s1 w] at h
      by_cases z : k = cnt p n
      · exact ⟨n, by omega, w, z.symm⟩
      · obtain ⟨m, m1, m2⟩ := cnt_ex p n k (by omega)
        exact ⟨m, by omega, m2⟩
theorem memF_m {h : AH} {nr m : Nat} (hm : m < 24) (w : mayP h nr m = true) : memF h nr (cnt (mayP h nr) m) = m := by
  unfold memF
  rcases fst1_spec (fun x => mayP h nr x && decide (cnt (mayP h nr) x = cnt (mayP h nr) m)) 24 0 with ⟨_, a⟩ | ⟨k, _, k2, k3, k4, _⟩
  · have := a m (by omega) (by omega)
    rw [w, decide_eq_true rfl] at this; exact absurd this (by decide)
  · rw [k3, zI_tn (by omega)]
    rw [Bool.and_eq_true, decide_eq_true_eq] at k4
    exact cnt_inj k4.1 w k4.2
theorem memF_k {h : AH} {nr nm k : Nat} (hn : nm ≤ 24) (hk : k < cnt (mayP h nr) nm) : memF h nr k < nm ∧ mayP h nr (memF h nr k) = true ∧ cnt (mayP h nr) (memF h nr k) = k := by
  obtain ⟨m, m1, m2, m3⟩ := cnt_ex (mayP h nr) nm k hk
  have := memF_m (h := h) (nr := nr) (show m < 24 by omega) m2
  rw [m3] at this
  rw [this]; exact ⟨m1, m2, m3⟩
theorem mayP_i {h : AH} {nr m : Nat} : mayP h nr m = true ↔ ¬ rt h nr m = -1 ∧ ¬ rR h 0 (rt h nr m).toNatClampNeg = 1 ∧ rR h 5 (rt h nr m).toNatClampNeg = -1 ∧ rR h 2 (rt h nr m).toNatClampNeg = zI m := by
  unfold mayP; simp
/-- a right that moves -/
theorem mover {L : Nat} {xs : Nat → Int32} {c : Nat} {h : AH} {nh nm nr na nt nc : Nat} (I : InvN L xs c h nh nm nr na nt nc) {m : Nat} (w : mayP h nr m = true) : ∃ r, r < nr ∧ rt h nr m = zI r ∧ hoR (rR h) r (am_gi h 216 0) = true ∧ ¬ rR h 0 r = 1 ∧ rR h 5 r = -1 ∧ rR h 2 r = zI m ∧ rR h 1 r = zI (ownM h nr m) ∧ ownM h nr m < nh := by
  rw [mayP_i] at w
  have b := I.iri.1
  have bh := I.iho.1
  obtain ⟨r, hr, er, _, ho⟩ := fMe_s (show ¬ fMe (rR h) nr (zI m) (am_gi h 216 0) = -1 from w.1)
  have er' : rt h nr m = zI r := er
  have x := (I.ix3.1 r hr).2.1
  rw [er', zI_tn (by omega)] at w
  have eo : ownM h nr m = (rR h 1 r).toInt.toNat := by unfold ownM; rw [er', zI_tn (by omega), tn_of x.1]
  exact ⟨r, hr, er', ho, w.2.1, w.2.2.1, w.2.2.2, by rw [eo]; exact zI_of x.1, by rw [eo]; omega⟩
theorem own_inj {L : Nat} {xs : Nat → Int32} {c : Nat} {h : AH} {nh nm nr na nt nc : Nat} (I : InvN L xs c h nh nm nr na nt nc) : inj (cnt (mayP h nr) nm) nh (ownF h nr) := by
  have bm := I.ime.1
  have bh := I.iho.1
  refine ⟨fun k hk => ?_, fun i j hi hj e => ?_⟩
  · obtain ⟨a, b, _⟩ := memF_k bm hk
    obtain ⟨r, _, _, _, _, _, _, _, q⟩ := mover I b
    exact q
  · obtain ⟨a1, b1, c1⟩ := memF_k bm hi
    obtain ⟨a2, b2, c2⟩ := memF_k bm hj
    obtain ⟨r1, r2, r3, r4, r5, r6, r7, r8, r9⟩ := mover I b1
    obtain ⟨s1, s2, s3, s4, s5, s6, s7, s8, s9⟩ := mover I b2
    have e' : ownM h nr (memF h nr i) = ownM h nr (memF h nr j) := e
    have q := I.ix3.2.2 r1 s1 r2 s2 r4 s4 (by rw [r8, s8, e'])
    rw [q, s7] at r7
    have := (zI_inj (by omega) (by omega)).mp r7
    rw [← c1, ← c2, this]
theorem K_le {L : Nat} {xs : Nat → Int32} {c : Nat} {h : AH} {nh nm nr na nt nc : Nat} (I : InvN L xs c h nh nm nr na nt nc) : cnt (mayP h nr) nm ≤ nh := pig (own_inj I)
/-- the class's rows once the members before i are entered -/
def ENT (h : AH) (nh nr i : Nat) (g : AH) : Prop := OC [0] h g ∧ am_gi g 80 11 = zI nh ∧ am_gi g 80 12 = zI (cnt (mayP h nr) i) ∧ (∀ j, j < 32 → tb (am_gi g 80 13) j = obit h nh nr i j) ∧ ∀ m, m < i → mayP h nr m = true → am_gi g 82 (cnt (mayP h nr) m + 1) = zI m ∧ am_gi g 83 (cnt (mayP h nr) m + 1) = zI (ownM h nr m) ∧ am_gi g 84 (cnt (mayP h nr) m + 1) = am_gi h 226 m
theorem p68m {h : AH} (Ly : Lay h) {n : Nat} {g : Nat → Nat → Int32} (V : vCR h n g) {j : Nat} (hj : j < n) (k4 : 0 ≤ (g 0 j).toInt ∧ (g 0 j).toInt ≤ 4) (k2 : ¬ g 0 j = 2) (w : Int32) {p : Prop} [Decidable p] (e : p ↔ ¬ g 0 j = 1 ∧ g 5 j = -1 ∧ g 2 j = w) : PF 0 68 [.ref (11 + j), .int w] h (.int (bI p)) := by
  have b := V.1
  refine ws68 (by omega) _ Ly ?_
  rw [V.2.2 j hj 0 (by decide), V.2.2 j hj 2 (by decide), V.2.2 j hj 5 (by decide)]
  have five : g 0 j = 0 ∨ g 0 j = 1 ∨ g 0 j = 3 ∨ g 0 j = 4 := by
    have q := zI_of k4.1
    generalize (g 0 j).toInt.toNat = x at q
    have hx : (zI x).toInt ≤ 4 ∧ 0 ≤ (zI x).toInt := by rw [← q]; exact ⟨k4.2, k4.1⟩
    rw [i_eq, i_eq, i_eq, i_eq]
    rw [i_eq] at k2
    have a0 : (0 : Int32).toInt = 0 := rfl
    have a1 : (1 : Int32).toInt = 1 := rfl
    have a2 : (2 : Int32).toInt = 2 := rfl
    have a3 : (3 : Int32).toInt = 3 := rfl
    have a4 : (4 : Int32).toInt = 4 := rfl
    omega
  refine ⟨fun z => ⟨by rw [bI_f (fun y => z (e.mp y).2.2)], rfl⟩, fun z2 => ⟨fun z => ⟨by rw [bI_f (fun y => z (e.mp y).2.1)], rfl⟩, fun z5 => ?_⟩⟩
  have z2 := Decidable.not_not.mp z2
  have z5 := Decidable.not_not.mp z5
  refine ⟨fun z => ⟨by rw [bI_t (e.mpr ⟨by rw [z]; decide, z5, z2⟩)], rfl⟩, fun n0 => ⟨fun z => ⟨by rw [bI_t (e.mpr ⟨by rw [z]; decide, z5, z2⟩)], rfl⟩, fun n3 => ⟨fun n4 => ⟨?_, rfl⟩, fun z => ⟨by rw [bI_t (e.mpr ⟨by rw [Decidable.not_not.mp z]; decide, z5, z2⟩)], rfl⟩⟩⟩⟩
  rw [bI_f (fun y => (e.mp y).1 ((five.resolve_left n0).elim id (fun v => v.elim (fun v => absurd v n3) (fun v => absurd v n4))))]
theorem l164 {L : Nat} {xs : Nat → Int32} {c : Nat} {h : AH} {nh nm nr na nt nc d : Nat} (I : InvN L xs c h nh nm nr na nt nc) (hd : 3 ≤ d) {Q : Option Value → AH → Prop} (K : ∀ g, ENT h nh nr nm g → Ev (d + 1) 164 24 [.ref 6, .int (zI nm), .null] [] g Q) : ∀ m i g, i + m = nm → ENT h nh nr i g → Ev (d + 1) 164 24 [.ref 6, .int (zI i), .null] [] g Q
  | 0, i, g, e, E => by
    have : i = nm := by omega
    subst this; exact K g E
  | m + 1, i, g, e, E => by
    have bm := I.ime.1
    have bh := I.iho.1
    have br := I.iri.1
    obtain ⟨O, e11, e12, e13, ee⟩ := E
    have Lg := O.lay I.lay
    have X := O.ex
    have V : vCR g nr (rR h) := ⟨I.iri.1, by rw [(X.ag (t := 4) (by decide) 9 1 rfl).1]; exact I.iri.2.1, fun j hj k hk => by rw [(X.ag (t := 4) (by decide) (11 + j) k (tp_right (by omega))).1]; exact I.iri.2.2.2 j hj k hk⟩
    have d6 : am_gi g 6 0 = am_gi h 216 0 := (X.ag (t := 1) (by decide) 6 0 rfl).1.trans I.ida.1
    refine ws164_24 _ Lg ⟨fun z => absurd ?_ (show ¬ nm ≤ i by omega), fun _ => ?_⟩
    · rw [(X.ag (t := 3) (by decide) 6 4 rfl).1, I.ime.2.1] at z; exact (zI_le (by omega) (by omega)).mp z
    rw [d6, zI_succ]
    have stay : mayP h nr i = false → Ev (d + 1) 164 24 [.ref 6, .int (zI (i + 1)), .null] [] g Q := fun z => by
      refine l164 I hd K m (i + 1) g (by omega) ⟨O, e11, by rw [cnt_s0 z]; exact e12, fun j hj => ?_, fun x hx w => ?_⟩
      · show _ = (obit h nh nr i j || (mayP h nr i && decide (ownM h nr i = j)))
        rw [z, Bool.false_and, Bool.or_false]; exact e13 j hj
      · by_cases y : x = i
        · rw [y, z] at w; exact absurd w (by decide)
        · exact ee x (by omega) w
    refine Cl.i (p57 Lg V I.ix3.rv (zI_ne1 (by omega)) _) (by omega) Lg ⟨fun z => ?_, fun z => ?_⟩
    · refine stay ?_
      cases w : mayP h nr i
      · rfl
      · exact absurd z (mayP_i.mp w).1
    · obtain ⟨r, hr, er, of, ho⟩ := fMe_s z
      have kk := (I.ix3.1 r hr).1
      have k2 : ¬ rR h 0 r = 2 := fun y => by
        unfold hoR at ho; rw [y] at ho; simp at ho
      have iff : mayP h nr i = true ↔ ¬ rR h 0 r = 1 ∧ rR h 5 r = -1 ∧ rR h 2 r = zI i := by
        rw [mayP_i, show rt h nr i = zI r from er, zI_tn (by omega)]
        exact ⟨fun y => y.2, fun y => ⟨zI_ne1 (by omega), y⟩⟩
      rw [er, zI_tn (show r < 2147483648 by omega)]
      refine ⟨in_zI (by omega) (by decide), Cl.i (p68m Lg V hr kk k2 (zI i) iff) (by omega) Lg ⟨fun y => ?_, fun y => ?_⟩⟩
      · refine stay ?_
        cases w : mayP h nr i
        · rfl
        · exact absurd w (bI_0.mp y)
      · have w := bI_n0.mp y
        obtain ⟨r', hr', er', _, _, _, _, q7, q8⟩ := mover I w
        have rr : r' = r := by rw [show rt h nr i = zI r from er] at er'; exact ((zI_inj (by omega) (by omega)).mp er').symm
        subst rr
        have kl := K_le I
        have k1 := cnt_up (mayP h nr) (show i + 1 ≤ nm by omega)
        rw [cnt_s1 w] at k1
        rw [V.2.2 r' hr 1 (by decide), q7, zI_tn (show i < 2147483648 by omega), (X.ag (t := 3) (by decide) (124 + i) 4 (tp_member (by omega))).1, (I.ime.2.2.2.1 i (by omega)).1]
        refine ⟨in_zI (by omega) (by decide), in_zI (by omega) (by decide), ?_⟩
        refine Cl.qv (d := 0) (P := fun g' => ENT h nh nr (i + 1) g') (ws2 _ _ _ Lg ⟨fun _ g1 e1 => ?_, fun y => absurd (by rw [e11, e12]; exact (zI_lt (by omega) (by omega)).mpr (by omega)) y⟩) (by omega) (fun g' E' => ⟨E'.1.lay I.lay, l164 I hd K m (i + 1) g' (by omega) E'⟩)
        rw [e12, zI_succ] at e1
        have v1 : am_gi g1 80 12 = zI (cnt (mayP h nr) i + 1) := by rw [e1, gi_eq]
        rw [v1, zI_tn (show cnt (mayP h nr) i + 1 < 2147483648 by omega)]
        refine ⟨zI13 (by omega), fun g3 e3 => ?_⟩
        rw [show am_gi g3 80 12 = zI (cnt (mayP h nr) i + 1) from by rw [e3, gi_ne (by omega)]; exact v1, zI_tn (show cnt (mayP h nr) i + 1 < 2147483648 by omega)]
        refine ⟨zI13 (by omega), fun g5 e5 => ?_⟩
        rw [show am_gi g5 80 12 = zI (cnt (mayP h nr) i + 1) from by rw [e5, gi_ne (by omega), e3, gi_ne (by omega)]; exact v1, zI_tn (show cnt (mayP h nr) i + 1 < 2147483648 by omega)]
        refine ⟨zI13 (by omega), fun g7 e7 g8 e8 => ⟨rfl, ?_⟩⟩
        have v13 : am_gi g7 80 13 = am_gi g 80 13 := by rw [e7, gi_ne (by omega), e5, gi_ne (by omega), e3, gi_ne (by omega), e1, gi_ne (by omega)]
        rw [v13] at e8
        have o8 : OC [0] h g8 := by
          rw [e8, e7, e5, e3, e1]
          exact ((((O.si (by omega) (by rw [tp_80 (by omega)]; decide)).si (by omega) (by rw [tp_80 (by omega)]; decide)).si (by omega) (by rw [tp_80 (by omega)]; decide)).si (by omega) (by rw [tp_80 (by omega)]; decide)).si (by omega) (by rw [tp_80 (by omega)]; decide)
        refine ⟨o8, ?_, ?_, fun j hj => ?_, fun x hx wx => ?_⟩
        · rw [e8, gi_ne (by omega), e7, gi_ne (by omega), e5, gi_ne (by omega), e3, gi_ne (by omega), e1, gi_ne (by omega)]; exact e11
        · rw [cnt_s1 w, e8, gi_ne (by omega), e7, gi_ne (by omega), e5, gi_ne (by omega), e3, gi_ne (by omega)]; exact v1
        · rw [e8, gi_eq, tb_set (by omega) hj, e13 j hj]
          show _ = (obit h nh nr i j || (mayP h nr i && decide (ownM h nr i = j)))
          rw [w, Bool.true_and]
          by_cases y : j = ownM h nr i
          · rw [decide_eq_true y, decide_eq_true y.symm]
          · rw [decide_eq_false y, decide_eq_false (fun v => y v.symm)]
        · by_cases y : x = i
          · rw [y, e8, gi_ne (by omega), gi_ne (by omega), gi_ne (by omega), e7, gi_ne (by omega), gi_ne (by omega), gi_eq, e5, gi_ne (by omega), gi_eq, e3, gi_eq]
            exact ⟨rfl, rfl, rfl⟩
          · have lt := cnt_up (mayP h nr) (show x + 1 ≤ i by omega)
            rw [cnt_s1 wx] at lt
            rw [e8, gi_ne (by omega), gi_ne (by omega), gi_ne (by omega), e7, gi_ne (by omega), gi_ne (by omega), gi_ne (by omega), e5, gi_ne (by omega), gi_ne (by omega), gi_ne (by omega), e3, gi_ne (by omega), gi_ne (by omega), gi_ne (by omega), e1, gi_ne (by omega), gi_ne (by omega), gi_ne (by omega)]
            exact ee x (by omega) wx
theorem c164 {L : Nat} {xs : Nat → Int32} {c : Nat} {h : AH} {nh nm nr na nt nc : Nat} (I : InvN L xs c h nh nm nr na nt nc) {fr : Nat → Nat} (R : RS (cnt (mayP h nr) nm) nh (ownF h nr) (alF h nh nm nr) fr) : Cl 7 164 [.ref 6] h (fun r h' => r = some (.int (zI (cm (ownF h nr) fr (cnt (mayP h nr) nm)))) ∧ GS nh (cnt (mayP h nr) nm) (ownF h nr) (memF h nr) fr h h') := by
  have Ly := I.lay
  have bm := I.ime.1
  have bh := I.iho.1
  have V : vCR h nr (rR h) := ⟨I.iri.1, I.iri.2.1, I.iri.2.2.2⟩
  have P := p148 Ly V I.iho.2.1 bh
  rw [I.ida.1] at P
  refine ws164 (d := 6) Ly (Cl.i P (by decide) Ly (Cl.i (p153 I) (by decide) Ly ?_))
  rw [I.iho.2.1]
  refine Cl.qv (d := 1) (P := fun g => ENT h nh nr 0 g) (ws1 _ _ Ly (wp265 _ _ ⟨fun z => absurd z ?_, fun _ => ⟨_, rfl, Ly, fun g4 e4 g5 e5 g6 e6 => ⟨rfl, ?_⟩⟩⟩)) (by decide) (fun g E => ⟨E.1.lay Ly, ?_⟩)
  · exact fun z => absurd ((zI_lt (m := 12) (by decide) (by omega)).mp z) (by omega)
  · refine ⟨?_, ?_, ?_, fun j hj => ?_, fun m hm => absurd hm (by omega)⟩
    · rw [e6, e5, e4]
      exact (((OC.rf [0] h).si (by omega) (by decide)).si (by omega) (by decide)).si (by omega) (by decide)
    · rw [e6, gi_ne (by omega), e5, gi_ne (by omega), e4, gi_eq]
    · rw [e6, gi_ne (by omega), e5, gi_eq]; rfl
    · rw [e6, gi_eq, tb_and, tb_xor, tb_m1 j hj, bset_tb _ nh (by omega) j hj, bset_tb _ nh (by omega) j hj]
      show _ = (decide (j < nh) && (decide (fHo (rR h) nr (zI j) (am_gi h 216 0) = -1) && !offP h j))
      cases decide (j < nh) <;> cases decide (fHo (rR h) nr (zI j) (am_gi h 216 0) = -1) <;> cases offP h j <;> rfl
  · refine l164 (d := 6) I (by decide) (fun g2 E2 => ?_) nm 0 g (by omega) E
    obtain ⟨O, e11, e12, e13, ee⟩ := E2
    have L2 := O.lay Ly
    refine ws164_24 (d := 6) _ L2 ⟨fun _ => ?_, fun z => absurd ?_ z⟩
    · have mk : ∀ k, k < cnt (mayP h nr) nm → memF h nr k < nm ∧ am_gi g2 82 (k + 1) = zI (memF h nr k) ∧ am_gi g2 83 (k + 1) = zI (ownF h nr k) ∧ am_gi g2 84 (k + 1) = am_gi h 226 (memF h nr k) := fun k hk => by
        obtain ⟨a, b, cc⟩ := memF_k bm hk
        have := ee (memF h nr k) a b
        rw [cc] at this
        exact ⟨a, this⟩
      have PDx : PD nh (cnt (mayP h nr) nm) (ownF h nr) (alF h nh nm nr) g2 := ⟨L2, bh, K_le I, e11, e12, fun k hk => ⟨(own_inj I).1 k hk, (mk k hk).2.2.1⟩, fun k j hk hj => by
        rw [tb_and, (mk k hk).2.2.2, e13 j (by omega)]; rfl⟩
      refine Cl.qi (c3 PDx (fun k hk => ⟨by have := (mk k hk).1; omega, (mk k hk).2.1⟩) (fun i j hi hj e => ?_) (own_inj I) R) (by decide) (fun g3 G => ⟨(O.tr G.1).lay Ly, rfl, O.tr G.1, G.2⟩)
      have a := memF_k (h := h) bm hi
      have b := memF_k (h := h) bm hj
      rw [← a.2.2, ← b.2.2, e]
    · rw [(O.ex.ag (t := 3) (by decide) 6 4 rfl).1, I.ime.2.1]; exact (zI_le (by omega) (by omega)).mpr (Nat.le_refl _)
