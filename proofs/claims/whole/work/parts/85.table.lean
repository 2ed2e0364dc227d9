/-! BEST 9: the reference gathers, reckons and chooses -/
theorem tp_s {a k : Nat} (h : (a = 216 ∧ (k = 61 ∨ k = 66)) ∨ (256 ≤ a ∧ a < 260)) : tp a k = 0 := by
  rcases h with ⟨rfl, rfl | rfl⟩ | h
  · rfl
  · rfl
  · unfold tp; (repeat' (first | rw [if_pos (by omega)] | rw [if_neg (by omega)]))
/-- the reference's cells are as they were, but what none reads -/
def Em (h g : AH) : Prop := Sm h g ∧ ∀ a k, 216 ≤ a → a < 263 → ¬ tp a k = 0 → am_gi g a k = am_gi h a k ∧ am_gl g a k = am_gl h a k
theorem Em.rf (h : AH) : Em h h := ⟨Sm.rfl' _, fun _ _ _ _ _ => ⟨rfl, rfl⟩⟩
theorem Ex.em {h g : AH} (X : Ex [0] h g) : Em h g := ⟨X.1, fun a k _ _ z => X.2 a k (fun y => z (List.mem_singleton.mp y))⟩
def Er (h h1 g : AH) : Prop := Em h h1 ∧ OM [0] h1 g
theorem Er.em {h h1 g : AH} (X : Er h h1 g) : Em h g := ⟨X.1.1.trans X.2.1, fun a k a1 a2 z => by
  have q := X.2.2 a k (Or.inr (fun y => z (List.mem_singleton.mp y)))
  have r := X.1.2 a k a1 a2 z
  exact ⟨q.1.trans r.1, q.2.trans r.2⟩⟩
theorem Er.lay {h h1 g : AH} (X : Er h h1 g) (L : Lay h) : Lay g := X.em.1.lay L
theorem Er.ag {h h1 g : AH} (X : Er h h1 g) {t : Nat} (n : t ∉ [0]) (a k : Nat) (e : tp a k = t) (b : 216 ≤ a ∧ a < 263 := by decide) : am_gi g a k = am_gi h a k ∧ am_gl g a k = am_gl h a k := X.em.2 a k b.1 b.2 (fun z => n (by rw [← e, z]; exact List.mem_singleton.mpr rfl))
theorem Er.s0 {h h1 g : AH} (X : Er h h1 g) {a k : Nat} (v : Int32) (z : (a = 216 ∧ (k = 61 ∨ k = 66)) ∨ (256 ≤ a ∧ a < 260)) : Er h h1 (am_si g a k v) := ⟨X.1, X.2.si (by omega) (by rw [tp_s z]; decide)⟩
theorem Er.vm {L : Nat} {xs : Nat → Int32} {c : Nat} {h h1 g : AH} {nh nm nr na nt nc : Nat} (I : InvN L xs c h nh nm nr na nt nc) (X : Er h h1 g) : vMR g nr (rR h) := ⟨I.iri.1, by rw [(X.ag (t := 4) (by decide) 216 14 rfl).1]; exact I.iri.2.2.1, fun i _ k hk => (X.ag (t := 4) (by decide) (228 + k) i (tp_rr hk) (by omega)).1⟩
theorem p236 {L : Nat} {xs : Nat → Int32} {c : Nat} {h h1 g : AH} {nh nm nr na nt nc : Nat} (I : InvN L xs c h nh nm nr na nt nc) (X : Er h h1 g) {m : Nat} (hm : m < 24) : PF 2 236 [.ref 216, .int (zI m)] g (.int (bI (mayP h nr m = true))) := by
  have Lg := X.lay I.lay
  have V := X.vm I
  have br := I.iri.1
  refine ws236 _ Lg ?_
  rw [(X.ag (t := 1) (by decide) 216 0 rfl).1]
  refine Cl.i (p174 Lg V _ _) (by decide) Lg ⟨fun z => ⟨?_, rfl⟩, fun z => ?_⟩
  · rw [bI_f (fun y => (mayP_i.mp y).1 z)]
  · obtain ⟨r, hr, er, _, _⟩ := fMe_s z
    have iff : mayP h nr m = true ↔ ¬ rR h 0 r = 1 ∧ rR h 5 r = -1 ∧ rR h 2 r = zI m := by
      rw [mayP_i, show rt h nr m = zI r from er, zI_tn (by omega)]
      exact ⟨fun y => y.2, fun y => ⟨zI_ne1 (by omega), y⟩⟩
    have i60 : am_in (zI r) 60 := in_zI (by omega) (by decide)
    rw [er, zI_tn (by omega), show am_gi g 228 r = rR h 0 r from V.2.2 r hr 0 (by decide), show am_gi g 233 r = rR h 5 r from V.2.2 r hr 5 (by decide), show am_gi g 230 r = rR h 2 r from V.2.2 r hr 2 (by decide)]
    exact ⟨i60, fun y => ⟨by rw [bI_f (fun w => (iff.mp w).1 y)], rfl⟩, fun y => ⟨i60, fun x => ⟨by rw [bI_f (fun w => x (iff.mp w).2.1)], rfl⟩, fun x => ⟨i60, fun v => ⟨by rw [bI_f (fun w => v (iff.mp w).2.2)], rfl⟩, fun v => ⟨by rw [bI_t (iff.mpr ⟨y, Decidable.not_not.mp x, Decidable.not_not.mp v⟩)], rfl⟩⟩⟩⟩
def obase (h : AH) (nr j : Nat) : Bool := decide (fHo (rR h) nr (zI j) (am_gi h 216 0) = -1) && !offP h j
theorem l237a {L : Nat} {xs : Nat → Int32} {c : Nat} {h h1 : AH} {nh nm nr na nt nc d : Nat} (I : InvN L xs c h nh nm nr na nt nc) (hd : 1 ≤ d) {Q : Option Value → AH → Prop} (K : ∀ g, Er h h1 g → am_gi g 216 61 = 0 → (∀ j, j < 32 → tb (am_gi g 216 66) j = (decide (j < nh) && obase h nr j)) → Ev (d + 1) 237 66 [.ref 216, .int 0] [] g Q) : ∀ m i g, i + m = nh → Er h h1 g → am_gi g 216 61 = 0 → (∀ j, j < 32 → tb (am_gi g 216 66) j = (decide (j < i) && obase h nr j)) → Ev (d + 1) 237 12 [.ref 216, .int (zI i)] [] g Q
  | 0, i, g, e, X, e61, J => by
    have bh := I.iho.1
    have ei : i = nh := by omega
    subst ei
    refine ws237_12 _ (X.lay I.lay) ⟨fun _ => K g X e61 J, fun z => absurd ?_ z⟩
    rw [(X.ag (t := 2) (by decide) 216 1 rfl).1, I.iho.2.2.1]; exact (zI_le (by omega) (by omega)).mpr (Nat.le_refl _)
  | m + 1, i, g, e, X, e61, J => by
    have bh := I.iho.1
    have Lg := X.lay I.lay
    refine ws237_12 _ Lg ⟨fun z => absurd ?_ (show ¬ nh ≤ i by omega), fun _ => ?_⟩
    · rw [(X.ag (t := 2) (by decide) 216 1 rfl).1, I.iho.2.2.1] at z; exact (zI_le (by omega) (by omega)).mp z
    rw [(X.ag (t := 1) (by decide) 216 0 rfl).1, zI_succ]
    have no : ∀ g', g' = am_si g 216 66 (am_gi g 216 66 ||| 0) → obase h nr i = false → Ev (d + 1) 237 12 [.ref 216, .int (zI (i + 1))] [] g' Q := fun g' e' z => by
      refine l237a I hd K m (i + 1) g' (by omega) (by rw [e']; exact X.s0 _ (by omega)) (by rw [e', gi_ne (by omega)]; exact e61) (fun j hj => ?_)
      rw [e', gi_eq, tb_or, tb_zero, Bool.or_false, J j hj]
      by_cases y : j = i
      · rw [y, z, Bool.and_false, Bool.and_false]
      · rw [show decide (j < i) = decide (j < i + 1) from decide_eq_decide.mpr (by omega)]
    refine Cl.i (p173 Lg (X.vm I) _ _) (by omega) Lg ⟨fun z g4 e4 => no g4 e4 ?_, fun z => ?_⟩
    · unfold obase; rw [decide_eq_false z, Bool.false_and]
    · have z := Decidable.not_not.mp z
      rw [zI_tn (by omega), (X.ag (t := 2) (by decide) 220 i rfl).1]
      refine ⟨in_zI (by omega) (by decide), fun y g4 e4 => no g4 e4 ?_, fun y g4 e4 => ?_⟩
      · unfold obase offP; rw [decide_eq_false y]; simp
      · have y := Decidable.not_not.mp y
        have ob : obase h nr i = true := by unfold obase offP; rw [decide_eq_true z, decide_eq_true y]; rfl
        refine l237a I hd K m (i + 1) g4 (by omega) (by rw [e4]; exact X.s0 _ (by omega)) (by rw [e4, gi_ne (by omega)]; exact e61) (fun j hj => ?_)
        rw [e4, gi_eq, tb_set (by omega) hj, J j hj]
        by_cases w : j = i
        · rw [w, ob, decide_eq_true rfl, decide_eq_true (show i < i + 1 by omega)]; simp
        · rw [decide_eq_false w, Bool.or_false, show decide (j < i) = decide (j < i + 1) from decide_eq_decide.mpr (by omega)]
/-- the reference's rows once the members before i are gathered -/
def RG (h h1 : AH) (nh nr i : Nat) (g : AH) : Prop := Er h h1 g ∧ am_gi g 216 61 = zI (cnt (mayP h nr) i) ∧ (∀ j, j < 32 → tb (am_gi g 216 66) j = obit h nh nr i j) ∧ ∀ m, m < i → mayP h nr m = true → am_gi g 256 (cnt (mayP h nr) m) = zI m ∧ am_gi g 257 (cnt (mayP h nr) m) = zI (ownM h nr m)
theorem l237b {L : Nat} {xs : Nat → Int32} {c : Nat} {h h1 : AH} {nh nm nr na nt nc d : Nat} (I : InvN L xs c h nh nm nr na nt nc) (hd : 2 ≤ d) : ∀ m i g, i + m = nm → RG h h1 nh nr i g → Ev (d + 1) 237 66 [.ref 216, .int (zI i)] [] g (fun r g' => r = none ∧ RG h h1 nh nr nm g')
  | 0, i, g, e, E => by
    have bm := I.ime.1
    have ei : i = nm := by omega
    subst ei
    refine ws237_66 _ (E.1.lay I.lay) ⟨fun _ => ⟨rfl, E⟩, fun z => absurd ?_ z⟩
    rw [(E.1.ag (t := 3) (by decide) 216 7 rfl).1, I.ime.2.2.1]; exact (zI_le (by omega) (by omega)).mpr (Nat.le_refl _)
  | m + 1, i, g, e, E => by
    have bm := I.ime.1
    have bh := I.iho.1
    have br := I.iri.1
    obtain ⟨X, e61, e66, ee⟩ := E
    have Lg := X.lay I.lay
    have kl := K_le I
    have k0 := cnt_up (mayP h nr) (show i ≤ nm by omega)
    refine ws237_66 _ Lg ⟨fun z => absurd ?_ (show ¬ nm ≤ i by omega), fun _ => ?_⟩
    · rw [(X.ag (t := 3) (by decide) 216 7 rfl).1, I.ime.2.2.1] at z; exact (zI_le (by omega) (by omega)).mp z
    rw [zI_succ]
    refine Cl.i (p236 I X (by omega)) (by omega) Lg ⟨fun z => ?_, fun z => ?_⟩
    · have z : mayP h nr i = false := by
        cases w : mayP h nr i
        · rfl
        · exact absurd w (bI_0.mp z)
      refine l237b I hd m (i + 1) g (by omega) ⟨X, by rw [cnt_s0 z]; exact e61, fun j hj => ?_, fun x hx w => ?_⟩
      · show _ = (obit h nh nr i j || (mayP h nr i && decide (ownM h nr i = j)))
        rw [z, Bool.false_and, Bool.or_false]; exact e66 j hj
      · by_cases y : x = i
        · rw [y, z] at w; exact absurd w (by decide)
        · exact ee x (by omega) w
    · have w := bI_n0.mp z
      obtain ⟨r, hr, er, _, _, _, _, q7, q8⟩ := mover I w
      have k1 := cnt_up (mayP h nr) (show i + 1 ≤ nm by omega)
      rw [cnt_s1 w] at k1
      rw [e61, zI_tn (show cnt (mayP h nr) i < 2147483648 by omega)]
      refine ⟨in_zI (by omega) (by decide), fun g5 e5 => ?_⟩
      have X5 : Er h h1 g5 := by rw [e5]; exact X.s0 _ (by omega)
      have L5 := X5.lay I.lay
      have v61 : am_gi g5 216 61 = zI (cnt (mayP h nr) i) := by rw [e5, gi_ne (by omega)]; exact e61
      rw [(X5.ag (t := 1) (by decide) 216 0 rfl).1]
      have P := p174 L5 (X5.vm I) (zI i) (am_gi h 216 0)
      rw [show fMe (rR h) nr (zI i) (am_gi h 216 0) = zI r from er] at P
      refine Cl.i P (by omega) L5 ?_
      rw [v61, zI_tn (show cnt (mayP h nr) i < 2147483648 by omega), zI_tn (show r < 2147483648 by omega), show am_gi g5 229 r = zI (ownM h nr i) from ((X5.vm I).2.2 r hr 1 (by decide)).trans q7]
      refine ⟨in_zI (by omega) (by decide), in_zI (by omega) (by decide), fun g11 e11 => ?_⟩
      have w61 : am_gi g11 216 61 = zI (cnt (mayP h nr) i) := by rw [e11, gi_ne (by omega)]; exact v61
      rw [w61, zI_tn (show cnt (mayP h nr) i < 2147483648 by omega), show am_gi g11 257 (cnt (mayP h nr) i) = zI (ownM h nr i) from by rw [e11, gi_eq]]
      refine ⟨in_zI (by omega) (by decide), fun g13 e13 g14 e14 => ?_⟩
      have u66 : am_gi g11 216 66 = am_gi g 216 66 := by rw [e11, gi_ne (by omega), e5, gi_ne (by omega)]
      rw [u66] at e13
      have u61 : am_gi g13 216 61 = zI (cnt (mayP h nr) i) := by rw [e13, gi_ne (by omega)]; exact w61
      rw [u61, zI_succ] at e14
      refine l237b I hd m (i + 1) g14 (by omega) ⟨?_, ?_, fun j hj => ?_, fun x hx wx => ?_⟩
      · rw [e14, e13, e11]; exact ((X5.s0 _ (by omega)).s0 _ (by omega)).s0 _ (by omega)
      · rw [e14, gi_eq, cnt_s1 w]
      · rw [e14, gi_ne (by omega), e13, gi_eq, tb_set (by omega) hj, e66 j hj]
        show _ = (obit h nh nr i j || (mayP h nr i && decide (ownM h nr i = j)))
        rw [w, Bool.true_and]
        by_cases y : j = ownM h nr i
        · rw [decide_eq_true y, decide_eq_true y.symm]
        · rw [decide_eq_false y, decide_eq_false (fun v => y v.symm)]
      · by_cases y : x = i
        · rw [y, e14, gi_ne (by omega), gi_ne (by omega), e13, gi_ne (by omega), gi_ne (by omega), e11, gi_eq, gi_ne (by omega), e5, gi_eq]; exact ⟨rfl, rfl⟩
        · have lt := cnt_up (mayP h nr) (show x + 1 ≤ i by omega)
          rw [cnt_s1 wx] at lt
          rw [e14, gi_ne (by omega), gi_ne (by omega), e13, gi_ne (by omega), gi_ne (by omega), e11, gi_ne (by omega), gi_ne (by omega), e5, gi_ne (by omega), gi_ne (by omega)]
          exact ee x (by omega) wx
theorem m237 {L : Nat} {xs : Nat → Int32} {c : Nat} {h h1 g : AH} {nh nm nr na nt nc : Nat} (I : InvN L xs c h nh nm nr na nt nc) (X : Er h h1 g) : Cl 3 237 [.ref 216] g (fun r g' => r = none ∧ RG h h1 nh nr nm g') := by
  refine ws237 (d := 2) (X.lay I.lay) (fun g1 e1 g2 e2 => ?_)
  refine l237a (d := 2) I (by decide) (fun g3 X3 e61 J => ?_) nh 0 g2 (by omega) (by rw [e2, e1]; exact (X.s0 _ (by omega)).s0 _ (by omega)) (by rw [e2, gi_ne (by omega), e1, gi_eq]) (fun j hj => ?_)
  · refine l237b (d := 2) I (by decide) nm 0 g3 (by omega) ⟨X3, e61, fun j hj => ?_, fun m hm => absurd hm (by omega)⟩
    rw [J j hj]; rfl
  · rw [e2, gi_eq, tb_zero, decide_eq_false (by omega), Bool.false_and]
/-- the rows as those who reckon use them -/
def RK (h h1 : AH) (nh nm nr : Nat) (g : AH) : Prop := Er h h1 g ∧ am_gi g 216 61 = zI (cnt (mayP h nr) nm) ∧ (∀ j, j < 32 → tb (am_gi g 216 66) j = obit h nh nr nm j) ∧ ∀ k, k < cnt (mayP h nr) nm → am_gi g 256 k = zI (memF h nr k) ∧ am_gi g 257 k = zI (ownF h nr k)
theorem RG.k {h h1 g : AH} {nh nm nr : Nat} (bm : nm ≤ 24) (R : RG h h1 nh nr nm g) : RK h h1 nh nm nr g := ⟨R.1, R.2.1, R.2.2.1, fun k hk => by
  obtain ⟨a, b, cc⟩ := memF_k (h := h) bm hk
  have := R.2.2.2 (memF h nr k) a b
  rw [cc] at this; exact this⟩
theorem RK.w {h h1 g : AH} {nh nm nr a k : Nat} (R : RK h h1 nh nm nr g) (v : Int32) (z : a = 258 ∨ a = 259) : RK h h1 nh nm nr (am_si g a k v) := ⟨R.1.s0 _ (by omega), by rw [gi_ne (by omega)]; exact R.2.1, fun j hj => by rw [gi_ne (by omega)]; exact R.2.2.1 j hj, fun x hx => by rw [gi_ne (by omega), gi_ne (by omega)]; exact R.2.2.2 x hx⟩
/-- the own home is among the free ones -/
theorem obit_own {h : AH} {nh nr m : Nat} (w : mayP h nr m = true) : ∀ i, m < i → obit h nh nr i (ownM h nr m) = true
  | 0, hm => absurd hm (by omega)
  | i + 1, hm => by
    show (obit h nh nr i (ownM h nr m) || (mayP h nr i && decide (ownM h nr i = ownM h nr m))) = true
    by_cases y : m = i
    · rw [← y, w, decide_eq_true rfl]; simp
    · rw [obit_own w i (by omega), Bool.true_or]
theorem p239 {L : Nat} {xs : Nat → Int32} {c : Nat} {h h1 g : AH} {nh nm nr na nt nc : Nat} (I : InvN L xs c h nh nm nr na nt nc) (R : RK h h1 nh nm nr g) {k j S : Nat} (hk : k < cnt (mayP h nr) nm) (hj : j < nh) (hS : S < 4096) : PF 0 239 [.ref 216, .int (zI k), .int (zI j), .int (zI S)] g (.int (CH (ownF h nr) (alF h nh nm nr) k j S (fun S => am_gi g 259 (4096 * (k + 1) + S)))) := by
  have bm := I.ime.1
  have bh := I.iho.1
  have kl := K_le I
  obtain ⟨X, e61, e66, e2⟩ := R
  have Lg := X.lay I.lay
  obtain ⟨q1, q2⟩ := e2 k hk
  obtain ⟨m1, m2, m3⟩ := memF_k (h := h) bm hk
  have on := (own_inj I).1 k hk
  obtain ⟨b1, b2, b3⟩ := orS_b hS (show j < 12 by omega)
  have ea : (4096 : Int32) * (zI k + 1) + zI (orS S j) = zI (4096 * (k + 1) + orS S j) := by rw [zI_succ, show (4096 : Int32) = zI 4096 from rfl, zI_mul, zI_add]
  have wq : am_gi g 226 (memF h nr k) = am_gi h 226 (memF h nr k) := (X.ag (t := 3) (by decide) 226 _ rfl).1
  have bq1 : ∀ x : Int32, ((x >>> (zI j &&& 31)) &&& 1 = 1) ↔ tb x j = true := fun x => by rw [show (x >>> (zI j &&& 31)) &&& 1 = bq x j from rfl]; exact bq_1 (by omega)
  have i24 : am_in (zI k) 24 := in_zI (by omega) (by decide)
  -- behind the test
  have e83 : ∀ s0 : Int32, (s0 = -1 → CH (ownF h nr) (alF h nh nm nr) k j S (fun S => am_gi g 259 (4096 * (k + 1) + S)) = -1) → (¬ s0 = -1 → CH (ownF h nr) (alF h nh nm nr) k j S (fun S => am_gi g 259 (4096 * (k + 1) + S)) = if j = ownF h nr k then s0 else s0 + 1) → Ev 0 239 83 [.ref 216, .int (zI k), .int (zI j), .null, .null, .null] [.int s0] g (fun r h' => r = some (.int (CH (ownF h nr) (alF h nh nm nr) k j S (fun S => am_gi g 259 (4096 * (k + 1) + S)))) ∧ h' = g) := fun s0 z1 z2 => by
    refine ws239_83 _ _ _ Lg ⟨fun y => ?_, fun y => ⟨by rw [z1 (Decidable.not_not.mp y)], rfl⟩⟩
    rw [zI_tn (by omega), q2, z2 y]
    refine ⟨i24, fun x => ⟨?_, rfl⟩, fun x => ⟨?_, rfl⟩⟩
    · rw [if_neg (fun w => x (by rw [w]))]
    · rw [if_pos ((zI_inj (by omega) (by omega)).mp (Decidable.not_not.mp x)), zI_a0]
  have no : ¬ (tb (zI S) j = false ∧ okb (ownF h nr) (alF h nh nm nr) k j = true) → Ev 0 239 54 [.ref 216, .int (zI k), .int (zI j), .int (zI S), .null, .null] [.int 0] g (fun r h' => r = some (.int (CH (ownF h nr) (alF h nh nm nr) k j S (fun S => am_gi g 259 (4096 * (k + 1) + S)))) ∧ h' = g) := fun z =>
    ws239_54 _ _ _ _ Lg ⟨fun _ => e83 (-1) (fun _ => by unfold CH; rw [if_neg z]) (fun y => absurd rfl y), fun y => absurd rfl y⟩
  have yes : (tb (zI S) j = false ∧ okb (ownF h nr) (alF h nh nm nr) k j = true) → Ev 0 239 54 [.ref 216, .int (zI k), .int (zI j), .int (zI S), .null, .null] [.int 1] g (fun r h' => r = some (.int (CH (ownF h nr) (alF h nh nm nr) k j S (fun S => am_gi g 259 (4096 * (k + 1) + S)))) ∧ h' = g) := fun z => by
    refine ws239_54 _ _ _ _ Lg ⟨fun y => absurd y (by decide), fun _ => ?_⟩
    rw [← b2, ea, zI_tn (by omega)]
    refine ⟨in_zI (by omega) (by decide), e83 _ (fun y => ?_) (fun y => ?_)⟩
    · unfold CH; rw [if_pos z, if_pos y]
    · unfold CH; rw [if_pos z, if_neg y]
  have obo : obit h nh nr nm (ownF h nr k) = true := obit_own m2 nm m1
  refine ws239 _ _ _ Lg ⟨fun z => no (fun y => ?_), fun z => ⟨fun y => no (fun x => ?_), fun y => ?_⟩⟩
  · rw [bqx (by omega)] at z
    rw [y.1] at z; exact z (by decide)
  · rw [bq1, e66 j (by omega)] at y
    rcases okb_i.mp x.2 with w | w
    · rw [w] at y; exact y obo
    · unfold alF at w; rw [Bool.and_eq_true] at w; exact y w.2
  · have z : tb (zI S) j = false := by
      have z := (bqx (by omega)).mp (Decidable.not_not.mp z)
      simpa using z
    have y := (bq1 _).mp (Decidable.not_not.mp y)
    rw [e66 j (by omega)] at y
    rw [zI_tn (show k < 2147483648 by omega), q2, q1, zI_tn (show memF h nr k < 2147483648 by omega), wq]
    refine ⟨i24, fun x => yes ⟨z, okb_i.mpr (Or.inl ((zI_inj (by omega) (by omega)).mp x))⟩, fun x => ⟨i24, in_zI (by omega) (by decide), fun w => no (fun v => ?_), fun w => yes ⟨z, okb_i.mpr (Or.inr ?_)⟩⟩⟩
    · rcases okb_i.mp v.2 with u | u
      · exact x (by rw [u])
      · unfold alF at u; rw [Bool.and_eq_true] at u; exact w ((bq1 _).mpr u.1)
    · unfold alF; rw [y, (bq1 _).mp (Decidable.not_not.mp w)]; rfl
