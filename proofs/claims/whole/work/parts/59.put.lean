/-! PUT -/
theorem p78x {c : Nat} {h : AH} {nt : Nat} (Ly : Lay h) (X : ITx h nt c) {t : Nat} (ht : t < nt) (d : Int32) : PF 1 78 [.ref (148 + 4 * t), .int d] h (.int (bI ((¬ am_gi h 240 t = 0) ∧ am_gi h 241 t = 0 ∧ ¬ d < am_gi h 242 t))) := by
  have b := X.1
  have T := (X.2.2.2.2.1 t ht).1
  refine ws78 (by omega) _ Ly (Cl.i ((p77 Ly (by omega)).c T.ca) (by decide) Ly ⟨fun z => ⟨?_, rfl⟩, fun z => ⟨fun y => ⟨?_, rfl⟩, fun y => ⟨fun x => ⟨?_, rfl⟩, fun x => ⟨?_, rfl⟩⟩⟩⟩)
  · rw [bI_f]; exact fun w => bI_0.mp z w.1
  · rw [T.2.2.1.1] at y; rw [bI_f]; exact fun w => y w.2.1
  · rw [T.2.2.2.2.1] at x; rw [bI_f]; exact fun w => w.2.2 x
  · rw [T.2.2.1.1] at y; rw [T.2.2.2.2.1] at x; rw [bI_t]; exact ⟨bI_n0.mp z, Decidable.not_not.mp y, x⟩
theorem l154x {c : Nat} {h : AH} {nt : Nat} (Ly : Lay h) (X : ITx h nt c) (d : Int32) : ∀ m i a, i + m = nt → a < nt → (¬ am_gi h 240 a = 0) → Ev 2 154 4 [.ref 6, .int d, .int (zI a), .int (zI i)] [] h (fun r h' => r = some (.int (zI (fold (tStep h d) a i m))) ∧ h' = h)
  | 0, i, a, e, ha, hc => ws154_4 _ _ _ Ly ⟨fun _ => ⟨rfl, rfl⟩, fun z => absurd (by rw [X.2.1, ← e]; exact Int32.le_refl _) z⟩
  | m + 1, i, a, e, ha, hc => by
    have b := X.1
    have hi : i < nt := by omega
    have cr : ∀ t, t < nt → (¬ am_gi h 240 t = 0) → am_gi h (148 + 4 * t) 6 = am_gi h 243 t := fun t ht q => (X.2.2.2.2.1 t ht).1.2.2.2.1.elim (fun z => z.2.1) (fun z => absurd z.1 q)
    have i12 : am_in (zI i) 12 := in_zI (by omega) (by decide)
    refine ws154_4 _ _ _ Ly ⟨fun z => absurd z (by rw [X.2.1, zI_le (by omega) (by omega)]; omega), fun _ => ⟨i12, ?_⟩⟩
    rw [zI_tn (by omega), zI_tn (by omega), zI_succ]
    show Cl _ _ _ _ _
    have ef : fold (tStep h d) a i (m + 1) = fold (tStep h d) (tStep h d a i) (i + 1) m := rfl
    rw [ef]
    refine Cl.i (p78x Ly X hi d) (by decide) Ly ⟨fun z => ?_, fun z => ⟨i12, in_zI (by omega) (by decide), ?_⟩⟩
    · have : tStep h d a i = a := by unfold tStep; rw [if_neg (fun w => bI_0.mp z ⟨w.1, w.2.1, w.2.2.1⟩)]
      rw [this]; exact l154x Ly X d m (i + 1) a (by omega) ha hc
    · have q := bI_n0.mp z
      rw [cr i hi q.1, cr a ha hc]
      refine ⟨fun y => ?_, fun y => ?_⟩
      · have : tStep h d a i = a := by unfold tStep; rw [if_neg (fun w => w.2.2.2 y)]
        rw [this]; exact l154x Ly X d m (i + 1) a (by omega) ha hc
      · have : tStep h d a i = i := by unfold tStep; rw [if_pos ⟨q.1, q.2.1, q.2.2, y⟩]
        rw [this]; exact l154x Ly X d m (i + 1) i (by omega) hi q.1
theorem p154x {c : Nat} {h : AH} {nt : Nat} (Ly : Lay h) (X : ITx h nt c) (d : Int32) : PF 2 154 [.ref 6, .int d] h (.int (zI (tOn h nt d))) := by
  have b := X.1
  have e : tOn h nt d = fold (tStep h d) 0 1 (nt - 1) := by
    unfold tOn
    obtain ⟨k, rfl⟩ : ∃ k, nt = k + 1 := ⟨nt - 1, by omega⟩
    show fold (tStep h d) (tStep h d 0 0) (0 + 1) k = _
    rw [tStep0]; rfl
  rw [e]
  exact ws154 _ Ly (l154x Ly X d (nt - 1) 1 0 (by omega) (by omega) (by rw [X.2.2.2.2.2.1.1]; decide))
theorem l148 {h : AH} (Ly : Lay h) {n nh : Nat} {g : Nat → Nat → Int32} (V : vCR h n g) (en : am_gi h 6 2 = zI nh) (b : nh ≤ 12) : ∀ m i, i + m = nh → Ev 5 148 4 [.ref 6, .int (bset (fun j => decide (fHo g n (zI j) (am_gi h 6 0) = -1)) i), .int (zI i)] [] h (fun r h' => r = some (.int (bset (fun j => decide (fHo g n (zI j) (am_gi h 6 0) = -1)) nh)) ∧ h' = h)
  | 0, i, e => by
    have e' : i = nh := by omega
    subst e'
    exact ws148_4 _ _ Ly ⟨fun _ => ⟨rfl, rfl⟩, fun z => absurd (by rw [en]; exact Int32.le_refl _) z⟩
  | m + 1, i, e => by
    have ih := l148 Ly V en b m (i + 1) (by omega)
    refine ws148_4 _ _ Ly ⟨fun z => absurd z (by rw [en, zI_le (by omega) (by omega)]; omega), fun _ => ?_⟩
    rw [zI_succ]
    refine Cl.i (p147 Ly V _) (by decide) Ly ⟨fun z => ?_, fun z => ?_⟩
    · rw [bset_s0 (decide_eq_false_iff_not.mpr (bI_0.mp z))] at ih; exact ih
    · rw [bset_s1 (decide_eq_true_iff.mpr (bI_n0.mp z))] at ih; exact ih
theorem p148 {h : AH} (Ly : Lay h) {n nh : Nat} {g : Nat → Nat → Int32} (V : vCR h n g) (en : am_gi h 6 2 = zI nh) (b : nh ≤ 12) : PF 5 148 [.ref 6] h (.int (bset (fun j => decide (fHo g n (zI j) (am_gi h 6 0) = -1)) nh)) := ws148 Ly (l148 Ly V en b nh 0 (by omega))
/-- the debts so far -/
def K0 (h0 : AH) (t : Nat) (i : Nat) (h : AH) : Prop := Sm h0 h ∧ (∀ a k, am_gi h a k = am_gi h0 a k) ∧ (∀ a k, a ≠ 198 + 3 * t → am_gl h a k = am_gl h0 a k) ∧ ∀ j, j < i → am_gl h (198 + 3 * t) j = am_gl h0 (124 + j) 5
theorem K0.st {h0 h : AH} {t i : Nat} (I : K0 h0 t i h) (hi : i < 24) : K0 h0 t (i + 1) (am_sl h (198 + 3 * t) i (am_gl h (124 + i) 5)) := by
  refine ⟨I.1.sl _ _ _, I.2.1, fun a k z => ?_, fun j hj => ?_⟩
  · rw [gl_ne (by omega)]; exact I.2.2.1 a k z
  · by_cases e : j = i
    · subst e; rw [gl_eq]; exact I.2.2.1 _ _ (by omega)
    · rw [gl_ne (by omega)]; exact I.2.2.2 j (by omega)
theorem l86 {h0 : AH} {t n : Nat} (L0 : Lay h0) (ht : t < 6) (hn : n ≤ 24) (en : am_gi h0 (196 + 3 * t) 6 = zI n) : ∀ m i h, i + m = n → K0 h0 t i h → Ev 2 86 17 [.ref (196 + 3 * t), .ref 8, .null, .int (zI i)] [] h (fun r h' => r = none ∧ K0 h0 t n h')
  | 0, i, h, e, J => ws86_17 ht _ (J.1.lay L0) ⟨fun _ => ⟨rfl, by rw [show n = i by omega]; exact J⟩, fun z => absurd (by rw [J.2.1, en]; exact (zI_le (by omega) (by omega)).mpr (by omega)) z⟩
  | m + 1, i, h, e, J => by
    refine ws86_17 ht _ (J.1.lay L0) ⟨fun z => absurd (by rw [J.2.1, en] at z; exact (zI_le (by omega) (by omega)).mp z) (by omega), fun _ => ⟨in_zI (by omega) (by decide), in_zI (by omega) (by decide), fun g eg => ?_⟩⟩
    rw [zI_tn (by omega)] at eg
    subst eg
    rw [zI_succ]
    exact l86 L0 ht hn en m (i + 1) _ (by omega) (J.st (by omega))
/-- the reference's row so far -/
def M0 (h0 : AH) (t : Nat) (f : Nat → Int64) (i : Nat) (h : AH) : Prop := Sm h0 h ∧ (∀ a k, am_gi h a k = am_gi h0 a k) ∧ (∀ a k, ¬ (a = 252 ∧ 400 * t ≤ k ∧ k < 400 * t + 400) → am_gl h a k = am_gl h0 a k) ∧ ∀ j, j < i → am_gl h 252 (400 * t + j) = f j
theorem M0.st {h0 h : AH} {t i : Nat} {f : Nat → Int64} (I : M0 h0 t f i h) (hi : i < 400) {v : Int64} (hv : v = f i) : M0 h0 t f (i + 1) (am_sl h 252 (400 * t + i) v) := by
  refine ⟨I.1.sl _ _ _, I.2.1, fun a k z => ?_, fun j hj => ?_⟩
  · rw [gl_ne (by omega)]; exact I.2.2.1 a k z
  · by_cases e : j = i
    · subst e; rw [gl_eq]; exact hv
    · rw [gl_ne (by omega)]; exact I.2.2.2 j (by omega)
theorem l255 {h0 : AH} {t n nr T : Nat} {k : Int32} {f : Nat → Int64} {g : Nat → Nat → Int32} (L0 : Lay h0) (ht : t < 6) (hT : T < 12) (hn : n ≤ 400) (V : vMR h0 nr g) (c2 : k = 2 → ∀ j, j < n → Int32.toInt64 (am_gi h0 236 (400 * T + j)) = f j) (c3 : k = 3 → n ≤ 24 ∧ ∀ j, j < n → am_gl h0 227 j = f j) (c4 : ¬ k = 2 → ¬ k = 3 → ∀ j, j < n → f j = if fHo g nr (zI j) (am_gi h0 216 0) = -1 then 1 else 0) : ∀ m i h, i + m = n → M0 h0 t f i h → Ev 5 255 114 [.ref 216, .int (zI t), .int k, .null, .int (zI T), .int (zI n), .int (zI i)] [] h (fun r h' => r = some (.int 1) ∧ ∃ hh, h' = am_si hh 216 47 0 ∧ M0 h0 t f n hh)
  | 0, i, h, e, J => ws255_114 _ _ _ _ _ (J.1.lay L0) ⟨fun _ => Cl.gi (g253 (J.1.lay L0) _) (by decide) ((J.1.lay L0).si _ _ _) ⟨rfl, h, rfl, by rw [show n = i by omega]; exact J⟩, fun z => absurd ((zI_le (by omega) (by omega)).mpr (by omega)) z⟩
  | m + 1, i, h, e, J => by
    have Ly := J.1.lay L0
    have st := fun v (hv : v = f i) => l255 L0 ht hT hn V c2 c3 c4 m (i + 1) _ (by omega) (J.st (by omega) hv)
    have i24 : am_in (zI (400 * t + i)) 2400 := in_zI (by omega) (by decide)
    refine ws255_114 _ _ _ _ _ Ly ⟨fun z => absurd ((zI_le (by omega) (by omega)).mp z) (by omega), fun _ => ⟨fun z2 => ⟨fun z3 => ?_, fun z3 => ?_⟩, fun z2 => ?_⟩⟩
    · have V' : vMR h nr g := ⟨V.1, by rw [J.2.1]; exact V.2.1, fun i hi k hk => by rw [J.2.1]; exact V.2.2 i hi k hk⟩
      have F := c4 z2 z3 i (by omega)
      rw [z40, zI_succ]
      refine Cl.i (p173 Ly V' _ _) (by decide) Ly ⟨fun z => ⟨i24, fun g eg => ?_⟩, fun z => ⟨i24, fun g eg => ?_⟩⟩
      · rw [zI_tn (by omega)] at eg; subst eg
        exact st 0 (by rw [F, if_neg (by rw [← J.2.1]; exact z)])
      · rw [zI_tn (by omega)] at eg; subst eg
        exact st 1 (by rw [F, if_pos (by rw [← J.2.1]; exact Decidable.not_not.mp z)])
    · obtain ⟨n24, F⟩ := c3 (Decidable.not_not.mp z3)
      rw [z40, zI_succ]
      refine ⟨in_zI (by omega) (by decide), i24, fun g eg => ?_⟩
      rw [zI_tn (by omega), zI_tn (by omega)] at eg; subst eg
      exact st _ (by rw [J.2.2.1 _ _ (by omega)]; exact F i (by omega))
    · have F := c2 (Decidable.not_not.mp z2) i (by omega)
      rw [z40, z40, zI_succ]
      refine ⟨in_zI (by omega) (by decide), i24, fun g eg => ?_⟩
      rw [zI_tn (by omega), zI_tn (by omega)] at eg; subst eg
      exact st _ (by rw [J.2.1]; exact F)
def PM (h1 h2 : AH) (t : Nat) (k i3 : Int32) (n : Nat) (f : Nat → Int64) : Prop := Sm h1 h2 ∧ (∀ a j, ¬ (a = 216 ∧ j = 47) → ¬ ((a = 249 ∨ a = 250 ∨ a = 251) ∧ j = t) → am_gi h2 a j = am_gi h1 a j) ∧ (∀ a j, ¬ (a = 252 ∧ 400 * t ≤ j ∧ j < 400 * t + 400) → am_gl h2 a j = am_gl h1 a j) ∧ am_gi h2 216 47 = 0 ∧ am_gi h2 249 t = k ∧ am_gi h2 250 t = i3 ∧ am_gi h2 251 t = zI n ∧ ∀ j, j < n → am_gl h2 252 (400 * t + j) = f j
theorem m255 {h1 : AH} (Ly : Lay h1) {t nt nr n T : Nat} {k i3 : Int32} {f : Nat → Int64} {g : Nat → Nat → Int32} (ht : t < 6) (hk : inR k 0 4) (b : nt ≤ 12) (en : am_gi h1 216 23 = zI nt) (eT : tOn h1 nt (am_gi h1 216 0) = T) (hT : T < 12) (V : vMR h1 nr g) (hr : k = 1 → inN i3 nr) (hn : n ≤ 400) (sz : zI n = if k = 2 then am_gi h1 235 T else if k = 3 then am_gi h1 216 7 else if k = 4 then am_gi h1 216 1 else 0) (c2 : k = 2 → ∀ j, j < n → Int32.toInt64 (am_gi h1 236 (400 * T + j)) = f j) (c3 : k = 3 → n ≤ 24 ∧ ∀ j, j < n → am_gl h1 227 j = f j) (c4 : ¬ k = 2 → ¬ k = 3 → ∀ j, j < n → f j = if fHo g nr (zI j) (am_gi h1 216 0) = -1 then 1 else 0) : Cl 20 255 [.ref 216, .int (zI t), .int k, .int i3] h1 (fun r h2 => r = some (.int 1) ∧ PM h1 h2 t k i3 n f) := by
  have ti : inR (zI t) 0 5 := ⟨zI_nonneg (by omega), fun z => by have := (zI_lt (m := 5) (n := t) (by decide) (by omega)).mp z; omega⟩
  have qt : Int32.toNatClampNeg (zI t) = t := zI_tn (by omega)
  have it : am_in (zI t) 6 := in_zI ht (by decide)
  have R : Ev 20 255 37 [.ref 216, .int (zI t), .int k, .int i3, .null, .null, .null] [] h1 (fun r h2 => r = some (.int 1) ∧ PM h1 h2 t k i3 n f) := by
    refine ws255_37 _ _ _ Ly ?_
    rw [qt]
    refine ⟨it, fun h2 e2 => ⟨it, fun h4 e4 => ?_⟩⟩
    have E4 : OM [11] h1 h4 := by rw [e4, e2]; exact ((OM.rf [11] h1).si (a := 249) (k := t) (by omega) (List.mem_singleton.mpr rfl)).si (a := 250) (k := t) (by omega) (List.mem_singleton.mpr rfl)
    have L4 : Lay h4 := E4.lay Ly
    have G4 : ∀ a j, a < 249 → am_gi h4 a j = am_gi h1 a j := fun a j z => by rw [e4, e2, gi_ne (by omega), gi_ne (by omega)]
    have P := p215 L4 b (by rw [G4 _ _ (by decide)]; exact en) (am_gi h4 216 0)
    rw [tOn_ag (E4.ex.ag (by decide)), G4 216 0 (by decide), eT] at P
    rw [G4 216 0 (by decide)]
    have R2 : Ev 20 255 101 [.ref 216, .int (zI t), .int k, .null, .int (zI T), .null, .null] [.int (zI n)] h4 (fun r h2 => r = some (.int 1) ∧ PM h1 h2 t k i3 n f) := by
      refine ws255_101 _ _ _ _ L4 ?_
      rw [qt]
      refine ⟨it, fun h0 e0 => ?_⟩
      have L0 : Lay h0 := by rw [e0]; exact L4.si _ _ _
      have G0 : ∀ a j, a < 249 → am_gi h0 a j = am_gi h1 a j := fun a j z => by rw [e0, gi_ne (by omega)]; exact G4 a j z
      have W0 : ∀ a j, am_gl h0 a j = am_gl h1 a j := fun a j => by rw [e0, e4, e2]; rfl
      have S0 : Sm h1 h0 := by rw [e0, e4, e2]; exact Sm.rfl' h1
      have V0 : vMR h0 nr g := ⟨V.1, by rw [G0 _ _ (by decide)]; exact V.2.1, fun i hi k hk => by rw [G0 _ _ (by omega)]; exact V.2.2 i hi k hk⟩
      refine Ev.mono (l255 (f := f) L0 ht hT hn V0 (fun z j hj => by rw [G0 _ _ (by decide)]; exact c2 z j hj) (fun z => ⟨(c3 z).1, fun j hj => by rw [W0]; exact (c3 z).2 j hj⟩) (fun z y j hj => by rw [G0 _ _ (by decide)]; exact c4 z y j hj) n 0 h0 (by omega) ⟨Sm.rfl' _, fun _ _ => rfl, fun _ _ _ => rfl, fun j hj => absurd hj (by omega)⟩) (by decide) ?_
      rintro r h' ⟨q1, hh, q2, q3, q4, q5, q6⟩
      refine ⟨q1, ?_⟩
      subst q2
      refine ⟨S0.trans (q3.si _ _ _), fun a j z1 z2 => ?_, fun a j z => ?_, gi_eq, ?_, ?_, ?_, fun j hj => q6 j hj⟩
      · rw [gi_ne (by omega), q4, e0, gi_ne (by omega), e4, gi_ne (by omega), e2, gi_ne (by omega)]
      · exact (q5 a j z).trans (W0 a j)
      · rw [gi_ne (by omega), q4, e0, gi_ne (by omega), e4, gi_ne (by omega), e2, gi_eq]
      · rw [gi_ne (by omega), q4, e0, gi_ne (by omega), e4, gi_eq]
      · rw [gi_ne (by omega), q4, e0, gi_eq]
    refine Cl.i P (by decide) L4 ⟨fun z2 => ⟨fun z3 => ⟨fun z4 => ?_, fun z4 => ?_⟩, fun z3 => ?_⟩, fun z2 => ?_⟩
    · rw [if_neg z2, if_neg z3, if_neg z4] at sz; rw [sz] at R2; exact R2
    · rw [G4 _ _ (by decide)]; rw [if_neg z2, if_neg z3, if_pos (Decidable.not_not.mp z4)] at sz; rw [sz] at R2; exact R2
    · rw [G4 _ _ (by decide)]; rw [if_neg z2, if_pos (Decidable.not_not.mp z3)] at sz; rw [sz] at R2; exact R2
    · rw [zI_tn (by omega), G4 _ _ (by decide)]; rw [if_pos (Decidable.not_not.mp z2)] at sz; rw [sz] at R2; exact ⟨in_zI (by omega) (by decide), R2⟩
  exact ws255 _ _ _ Ly (Cl.i (p167 Ly _ _ _) (by decide) Ly ⟨fun z => absurd z (bI_n0.mpr ti), fun _ => Cl.i (p167 Ly _ _ _) (by decide) Ly ⟨fun z => absurd z (bI_n0.mpr hk), fun _ => ⟨fun _ => R, fun z => Cl.i (p181 Ly (by have := V.1; omega) V.2.1 _) (by decide) Ly ⟨fun _ => R, fun y => absurd (bI_n0.mpr (hr (Decidable.not_not.mp z))) y⟩⟩⟩⟩)
/-- the class's part of put -/
def PK (h h1 : AH) (t : Nat) : Prop := (∃ v, Sm (am_sr h (196 + 3 * t) 3 v) h1) ∧ (∀ a j, ¬ (a = 6 ∧ j = 18) → a ≠ 196 + 3 * t → am_gi h1 a j = am_gi h a j) ∧ (∀ a j, a ≠ 198 + 3 * t → am_gl h1 a j = am_gl h a j) ∧ am_gi h1 6 18 = 0
theorem Sm.sv {h h1 : AH} (S : Sm h h1) (a k : Nat) : ∃ v, Sm (am_sr h a k v) h1 := by
  refine ⟨am_gr h a k, S.1, S.2.1, S.2.2.1, S.2.2.2.1, ?_⟩
  rw [S.2.2.2.2]
  funext b j
  rw [am_sr_gr]
  by_cases z : b = a ∧ j = k
  · rw [if_pos z, z.1, z.2]
  · rw [if_neg z]
theorem PK.ex {h h1 : AH} {t : Nat} (K : PK h h1 t) (ht : t < 6) : ∃ v, Ex [10, 11] (am_sr h (196 + 3 * t) 3 v) h1 := by
  obtain ⟨⟨v, S⟩, g1, g2, -⟩ := K
  refine ⟨v, S, fun a j z => ⟨?_, ?_⟩⟩
  · refine g1 a j (fun y => z ?_) (fun y => z ?_)
    · rw [y.1, y.2]; decide
    · rw [y, tp_tray ht]; decide
  · exact g2 a j (fun y => z (by rw [y, tp_debts ht]; decide))
theorem PM.ex {h1 h2 : AH} {t n : Nat} {k i3 : Int32} {f : Nat → Int64} (M : PM h1 h2 t k i3 n f) : Ex [10, 11] h1 h2 := by
  obtain ⟨S, g1, g2, -⟩ := M
  refine ⟨S, fun a j z => ⟨?_, ?_⟩⟩
  · refine g1 a j (fun y => z ?_) (fun y => z ?_)
    · rw [y.1, y.2]; decide
    · rcases y.1 with e | e | e <;> (rw [e, tp_k (by decide) (by decide) (by decide) (by decide)]; decide)
  · exact g2 a j (fun y => z (by rw [y.1, tp_k (by decide) (by decide) (by decide) (by decide)]; decide))
theorem InvN.upT {L : Nat} {xs : Nat → Int32} {c : Nat} {h h' : AH} {nh nm nr na nt nc t : Nat} {v : Option Nat} (I : InvN L xs c h nh nm nr na nt nc) (ht : t < 6) (E : Ex [10, 11] (am_sr h (196 + 3 * t) 3 v) h') (hs : ISt h') (T : ITr h' nr) : InvN L xs (c + 1) h' nh nm nr na nt nc := by
  obtain ⟨i1, i2, ⟨i3, i4⟩, i5, i6, i7, i8, i9, i10, i11, i12, i13, i14, i15, i16, i17, i18, i19⟩ := I
  have Z : ∀ k, Ag k h (am_sr h (196 + 3 * t) 3 v) := fun k a j _ => ⟨rfl, rfl⟩
  have X : ITx (am_sr h (196 + 3 * t) 3 v) nt c := i17.of ⟨Nat.le_refl _, fun a _ => ⟨rfl, rfl⟩, fun u k hu => by rw [am_sr_gr, if_neg (by omega)]⟩ (Z 6)
  have C : ICo L xs (am_sr h (196 + 3 * t) 3 v) := i2
  have e1 : am_sz h' = am_sz h := E.1.1
  have e2 : am_sn h' = am_sn h := E.1.2.1
  have F : ∀ k, k ∉ [10, 11] → Ag k h h' := fun k z a j e => E.2 a j (by rw [e]; exact z)
  exact ⟨E.lay (i1.sr_tray ht rfl), C.ex E (by decide), ⟨by omega, by omega⟩, i5.of (F 1 (by decide)), i6.of (F 7 (by decide)), i7.of (F 9 (by decide)), hs, i9.of (F 2 (by decide)), i10.of (F 3 (by decide)), i11.of (F 4 (by decide)), i12.of (F 5 (by decide)), i13.of (F 8 (by decide)), i14.of (F 1 (by decide)) (F 3 (by decide)), i15.of (F 2 (by decide)) (F 3 (by decide)), i16.of (F 1 (by decide)) (F 4 (by decide)), (X.of E.1.t (E.ag (by decide))).more (Nat.le_succ _), T, i19.of (F 1 (by decide)) (F 2 (by decide)) (F 4 (by decide))⟩
theorem put_fin {L : Nat} {xs : Nat → Int32} {c : Nat} {h h1 h2 : AH} {nh nm nr na nt nc t n : Nat} {k i3 : Int32} {f : Nat → Int64} (I : InvN L xs c h nh nm nr na nt nc) (ht : t < 6) (K : PK h h1 t) (M : PM h1 h2 t k i3 n f) (Y : ITy h2 nr t) : Inv L xs (c + 1) h2 := by
  obtain ⟨v, E⟩ := K.ex ht
  have S2 := E.1.trans M.1
  have G : ∀ a j, ¬ (a = 6 ∧ j = 18) → a ≠ 196 + 3 * t → ¬ (a = 216 ∧ j = 47) → ¬ ((a = 249 ∨ a = 250 ∨ a = 251) ∧ j = t) → am_gi h2 a j = am_gi h a j := fun a j z1 z2 z3 z4 => (M.2.1 a j z3 z4).trans (K.2.1 a j z1 z2)
  have W : ∀ a j, a ≠ 198 + 3 * t → ¬ (a = 252 ∧ 400 * t ≤ j ∧ j < 400 * t + 400) → am_gl h2 a j = am_gl h a j := fun a j z1 z2 => (M.2.2.1 a j z2).trans (K.2.2.1 a j z1)
  refine ⟨nh, nm, nr, na, nt, nc, I.upT ht (E.tr M.ex) ?_ (fun u hu => ?_)⟩
  · show am_gi h2 6 18 = am_gi h2 216 47
    rw [M.2.2.2.1, M.2.1 6 18 (by omega) (by omega)]; exact K.2.2.2
  · by_cases eu : u = t
    · subst eu; exact Y
    obtain ⟨a1, a2, a3, a4, a5, a6⟩ := I.itr u hu
    unfold ITy
    have gr : am_gr h2 (196 + 3 * u) 3 = am_gr h (196 + 3 * u) 3 := by rw [S2.2.2.2.2, am_sr_gr, if_neg (by omega)]
    have kd : am_kd h2 = am_kd h := S2.2.2.1
    have ln : am_ln h2 = am_ln h := S2.2.2.2.1
    have zz : am_sz h2 = am_sz h := S2.1
    rw [G 249 u (by omega) (by omega) (by omega) (by omega), G 250 u (by omega) (by omega) (by omega) (by omega), G 251 u (by omega) (by omega) (by omega) (by omega), G (196 + 3 * u) 0 (by omega) (by omega) (by omega) (by omega), G (196 + 3 * u) 1 (by omega) (by omega) (by omega) (by omega), G (196 + 3 * u) 2 (by omega) (by omega) (by omega) (by omega), G (196 + 3 * u) 5 (by omega) (by omega) (by omega) (by omega), G (196 + 3 * u) 6 (by omega) (by omega) (by omega) (by omega), gr, kd, ln, zz]
    refine ⟨a1, a2, fun z => ?_, fun z => ?_, fun z => ?_, fun z => ?_⟩
    · obtain ⟨r, r1, r2, r3, r4⟩ := a3 z
      exact ⟨r, r1, r2, by rw [G 228 r (by omega) (by omega) (by omega) (by omega)]; exact r3, by rw [G 229 r (by omega) (by omega) (by omega) (by omega)]; exact r4⟩
    · obtain ⟨b, n, r1, r2, r3, r4, r5, r6, r7, r8, r9, r10⟩ := a4 z
      exact ⟨b, n, r1, r2, r3, r4, r5, r6, r7, r8, r9, fun i hi => by rw [G b i (by omega) (by omega) (by omega) (by omega), W 252 _ (by omega) (by omega)]; exact r10 i hi⟩
    · obtain ⟨n, r1, r2, r3, r4⟩ := a5 z
      exact ⟨n, r1, r2, r3, fun i hi => by rw [W (198 + 3 * u) i (by omega) (by omega), W 252 _ (by omega) (by omega)]; exact r4 i hi⟩
    · obtain ⟨n, r1, r2, r3, r4⟩ := a6 z
      exact ⟨n, r1, r2, r3, fun i hi => by rw [W 252 _ (by omega) (by omega)]; exact r4 i hi⟩
