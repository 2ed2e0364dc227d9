/-! COUNTS -/
def bset (p : Nat → Bool) : Nat → Int32
  | 0 => 0
  | i + 1 => if p i then bset p i ||| ((1 : Int32) <<< (zI i &&& 31)) else bset p i
theorem bset_tb (p : Nat → Bool) : ∀ n, n ≤ 32 → ∀ j, j < 32 → tb (bset p n) j = (decide (j < n) && p j)
  | 0, _, j, _ => by show tb 0 j = _; rw [tb_zero]; simp
  | n + 1, hn, j, hj => by
    have ih := bset_tb p n (by omega) j hj
    unfold bset
    by_cases q : p n = true
    · rw [if_pos q, tb_set (by omega) hj, ih]
      by_cases e : j = n
      · subst e; rw [q]; simp
      · rw [decide_eq_false_iff_not.mpr e, Bool.or_false]
        congr 1
        rw [decide_eq_decide]; omega
    · rw [if_neg q, ih]
      by_cases e : j = n
      · subst e
        have : p j = false := by simpa using q
        rw [this, Bool.and_false, Bool.and_false]
      · congr 1
        rw [decide_eq_decide]; omega
theorem cnt_cut (p : Nat → Bool) : ∀ n m, n ≤ m → cnt (fun j => decide (j < n) && p j) m = cnt p n := by
  intro n m hm
  induction m with
  | zero => have : n = 0 := by omega
            subst this; rfl
  | succ m ih =>
    by_cases e : n = m + 1
    · subst e
      exact cnt_congr (fun j hj => by rw [decide_eq_true_iff.mpr hj, Bool.true_and])
    · show cnt _ m + _ = _
      rw [ih (by omega), if_neg (by show ¬ (decide (m < n) && p m) = true; rw [decide_eq_false_iff_not.mpr (show ¬ m < n by omega)]; simp)]; rfl
theorem bset_cnt (p : Nat → Bool) (n : Nat) (hn : n ≤ 32) : cnt (tb (bset p n)) 32 = cnt p n := by
  rw [cnt_congr (q := fun j => decide (j < n) && p j) (fun j hj => bset_tb p n hn j hj), cnt_cut p n 32 hn]
theorem bset_nn (p : Nat → Bool) (n : Nat) (hn : n ≤ 31) : 0 ≤ (bset p n).toInt := by
  have h := bset_tb p n (by omega) 31 (by decide)
  rw [tb_neg, decide_eq_false_iff_not.mpr (show ¬ 31 < n by omega), Bool.false_and, decide_eq_false_iff_not] at h
  omega
theorem bset_congr {p q : Nat → Bool} : ∀ {n : Nat}, (∀ j, j < n → p j = q j) → bset p n = bset q n
  | 0, _ => rfl
  | n + 1, h => by unfold bset; rw [h n (by omega), bset_congr (n := n) (fun j hj => h j (by omega))]
theorem zI_a0 (x : Int32) : x + 0 = x := Int32.add_zero x
theorem l59 {h : AH} (Ly : Lay h) {n : Nat} {g : Nat → Nat → Int32} (V : vCR h n g) (d : Int32) : ∀ m i, i + m = n → Ev 1 59 4 [.ref 9, .int d, .int (zI (cnt (fun i => onR g i d) i)), .int (zI i)] [] h (fun r h' => r = some (.int (zI (cnt (fun i => onR g i d) n))) ∧ h' = h)
  | 0, i, e => by
    have e' : i = n := by omega
    subst e'
    exact ws59_4 _ _ _ Ly ⟨fun _ => ⟨rfl, rfl⟩, fun z => absurd (by rw [V.2.1]; exact Int32.le_refl _) z⟩
  | m + 1, i, e => by
    have b := V.1
    have ih := l59 Ly V d m (i + 1) (by omega)
    refine ws59_4 _ _ _ Ly ⟨fun z => absurd z (by rw [V.2.1, zI_le (by omega) (by omega)]; omega), fun _ => ⟨in_zI (by omega) (by decide), ?_⟩⟩
    rw [zI_tn (by omega), zI_succ, zI_succ]
    refine Cl.i (p65 Ly V (by omega) d) (by decide) Ly ⟨fun z => ?_, fun z => ?_⟩
    · have : cnt (fun i => onR g i d) (i + 1) = cnt (fun i => onR g i d) i := by show _ + (if _ then _ else _) = _; rw [if_neg (bI_0.mp z)]; rfl
      rw [this] at ih; exact ih
    · have : cnt (fun i => onR g i d) (i + 1) = cnt (fun i => onR g i d) i + 1 := by show _ + (if _ then _ else _) = _; rw [if_pos (bI_n0.mp z)]
      rw [this] at ih; exact ih
theorem p59 {h : AH} (Ly : Lay h) {n : Nat} {g : Nat → Nat → Int32} (V : vCR h n g) {d d' : Int32} (e : d' = d) : PF 1 59 [.ref 9, .int d'] h (.int (zI (cnt (fun i => onR g i d) n))) := by
  subst e; exact ws59 _ Ly (l59 Ly V d' n 0 (by omega))
theorem l252a {h : AH} (Ly : Lay h) {n : Nat} {g : Nat → Nat → Int32} (V : vMR h n g) : ∀ m i, i + m = n → Ev 1 252 86 [.ref 216, .null, .int (zI (cnt (fun i => onR g i (am_gi h 216 0)) i)), .int (zI i)] [] h (fun r h' => r = some (.int (zI (cnt (fun i => onR g i (am_gi h 216 0)) n))) ∧ h' = h)
  | 0, i, e => by
    have e' : i = n := by omega
    subst e'
    exact ws252_86 _ _ Ly ⟨fun _ => ⟨rfl, rfl⟩, fun z => absurd (by rw [V.2.1]; exact Int32.le_refl _) z⟩
  | m + 1, i, e => by
    have b := V.1
    have ih := l252a Ly V m (i + 1) (by omega)
    refine ws252_86 _ _ Ly ⟨fun z => absurd z (by rw [V.2.1, zI_le (by omega) (by omega)]; omega), fun _ => ?_⟩
    rw [zI_succ, zI_succ, zI_a0]
    refine Cl.i (p171 Ly V (by omega) _) (by decide) Ly ⟨fun z => ?_, fun z => ?_⟩
    · have : cnt (fun i => onR g i (am_gi h 216 0)) (i + 1) = cnt (fun i => onR g i (am_gi h 216 0)) i := by show _ + (if _ then _ else _) = _; rw [if_neg (bI_0.mp z)]; rfl
      rw [this] at ih; exact ih
    · have : cnt (fun i => onR g i (am_gi h 216 0)) (i + 1) = cnt (fun i => onR g i (am_gi h 216 0)) i + 1 := by show _ + (if _ then _ else _) = _; rw [if_pos (bI_n0.mp z)]
      rw [this] at ih; exact ih
def hereP (h : AH) (i : Nat) : Bool := decide (am_gi h 224 i = -1)
def waitP (h : AH) (i : Nat) : Bool := !decide (am_gi h 225 i = -1)
theorem cnt_s1 {p : Nat → Bool} {i : Nat} (h : p i = true) : cnt p (i + 1) = cnt p i + 1 := by show _ + (if _ then _ else _) = _; rw [if_pos h]
theorem cnt_s0 {p : Nat → Bool} {i : Nat} (h : p i = false) : cnt p (i + 1) = cnt p i := by show _ + (if _ then _ else _) = _; rw [h]; rfl
theorem l151 {L : Nat} {xs : Nat → Int32} {c : Nat} {h : AH} {nh nm nr na nt nc : Nat} (I : InvN L xs c h nh nm nr na nt nc) : ∀ m i, i + m = nm → Ev 2 151 4 [.ref 6, .int (zI (cnt (hereP h) i)), .int (zI i)] [] h (fun r h' => r = some (.int (zI (cnt (hereP h) nm))) ∧ h' = h)
  | 0, i, e => by
    have e' : i = nm := by omega
    subst e'
    exact ws151_4 _ _ I.lay ⟨fun _ => ⟨rfl, rfl⟩, fun z => absurd (by rw [I.ime.2.1]; exact Int32.le_refl _) z⟩
  | m + 1, i, e => by
    have b := I.ime.1
    have ih := l151 I m (i + 1) (by omega)
    refine ws151_4 _ _ I.lay ⟨fun z => absurd z (by rw [I.ime.2.1, zI_le (by omega) (by omega)]; omega), fun _ => ?_⟩
    rw [zI_succ, zI_succ]
    have P := p146 I (x := zI i) (inN_zI (by omega) (by omega))
    rw [zI_tn (by omega)] at P
    refine Cl.i P (by decide) I.lay ⟨fun z => ?_, fun z => ?_⟩
    · rw [cnt_s0 (by unfold hereP; exact decide_eq_false_iff_not.mpr (bI_0.mp z))] at ih; exact ih
    · rw [cnt_s1 (by unfold hereP; exact decide_eq_true_iff.mpr (bI_n0.mp z))] at ih; exact ih
theorem p151 {L : Nat} {xs : Nat → Int32} {c : Nat} {h : AH} {nh nm nr na nt nc : Nat} (I : InvN L xs c h nh nm nr na nt nc) : PF 2 151 [.ref 6] h (.int (zI (cnt (hereP h) nm))) := ws151 I.lay (l151 I nm 0 (by omega))
theorem l214 {h : AH} (Ly : Lay h) {nm : Nat} (b : nm ≤ 24) (en : am_gi h 216 7 = zI nm) : ∀ m i, i + m = nm → Ev 1 214 4 [.ref 216, .int (zI (cnt (hereP h) i)), .int (zI i)] [] h (fun r h' => r = some (.int (zI (cnt (hereP h) nm))) ∧ h' = h)
  | 0, i, e => by
    have e' : i = nm := by omega
    subst e'
    exact ws214_4 _ _ Ly ⟨fun _ => ⟨rfl, rfl⟩, fun z => absurd (by rw [en]; exact Int32.le_refl _) z⟩
  | m + 1, i, e => by
    have ih := l214 Ly b en m (i + 1) (by omega)
    refine ws214_4 _ _ Ly ⟨fun z => absurd z (by rw [en, zI_le (by omega) (by omega)]; omega), fun _ => ?_⟩
    rw [zI_succ, zI_succ, zI_a0]
    have P := p170 Ly (x := zI i) (in_zI (by omega) (by decide))
    rw [zI_tn (by omega)] at P
    refine Cl.i P (by decide) Ly ⟨fun z => ?_, fun z => ?_⟩
    · rw [cnt_s0 (by unfold hereP; exact decide_eq_false_iff_not.mpr (bI_0.mp z))] at ih; exact ih
    · rw [cnt_s1 (by unfold hereP; exact decide_eq_true_iff.mpr (bI_n0.mp z))] at ih; exact ih
theorem p214 {h : AH} (Ly : Lay h) {nm : Nat} (b : nm ≤ 24) (en : am_gi h 216 7 = zI nm) : PF 1 214 [.ref 216] h (.int (zI (cnt (hereP h) nm))) := ws214 Ly (l214 Ly b en nm 0 (by omega))
theorem l152 {L : Nat} {xs : Nat → Int32} {c : Nat} {h : AH} {nh nm nr na nt nc : Nat} (I : InvN L xs c h nh nm nr na nt nc) : ∀ m i, i + m = nm → Ev 1 152 4 [.ref 6, .int (zI (cnt (waitP h) i)), .int (zI i)] [] h (fun r h' => r = some (.int (zI (cnt (waitP h) nm))) ∧ h' = h)
  | 0, i, e => by
    have e' : i = nm := by omega
    subst e'
    exact ws152_4 _ _ I.lay ⟨fun _ => ⟨rfl, rfl⟩, fun z => absurd (by rw [I.ime.2.1]; exact Int32.le_refl _) z⟩
  | m + 1, i, e => by
    have b := I.ime.1
    have ih := l152 I m (i + 1) (by omega)
    refine ws152_4 _ _ I.lay ⟨fun z => absurd z (by rw [I.ime.2.1, zI_le (by omega) (by omega)]; omega), fun _ => ⟨in_zI (by omega) (by decide), ?_⟩⟩
    rw [zI_succ, zI_succ, zI_tn (by omega)]
    have q := (I.ime.2.2.2.2.1 i (by omega)).2.2.2
    refine Cl.i (p23 I.lay (by omega)) (by decide) I.lay ⟨fun z => ?_, fun z => ?_⟩
    · rw [bI_0, q] at z
      rw [cnt_s0 (by unfold waitP; rw [decide_eq_true_iff.mpr (Decidable.not_not.mp z)]; rfl)] at ih; exact ih
    · rw [bI_n0, q] at z
      rw [cnt_s1 (by unfold waitP; rw [decide_eq_false_iff_not.mpr z]; rfl)] at ih; exact ih
theorem l252b {h : AH} (Ly : Lay h) {nm : Nat} (b : nm ≤ 24) (en : am_gi h 216 7 = zI nm) : ∀ m i, i + m = nm → Ev 1 252 144 [.ref 216, .null, .int (zI (cnt (waitP h) i)), .int (zI i)] [] h (fun r h' => r = some (.int (zI (cnt (waitP h) nm))) ∧ h' = h)
  | 0, i, e => by
    have e' : i = nm := by omega
    subst e'
    exact ws252_144 _ _ Ly ⟨fun _ => ⟨rfl, rfl⟩, fun z => absurd (by rw [en]; exact Int32.le_refl _) z⟩
  | m + 1, i, e => by
    have ih := l252b Ly b en m (i + 1) (by omega)
    refine ws252_144 _ _ Ly ⟨fun z => absurd z (by rw [en, zI_le (by omega) (by omega)]; omega), fun _ => ⟨in_zI (by omega) (by decide), ?_⟩⟩
    rw [zI_succ, zI_succ, zI_a0, zI_tn (by omega)]
    refine ⟨fun z => ?_, fun z => ?_⟩
    · rw [cnt_s0 (by unfold waitP; rw [decide_eq_true_iff.mpr z]; rfl)] at ih; exact ih
    · rw [cnt_s1 (by unfold waitP; rw [decide_eq_false_iff_not.mpr z]; rfl)] at ih; exact ih
def offP (h : AH) (i : Nat) : Bool := !decide (am_gi h 220 i = 0)
theorem l153 {L : Nat} {xs : Nat → Int32} {c : Nat} {h : AH} {nh nm nr na nt nc : Nat} (I : InvN L xs c h nh nm nr na nt nc) : ∀ m i, i + m = nh → Ev 0 153 4 [.ref 6, .int (bset (offP h) i), .int (zI i)] [] h (fun r h' => r = some (.int (bset (offP h) nh)) ∧ h' = h)
  | 0, i, e => by
    have e' : i = nh := by omega
    subst e'
    exact ws153_4 _ _ I.lay ⟨fun _ => ⟨rfl, rfl⟩, fun z => absurd (by rw [I.iho.2.1]; exact Int32.le_refl _) z⟩
  | m + 1, i, e => by
    have b := I.iho.1
    have ih := l153 I m (i + 1) (by omega)
    refine ws153_4 _ _ I.lay ⟨fun z => absurd z (by rw [I.iho.2.1, zI_le (by omega) (by omega)]; omega), fun _ => ⟨in_zI (by omega) (by decide), ?_⟩⟩
    rw [zI_succ, zI_tn (by omega), (I.iho.2.2.2.1 i (by omega)).1]
    have es : bset (offP h) (i + 1) = if offP h i then bset (offP h) i ||| ((1 : Int32) <<< (zI i &&& 31)) else bset (offP h) i := rfl
    refine ⟨fun z => ?_, fun z => ?_⟩
    · rw [es, if_neg (by unfold offP; rw [decide_eq_true_iff.mpr z]; decide)] at ih; exact ih
    · rw [es, if_pos (by unfold offP; rw [decide_eq_false_iff_not.mpr z]; rfl)] at ih; exact ih
theorem p153 {L : Nat} {xs : Nat → Int32} {c : Nat} {h : AH} {nh nm nr na nt nc : Nat} (I : InvN L xs c h nh nm nr na nt nc) : PF 0 153 [.ref 6] h (.int (bset (offP h) nh)) := ws153 I.lay (l153 I nh 0 (by omega))
theorem l252c {h : AH} (Ly : Lay h) {nh : Nat} (b : nh ≤ 12) (en : am_gi h 216 1 = zI nh) : ∀ m i, i + m = nh → Ev 1 252 180 [.ref 216, .null, .int (zI (cnt (offP h) i)), .int (zI i)] [] h (fun r h' => r = some (.int (zI (cnt (offP h) nh))) ∧ h' = h)
  | 0, i, e => by
    have e' : i = nh := by omega
    subst e'
    exact ws252_180 _ _ Ly ⟨fun _ => ⟨rfl, rfl⟩, fun z => absurd (by rw [en]; exact Int32.le_refl _) z⟩
  | m + 1, i, e => by
    have ih := l252c Ly b en m (i + 1) (by omega)
    refine ws252_180 _ _ Ly ⟨fun z => absurd z (by rw [en, zI_le (by omega) (by omega)]; omega), fun _ => ⟨in_zI (by omega) (by decide), ?_⟩⟩
    rw [zI_succ, zI_succ, zI_a0, zI_tn (by omega)]
    refine ⟨fun z => ?_, fun z => ?_⟩
    · rw [cnt_s0 (by unfold offP; rw [decide_eq_true_iff.mpr z]; rfl)] at ih; exact ih
    · rw [cnt_s1 (by unfold offP; rw [decide_eq_false_iff_not.mpr z]; rfl)] at ih; exact ih
theorem op_count {L : Nat} {xs : Nat → Int32} {c : Nat} {h : AH} {nh nm nr na nt nc : Nat} (I : InvN L xs c h nh nm nr na nt nc) (x : Int32) : OPi 134 252 [.int x] L xs c h := by
  have Ly := I.lay
  have b1 := I.iho.1
  have b2 := I.ime.1
  by_cases h0 : x = 0
  · subst h0; refine OPi.pf I (x := zI nh) (d := 5) (d' := 5) (ws134 _ Ly ⟨fun _ => ⟨by rw [I.iho.2.1], rfl⟩, fun z => absurd z (by decide), fun z => absurd z (by decide), fun z => absurd z (by decide), fun z => absurd z (by decide), fun z => absurd z (by decide), fun z => absurd z (by decide), fun z => absurd z (by decide), fun z => absurd z (by decide), fun z => absurd z (by decide), fun z => absurd z (by decide), fun z => absurd z (by decide), fun z => absurd z (by decide)⟩) (ws252 _ Ly ⟨fun _ => ⟨by rw [I.iho.2.2.1], rfl⟩, fun z => absurd z (by decide), fun z => absurd z (by decide), fun z => absurd z (by decide), fun z => absurd z (by decide), fun z => absurd z (by decide), fun z => absurd z (by decide), fun z => absurd z (by decide), fun z => absurd z (by decide), fun z => absurd z (by decide), fun z => absurd z (by decide), fun z => absurd z (by decide), fun z => absurd z (by decide)⟩)
  by_cases h1 : x = 1
  · subst h1; refine OPi.pf I (x := zI nm) (d := 5) (d' := 5) (ws134 _ Ly ⟨fun z => absurd z (by decide), fun _ => ⟨by rw [I.ime.2.1], rfl⟩, fun z => absurd z (by decide), fun z => absurd z (by decide), fun z => absurd z (by decide), fun z => absurd z (by decide), fun z => absurd z (by decide), fun z => absurd z (by decide), fun z => absurd z (by decide), fun z => absurd z (by decide), fun z => absurd z (by decide), fun z => absurd z (by decide), fun z => absurd z (by decide)⟩) (ws252 _ Ly ⟨fun z => absurd z (by decide), fun _ => ⟨by rw [I.ime.2.2.1], rfl⟩, fun z => absurd z (by decide), fun z => absurd z (by decide), fun z => absurd z (by decide), fun z => absurd z (by decide), fun z => absurd z (by decide), fun z => absurd z (by decide), fun z => absurd z (by decide), fun z => absurd z (by decide), fun z => absurd z (by decide), fun z => absurd z (by decide), fun z => absurd z (by decide)⟩)
  by_cases h2 : x = 2
  · subst h2; refine OPi.pf I (x := zI (cnt (hereP h) nm)) (d := 5) (d' := 5) (ws134 _ Ly ⟨fun z => absurd z (by decide), fun z => absurd z (by decide), fun _ => Cl.i (p151 I) (by decide) Ly ⟨rfl, rfl⟩, fun z => absurd z (by decide), fun z => absurd z (by decide), fun z => absurd z (by decide), fun z => absurd z (by decide), fun z => absurd z (by decide), fun z => absurd z (by decide), fun z => absurd z (by decide), fun z => absurd z (by decide), fun z => absurd z (by decide), fun z => absurd z (by decide)⟩) (ws252 _ Ly ⟨fun z => absurd z (by decide), fun z => absurd z (by decide), fun _ => Cl.i (p214 Ly b2 I.ime.2.2.1) (by decide) Ly ⟨rfl, rfl⟩, fun z => absurd z (by decide), fun z => absurd z (by decide), fun z => absurd z (by decide), fun z => absurd z (by decide), fun z => absurd z (by decide), fun z => absurd z (by decide), fun z => absurd z (by decide), fun z => absurd z (by decide), fun z => absurd z (by decide), fun z => absurd z (by decide)⟩)
  by_cases h3 : x = 3
  · subst h3; refine OPi.pf I (x := zI nr) (d := 5) (d' := 5) (ws134 _ Ly ⟨fun z => absurd z (by decide), fun z => absurd z (by decide), fun z => absurd z (by decide), fun _ => ⟨by rw [I.iri.2.1], rfl⟩, fun z => absurd z (by decide), fun z => absurd z (by decide), fun z => absurd z (by decide), fun z => absurd z (by decide), fun z => absurd z (by decide), fun z => absurd z (by decide), fun z => absurd z (by decide), fun z => absurd z (by decide), fun z => absurd z (by decide)⟩) (ws252 _ Ly ⟨fun z => absurd z (by decide), fun z => absurd z (by decide), fun z => absurd z (by decide), fun _ => ⟨by rw [I.iri.2.2.1], rfl⟩, fun z => absurd z (by decide), fun z => absurd z (by decide), fun z => absurd z (by decide), fun z => absurd z (by decide), fun z => absurd z (by decide), fun z => absurd z (by decide), fun z => absurd z (by decide), fun z => absurd z (by decide), fun z => absurd z (by decide)⟩)
  by_cases h4 : x = 4
  · subst h4; refine OPi.pf I (x := zI (cnt (fun i => onR (rR h) i (am_gi h 216 0)) nr)) (d := 5) (d' := 1) (ws134 _ Ly ⟨fun z => absurd z (by decide), fun z => absurd z (by decide), fun z => absurd z (by decide), fun z => absurd z (by decide), fun _ => Cl.i (p59 Ly (vCR.of I.iri) I.ida.1) (by decide) Ly ⟨rfl, rfl⟩, fun z => absurd z (by decide), fun z => absurd z (by decide), fun z => absurd z (by decide), fun z => absurd z (by decide), fun z => absurd z (by decide), fun z => absurd z (by decide), fun z => absurd z (by decide), fun z => absurd z (by decide)⟩) (ws252 _ Ly ⟨fun z => absurd z (by decide), fun z => absurd z (by decide), fun z => absurd z (by decide), fun z => absurd z (by decide), fun _ => l252a Ly (vMR.of I.iri) nr 0 (by omega), fun z => absurd z (by decide), fun z => absurd z (by decide), fun z => absurd z (by decide), fun z => absurd z (by decide), fun z => absurd z (by decide), fun z => absurd z (by decide), fun z => absurd z (by decide), fun z => absurd z (by decide)⟩)
  by_cases h5 : x = 5
  · subst h5; refine OPi.pf I (x := zI nt) (d := 5) (d' := 5) (ws134 _ Ly ⟨fun z => absurd z (by decide), fun z => absurd z (by decide), fun z => absurd z (by decide), fun z => absurd z (by decide), fun z => absurd z (by decide), fun _ => ⟨by rw [I.itx.2.1], rfl⟩, fun z => absurd z (by decide), fun z => absurd z (by decide), fun z => absurd z (by decide), fun z => absurd z (by decide), fun z => absurd z (by decide), fun z => absurd z (by decide), fun z => absurd z (by decide)⟩) (ws252 _ Ly ⟨fun z => absurd z (by decide), fun z => absurd z (by decide), fun z => absurd z (by decide), fun z => absurd z (by decide), fun z => absurd z (by decide), fun _ => ⟨by rw [I.itx.2.2.1], rfl⟩, fun z => absurd z (by decide), fun z => absurd z (by decide), fun z => absurd z (by decide), fun z => absurd z (by decide), fun z => absurd z (by decide), fun z => absurd z (by decide), fun z => absurd z (by decide)⟩)
  by_cases h6 : x = 6
  · subst h6; refine OPi.pf I (x := zI nc) (d := 5) (d' := 5) (ws134 _ Ly ⟨fun z => absurd z (by decide), fun z => absurd z (by decide), fun z => absurd z (by decide), fun z => absurd z (by decide), fun z => absurd z (by decide), fun z => absurd z (by decide), fun _ => ⟨by rw [I.ics.2.1], rfl⟩, fun z => absurd z (by decide), fun z => absurd z (by decide), fun z => absurd z (by decide), fun z => absurd z (by decide), fun z => absurd z (by decide), fun z => absurd z (by decide)⟩) (ws252 _ Ly ⟨fun z => absurd z (by decide), fun z => absurd z (by decide), fun z => absurd z (by decide), fun z => absurd z (by decide), fun z => absurd z (by decide), fun z => absurd z (by decide), fun _ => ⟨by rw [I.ics.2.2.1], rfl⟩, fun z => absurd z (by decide), fun z => absurd z (by decide), fun z => absurd z (by decide), fun z => absurd z (by decide), fun z => absurd z (by decide), fun z => absurd z (by decide)⟩)
  by_cases h7 : x = 7
  · subst h7; refine OPi.pf I (x := zI na) (d := 5) (d' := 5) (ws134 _ Ly ⟨fun z => absurd z (by decide), fun z => absurd z (by decide), fun z => absurd z (by decide), fun z => absurd z (by decide), fun z => absurd z (by decide), fun z => absurd z (by decide), fun z => absurd z (by decide), fun _ => ⟨by rw [I.ita.2.1], rfl⟩, fun z => absurd z (by decide), fun z => absurd z (by decide), fun z => absurd z (by decide), fun z => absurd z (by decide), fun z => absurd z (by decide)⟩) (ws252 _ Ly ⟨fun z => absurd z (by decide), fun z => absurd z (by decide), fun z => absurd z (by decide), fun z => absurd z (by decide), fun z => absurd z (by decide), fun z => absurd z (by decide), fun z => absurd z (by decide), fun _ => ⟨by rw [I.ita.2.2.1], rfl⟩, fun z => absurd z (by decide), fun z => absurd z (by decide), fun z => absurd z (by decide), fun z => absurd z (by decide), fun z => absurd z (by decide)⟩)
  by_cases h8 : x = 8
  · subst h8; refine OPi.pf I (x := am_gi h 216 0) (d := 5) (d' := 5) (ws134 _ Ly ⟨fun z => absurd z (by decide), fun z => absurd z (by decide), fun z => absurd z (by decide), fun z => absurd z (by decide), fun z => absurd z (by decide), fun z => absurd z (by decide), fun z => absurd z (by decide), fun z => absurd z (by decide), fun _ => ⟨by rw [I.ida.1], rfl⟩, fun z => absurd z (by decide), fun z => absurd z (by decide), fun z => absurd z (by decide), fun z => absurd z (by decide)⟩) (ws252 _ Ly ⟨fun z => absurd z (by decide), fun z => absurd z (by decide), fun z => absurd z (by decide), fun z => absurd z (by decide), fun z => absurd z (by decide), fun z => absurd z (by decide), fun z => absurd z (by decide), fun z => absurd z (by decide), fun _ => ⟨rfl, rfl⟩, fun z => absurd z (by decide), fun z => absurd z (by decide), fun z => absurd z (by decide), fun z => absurd z (by decide)⟩)
  by_cases h9 : x = 9
  · subst h9; refine OPi.pf I (x := zI (cnt (waitP h) nm)) (d := 5) (d' := 1) (ws134 _ Ly ⟨fun z => absurd z (by decide), fun z => absurd z (by decide), fun z => absurd z (by decide), fun z => absurd z (by decide), fun z => absurd z (by decide), fun z => absurd z (by decide), fun z => absurd z (by decide), fun z => absurd z (by decide), fun z => absurd z (by decide), fun _ => Cl.i (ws152 Ly (l152 I nm 0 (by omega)) : PF 1 152 _ h _) (by decide) Ly ⟨rfl, rfl⟩, fun z => absurd z (by decide), fun z => absurd z (by decide), fun z => absurd z (by decide)⟩) (ws252 _ Ly ⟨fun z => absurd z (by decide), fun z => absurd z (by decide), fun z => absurd z (by decide), fun z => absurd z (by decide), fun z => absurd z (by decide), fun z => absurd z (by decide), fun z => absurd z (by decide), fun z => absurd z (by decide), fun z => absurd z (by decide), fun _ => l252b Ly b2 I.ime.2.2.1 nm 0 (by omega), fun z => absurd z (by decide), fun z => absurd z (by decide), fun z => absurd z (by decide)⟩)
  by_cases h10 : x = 10
  · subst h10; refine OPi.pf I (x := zI (cnt (offP h) nh)) (d := 5) (d' := 1) (ws134 _ Ly ⟨fun z => absurd z (by decide), fun z => absurd z (by decide), fun z => absurd z (by decide), fun z => absurd z (by decide), fun z => absurd z (by decide), fun z => absurd z (by decide), fun z => absurd z (by decide), fun z => absurd z (by decide), fun z => absurd z (by decide), fun z => absurd z (by decide), fun _ => Cl.i (p153 I) (by decide) Ly (Cl.i (p262 _) (by decide) Ly ⟨by rw [bset_cnt _ _ (by omega)], rfl⟩), fun z => absurd z (by decide), fun z => absurd z (by decide)⟩) (ws252 _ Ly ⟨fun z => absurd z (by decide), fun z => absurd z (by decide), fun z => absurd z (by decide), fun z => absurd z (by decide), fun z => absurd z (by decide), fun z => absurd z (by decide), fun z => absurd z (by decide), fun z => absurd z (by decide), fun z => absurd z (by decide), fun z => absurd z (by decide), fun _ => l252c Ly b1 I.iho.2.2.1 nh 0 (by omega), fun z => absurd z (by decide), fun z => absurd z (by decide)⟩)
  by_cases h11 : x = 11
  · subst h11; refine OPi.pf I (x := am_gi h 216 42) (d := 5) (d' := 5) (ws134 _ Ly ⟨fun z => absurd z (by decide), fun z => absurd z (by decide), fun z => absurd z (by decide), fun z => absurd z (by decide), fun z => absurd z (by decide), fun z => absurd z (by decide), fun z => absurd z (by decide), fun z => absurd z (by decide), fun z => absurd z (by decide), fun z => absurd z (by decide), fun z => absurd z (by decide), fun _ => ⟨by rw [I.ifu.1], rfl⟩, fun z => absurd z (by decide)⟩) (ws252 _ Ly ⟨fun z => absurd z (by decide), fun z => absurd z (by decide), fun z => absurd z (by decide), fun z => absurd z (by decide), fun z => absurd z (by decide), fun z => absurd z (by decide), fun z => absurd z (by decide), fun z => absurd z (by decide), fun z => absurd z (by decide), fun z => absurd z (by decide), fun z => absurd z (by decide), fun _ => ⟨rfl, rfl⟩, fun z => absurd z (by decide)⟩)
  exact OPi.pf I (x := -2) (d := 5) (d' := 5) (ws134 _ Ly ⟨fun z => absurd z h0, fun z => absurd z h1, fun z => absurd z h2, fun z => absurd z h3, fun z => absurd z h4, fun z => absurd z h5, fun z => absurd z h6, fun z => absurd z h7, fun z => absurd z h8, fun z => absurd z h9, fun z => absurd z h10, fun z => absurd z h11, fun _ => ⟨rfl, rfl⟩⟩) (ws252 _ Ly ⟨fun z => absurd z h0, fun z => absurd z h1, fun z => absurd z h2, fun z => absurd z h3, fun z => absurd z h4, fun z => absurd z h5, fun z => absurd z h6, fun z => absurd z h7, fun z => absurd z h8, fun z => absurd z h9, fun z => absurd z h10, fun z => absurd z h11, fun _ => ⟨rfl, rfl⟩⟩)
