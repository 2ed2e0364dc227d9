/-! PROPOSE 8: the call -/
def chg (nt a k : Nat) : Prop := a = 71 ∨ a = 73 ∨ a = 74 ∨ (a = 6 ∧ (k = 9 ∨ k = 11 ∨ k = 12)) ∨ a = 151 + 4 * nt ∨ (a = 216 ∧ (k = 22 ∨ k = 23 ∨ k = 37 ∨ k = 38 ∨ (50 ≤ k ∧ k ≤ 59))) ∨ (a = 235 ∧ k = nt) ∨ ((a = 236 ∨ a = 237 ∨ a = 238) ∧ 400 * nt ≤ k) ∨ (a = 239 ∧ 5 * nt ≤ k) ∨ (240 ≤ a ∧ a ≤ 246 ∧ k = nt)
/-- what a proposal may have changed -/
def PX (nt : Nat) (h h2 : AH) : Prop := (am_sz h ≤ am_sz h2 ∧ am_sz h2 ≤ am_sz h + 2 ∧ am_sn h2 ≤ am_sn h + 800) ∧ (∀ a, a < am_sz h → am_kd h2 a = am_kd h a ∧ am_ln h2 a = am_ln h a) ∧ (∀ a k, ¬ (a = 148 + 4 * nt ∧ k < 2) → a < am_sz h → am_gr h2 a k = am_gr h a k) ∧ (∀ a k, a < am_sz h → ¬ chg nt a k → am_gi h2 a k = am_gi h a k) ∧ ∀ a k, a < am_sz h → am_gl h2 a k = am_gl h a k
theorem tp_chg {nt a k : Nat} (hn : nt < 12) (h : chg nt a k) : tp a k ∈ [0, 5, 6, 7] := by
  unfold chg at h
  rcases h with h | h | h | h | h | h | h | h | h | h
  · subst h; by_cases y : k = 1
    · subst y; decide
    · have : tp 71 k = 0 := by show (if k = 1 then 5 else 0) = 0; rw [if_neg y]
      rw [this]; decide
  · subst h; show 0 ∈ _; decide
  · subst h; show 0 ∈ _; decide
  · rcases h with ⟨rfl, rfl | rfl | rfl⟩ <;> decide
  · subst h; rw [tp_starts hn]; decide
  · obtain ⟨rfl, h⟩ := h
    by_cases y : 50 ≤ k
    · have : tp 216 k = 0 := by
        show (if k = 0 then 1 else if k = 1 then 2 else if k = 7 then 3 else if k = 14 then 4 else if k = 22 then 5 else if k = 23 then 6 else if k = 36 then 6 else if k = 37 then 7 else if k = 38 then 7 else if k = 39 then 8 else if k = 42 then 9 else if k = 47 then 10 else 0) = 0
        (repeat' (first | rw [if_pos (by omega)] | rw [if_neg (by omega)]))
      rw [this]; decide
    · rcases (show k = 22 ∨ k = 23 ∨ k = 37 ∨ k = 38 by omega) with rfl | rfl | rfl | rfl <;> decide
  · obtain ⟨rfl, _⟩ := h; show 6 ∈ _; decide
  · obtain ⟨rfl | rfl | rfl, _⟩ := h <;> (show 6 ∈ _; decide)
  · obtain ⟨rfl, _⟩ := h; show 6 ∈ _; decide
  · obtain ⟨h1, h2, _⟩ := h
    have : tp a k = 6 := by unfold tp; (repeat' (first | rw [if_pos (by omega)] | rw [if_neg (by omega)]))
    rw [this]; decide
theorem tp_new {a k : Nat} (h : 263 ≤ a) : tp a k = 6 := by unfold tp; (repeat' (first | rw [if_pos (by omega)] | rw [if_neg (by omega)]))
theorem PX.ag {nt : Nat} {h h2 : AH} (P : PX nt h h2) (Ly : Lay h) (hn : nt < 12) {t : Nat} (ht : t ∉ [0, 5, 6, 7]) : Ag t h h2 := fun a k e => by
  have lt : a < am_sz h := by
    by_cases y : a < am_sz h
    · exact y
    · have := Ly.1
      rw [tp_new (by omega)] at e; rw [← e] at ht; exact absurd (by decide) ht
  exact ⟨P.2.2.2.1 a k lt (fun y => ht (by rw [← e]; exact tp_chg hn y)), P.2.2.2.2 a k lt⟩
theorem ICd.cg {op w c op' w' c' : Nat → Int32} {p : Nat → Nat} (I : ICd op w c p) (e : ∀ i, i < p 4 → op' i = op i ∧ w' i = w i ∧ c' i = c i) : ICd op' w' c' p := by
  have MO' : ∀ k, k < 4 → p (k + 1) ≤ p 4 := fun k hk => (I.mono hk).2.1
  obtain ⟨a, b, d⟩ := I
  refine ⟨a, fun i hi => by rw [(e i hi).1, (e i hi).2.1, (e i hi).2.2]; exact b i hi, fun k hk => ⟨?_, fun i h1 h2 h3 => ?_⟩⟩
  · have lt := MO' k hk
    rw [hts_congr (op' := op) (fun j h1 h2 => (e j (by omega)).1)]; exact (d k hk).1
  · have lt := MO' k hk
    rw [(e i (by omega)).1] at h3; rw [(e i (by omega)).2.1]; exact (d k hk).2 i h1 h2 h3
theorem ITt.p {h h2 : AH} {nt nt' t : Nat} (I : ITt h nt t) (P : PX nt h h2) (Ly : Lay h) (ht : t < nt) (hn : nt < 12) (hn' : nt ≤ nt') : ITt h2 nt' t := by
  have z := Ly.1
  obtain ⟨a1, a2, a3, a4, a5, a6⟩ := I
  have g : ∀ a k, a < am_sz h → ¬ chg nt a k → am_gi h2 a k = am_gi h a k := P.2.2.2.1
  have gt : ∀ k, am_gi h2 (148 + 4 * t) k = am_gi h (148 + 4 * t) k := fun k => g _ _ (by omega) (by unfold chg; omega)
  have gm : ∀ a, 240 ≤ a → a ≤ 246 → am_gi h2 a t = am_gi h a t := fun a h1 h2 => g _ _ (by omega) (by unfold chg; omega)
  unfold ITt
  rw [gt, gt, gt, gt, gt, gt, gm 240 (by decide) (by decide), gm 241 (by decide) (by decide), gm 242 (by decide) (by decide), gm 243 (by decide) (by decide), gm 244 (by decide) (by decide), gm 245 (by decide) (by decide), gm 246 (by decide) (by decide)]
  exact ⟨a1, a2, a3, a4, a5, a6.1, a6.2.imp id (fun x => ⟨x.1, by omega⟩)⟩
theorem ITb.p {h h2 : AH} {nt t : Nat} (I : ITb h t) (P : PX nt h h2) (Ly : Lay h) (ht : t < nt) (hn : nt < 12) : ITb h2 t := by
  have z := Ly.1
  obtain ⟨b, n, a1, a2, a3, a4, a5, a6, a7, a8, a9⟩ := I
  have g : ∀ a k, a < am_sz h → ¬ chg nt a k → am_gi h2 a k = am_gi h a k := P.2.2.2.1
  refine ⟨b, n, by rw [P.2.2.1 _ _ (by omega) (by omega)]; exact a1, Nat.lt_of_lt_of_le a2 P.1.1, a3, a4, by rw [(P.2.1 b a2).1]; exact a5, by rw [(P.2.1 b a2).2]; exact a6, a7, by rw [g _ _ (by omega) (by unfold chg; omega)]; exact a8, fun i hi => ?_⟩
  rw [g b i a2 (by unfold chg; omega), g 236 _ (by omega) (by unfold chg; omega)]; exact a9 i hi
theorem ITc.p {h h2 : AH} {nt t : Nat} (I : ITc h t) (P : PX nt h h2) (Ly : Lay h) (ht : t < nt) (hn : nt < 12) : ITc h2 t := by
  have z := Ly.1
  obtain ⟨b, p, a1, a2, a3, a4, a5, a6, a8, a9⟩ := I
  have g : ∀ a k, a < am_sz h → ¬ chg nt a k → am_gi h2 a k = am_gi h a k := P.2.2.2.1
  have p4 := a9.1.2.2.2.2.2
  refine ⟨b, p, by rw [P.2.2.1 _ _ (by omega) (by omega)]; exact a1, Nat.lt_of_lt_of_le a2 P.1.1, a3, a4, by rw [(P.2.1 b a2).1]; exact a5, by rw [(P.2.1 b a2).2]; exact a6, fun k hk => ?_, a9.cg (fun i hi => ⟨g 237 _ (by omega) (by unfold chg; omega), g 238 _ (by omega) (by unfold chg; omega), g b i a2 (by unfold chg; omega)⟩)⟩
  rw [g (151 + 4 * t) k (by omega) (by unfold chg; omega), g 239 _ (by omega) (by unfold chg; omega)]; exact a8 k hk
theorem ITr.p {h h2 : AH} {nt nr : Nat} (I : ITr h nr) (P : PX nt h h2) (Ly : Lay h) (hn : nt < 12) : ITr h2 nr := fun t ht => by
  have z := Ly.1
  obtain ⟨a1, a2, a3, a4, a5, a6⟩ := I t ht
  have A := P.ag Ly hn (t := 11) (by decide)
  have C := P.ag Ly hn (t := 4) (by decide)
  have S3 : am_gr h2 (196 + 3 * t) 3 = am_gr h (196 + 3 * t) 3 := P.2.2.1 _ _ (by omega) (by omega)
  unfold ITy
  rw [(A 249 t rfl).1, (A _ 0 (tp_tray ht)).1, (A _ 1 (tp_tray ht)).1, (A _ 2 (tp_tray ht)).1, (A _ 5 (tp_tray ht)).1, (A _ 6 (tp_tray ht)).1, (A 250 t rfl).1, (A 251 t rfl).1, S3]
  refine ⟨a1, a2, fun z => ?_, fun z => ?_, fun z => ?_, fun z => ?_⟩
  · obtain ⟨r, r1, r2, r3, r4⟩ := a3 z
    exact ⟨r, r1, r2, by rw [(C 228 r rfl).1]; exact r3, by rw [(C 229 r rfl).1]; exact r4⟩
  · obtain ⟨b, n, r1, r2, r3, r4, r5, r6, r7, r8, r9, r10⟩ := a4 z
    refine ⟨b, n, r1, r2, Nat.lt_of_lt_of_le r3 P.1.1, r4, r5, by rw [(P.2.1 b r3).1]; exact r6, r7, r8, by rw [(P.2.1 b r3).2]; exact r9, fun i hi => ?_⟩
    rw [P.2.2.2.1 b i r3 (by unfold chg; omega), (A 252 _ rfl).2]; exact r10 i hi
  · obtain ⟨n, r1, r2, r3, r4⟩ := a5 z
    refine ⟨n, r1, r2, r3, fun i hi => ?_⟩
    rw [(A _ i (tp_debts ht)).2, (A 252 _ rfl).2]; exact r4 i hi
  · obtain ⟨n, r1, r2, r3, r4⟩ := a6 z
    refine ⟨n, r1, r2, r3, fun i hi => ?_⟩
    rw [(A 252 _ rfl).2]; exact r4 i hi
theorem InvN.upP {L : Nat} {xs : Nat → Int32} {c : Nat} {h h2 : AH} {nh nm nr na nt nc nt' na' : Nat} (I : InvN L xs c h nh nm nr na nt nc) (hn : nt < 12) (P : PX nt h h2) (L2 : Lay h2) (i6 : IFa h2) (ta : ITa h2 na') (tx : ITx h2 nt' (c + 1)) : InvN L xs (c + 1) h2 nh nm nr na' nt' nc := by
  obtain ⟨i1, i2, ⟨i3, i4⟩, i5, -, i7, i8, i9, i10, i11, -, i13, i14, i15, i16, -, i18, i19⟩ := I
  have F : ∀ t, t ∉ [0, 5, 6, 7] → Ag t h h2 := fun t z => P.ag i1 hn z
  have C : ICo L xs h2 := by
    obtain ⟨⟨a1, a2, a3, a4, a5, a6⟩, ⟨b1, b2, b3, b4⟩, c1, c2, c3, c4, c5⟩ := i2
    have zz := i1.1
    have q : ∀ a, a < 6 → am_kd h2 a = am_kd h a ∧ am_ln h2 a = am_ln h a := fun a ha => P.2.1 a (by omega)
    have A := F 12 (by decide)
    have tl : ∀ a k, a < 6 → tp a k = 12 := fun a k h => by unfold tp; rw [if_pos h]
    unfold ICo
    rw [(q 0 (by decide)).1, (q 1 (by decide)).1, (q 2 (by decide)).1, (q 3 (by decide)).1, (q 4 (by decide)).1, (q 5 (by decide)).1, (q 0 (by decide)).2, (q 1 (by decide)).2, (q 3 (by decide)).2, (q 5 (by decide)).2]
    refine ⟨⟨a1, a2, a3, a4, a5, a6⟩, ⟨b1, b2, b3, b4⟩, fun i => ?_, fun i => ?_, fun i => ?_, fun i => ?_, fun i hi => ?_⟩
    · rw [(A 0 i (tl _ _ (by omega))).1]; exact c1 i
    · rw [(A 1 i (tl _ _ (by omega))).1]; exact c2 i
    · rw [(A 3 i (tl _ _ (by omega))).1]; exact c3 i
    · rw [(A 5 i (tl _ _ (by omega))).1]; exact c4 i
    · rw [(A 254 i rfl).1]; exact c5 i hi
  have p1 := P.1
  exact ⟨L2, C, ⟨by omega, by omega⟩, i5.of (F 1 (by decide)), i6, i7.of (F 9 (by decide)), i8.of (F 10 (by decide)), i9.of (F 2 (by decide)), i10.of (F 3 (by decide)), i11.of (F 4 (by decide)), ta, i13.of (F 8 (by decide)), i14.of (F 1 (by decide)) (F 3 (by decide)), i15.of (F 2 (by decide)) (F 3 (by decide)), i16.of (F 1 (by decide)) (F 4 (by decide)), tx, i18.p P i1 hn, i19.of (F 1 (by decide)) (F 2 (by decide)) (F 4 (by decide))⟩
theorem by2_255 : ∀ j, j < 256 → ((zI j).toInt8.toInt32 = zI j ∧ j ≤ 127) ∨ (128 ≤ j ∧ (zI j).toInt8.toInt32.toInt < 0) := by decide +kernel
theorem by2_t {x : Int32} (h1 : 0 ≤ x.toInt) (h2 : x.toInt ≤ 255) : by2 x.toInt8.toInt32 x := by
  have e := zI_of h1
  have q : (zI x.toInt.toNat).toInt = x.toInt.toNat := zI_toInt (by omega)
  rw [e]
  rcases by2_255 x.toInt.toNat (by omega) with y | y
  · exact Or.inl ⟨y.1, by omega, by omega⟩
  · exact Or.inr ⟨by omega, y.2⟩
theorem InvN.sb {L : Nat} {xs : Nat → Int32} {c : Nat} {h : AH} {nh nm nr na nt nc : Nat} (I : InvN L xs c h nh nm nr na nt nc) : SB (am_gi h 234) na h :=
  ⟨I.lay.c, I.ita.1, I.ita.2.1, fun i hi => by rw [(I.ita.2.2.2.2 i hi).1]; exact by2_t (I.ita.2.2.2.2 i hi).2.1 (I.ita.2.2.2.2 i hi).2.2, ⟨I.ico.1.2.2.2.2.1, I.ico.2.1.2.2.2, I.ico.2.2.2.2.2.1⟩, I.ico.1.2.1, I.ico.2.1.2.1, I.ico.2.2.2.1⟩
/-- the class's side: what stays, and what it says -/
def CP (nt : Nat) (h : AH) (kd pl : Int32) (nt' : Nat) (h3 : AH) : Prop := PX nt h h3 ∧ Lay h3 ∧ (∀ a k, 216 ≤ a → a < 263 → am_gi h3 a k = am_gi h a k) ∧ am_gi h3 6 9 = zI nt' ∧ am_gi h3 6 11 = kd ∧ am_gi h3 6 12 = pl ∧ am_gi h3 71 1 = 0
def CT (nt n m : Nat) (pp : Nat → Nat) (op w : Nat → Int32) (h h3 : AH) : Prop := am_gr h3 (148 + 4 * nt) 0 = some (am_sz h) ∧ am_gr h3 (148 + 4 * nt) 1 = some (am_sz h + 1) ∧ am_sz h3 = am_sz h + 2 ∧ am_kd h3 (am_sz h) = 102 ∧ am_ln h3 (am_sz h) = n ∧ am_kd h3 (am_sz h + 1) = 100 ∧ am_ln h3 (am_sz h + 1) = m ∧ (∀ i, am_gi h3 (am_sz h) i = am_gi h 72 i) ∧ (∀ i, i < m → cR (op i) (w i) (am_gi h3 (am_sz h + 1) i)) ∧ ∀ k, k < 5 → am_gi h3 (151 + 4 * nt) k = zI (pp k)
theorem FRe.px {nt : Nat} {h h' : AH} (F : FRe h h') : PX nt h h' := ⟨⟨Nat.le_of_eq F.1.1.symm, by rw [F.1.1]; omega, by rw [F.1.2.1]; omega⟩, fun a _ => by rw [F.1.2.2.1, F.1.2.2.2.1]; exact ⟨rfl, rfl⟩, fun a k _ _ => by rw [F.1.2.2.2.2], fun a k _ z => F.2.1 a k (by unfold chg at z; omega), fun a k _ => F.2.2 a k⟩
theorem PX.si {nt a k : Nat} {h h' : AH} {v : Int32} (P : PX nt h h') (z : chg nt a k) : PX nt h (am_si h' a k v) := ⟨P.1, P.2.1, P.2.2.1, fun b j hb y => by
  by_cases e : b = a ∧ j = k
  · rw [e.1, e.2] at y; exact absurd z y
  · rw [gi_ne (by omega)]; exact P.2.2.2.1 b j hb y, P.2.2.2.2⟩
theorem g76 {nt n m : Nat} {h h4 : AH} {pp : Nat → Nat} {op w : Nat → Int32} (hn : nt < 12) (L4 : Lay h4) (P : PX nt h h4) (S4 : am_sz h4 = am_sz h) (N4 : am_sn h4 = am_sn h) (Lh : Lay h) (n4 : n ≤ 400) (m4 : m ≤ 400) (e1 : am_gi h4 71 1 = zI n) (b72 : ∀ i, am_gi h4 72 i = am_gi h 72 i) (by8 : ∀ i, i < 400 → -128 ≤ (am_gi h 72 i).toInt ∧ (am_gi h 72 i).toInt ≤ 127) (e3 : am_gi h4 71 3 = zI m) (e74 : ∀ j, j < 5 → am_gi h4 74 j = zI (pp j)) (cr : ∀ i, i < m → cR (op i) (w i) (am_gi h4 73 i)) : Cl 0 76 [.ref (148 + 4 * nt), .ref 71] h4 (fun r h' => r = none ∧ PX nt h h' ∧ Lay h' ∧ (∀ a k, (a < 148 ∨ (216 ≤ a ∧ a < 263)) → am_gi h' a k = am_gi h4 a k) ∧ CT nt n m pp op w h h') := by
  have z := Lh.1
  refine ws76 hn L4 ?_
  rw [e1, zI_tn (show n < 2147483648 by omega)]
  refine ⟨⟨lk72 L4, zI_nonneg (by omega), by rw [ln72 L4]; exact n4, by rw [ln72 L4]; decide, fun j hj => ?_⟩, fun b2 eb2 h1 eh1 h4' eh4 => ?_⟩
  · rw [ln72 L4] at hj
    have := by8 j hj
    rw [b72]
    rw [i_le, i_le]; exact ⟨this.1, this.2⟩
  have sz1 : am_sz h4' = am_sz h + 1 := by rw [eh4, eh1]; show am_sz h4 + 1 = _; rw [S4]
  have sn1 : am_sn h4' = am_sn h + n := by rw [eh4, eh1]; show am_sn h4 + n = _; rw [N4]
  have L1 : Lay h4' := by rw [eh4, eh1]; exact ((L4.nw _ _ _).sw _ _).sr_text hn (by decide)
  have gi1 : ∀ a k, a ≠ am_sz h → am_gi h4' a k = am_gi h4 a k := fun a k y => by
    rw [eh4, eh1]
    show (if a = am_sz h4 then am_gi h4 72 k else am_gi (am_nw h4 102 n n) a k) = _
    rw [if_neg (by rw [S4]; exact y), am_nw_gi (by rw [S4]; exact y)]
  have gl1 : ∀ a k, a ≠ am_sz h → am_gl h4' a k = am_gl h4 a k := fun a k y => by
    rw [eh4, eh1]
    show am_gl (am_nw h4 102 n n) a k = _
    rw [am_nw_gl (by rw [S4]; exact y)]
  have k1 : ∀ a, a ≠ am_sz h → am_kd h4' a = am_kd h4 a ∧ am_ln h4' a = am_ln h4 a := fun a y => by
    rw [eh4, eh1]
    show am_kd (am_nw h4 102 n n) a = _ ∧ am_ln (am_nw h4 102 n n) a = _
    rw [am_nw_kd (by rw [S4]; exact y), am_nw_ln (by rw [S4]; exact y)]; exact ⟨rfl, rfl⟩
  have gr1 : ∀ a k, ¬ (a = 148 + 4 * nt ∧ k = 0) → a ≠ am_sz h → am_gr h4' a k = am_gr h4 a k := fun a k y x => by
    rw [eh4, am_sr_gr, if_neg y, eh1]
    show am_gr (am_nw h4 102 n n) a k = _
    rw [am_nw_gr (by rw [S4]; exact x)]
  have r0 : am_gr h4' (148 + 4 * nt) 0 = some (am_sz h) := by rw [eh4, am_sr_gr, if_pos ⟨rfl, rfl⟩, eb2, S4]
  have kd0 : am_kd h4' (am_sz h) = 102 := by rw [eh4, eh1, ← S4]; exact am_nw_kd0 (n := n) (w := n)
  have ln0 : am_ln h4' (am_sz h) = n := by rw [eh4, eh1, ← S4]; exact am_nw_ln0 (k := 102) (w := n)
  have gi0 : ∀ k, am_gi h4' (am_sz h) k = am_gi h4 72 k := fun k => by
    rw [eh4, eh1, ← S4]
    show (if am_sz h4 = am_sz h4 then am_gi h4 72 k else _) = _
    rw [if_pos rfl]
  rw [gi1 71 3 (by omega), e3, zI_tn (show m < 2147483648 by omega)]
  refine ⟨⟨⟨lk73 L1, by decide⟩, zI_nonneg (by omega), by rw [ln73 L1]; exact m4, by rw [ln73 L1]; decide⟩, fun b6 eb6 h5 eh5 h8 eh8 => ?_⟩
  have L2 : Lay h8 := by rw [eh8, eh5]; exact ((L1.nw _ _ _).sw _ _).sr_text hn (by decide)
  have sz2 : am_sz h8 = am_sz h + 2 := by rw [eh8, eh5]; show am_sz h4' + 1 = _; rw [sz1]
  have sn2 : am_sn h8 = am_sn h + n + m := by rw [eh8, eh5]; show am_sn h4' + m = _; rw [sn1]
  have gi2 : ∀ a k, a ≠ am_sz h + 1 → am_gi h8 a k = am_gi h4' a k := fun a k y => by
    rw [eh8, eh5]
    show (if a = am_sz h4' then am_gi h4' 73 k else am_gi (am_nw h4' 100 m m) a k) = _
    rw [if_neg (by rw [sz1]; exact y), am_nw_gi (by rw [sz1]; exact y)]
  have gl2 : ∀ a k, a ≠ am_sz h + 1 → am_gl h8 a k = am_gl h4' a k := fun a k y => by
    rw [eh8, eh5]
    show am_gl (am_nw h4' 100 m m) a k = _
    rw [am_nw_gl (by rw [sz1]; exact y)]
  have k2 : ∀ a, a ≠ am_sz h + 1 → am_kd h8 a = am_kd h4' a ∧ am_ln h8 a = am_ln h4' a := fun a y => by
    rw [eh8, eh5]
    show am_kd (am_nw h4' 100 m m) a = _ ∧ am_ln (am_nw h4' 100 m m) a = _
    rw [am_nw_kd (by rw [sz1]; exact y), am_nw_ln (by rw [sz1]; exact y)]; exact ⟨rfl, rfl⟩
  have gr2 : ∀ a k, ¬ (a = 148 + 4 * nt ∧ k = 1) → a ≠ am_sz h + 1 → am_gr h8 a k = am_gr h4' a k := fun a k y x => by
    rw [eh8, am_sr_gr, if_neg y, eh5]
    show am_gr (am_nw h4' 100 m m) a k = _
    rw [am_nw_gr (by rw [sz1]; exact x)]
  have r1 : am_gr h8 (148 + 4 * nt) 1 = some (am_sz h + 1) := by rw [eh8, am_sr_gr, if_pos ⟨rfl, rfl⟩, eb6, sz1]
  have kd1 : am_kd h8 (am_sz h + 1) = 100 := by rw [eh8, eh5, ← sz1]; exact am_nw_kd0 (n := m) (w := m)
  have ln1 : am_ln h8 (am_sz h + 1) = m := by rw [eh8, eh5, ← sz1]; exact am_nw_ln0 (k := 100) (w := m)
  have gi3 : ∀ k, am_gi h8 (am_sz h + 1) k = am_gi h4' 73 k := fun k => by
    rw [eh8, eh5, ← sz1]
    show (if am_sz h4' = am_sz h4' then am_gi h4' 73 k else _) = _
    rw [if_pos rfl]
  refine ⟨⟨⟨lk74 L2, by decide⟩, ⟨lk_starts L2 hn, by omega⟩, by omega, rfl, rfl, by decide, by rw [ln74 L2]; decide, by rw [ln_starts L2 hn]; decide⟩, fun h9 e9 => ⟨rfl, ?_⟩⟩
  have gi9 : ∀ a k, a ≠ 151 + 4 * nt → am_gi h9 a k = am_gi h8 a k := fun a k y => by
    rw [e9]; exact if_neg y
  have gi9' : ∀ k, k < 5 → am_gi h9 (151 + 4 * nt) k = am_gi h8 74 k := fun k hk => by
    rw [e9]
    show (if 151 + 4 * nt = 151 + 4 * nt then (if k < 5 then am_gi h8 74 k else _) else _) = _
    rw [if_pos rfl, if_pos hk]
  have sz9 : am_sz h9 = am_sz h + 2 := by rw [e9]; exact sz2
  have all : ∀ a k, a < am_sz h → a ≠ 151 + 4 * nt → am_gi h9 a k = am_gi h4 a k := fun a k h1 h2 => by
    rw [gi9 a k h2, gi2 a k (by omega), gi1 a k (by omega)]
  refine ⟨⟨⟨by omega, by omega, ?_⟩, fun a ha => ?_, fun a k y ha => ?_, fun a k ha y => ?_, fun a k ha => ?_⟩, by rw [e9]; exact L2.sw _ _, fun a k y => all a k (by omega) (by omega), ?_⟩
  · rw [e9]; show am_sn h8 ≤ _; omega
  · rw [e9]
    show am_kd h8 a = _ ∧ am_ln h8 a = _
    rw [(k2 a (by omega)).1, (k2 a (by omega)).2, (k1 a (by omega)).1, (k1 a (by omega)).2]; exact P.2.1 a ha
  · rw [e9]
    show am_gr h8 a k = _
    rw [gr2 a k (by omega) (by omega), gr1 a k (by omega) (by omega)]; exact P.2.2.1 a k y ha
  · by_cases x : a = 151 + 4 * nt
    · exact absurd (Or.inr (Or.inr (Or.inr (Or.inr (Or.inl x))))) y
    · rw [all a k ha x]; exact P.2.2.2.1 a k ha y
  · rw [e9]
    show am_gl h8 a k = _
    rw [gl2 a k (by omega), gl1 a k (by omega)]; exact P.2.2.2.2 a k ha
  · refine ⟨?_, ?_, sz9, ?_, ?_, ?_, ?_, fun i => ?_, fun i hi => ?_, fun k hk => ?_⟩
    · rw [e9]; show am_gr h8 _ 0 = _; rw [gr2 _ _ (by omega) (by omega)]; exact r0
    · rw [e9]; exact r1
    · rw [e9]; show am_kd h8 _ = _; rw [(k2 _ (by omega)).1]; exact kd0
    · rw [e9]; show am_ln h8 _ = _; rw [(k2 _ (by omega)).2]; exact ln0
    · rw [e9]; exact kd1
    · rw [e9]; exact ln1
    · rw [gi9 _ _ (by omega), gi2 _ _ (by omega), gi0, b72]
    · rw [gi9 _ _ (by omega), gi3, gi1 _ _ (by omega)]; exact cr i hi
    · rw [gi9' k hk, gi2 _ _ (by omega), gi1 _ _ (by omega)]; exact e74 k hk
