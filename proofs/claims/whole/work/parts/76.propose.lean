/-! PROPOSE 9: the call -/
def kdO (wv lv : Int32) : Int32 := if wv = -1 then (if lv = -1 then 0 else 2) else 1
def plO (wv lv : Int32) : Int32 := if wv = -1 then lv else wv
theorem kdO_0 {wv lv : Int32} : kdO wv lv = 0 ↔ wv = -1 ∧ lv = -1 := by
  unfold kdO
  by_cases y : wv = -1
  · rw [if_pos y]
    by_cases x : lv = -1
    · rw [if_pos x]; exact ⟨fun _ => ⟨y, x⟩, fun _ => rfl⟩
    · rw [if_neg x]; exact ⟨fun z => absurd z (by decide), fun z => absurd z.2 x⟩
  · rw [if_neg y]; exact ⟨fun z => absurd z (by decide), fun z => absurd z.1 y⟩
theorem c110 {L : Nat} {xs : Nat → Int32} {c : Nat} {h : AH} {nh nm nr na nt nc : Nat} (I : InvN L xs c h nh nm nr na nt nc) (hn : nt < 12) {wv lv : Int32} {pp : Nat → Nat} {m : Nat} {op w : Nat → Int32} (m4 : kdO wv lv = 0 → m ≤ 400) (C : Cl 93 33 [.ref 71] h (fun r h' => r = none ∧ CO h wv lv pp m op w h')) : Cl 94 110 [.ref 6] h (fun r h3 => r = some (.int (if kdO wv lv = 0 then zI nt else -10 - kdO wv lv)) ∧ CP nt h (kdO wv lv) (plO wv lv) (if kdO wv lv = 0 then nt + 1 else nt) h3 ∧ (kdO wv lv = 0 → CT nt na m pp op w h h3)) := by
  have Ly := I.lay
  have zz := Ly.1
  refine ws110 Ly ⟨fun _ => ?_, fun z => absurd (by rw [I.itx.2.1]; exact (zI_lt (n := 12) (by omega) (by decide)).mpr hn) z⟩
  refine Cl.qv C (Nat.le_refl _) (fun h1 O => ?_)
  obtain ⟨F, o5, o6, o7⟩ := O
  have L1 : Lay h1 := F.1.lay Ly
  refine ⟨L1, fun h3 e3 h4 e4 => ?_⟩
  have e5 : am_gi h1 71 5 = kdO wv lv := o5
  have e6 : am_gi h3 71 6 = plO wv lv := by rw [e3, gi_ne (by omega)]; exact o6
  rw [e5] at e3
  rw [e6] at e4
  have P4 : PX nt h h4 := by rw [e4, e3]; exact ((F.px).si (by unfold chg; omega)).si (by unfold chg; omega)
  have L4 : Lay h4 := by rw [e4, e3]; exact (L1.si _ _ _).si _ _ _
  have g4 : ∀ a k, ¬ (a = 6 ∧ (k = 11 ∨ k = 12)) → am_gi h4 a k = am_gi h1 a k := fun a k z => by rw [e4, gi_ne (by omega), e3, gi_ne (by omega)]
  have v11 : am_gi h4 6 11 = kdO wv lv := by rw [e4, gi_ne (by omega), e3, gi_eq]
  have v12 : am_gi h4 6 12 = plO wv lv := by rw [e4, gi_eq]
  have v9 : am_gi h4 6 9 = zI nt := by rw [g4 _ _ (by omega), F.2.1 _ _ (by omega)]; exact I.itx.2.1
  have tl : ∀ h5 nt', PX nt h h5 → Lay h5 → (∀ a k, 216 ≤ a → a < 263 → am_gi h5 a k = am_gi h a k) → am_gi h5 6 9 = zI nt' → am_gi h5 6 11 = kdO wv lv → am_gi h5 6 12 = plO wv lv → (nt' = if kdO wv lv = 0 then nt + 1 else nt) → (kdO wv lv = 0 → CT nt na m pp op w h h5) → Ev 94 110 74 [.ref 6] [] h5 (fun r h3 => r = some (.int (if kdO wv lv = 0 then zI nt else -10 - kdO wv lv)) ∧ CP nt h (kdO wv lv) (plO wv lv) (if kdO wv lv = 0 then nt + 1 else nt) h3 ∧ (kdO wv lv = 0 → CT nt na m pp op w h h3)) := fun h5 nt' P5 L5 G5 q9 q11 q12 en T5 => by
    refine ws110_74 (d := 93) L5 (Cl.gv (d := 0) (g := am_si h5 71 1 0) (ws32 L5 (fun _ e => ⟨rfl, e⟩)) (by decide) (L5.si _ _ _) ?_)
    have R : CP nt h (kdO wv lv) (plO wv lv) (if kdO wv lv = 0 then nt + 1 else nt) (am_si h5 71 1 0) ∧ (kdO wv lv = 0 → CT nt na m pp op w h (am_si h5 71 1 0)) := by
      refine ⟨⟨P5.si (by unfold chg; omega), L5.si _ _ _, fun a k a1 a2 => by rw [gi_ne (by omega)]; exact G5 a k a1 a2, by rw [gi_ne (by omega), ← en]; exact q9, by rw [gi_ne (by omega)]; exact q11, by rw [gi_ne (by omega)]; exact q12, by rw [gi_eq]⟩, fun y => ?_⟩
      obtain ⟨t1, t2, t3, t4, t5, t6, t7, t8, t9, t10⟩ := T5 y
      exact ⟨t1, t2, t3, t4, t5, t6, t7, fun i => by rw [gi_ne (by omega)]; exact t8 i, fun i hi => by rw [gi_ne (by omega)]; exact t9 i hi, fun k hk => by rw [gi_ne (by omega)]; exact t10 k hk⟩
    rw [gi_ne (show (6 : Nat) ≠ 71 ∨ (11 : Nat) ≠ 1 by omega), gi_ne (show (6 : Nat) ≠ 71 ∨ (9 : Nat) ≠ 1 by omega), q11, q9]
    refine ⟨fun y => ⟨by rw [if_neg y], R⟩, fun y => ⟨?_, R⟩⟩
    rw [if_pos (Decidable.not_not.mp y), en, if_pos (Decidable.not_not.mp y), zI_pred]
  rw [v11]
  refine ⟨fun y => tl h4 nt P4 L4 (fun a k a1 a2 => by rw [g4 _ _ (by omega), F.2.1 _ _ (by omega)]) v9 v11 v12 (by rw [if_neg y]) (fun x => absurd x y), fun y => ?_⟩
  have y := Decidable.not_not.mp y
  obtain ⟨ow, ol⟩ := kdO_0.mp y
  obtain ⟨o3, o74, o73⟩ := o7 ow
  rw [v9, zI_tn (by omega)]
  refine ⟨in_zI hn (by decide), ?_⟩
  refine Cl.qv (g76 (n := na) (m := m) (pp := pp) (op := op) (w := w) hn L4 P4 (by rw [e4, e3]; exact F.1.1) (by rw [e4, e3]; exact F.1.2.1) Ly I.ita.1 (m4 y) (by rw [g4 _ _ (by omega), F.2.1 _ _ (by omega)]; exact I.ita.2.1) (fun i => by rw [g4 _ _ (by omega), F.2.1 _ _ (by omega)]) I.ita.2.2.2.1 (by rw [g4 _ _ (by omega)]; exact o3) (fun j hj => by rw [g4 _ _ (by omega)]; exact o74 j hj) (fun i hi => by rw [g4 _ _ (by omega)]; exact o73 i hi)) (by decide) (fun h6 q => ?_)
  obtain ⟨P6, L6, G6, T6⟩ := q
  refine ⟨L6, fun h8 e8 => ?_⟩
  rw [G6 6 9 (by omega), v9, zI_succ] at e8
  refine tl h8 (nt + 1) (by rw [e8]; exact P6.si (by unfold chg; omega)) (by rw [e8]; exact L6.si _ _ _) (fun a k a1 a2 => ?_) (by rw [e8, gi_eq]) (by rw [e8, gi_ne (by omega), G6 _ _ (by omega)]; exact v11) (by rw [e8, gi_ne (by omega), G6 _ _ (by omega)]; exact v12) (by rw [if_pos y]) (fun _ => ?_)
  · rw [e8, gi_ne (by omega), G6 _ _ (by omega), g4 _ _ (by omega), F.2.1 _ _ (by omega)]
  · obtain ⟨t1, t2, t3, t4, t5, t6, t7, t8, t9, t10⟩ := T6
    rw [e8]
    exact ⟨t1, t2, t3, t4, t5, t6, t7, fun i => by rw [gi_ne (by omega)]; exact t8 i, fun i hi => by rw [gi_ne (by omega)]; exact t9 i hi, fun k hk => by rw [gi_ne (by omega)]; exact t10 k hk⟩
/-- the reference's side -/
def FX (nt : Nat) (h h' : AH) : Prop := Sm h h' ∧ (∀ a k, ¬ (216 ≤ a ∧ a < 263 ∧ chg nt a k) → am_gi h' a k = am_gi h a k) ∧ ∀ a k, am_gl h' a k = am_gl h a k
theorem FX.rf (nt : Nat) (h : AH) : FX nt h h := ⟨Sm.rfl' _, fun _ _ _ => rfl, fun _ _ => rfl⟩
theorem FX.tr {nt : Nat} {h h1 h2 : AH} (A : FX nt h h1) (C : FX nt h1 h2) : FX nt h h2 := ⟨A.1.trans C.1, fun a k z => (C.2.1 a k z).trans (A.2.1 a k z), fun a k => (C.2.2 a k).trans (A.2.2 a k)⟩
theorem FX.si {nt : Nat} {h h1 : AH} (A : FX nt h h1) {a k : Nat} (v : Int32) (z1 : 216 ≤ a ∧ a < 263) (z : chg nt a k) : FX nt h (am_si h1 a k v) := ⟨A.1.si _ _ _, fun b j y => by
  by_cases e : b = a ∧ j = k
  · rw [e.1, e.2] at y; exact absurd ⟨z1.1, z1.2, z⟩ y
  · rw [gi_ne (by omega)]; exact A.2.1 b j y, A.2.2⟩
theorem FRm.fx {nt : Nat} {h h' : AH} (F : FRm nt h h') : FX nt h h' := ⟨F.1, fun a k z => F.2.1 a k (fun y => z (by unfold chg; omega)), F.2.2⟩
theorem l217p {nt na d : Nat} {h3 : AH} (L3 : Lay h3) (hn : nt < 12) (na4 : na ≤ 400) (e22 : am_gi h3 216 22 = zI na) {Q : Option Value → AH → Prop} (K : ∀ h, FX nt h3 h → (am_gi h 216 22 = zI na ∧ am_gi h 216 23 = zI nt) → (∀ j, j < na → am_gi h 236 (400 * nt + j) = am_gi h3 234 j) → Ev (d + 1) 217 19 [.ref 216, .int (zI nt), .int (zI na)] [] h Q) : ∀ m i h, i + m = na → FX nt h3 h → (am_gi h 216 22 = zI na ∧ am_gi h 216 23 = zI nt) → (∀ j, j < i → am_gi h 236 (400 * nt + j) = am_gi h3 234 j) → Ev (d + 1) 217 19 [.ref 216, .int (zI nt), .int (zI i)] [] h Q
  | 0, i, h, e, F, e2, J => by
    have : i = na := by omega
    subst this; exact K h F e2 J
  | m + 1, i, h, e, F, e2, J => by
    have ea : (400 : Int32) * zI nt + zI i = zI (400 * nt + i) := by rw [show (400 : Int32) = zI 400 from rfl, zI_mul, zI_add]
    refine ws217_19 _ _ (F.1.lay L3) ⟨fun z => absurd ?_ (show ¬ na ≤ i by omega), fun _ => ?_⟩
    · rw [e2.1] at z; exact (zI_le (by omega) (by omega)).mp z
    · rw [ea, zI_tn (show 400 * nt + i < 2147483648 by omega), zI_tn (show i < 2147483648 by omega), zI_succ]
      refine ⟨in_zI (by omega) (by decide), in_zI (by omega) (by decide), fun h8 e8 => ?_⟩
      have v : am_gi h 234 i = am_gi h3 234 i := F.2.1 _ _ (by unfold chg; omega)
      rw [v] at e8
      refine l217p L3 hn na4 e22 K m (i + 1) h8 (by omega) (by rw [e8]; exact F.si _ (by omega) (by unfold chg; omega)) (by rw [e8, gi_ne (by omega), gi_ne (by omega)]; exact e2) (fun j hj => ?_)
      rw [e8]
      by_cases y : j = i
      · subst y; rw [gi_eq]
      · rw [gi_ne (by omega)]; exact J j (by omega)
/-- what the reference leaves -/
def MP (nt na m : Nat) (kd pl : Int32) (pp : Nat → Nat) (op w : Nat → Int32) (h3 h4 : AH) : Prop := FX nt h3 h4 ∧ am_gi h4 216 22 = 0 ∧ am_gi h4 216 37 = kd ∧ am_gi h4 216 38 = pl ∧ am_gi h4 216 23 = (if kd = 0 then zI (nt + 1) else zI nt) ∧ (kd = 0 → am_gi h4 235 nt = zI na ∧ (∀ j, j < na → am_gi h4 236 (400 * nt + j) = am_gi h3 234 j) ∧ (∀ j, j < 5 → am_gi h4 239 (5 * nt + j) = zI (pp j)) ∧ (∀ i, i < m → am_gi h4 237 (400 * nt + i) = op i ∧ am_gi h4 238 (400 * nt + i) = w i) ∧ am_gi h4 240 nt = 0 ∧ am_gi h4 241 nt = 0 ∧ am_gi h4 242 nt = -1 ∧ am_gi h4 243 nt = 0 ∧ am_gi h4 244 nt = -1 ∧ am_gi h4 245 nt = 0 ∧ am_gi h4 246 nt = 0)
theorem m217 {nt na : Nat} {h3 : AH} (L3 : Lay h3) (hn : nt < 12) (na4 : na ≤ 400) (e22 : am_gi h3 216 22 = zI na) (e23 : am_gi h3 216 23 = zI nt) (b0 : ∀ i, i < na → 0 ≤ (am_gi h3 234 i).toInt) (wd : ∀ i, i < 85 → am_gi h3 254 i = if wB i = 32 then 0 else wB i) {wv lv : Int32} {pp : Nat → Nat} {m : Nat} {op w : Nat → Int32} (M : ∀ h h0, h0 = am_si h 216 50 (zI nt) → SR (am_gi h3 234) na nt h0 → Cl 93 203 [.ref 216, .int (zI nt)] h (fun r h' => r = none ∧ MO nt h0 wv lv pp m op w h')) : Cl 94 217 [.ref 216] h3 (fun r h4 => r = some (.int (if kdO wv lv = 0 then zI nt else -10 - kdO wv lv)) ∧ MP nt na m (kdO wv lv) (plO wv lv) pp op w h3 h4) := by
  have z13 : am_in (zI nt) 13 := in_zI (by omega) (by decide)
  have t13 : (zI nt).toNatClampNeg = nt := zI_tn (by omega)
  refine ws217 (d := 93) L3 ⟨fun _ => ?_, fun z => absurd (by rw [e23]; exact fun y => absurd ((zI_inj (n := 12) (by omega) (by decide)).mp y) (by omega)) z⟩
  rw [e23]
  refine l217p (d := 93) L3 hn na4 e22 (fun h F e2 J => ?_) na 0 h3 (by omega) (FX.rf nt h3) ⟨e22, e23⟩ (fun j hj => absurd hj (by omega))
  refine ws217_19 (d := 93) _ _ (F.1.lay L3) ⟨fun _ => ⟨z13, fun h5 e5 h6 e6 => ?_⟩, fun z => absurd (by rw [e2.1]; exact (zI_le (by omega) (by omega)).mpr (Nat.le_refl _)) z⟩
  rw [t13, e2.1] at e5
  have F6 : FX nt h3 (am_si h6 216 50 (zI nt)) := by rw [e6, e5]; exact ((F.si _ (by omega) (by unfold chg; omega)).si _ (by omega) (by unfold chg; omega)).si _ (by omega) (by unfold chg; omega)
  refine Cl.qv (M h6 _ rfl ⟨F6.1.lay L3, na4, hn, ?_, fun i hi => ⟨?_, b0 i hi⟩, fun i hi => ?_, gi_eq⟩) (Nat.le_refl _) (fun h7 O => ?_)
  · rw [gi_ne (by omega), e6, gi_ne (by omega), e5, gi_eq]
  · rw [gi_ne (by omega), e6, gi_ne (by omega), e5, gi_ne (by omega)]; exact J i hi
  · rw [F6.2.1 _ _ (by unfold chg; omega)]; exact wd i hi
  obtain ⟨F7, o55, o7⟩ := O
  have X7 : FX nt h3 h7 := F6.tr F7.fx
  have L7 := X7.1.lay L3
  refine ⟨L7, ?_⟩
  have v22 : am_gi h7 216 22 = 0 := by rw [F7.2.1 _ _ (by omega), gi_ne (by omega), e6, gi_eq]
  have v23 : am_gi h7 216 23 = zI nt := by rw [F7.2.1 _ _ (by omega), gi_ne (by omega), e6, gi_ne (by omega), e5, gi_ne (by omega)]; exact e2.2
  have v235 : am_gi h7 235 nt = zI na := by rw [F7.2.1 _ _ (by omega), gi_ne (by omega), e6, gi_ne (by omega), e5, gi_eq]
  have v236 : ∀ j, j < na → am_gi h7 236 (400 * nt + j) = am_gi h3 234 j := fun j hj => by rw [F7.2.1 _ _ (by omega), gi_ne (by omega), e6, gi_ne (by omega), e5, gi_ne (by omega)]; exact J j hj
  have fin : ∀ h8 h9, h8 = am_si h7 216 37 (kdO wv lv) → h9 = am_si h8 216 38 (plO wv lv) → ((am_gi h9 216 37 = (0 : Int32) → am_in (zI nt) 13 ∧ ∀ h3', h3' = am_si h9 240 (Int32.toNatClampNeg (zI nt)) (0 : Int32) → am_in (zI nt) 13 ∧ ∀ h5, h5 = am_si h3' 241 (Int32.toNatClampNeg (zI nt)) (0 : Int32) → am_in (zI nt) 13 ∧ ∀ h7, h7 = am_si h5 242 (Int32.toNatClampNeg (zI nt)) (-1 : Int32) → am_in (zI nt) 13 ∧ ∀ h9, h9 = am_si h7 243 (Int32.toNatClampNeg (zI nt)) (0 : Int32) → am_in (zI nt) 13 ∧ ∀ h11, h11 = am_si h9 244 (Int32.toNatClampNeg (zI nt)) (-1 : Int32) → am_in (zI nt) 13 ∧ ∀ h13, h13 = am_si h11 245 (Int32.toNatClampNeg (zI nt)) (0 : Int32) → am_in (zI nt) 13 ∧ ∀ h15, h15 = am_si h13 246 (Int32.toNatClampNeg (zI nt)) (0 : Int32) → ∀ h16, h16 = am_si h15 216 23 ((am_gi h15 216 23) + (1 : Int32)) → (some (Value.int (zI nt))) = some (.int (if kdO wv lv = 0 then zI nt else -10 - kdO wv lv)) ∧ MP nt na m (kdO wv lv) (plO wv lv) pp op w h3 h16) ∧ (¬ am_gi h9 216 37 = (0 : Int32) → (some (Value.int (-10 - (am_gi h9 216 37)))) = some (.int (if kdO wv lv = 0 then zI nt else -10 - kdO wv lv)) ∧ MP nt na m (kdO wv lv) (plO wv lv) pp op w h3 h9)) := fun h8 h9 e8 e9 => by
    have F9 : FX nt h3 h9 := by rw [e9, e8]; exact (X7.si _ (by omega) (by unfold chg; omega)).si _ (by omega) (by unfold chg; omega)
    have g9 : ∀ a k, ¬ (a = 216 ∧ (k = 37 ∨ k = 38)) → am_gi h9 a k = am_gi h7 a k := fun a k z => by rw [e9, gi_ne (by omega), e8, gi_ne (by omega)]
    have q37 : am_gi h9 216 37 = kdO wv lv := by rw [e9, gi_ne (by omega), e8, gi_eq]
    have q38 : am_gi h9 216 38 = plO wv lv := by rw [e9, gi_eq]
    rw [q37, t13]
    refine ⟨fun y => ?_, fun y => ⟨by rw [if_neg y], F9, by rw [g9 _ _ (by omega)]; exact v22, q37, q38, by rw [if_neg y, g9 _ _ (by omega)]; exact v23, fun x => absurd x y⟩⟩
    obtain ⟨ow, ol⟩ := kdO_0.mp y
    obtain ⟨-, o239, o237⟩ := o7 ow
    refine ⟨z13, fun k1 r1 => ⟨z13, fun k2 r2 => ⟨z13, fun k3 r3 => ⟨z13, fun k4 r4 => ⟨z13, fun k5 r5 => ⟨z13, fun k6 r6 => ⟨z13, fun k7 r7 k8 r8 => ⟨by rw [if_pos y], ?_⟩⟩⟩⟩⟩⟩⟩⟩
    have g7 : ∀ a k, ¬ (240 ≤ a ∧ a ≤ 246) → am_gi k7 a k = am_gi h9 a k := fun a k z => by rw [r7, gi_ne (by omega), r6, gi_ne (by omega), r5, gi_ne (by omega), r4, gi_ne (by omega), r3, gi_ne (by omega), r2, gi_ne (by omega), r1, gi_ne (by omega)]
    rw [g7 216 23 (by omega), g9 216 23 (by omega), v23, zI_succ] at r8
    have g8 : ∀ a k, ¬ (240 ≤ a ∧ a ≤ 246) → ¬ (a = 216 ∧ k = 23) → am_gi k8 a k = am_gi h9 a k := fun a k z z2 => by rw [r8, gi_ne (by omega)]; exact g7 a k z
    have F8 : FX nt h3 k8 := by
      rw [r8, r7, r6, r5, r4, r3, r2, r1]
      exact (((((((F9.si _ (by omega) (by unfold chg; omega)).si _ (by omega) (by unfold chg; omega)).si _ (by omega) (by unfold chg; omega)).si _ (by omega) (by unfold chg; omega)).si _ (by omega) (by unfold chg; omega)).si _ (by omega) (by unfold chg; omega)).si _ (by omega) (by unfold chg; omega)).si _ (by omega) (by unfold chg; omega)
    refine ⟨F8, by rw [g8 _ _ (by omega) (by omega), g9 _ _ (by omega)]; exact v22, by rw [g8 _ _ (by omega) (by omega)]; exact q37, by rw [g8 _ _ (by omega) (by omega)]; exact q38, by rw [if_pos y, r8, gi_eq], fun _ => ⟨by rw [g8 _ _ (by omega) (by omega), g9 _ _ (by omega)]; exact v235, fun j hj => by rw [g8 _ _ (by omega) (by omega), g9 _ _ (by omega)]; exact v236 j hj, fun j hj => by rw [g8 _ _ (by omega) (by omega), g9 _ _ (by omega)]; exact o239 j hj, fun i hi => by rw [g8 _ _ (by omega) (by omega), g9 _ _ (by omega), g8 _ _ (by omega) (by omega), g9 _ _ (by omega)]; exact o237 i hi, ?_, ?_, ?_, ?_, ?_, ?_, ?_⟩⟩
    · rw [r8, gi_ne (by omega), r7, gi_ne (by omega), r6, gi_ne (by omega), r5, gi_ne (by omega), r4, gi_ne (by omega), r3, gi_ne (by omega), r2, gi_ne (by omega), r1, gi_eq]
    · rw [r8, gi_ne (by omega), r7, gi_ne (by omega), r6, gi_ne (by omega), r5, gi_ne (by omega), r4, gi_ne (by omega), r3, gi_ne (by omega), r2, gi_eq]
    · rw [r8, gi_ne (by omega), r7, gi_ne (by omega), r6, gi_ne (by omega), r5, gi_ne (by omega), r4, gi_ne (by omega), r3, gi_eq]
    · rw [r8, gi_ne (by omega), r7, gi_ne (by omega), r6, gi_ne (by omega), r5, gi_ne (by omega), r4, gi_eq]
    · rw [r8, gi_ne (by omega), r7, gi_ne (by omega), r6, gi_ne (by omega), r5, gi_eq]
    · rw [r8, gi_ne (by omega), r7, gi_ne (by omega), r6, gi_eq]
    · rw [r8, gi_ne (by omega), r7, gi_eq]
  rw [o55]
  have e97 : ∀ (s1 : Int32), s1 = kdO wv lv → Ev 94 217 97 [.ref 216, .int (zI nt), .null] [.int s1, .ref 216] h7 (fun r h4 => r = some (.int (if kdO wv lv = 0 then zI nt else -10 - kdO wv lv)) ∧ MP nt na m (kdO wv lv) (plO wv lv) pp op w h3 h4) := fun s1 es => by
    subst es
    refine ws217_97 (d := 93) _ _ L7 (fun h8 e8 => ?_)
    have L8 : Lay h8 := by rw [e8]; exact L7.si _ _ _
    have q55 : am_gi h8 216 55 = wv := by rw [e8, gi_ne (by omega)]; exact o55
    have q56 : wv = -1 → am_gi h8 216 56 = lv := fun y => by rw [e8, gi_ne (by omega)]; exact (o7 y).1
    rw [q55]
    refine ⟨fun y => ws217_120 (d := 93) _ _ L8 (fun h9 e9 => ?_), fun y => ws217_120 (d := 93) _ _ L8 (fun h9 e9 => ?_)⟩
    · exact fin h8 h9 e8 (by rw [e9, q56 y]; unfold plO; rw [if_pos y])
    · exact fin h8 h9 e8 (by rw [e9]; unfold plO; rw [if_neg y])
  refine ⟨fun y => ⟨fun x => e97 0 ?_, fun x => e97 2 ?_⟩, fun y => e97 1 ?_⟩
  · rw [(o7 y).1] at x; unfold kdO; rw [if_pos y, if_pos x]
  · rw [(o7 y).1] at x; unfold kdO; rw [if_pos y, if_neg x]
  · unfold kdO; rw [if_neg y]
theorem op_propose {L : Nat} {xs : Nat → Int32} {c : Nat} {h : AH} {nh nm nr na nt nc : Nat} (I : InvN L xs c h nh nm nr na nt nc) : OPi 110 217 [] L xs c h := by
  have Ly := I.lay
  have zz := Ly.1
  by_cases hn : nt < 12
  · obtain ⟨wv, lv, pp, m, op, w, O, C, M, -⟩ := rds (B := am_gi h 234) (t := nt) I.ita.1
    have m4 : kdO wv lv = 0 → m ≤ 400 := fun y => (O.2 (kdO_0.mp y).1 (kdO_0.mp y).2).2
    refine OPi.gx (c110 I hn m4 (C h I.sb)) (d' := 94) (fun h3 q => ?_)
    obtain ⟨⟨P3, L3, G3, q9, q11, q12, q71⟩, T3⟩ := q
    have ico : ICo L xs h3 := by
      obtain ⟨⟨a1, a2, a3, a4, a5, a6⟩, ⟨b1, b2, b3, b4⟩, c1, c2, c3, c4, c5⟩ := I.ico
      have q : ∀ a, a < 6 → am_kd h3 a = am_kd h a ∧ am_ln h3 a = am_ln h a := fun a ha => P3.2.1 a (by omega)
      have g : ∀ a i, a < 6 → am_gi h3 a i = am_gi h a i := fun a i ha => P3.2.2.2.1 a i (by omega) (by unfold chg; omega)
      unfold ICo
      rw [(q 0 (by decide)).1, (q 1 (by decide)).1, (q 2 (by decide)).1, (q 3 (by decide)).1, (q 4 (by decide)).1, (q 5 (by decide)).1, (q 0 (by decide)).2, (q 1 (by decide)).2, (q 3 (by decide)).2, (q 5 (by decide)).2]
      exact ⟨⟨a1, a2, a3, a4, a5, a6⟩, ⟨b1, b2, b3, b4⟩, fun i => by rw [g 0 i (by omega)]; exact c1 i, fun i => by rw [g 1 i (by omega)]; exact c2 i, fun i => by rw [g 3 i (by omega)]; exact c3 i, fun i => by rw [g 5 i (by omega)]; exact c4 i, fun i hi => by rw [G3 254 i (by omega) (by omega)]; exact c5 i hi⟩
    have e234 : am_gi h3 234 = am_gi h 234 := funext fun i => G3 234 i (by omega) (by omega)
    refine ⟨L3, ico, ?_⟩
    refine Cl.mono (m217 (nt := nt) (na := na) L3 hn I.ita.1 (by rw [G3 _ _ (by omega) (by omega)]; exact I.ita.2.2.1) (by rw [G3 _ _ (by omega) (by omega)]; exact I.itx.2.2.1) (fun i hi => by rw [e234]; exact (I.ita.2.2.2.2 i hi).2.1) (fun i hi => ico.2.2.2.2.2.2 i hi) (wv := wv) (lv := lv) (pp := pp) (m := m) (op := op) (w := w) (by rw [e234]; exact M)) (Nat.le_refl _) (fun r h4 q => ⟨q.1, ?_⟩)
    obtain ⟨-, X, v22, v37, v38, v23, vv⟩ := q
    have S := X.1
    have L4 : Lay h4 := S.lay L3
    have g4 : ∀ a k, ¬ (216 ≤ a ∧ a < 263) → am_gi h4 a k = am_gi h3 a k := fun a k z => X.2.1 a k (fun y => z ⟨y.1, y.2.1⟩)
    have P4 : PX nt h h4 := by
      obtain ⟨p1, p2, p3, p4, p5⟩ := P3
      refine ⟨by rw [S.1, S.2.1]; exact p1, fun a ha => by rw [S.2.2.1, S.2.2.2.1]; exact p2 a ha, fun a k y ha => by rw [S.2.2.2.2]; exact p3 a k y ha, fun a k ha y => ?_, fun a k ha => (X.2.2 a k).trans (p5 a k ha)⟩
      rw [X.2.1 a k (fun x => y x.2.2)]; exact p4 a k ha y
    have i6 : IFa h4 := ⟨by rw [g4 6 11 (by omega), q11, v37], by rw [g4 6 12 (by omega), q12, v38]⟩
    have ta : ITa h4 0 := ⟨by omega, by rw [g4 71 1 (by omega)]; exact q71, v22, fun i hi => by rw [P4.2.2.2.1 72 i (by omega) (by unfold chg; omega)]; exact I.ita.2.2.2.1 i hi, fun i hi => absurd hi (by omega)⟩
    have it := I.itx
    obtain ⟨x1, x2, x3, x4, x5, x6, x7⟩ := it
    have g : ∀ a k, a < am_sz h → ¬ chg nt a k → am_gi h4 a k = am_gi h a k := P4.2.2.2.1
    have c10 : am_gi h4 6 10 + 1 = am_gi h4 216 36 ∧ 1 ≤ (am_gi h4 216 36).toInt ∧ (am_gi h4 216 36).toInt ≤ 1 + ((c + 1 : Nat) : Int) := by
      rw [g 6 10 (by omega) (by unfold chg; omega), g 216 36 (by omega) (by unfold chg; omega)]
      exact ⟨x4.1, x4.2.1, by have := x4.2.2; omega⟩
    have c240 : am_gi h4 240 0 = 1 ∧ am_gi h4 244 0 = -1 := by
      rw [g 240 0 (by omega) (by unfold chg; omega), g 244 0 (by omega) (by unfold chg; omega)]; exact x6
    have un : ∀ t, nt ≤ t → t < 12 → am_gi h4 (148 + 4 * t) 3 = 0 ∧ am_gi h4 (148 + 4 * t) 4 = 0 ∧ am_gi h4 (148 + 4 * t) 5 = 0 ∧ am_gi h4 (148 + 4 * t) 6 = -1 ∧ am_gi h4 (148 + 4 * t) 7 = -1 ∧ am_gi h4 (148 + 4 * t) 8 = -1 := fun t h1 h2 => by
      have e : ∀ k, am_gi h4 (148 + 4 * t) k = am_gi h (148 + 4 * t) k := fun k => g _ _ (by omega) (by unfold chg; omega)
      rw [e, e, e, e, e, e]; exact x7 t h1 h2
    by_cases y : kdO wv lv = 0
    · obtain ⟨t1, t2, t3, t4, t5, t6, t7, t8, t9, t10⟩ := T3 y
      obtain ⟨ow, ol⟩ := kdO_0.mp y
      obtain ⟨⟨⟨s1, s2, s3⟩, s4, s5, s6⟩, s7⟩ := O.2 ow ol
      obtain ⟨u1, u2, u3, u4, w0, w1, w2, w3, w4, w5, w6⟩ := vv y
      rw [if_pos y] at q9 v23
      refine ⟨nh, nm, nr, 0, nt + 1, nc, I.upP hn P4 L4 i6 ta ⟨⟨by omega, by omega⟩, by rw [g4 6 9 (by omega)]; exact q9, v23, c10, fun t ht => ?_, c240, fun t h1 h2 => un t (by omega) h2⟩⟩
      by_cases e : t = nt
      · subst e
        obtain ⟨f3, f4, f5, f6, f7, f8⟩ := un t (Nat.le_refl _) hn
        refine ⟨⟨by rw [f3, w5]; decide, by rw [f4, w6]; decide, by rw [f5, w1]; decide, Or.inr ⟨w0, f6⟩, by rw [f7, w2], by rw [f8, w4]; exact ⟨rfl, Or.inl rfl⟩⟩, ⟨am_sz h, na, by rw [S.2.2.2.2]; exact t1, by rw [S.1, t3]; omega, by omega, tp_new (by omega), by rw [S.2.2.1]; exact t4, by rw [S.2.2.2.1]; exact t5, I.ita.1, u1, fun i hi => ?_⟩, ⟨am_sz h + 1, pp, by rw [S.2.2.2.2]; exact t2, by rw [S.1, t3]; omega, by omega, tp_new (by omega), by rw [S.2.2.1]; exact t6, by rw [S.2.2.2.1, t7]; exact s2.symm, fun k hk => ⟨?_, u3 k hk⟩, ⟨s1, ?_⟩, fun i hi => ?_, fun k hk => ⟨?_, fun i h1 h2 h3 => ?_⟩⟩⟩
        · have B127 := s6 i hi
          have e1 : am_gi h 72 i = am_gi h 234 i := (I.sb.2.2.2.1 i hi).e B127
          rw [g4 _ _ (by omega), t8, u2 i hi, e234, e1]
          exact ⟨rfl, (I.ita.2.2.2.2 i hi).2.1, B127⟩
        · rw [g4 _ _ (by omega)]; exact t10 k hk
        · have a0 := s3 0 (by decide)
          have a1 := s3 1 (by decide)
          have a2 := s3 2 (by decide)
          have a3 := s3 3 (by decide)
          simp only [Nat.zero_add, Nat.reduceAdd] at a0 a1 a2 a3
          omega
        · rw [s2] at hi
          show cR (am_gi h4 237 (400 * t + i)) (am_gi h4 238 (400 * t + i)) (am_gi h4 (am_sz h + 1) i)
          rw [(u4 i hi).1, (u4 i hi).2, g4 _ _ (by omega)]; exact t9 i hi
        · have a := s3 k hk
          rw [hts_congr (op' := op) (fun j h1 h2 => (u4 j (by omega)).1)]; exact s4 k hk
        · have a := s3 k hk
          have h3' : am_gi h4 237 (400 * t + i) = 1 := h3
          rw [(u4 i (by omega)).1] at h3'
          show alw k (am_gi h4 238 (400 * t + i))
          rw [(u4 i (by omega)).2]; exact s5 rfl k hk i h1 h2 h3'
      · obtain ⟨b1, b2, b3⟩ := x5 t (by omega)
        exact ⟨b1.p P4 Ly (by omega) hn (by omega), b2.p P4 Ly (by omega) hn, b3.p P4 Ly (by omega) hn⟩
    · rw [if_neg y] at q9 v23
      refine ⟨nh, nm, nr, 0, nt, nc, I.upP hn P4 L4 i6 ta ⟨x1, by rw [g4 6 9 (by omega)]; exact q9, v23, c10, fun t ht => ?_, c240, fun t h1 h2 => un t h1 h2⟩⟩
      obtain ⟨b1, b2, b3⟩ := x5 t ht
      exact ⟨b1.p P4 Ly ht hn (Nat.le_refl _), b2.p P4 Ly ht hn, b3.p P4 Ly ht hn⟩
  · have e12 : nt = 12 := by have := I.itx.1.2; omega
    have e9 : am_gi h 6 9 = 12 := by rw [I.itx.2.1, e12]; rfl
    have e23 : am_gi h 216 23 = 12 := by rw [I.itx.2.2.1, e12]; rfl
    exact OPi.pf I (x := -4) (d := 1) (d' := 1) (ws110 Ly ⟨fun z => absurd z (by rw [e9]; decide), fun _ => ⟨rfl, rfl⟩⟩) (ws217 Ly ⟨fun z => absurd e23 z, fun _ => ⟨rfl, rfl⟩⟩)
