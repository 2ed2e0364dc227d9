/-! COST 3: the class divides -/
theorem amx_congr {R S : Nat → Int64} {n : Nat} (hn : 1 ≤ n) (e : ∀ j, j < n → R j = S j) : amx R n = amx S n := by
  obtain ⟨x1, x2, x3⟩ := amx_spec R hn
  obtain ⟨y1, y2, y3⟩ := amx_spec S hn
  have a := x2 _ y1
  have b := y2 _ x1
  rw [e _ y1, e _ x1] at a
  rcases Nat.lt_trichotomy (amx R n) (amx S n) with z | z | z
  · have := y3 _ z; omega
  · exact z
  · have := x3 _ z; rw [e _ y1, e _ x1] at this; omega
def aSt (R : Nat → Int64) (a j : Nat) : Nat := if R j ≤ R a then a else j
theorem amx_f (R : Nat → Int64) (n : Nat) : amx R n = fold (aSt R) 0 1 (n - 1) := rfl
theorem l28 {h : AH} (Ly : Lay h) : ∀ m i a, i + m = 12 → a < 12 → Ev 0 28 4 [.ref 105, .int (zI a), .int (zI i)] [] h (fun r h' => r = some (.int (zI (fold (aSt (am_gl h 108)) a i m))) ∧ h' = h)
  | 0, i, a, e, ha => ws28_4 _ _ Ly ⟨fun _ => ⟨rfl, rfl⟩, fun z => absurd (by rw [show i = 12 by omega]; decide) z⟩
  | m + 1, i, a, e, ha => by
    refine ws28_4 _ _ Ly ⟨fun z => absurd ((zI_le (m := 12) (n := i) (by decide) (by omega)).mp z) (by omega), fun _ => ⟨in_zI (by omega) (by decide), in_zI ha (by decide), ?_⟩⟩
    rw [zI_tn (show i < 2147483648 by omega), zI_tn (show a < 2147483648 by omega), zI_succ, lg_cmp_le]
    rw [show fold (aSt (am_gl h 108)) a i (m + 1) = fold (aSt (am_gl h 108)) (aSt (am_gl h 108) a i) (i + 1) m from rfl]
    refine ⟨fun z => ?_, fun z => ?_⟩
    · rw [show aSt (am_gl h 108) a i = a from if_pos z]; exact l28 Ly m (i + 1) a (by omega) ha
    · rw [show aSt (am_gl h 108) a i = i from if_neg z]; exact l28 Ly m (i + 1) i (by omega) (by omega)
theorem p28 {h : AH} (Ly : Lay h) : PF 0 28 [.ref 105] h (.int (zI (amx (am_gl h 108) 12))) := ws28 Ly (l28 Ly 11 1 0 (by decide) (by decide))
def DK (g0 : AH) (B : Nat) (g : AH) : Prop := OC [0, 8] g0 g ∧ am_gi g 105 1 = am_gi g0 105 1 ∧ (∀ j, am_gl g 107 j = am_gl g0 107 j) ∧ am_gl g 105 4 = am_gl g0 105 4 ∧ ∀ k, k < B → am_gi g 106 k = am_gi g0 106 k
theorem DK.rf (g0 : AH) (B : Nat) : DK g0 B g0 := ⟨OC.rf _ _, rfl, fun _ => rfl, rfl, fun _ _ => rfl⟩
theorem DK.st {g0 g : AH} {B x : Nat} (D : DK g0 B g) (v : Int32) (u : Int64) : DK g0 B (am_sl (am_si g 106 (B + x) v) 108 x u) := by
  obtain ⟨E, d1, d2, d3, d4⟩ := D
  refine ⟨E.tr (((OC.rf [0, 8] g).si (a := 106) (k := B + x) (by omega) (show tp 106 (B + x) ∈ [0, 8] from by rw [show tp 106 (B + x) = 8 from rfl]; decide)).sl (a := 108) (k := x) (by omega) (show tp 108 x ∈ [0, 8] from by rw [show tp 108 x = 0 from rfl]; decide)), ?_, fun j => ?_, ?_, fun k hk => ?_⟩
  · rw [gi_sl, gi_ne (by omega)]; exact d1
  · rw [gl_ne (by omega), gl_si]; exact d2 j
  · rw [gl_ne (by omega), gl_si]; exact d3
  · rw [gi_sl, gi_ne (by omega)]; exact d4 k hk
theorem l33 {g0 : AH} (L0 : Lay g0) {c : Int32} {B d : Nat} {w : Nat → Int64} {T : Int64} (hB : B ≤ 348) (hT : ¬ T = 0) (ew : ∀ j, j < 12 → am_gl g0 107 j = w j) (eT : am_gl g0 105 4 = T) {Q : Option Value → AH → Prop} (K : ∀ g, DK g0 B g → (∀ j, j < 12 → am_gi g 106 (B + j) = qF c w T j ∧ am_gl g 108 j = rF c w T j) → Ev (d + 1) 27 105 [.ref 105, .null, .int (zI B), .int (lF c w T 12), .int 0, .null] [] g Q) : ∀ m i g, i + m = 12 → DK g0 B g → (∀ j, j < i → am_gi g 106 (B + j) = qF c w T j ∧ am_gl g 108 j = rF c w T j) → Ev (d + 1) 27 33 [.ref 105, .int c, .int (zI B), .int (lF c w T i), .int (zI i), .null] [] g Q
  | 0, i, g, e, D, J => by
    have e' : i = 12 := by omega
    subst e'
    exact ws27_33 _ _ _ _ (D.1.lay L0) ⟨fun _ => K g D J, fun z => absurd (by decide) z⟩
  | m + 1, i, g, e, D, J => by
    have i12 : am_in (zI i) 12 := in_zI (by omega) (by decide)
    refine ws27_33 _ _ _ _ (D.1.lay L0) ⟨fun z => absurd ((zI_le (m := 12) (n := i) (by decide) (by omega)).mp z) (by omega), fun _ => ⟨i12, by rw [D.2.2.2.1, eT]; exact hT, by rw [zI_add]; exact in_zI (by omega) (by decide), fun h4 e4 => ?_⟩⟩
    rw [zI_add, zI_tn (show B + i < 2147483648 by omega), zI_tn (show i < 2147483648 by omega), D.2.2.1, ew i (by omega), D.2.2.2.1, eT] at e4
    subst e4
    refine ⟨i12, by rw [gl_si, D.2.2.2.1, eT]; exact hT, i12, fun h8 e8 => ?_⟩
    rw [zI_tn (show i < 2147483648 by omega), gl_si, gl_si, D.2.2.1, ew i (by omega), D.2.2.2.1, eT] at e8
    subst e8
    rw [zI_tn (show i < 2147483648 by omega), D.2.2.1, ew i (by omega), D.2.2.2.1, eT, zI_succ]
    have ih := l33 L0 hB hT ew eT K m (i + 1) _ (by omega) (D.st (x := i) (qF c w T i) (rF c w T i)) (fun j hj => by
      by_cases z : j = i
      · subst z; exact ⟨by rw [gi_sl, gi_eq], gl_eq⟩
      · exact ⟨by rw [gi_sl, gi_ne (by omega)]; exact (J j (by omega)).1, by rw [gl_ne (by omega), gl_si]; exact (J j (by omega)).2⟩)
    rw [lF_s] at ih
    exact ih
theorem l105 {g0 : AH} (L0 : Lay g0) {B nc : Nat} (eB : B = 12 * nc) (hn : nc < 30) (e1 : am_gi g0 105 1 = zI nc) : ∀ s i g Q R S, i + s = S → S < 12 → DK g0 B g → (∀ j, j < 12 → am_gi g 106 (B + j) = Q j ∧ am_gl g 108 j = R j) → Ev 3 27 105 [.ref 105, .null, .int (zI B), .int (zI S), .int (zI i), .null] [] g (fun r g' => r = some (.int (zI nc)) ∧ ∃ g2, g' = am_si g2 105 1 (zI (nc + 1)) ∧ DK g0 B g2 ∧ ∀ j, j < 12 → am_gi g2 106 (B + j) = giv 12 (-1) s Q R j)
  | 0, i, g, Q, R, S, e, hS, D, J => ws27_105 _ _ _ (D.1.lay L0) ⟨fun _ h1 eh => ⟨by rw [eh, gi_eq, D.2.1, e1, zI_succ, zI_pred], g, by rw [eh, D.2.1, e1, zI_succ], D, fun j hj => (J j hj).1⟩, fun z => absurd ((zI_le (by omega) (by omega)).mpr (by omega)) z⟩
  | s + 1, i, g, Q, R, S, e, hS, D, J => by
    have Lg := D.1.lay L0
    refine ws27_105 _ _ _ Lg ⟨fun z => absurd ((zI_le (by omega) (by omega)).mp z) (by omega), fun _ => ⟨fun z => absurd ((zI_le (m := 12) (n := i) (by decide) (by omega)).mp z) (by omega), fun _ => ?_⟩⟩
    have P := p28 Lg
    have am : amx (am_gl g 108) 12 = amx R 12 := amx_congr (by decide) (fun j hj => (J j hj).2)
    have lt := (amx_spec R (n := 12) (by decide)).1
    rw [am] at P
    refine Cl.i P (by decide) Lg ?_
    show am_in _ _ ∧ am_in _ _ ∧ ∀ h8, _ → _
    have ia : am_in (zI B + zI (amx R 12)) 360 := by rw [zI_add]; exact in_zI (by omega) (by decide)
    refine ⟨ia, ia, fun h8 e8 => ⟨in_zI lt (by decide), fun h10 e10 => ?_⟩⟩
    rw [zI_add, zI_tn (show B + amx R 12 < 2147483648 by omega), (J _ lt).1] at e8
    rw [zI_tn (show amx R 12 < 2147483648 by omega)] at e10
    subst e8; subst e10
    rw [zI_succ]
    show Ev 3 27 105 _ _ _ (fun r g' => _ ∧ ∃ g2, _ ∧ _ ∧ ∀ j, j < 12 → am_gi g2 106 (B + j) = giv 12 (-1) s (wr Q (amx R 12) (Q (amx R 12) + 1)) (wr R (amx R 12) (-1)) j)
    refine l105 L0 eB hn e1 s (i + 1) _ _ _ S (by omega) hS (D.st (x := amx R 12) _ _) (fun j hj => ?_)
    generalize amx R 12 = x
    by_cases z : j = x
    · subst z; exact ⟨by rw [gi_sl, gi_eq, wr_eq], by rw [gl_eq, wr_eq]⟩
    · exact ⟨by rw [gi_sl, gi_ne (by omega), wr_ne z]; exact (J j hj).1, by rw [gl_ne (by omega), gl_si, wr_ne z]; exact (J j hj).2⟩
theorem c27 {g0 : AH} (L0 : Lay g0) {c : Int32} {nc s : Nat} {w : Nat → Int64} {T : Int64} (hn : nc < 30) (e1 : am_gi g0 105 1 = zI nc) (hT : 0 < T.toInt) (ew : ∀ j, j < 12 → am_gl g0 107 j = w j) (eT : am_gl g0 105 4 = T) (hs : s < 12) (es : lF c w T 12 = zI s) : Cl 3 27 [.ref 105, .int c] g0 (fun r g' => r = some (.int (zI nc)) ∧ ∃ g2, g' = am_si g2 105 1 (zI (nc + 1)) ∧ DK g0 (12 * nc) g2 ∧ ∀ j, j < 12 → am_gi g2 106 (12 * nc + j) = giv 12 (-1) s (qF c w T) (rF c w T) j) := by
  have z0 : (0 : Int64).toInt = 0 := rfl
  have nT : ¬ T = 0 := fun z => by rw [z, z0] at hT; omega
  refine ws27 _ L0 ⟨fun z => absurd (by rw [e1] at z; exact (zI_le (m := 30) (n := nc) (by decide) (by omega)).mp z) (by omega), fun _ => ⟨fun _ => ?_, fun z => absurd (by rw [eT, lg_cmp_gt, l_lt, z0]; exact hT) z⟩⟩
  rw [e1, show zI nc * 12 = zI (12 * nc) from by rw [show (12 : Int32) = zI 12 from rfl, zI_mul, Nat.mul_comm]]
  refine l33 L0 (c := c) (by omega) nT ew eT (fun g D J => ?_) 12 0 g0 (by decide) (DK.rf _ _) (fun j hj => absurd hj (by omega))
  rw [es]
  exact l105 L0 rfl hn e1 s 0 g (qF c w T) (rF c w T) s (by omega) hs D J
/-! the debts -/
def dB1 (h : AH) (nr : Nat) (Q : Nat → Int32) (f : Nat → Int64) (i : Nat) : Nat → Int64 := if hoF h nr i = -1 then f else wr f (hlF h nr i) (f (hlF h nr i) + (Q i).toInt64)
theorem hoF_ne {L : Nat} {xs : Nat → Int32} {c : Nat} {h : AH} {nh nm nr na nt nc : Nat} (I : InvN L xs c h nh nm nr na nt nc) {i : Nat} (z : ¬ hoF h nr i = -1) : ∃ r, r < nr ∧ hoF h nr i = zI r ∧ rR h 2 r = zI (hlF h nr i) ∧ hlF h nr i < nm := by
  obtain ⟨r, hr, er, -, -⟩ := fHo_s (show ¬ fHo (rR h) nr (zI i) (am_gi h 216 0) = -1 from z)
  have b3 := I.iri.1
  have x3 := (I.ix3.1 r hr).2.2.1
  have em : rR h 2 r = zI (hlF h nr i) := by
    unfold hlF hoF; rw [er, zI_tn (by omega), tn_of x3.1]; exact zI_of x3.1
  have lm : hlF h nr i < nm := by
    have e : hlF h nr i = (rR h 2 r).toInt.toNat := by unfold hlF hoF; rw [er, zI_tn (by omega), tn_of x3.1]
    rw [e]; omega
  exact ⟨r, hr, er, em, lm⟩
/-- the class's debts so far; behind g0 nothing else changes -/
def DC (g0 : AH) (f : Nat → Int64) (g : AH) : Prop := Sm g0 g ∧ (∀ a k, am_gi g a k = am_gi g0 a k) ∧ (∀ a k, ¬ (124 ≤ a ∧ a < 148 ∧ k = 5) → am_gl g a k = am_gl g0 a k) ∧ ∀ m, m < 24 → am_gl g (124 + m) 5 = f m
theorem l127 {L : Nat} {xs : Nat → Int32} {c : Nat} {h : AH} {nh nm nr na nt nc : Nat} (I : InvN L xs c h nh nm nr na nt nc) {g0 : AH} (L0 : Lay g0) {k : Nat} {Q : Nat → Int32} (V : vCR g0 nr (rR h)) (e2 : am_gi g0 6 2 = zI nh) (e0 : am_gi g0 6 0 = am_gi h 216 0) (hk : k < 30) (ek : am_gi g0 105 1 = zI (k + 1)) (eq : ∀ j, j < 12 → am_gi g0 106 (12 * k + j) = Q j) : ∀ m i g f, i + m = nh → DC g0 f g → Ev 12 127 59 [.ref 6, .null, .int (zI k), .int (zI i), .null] [] g (fun r g' => r = some (.int (zI k)) ∧ DC g0 (fold (dB1 h nr Q) f i m) g')
  | 0, i, g, f, e, D => ws127_59 _ _ (D.1.lay L0) ⟨fun _ => ⟨rfl, D⟩, fun z => absurd (by rw [D.2.1, e2]; exact (zI_le (by have := I.iho.1; omega) (by have := I.iho.1; omega)).mpr (by omega)) z⟩
  | m + 1, i, g, f, e, D => by
    have b := I.iho.1
    have b3 := I.iri.1
    have b2 := I.ime.1
    have Lg := D.1.lay L0
    have Vg : vCR g nr (rR h) := ⟨V.1, by rw [D.2.1]; exact V.2.1, fun i hi k hk => by rw [D.2.1]; exact V.2.2 i hi k hk⟩
    refine ws127_59 _ _ Lg ⟨fun z => absurd z (by rw [D.2.1, e2, zI_le (by omega) (by omega)]; omega), fun _ => ?_⟩
    rw [D.2.1 6 0, e0, zI_succ]
    rw [show fold (dB1 h nr Q) f i (m + 1) = fold (dB1 h nr Q) (dB1 h nr Q f i) (i + 1) m from rfl]
    refine Cl.i (p56 Lg Vg _ _) (by decide) Lg ⟨fun z => ?_, fun z => ?_⟩
    · rw [show dB1 h nr Q f i = f from if_pos z]
      exact l127 I L0 V e2 e0 hk ek eq m (i + 1) g f (by omega) D
    · rw [show dB1 h nr Q f i = _ from if_neg z]
      obtain ⟨r, hr, er, em, lm⟩ := hoF_ne I z
      generalize hlF h nr i = M at em lm
      rw [show fHo (rR h) nr (zI i) (am_gi h 216 0) = zI r from er, zI_tn (show r < 2147483648 by omega), Vg.2.2 r hr 2 (by decide), em, zI_tn (show M < 2147483648 by omega)]
      refine ⟨in_zI (by omega) (by decide), in_zI (by omega) (by decide), ?_⟩
      have P : PF 0 29 [.ref 105, .int (zI k), .int (zI i)] g (.int (Q i)) := by
        have ea : zI k * 12 + zI i = zI (12 * k + i) := by rw [show (12 : Int32) = zI 12 from rfl, zI_mul, zI_add, Nat.mul_comm]
        refine ws29 _ _ Lg ⟨fun y => absurd y (zI_nonneg (by omega)), fun _ => ⟨fun _ => ?_, fun y => absurd (by rw [D.2.1, ek]; exact (zI_lt (by omega) (by omega)).mpr (by omega)) y⟩⟩
        rw [ea, zI_tn (by omega), D.2.1, eq i (by omega)]
        exact ⟨in_zI (by omega) (by decide), rfl, rfl⟩
      refine Cl.i P (by decide) Lg (fun g9 e9 => ?_)
      rw [D.2.2.2 M (by omega)] at e9
      refine l127 I L0 V e2 e0 hk ek eq m (i + 1) g9 _ (by omega) ?_
      subst e9
      refine ⟨D.1.sl _ _ _, D.2.1, fun a k z => ?_, fun m hm => ?_⟩
      · rw [gl_ne (by omega)]; exact D.2.2.1 a k z
      · by_cases q : m = M
        · subst q; rw [gl_eq, wr_eq]
        · rw [gl_ne (by omega), wr_ne q]; exact D.2.2.2 m hm
