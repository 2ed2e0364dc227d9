/-! BEST 10: the reference's table and its choice, by the machine -/
def TBL (h : AH) (nh nm nr k : Nat) (g : AH) : Prop := ∀ x, k ≤ x → x ≤ cnt (mayP h nr) nm → ∀ S, S < 4096 → SPc (cnt (mayP h nr) nm) nh (ownF h nr) (alF h nh nm nr) x (zI S) (am_gi g 259 (4096 * x + S))
theorem l238h {L : Nat} {xs : Nat → Int32} {c : Nat} {h h1 g : AH} {nh nm nr na nt nc d : Nat} (I : InvN L xs c h nh nm nr na nt nc) (R : RK h h1 nh nm nr g) {k S : Nat} (hk : k < cnt (mayP h nr) nm) (hS : S < 4096) {Q : Option Value → AH → Prop} (K : Ev (d + 1) 238 44 [.ref 216, .int (zI k), .int (zI (S + 1)), .null, .null, .null] [] (am_si g 259 (4096 * k + S) (bst (ownF h nr) (alF h nh nm nr) k S (fun S => am_gi g 259 (4096 * (k + 1) + S)) nh)) Q) : ∀ m j, j + m = nh → Ev (d + 1) 238 56 [.ref 216, .int (zI k), .int (zI S), .int (bst (ownF h nr) (alF h nh nm nr) k S (fun S => am_gi g 259 (4096 * (k + 1) + S)) j), .int (zI j), .null] [] g Q
  | 0, j, e => by
    have bh := I.iho.1
    have kl := K_le I
    have ej : j = nh := by omega
    subst ej
    have X := R.1
    have ea : (4096 : Int32) * zI k + zI S = zI (4096 * k + S) := by rw [show (4096 : Int32) = zI 4096 from rfl, zI_mul, zI_add]
    refine ws238_56 _ _ _ _ (X.lay I.lay) ⟨fun _ => ?_, fun z => absurd ?_ z⟩
    · rw [ea, zI_tn (by omega), zI_succ]
      exact ⟨in_zI (by omega) (by decide), fun g2 e2 => by rw [e2]; exact K⟩
    · rw [(X.ag (t := 2) (by decide) 216 1 rfl).1, I.iho.2.2.1]; exact (zI_le (by omega) (by omega)).mpr (Nat.le_refl _)
  | m + 1, j, e => by
    have bh := I.iho.1
    have X := R.1
    have Lg := X.lay I.lay
    have ih := l238h (d := d) I R hk hS K m (j + 1) (by omega)
    refine ws238_56 _ _ _ _ Lg ⟨fun z => absurd ?_ (show ¬ nh ≤ j by omega), fun _ => ?_⟩
    · rw [(X.ag (t := 2) (by decide) 216 1 rfl).1, I.iho.2.2.1] at z; exact (zI_le (by omega) (by omega)).mp z
    rw [zI_succ]
    refine Cl.i (p239 I R hk (show j < nh by omega) hS) (by omega) Lg ⟨fun z => ?_, fun z => ?_⟩
    · unfold bst at ih; rw [if_pos z] at ih; exact ih
    · unfold bst at ih; rw [if_neg z] at ih; exact ih
theorem l238s {L : Nat} {xs : Nat → Int32} {c : Nat} {h h1 : AH} {nh nm nr na nt nc d : Nat} (I : InvN L xs c h nh nm nr na nt nc) {k : Nat} (hk : k < cnt (mayP h nr) nm) {Q : Option Value → AH → Prop} (K : ∀ g, RK h h1 nh nm nr g → TBL h nh nm nr k g → Ev (d + 1) 238 38 [.ref 216, .int (zI k + (-1)), .null, .null, .null, .null] [] g Q) : ∀ m S g, S + m = 4096 → RK h h1 nh nm nr g → TBL h nh nm nr (k + 1) g → (∀ T, T < S → SPc (cnt (mayP h nr) nm) nh (ownF h nr) (alF h nh nm nr) k (zI T) (am_gi g 259 (4096 * k + T))) → Ev (d + 1) 238 44 [.ref 216, .int (zI k), .int (zI S), .null, .null, .null] [] g Q
  | 0, S, g, e, R, T, J => by
    have eS : S = 4096 := by omega
    subst eS
    refine ws238_44 _ _ (R.1.lay I.lay) ⟨fun _ => K g R (fun x h1 h2 U hU => ?_), fun z => absurd (by decide) z⟩
    by_cases y : x = k
    · rw [y]; exact J U hU
    · exact T x (by omega) h2 U hU
  | m + 1, S, g, e, R, T, J => by
    have bh := I.iho.1
    have kl := K_le I
    refine ws238_44 _ _ (R.1.lay I.lay) ⟨fun z => absurd ((zI_le (m := 4096) (by decide) (by omega)).mp z) (by omega), fun _ => ?_⟩
    refine l238h I R hk (show S < 4096 by omega) ?_ nh 0 (by omega)
    refine l238s I hk K m (S + 1) _ (by omega) (R.w _ (Or.inr rfl)) (fun x h1 h2 U hU => ?_) (fun U hU => ?_)
    · rw [gi_ne (by omega)]; exact T x h1 h2 U hU
    · by_cases y : U = S
      · rw [y, gi_eq]
        exact SPc_s bh (by omega) hk (by omega) (fun U hU => T (k + 1) (Nat.le_refl _) (by omega) U hU)
      · rw [gi_ne (by omega)]; exact J U (by omega)
theorem l238k {L : Nat} {xs : Nat → Int32} {c : Nat} {h h1 : AH} {nh nm nr na nt nc d : Nat} (I : InvN L xs c h nh nm nr na nt nc) : ∀ k g, k ≤ cnt (mayP h nr) nm → RK h h1 nh nm nr g → TBL h nh nm nr k g → Ev (d + 1) 238 38 [.ref 216, .int (zI k - 1), .null, .null, .null, .null] [] g (fun r g' => r = none ∧ RK h h1 nh nm nr g' ∧ TBL h nh nm nr 0 g')
  | 0, g, hk, R, T => ws238_38 _ (R.1.lay I.lay) ⟨fun _ => ⟨rfl, R, T⟩, fun z => absurd (by decide) z⟩
  | k + 1, g, hk, R, T => by
    have kl := K_le I
    have bh := I.iho.1
    rw [zI_pred]
    refine ws238_38 _ (R.1.lay I.lay) ⟨fun z => absurd z (zI_nonneg (by omega)), fun _ => ?_⟩
    refine l238s I (k := k) (by omega) (fun g2 R2 T2 => ?_) 4096 0 g (by decide) R T (fun U hU => absurd hU (by omega))
    have := l238k (d := d) I k g2 (by omega) R2 T2
    rw [show zI k + (-1) = zI k - 1 from (Int32.sub_eq_add_neg _ _).symm]
    exact this
theorem l238z {L : Nat} {xs : Nat → Int32} {c : Nat} {h h1 : AH} {nh nm nr na nt nc d : Nat} (I : InvN L xs c h nh nm nr na nt nc) : ∀ m S g, S + m = 4096 → RK h h1 nh nm nr g → (∀ T, T < S → am_gi g 259 (4096 * cnt (mayP h nr) nm + T) = 0) → Ev (d + 1) 238 2 [.ref 216, .int (zI S), .null, .null, .null, .null] [] g (fun r g' => r = none ∧ RK h h1 nh nm nr g' ∧ TBL h nh nm nr 0 g')
  | 0, S, g, e, R, J => by
    have eS : S = 4096 := by omega
    subst eS
    refine ws238_2 _ (R.1.lay I.lay) ⟨fun _ => ?_, fun z => absurd (by decide) z⟩
    rw [R.2.1]
    refine l238k I _ g (Nat.le_refl _) R (fun x h1 h2 U hU => ?_)
    rw [show x = cnt (mayP h nr) nm by omega, J U hU]
    exact SPc_0 _
  | m + 1, S, g, e, R, J => by
    have kl := K_le I
    have bh := I.iho.1
    refine ws238_2 _ (R.1.lay I.lay) ⟨fun z => absurd ((zI_le (m := 4096) (by decide) (by omega)).mp z) (by omega), fun _ => ?_⟩
    rw [R.2.1, show (4096 : Int32) * zI (cnt (mayP h nr) nm) + zI S = zI (4096 * cnt (mayP h nr) nm + S) from by rw [show (4096 : Int32) = zI 4096 from rfl, zI_mul, zI_add], zI_tn (by omega), zI_succ]
    refine ⟨in_zI (by omega) (by decide), fun g2 e2 => l238z I m (S + 1) g2 (by omega) (by rw [e2]; exact R.w _ (Or.inr rfl)) (fun T hT => ?_)⟩
    rw [e2]
    by_cases y : T = S
    · rw [y, gi_eq]
    · rw [gi_ne (by omega)]; exact J T (by omega)
theorem m238 {L : Nat} {xs : Nat → Int32} {c : Nat} {h h1 g : AH} {nh nm nr na nt nc : Nat} (I : InvN L xs c h nh nm nr na nt nc) (R : RK h h1 nh nm nr g) : Cl 1 238 [.ref 216] g (fun r g' => r = none ∧ RK h h1 nh nm nr g' ∧ TBL h nh nm nr 0 g') := ws238 (R.1.lay I.lay) (l238z I 4096 0 g (by decide) R (fun T hT => absurd hT (by omega)))
/-- the home for k -/
theorem l240h {L : Nat} {xs : Nat → Int32} {c : Nat} {h h1 : AH} {nh nm nr na nt nc d : Nat} (I : InvN L xs c h nh nm nr na nt nc) {k S : Nat} {b : Int32} (hk : k < cnt (mayP h nr) nm) (hS : S < 4096) {g0 : AH} {Q : Option Value → AH → Prop} (K : ∀ g x, RK h h1 nh nm nr g → (∀ a i, ¬ (a = 258 ∧ i = k) → am_gi g a i = am_gi g0 a i) → am_gi g 258 k = zI x → x < 12 → TG (ownF h nr) (alF h nh nm nr) nh k S b (fun S => am_gi g 259 (4096 * (k + 1) + S)) x → Ev (d + 1) 240 12 [.ref 216, .int (zI S ||| ((1 : Int32) <<< (zI x &&& 31))), .int (zI (k + 1)), .null, .null] [] g Q) : ∀ j g x, j ≤ nh → RK h h1 nh nm nr g → (∀ a i, ¬ (a = 258 ∧ i = k) → am_gi g a i = am_gi g0 a i) → am_gi g 258 k = zI x → x < 12 → ((x = ownF h nr k ∧ ∀ i, j ≤ i → i < nh → ¬ i = ownF h nr k → ¬ CH (ownF h nr) (alF h nh nm nr) k i S (fun S => am_gi g 259 (4096 * (k + 1) + S)) = b) ∨ (j ≤ x ∧ x < nh ∧ ¬ x = ownF h nr k ∧ CH (ownF h nr) (alF h nh nm nr) k x S (fun S => am_gi g 259 (4096 * (k + 1) + S)) = b ∧ ∀ i, j ≤ i → i < x → ¬ i = ownF h nr k → ¬ CH (ownF h nr) (alF h nh nm nr) k i S (fun S => am_gi g 259 (4096 * (k + 1) + S)) = b)) → Ev (d + 1) 240 53 [.ref 216, .int (zI S), .int (zI k), .int b, .int (zI j - 1)] [] g Q
  | 0, g, x, hj, R, F, e, hx, C => by
    have kl := K_le I
    have bh := I.iho.1
    refine ws240_53 _ _ _ _ (R.1.lay I.lay) ⟨fun _ => ?_, fun z => absurd (by decide) z⟩
    rw [zI_tn (show k < 2147483648 by omega), e, zI_succ]
    refine ⟨in_zI (by omega) (by decide), K g x R F e hx (C.imp (fun y => ⟨y.1, fun i hi => y.2 i (by omega) hi⟩) (fun y => ⟨y.2.1, y.2.2.1, y.2.2.2.1, fun i hi => y.2.2.2.2 i (by omega) hi⟩))⟩
  | j + 1, g, x, hj, R, F, e, hx, C => by
    have kl := K_le I
    have bh := I.iho.1
    have Lg := R.1.lay I.lay
    have q2 := (R.2.2.2 k hk).2
    have on := (own_inj I).1 k hk
    have i24 : am_in (zI k) 24 := in_zI (by omega) (by decide)
    rw [zI_pred]
    have same : ∀ g', g' = am_si g 258 k (am_gi g 258 k) → (¬ (¬ j = ownF h nr k ∧ CH (ownF h nr) (alF h nh nm nr) k j S (fun S => am_gi g 259 (4096 * (k + 1) + S)) = b)) → Ev (d + 1) 240 53 [.ref 216, .int (zI S), .int (zI k), .int b, .int (zI j + (-1))] [] g' Q := fun g' e' z => by
      rw [show zI j + (-1) = zI j - 1 from (Int32.sub_eq_add_neg _ _).symm]
      have T' : (fun S => am_gi g' 259 (4096 * (k + 1) + S)) = (fun S => am_gi g 259 (4096 * (k + 1) + S)) := funext fun S => by rw [e', gi_ne (by omega)]
      refine l240h I hk hS K j g' x (by omega) (by rw [e']; exact R.w _ (Or.inl rfl)) (fun a i y => by rw [e', gi_ne (by omega)]; exact F a i y) (by rw [e', gi_eq]; exact e) hx ?_
      rw [T']
      refine C.imp (fun y => ⟨y.1, fun i h1 h2 h3 h4 => ?_⟩) (fun y => ⟨by omega, y.2.1, y.2.2.1, y.2.2.2.1, fun i h1 h2 h3 h4 => ?_⟩)
      · by_cases w : i = j
        · rw [w] at h3 h4; exact z ⟨h3, h4⟩
        · exact y.2 i (by omega) h2 h3 h4
      · by_cases w : i = j
        · rw [w] at h3 h4; exact z ⟨h3, h4⟩
        · exact y.2.2.2.2 i (by omega) h2 h3 h4
    refine ws240_53 _ _ _ _ Lg ⟨fun z => absurd z (zI_nonneg (by omega)), fun _ => ?_⟩
    rw [zI_tn (show k < 2147483648 by omega), q2]
    refine ⟨i24, fun z => ⟨i24, i24, fun g5 e5 => same g5 e5 (fun y => y.1 ((zI_inj (by omega) (by omega)).mp z))⟩, fun z => Cl.i (p239 I R hk (show j < nh by omega) hS) (by omega) Lg ⟨fun y => ⟨i24, i24, fun g5 e5 => same g5 e5 (fun w => y w.2)⟩, fun y => ⟨i24, fun g5 e5 => ?_⟩⟩⟩
    have y := Decidable.not_not.mp y
    have z : ¬ j = ownF h nr k := fun w => z (by rw [w])
    rw [show zI j + (-1) = zI j - 1 from (Int32.sub_eq_add_neg _ _).symm]
    have T' : (fun S => am_gi g5 259 (4096 * (k + 1) + S)) = (fun S => am_gi g 259 (4096 * (k + 1) + S)) := funext fun S => by rw [e5, gi_ne (by omega)]
    refine l240h I hk hS K j g5 j (by omega) (by rw [e5]; exact R.w _ (Or.inl rfl)) (fun a i w => by rw [e5, gi_ne (by omega)]; exact F a i w) (by rw [e5, gi_eq]) (by omega) ?_
    rw [T']
    exact Or.inr ⟨Nat.le_refl _, by omega, z, y, fun i h1 h2 => absurd h2 (by omega)⟩
/-- what the reference comes to -/
def RZ (h h1 : AH) (nh nm nr : Nat) (fr : Nat → Nat) (g : AH) : Prop := RS (cnt (mayP h nr) nm) nh (ownF h nr) (alF h nh nm nr) fr ∧ RK h h1 nh nm nr g ∧ (∀ k, k < cnt (mayP h nr) nm → am_gi g 258 k = zI (fr k)) ∧ am_gi g 259 0 = zI (cm (ownF h nr) fr (cnt (mayP h nr) nm))
theorem l240 {L : Nat} {xs : Nat → Int32} {c : Nat} {h h1 : AH} {nh nm nr na nt nc d : Nat} (I : InvN L xs c h nh nm nr na nt nc) {V0 : Int32} (M : ∀ g, inj (cnt (mayP h nr) nm) nh g → alo (cnt (mayP h nr) nm) (ownF h nr) (alF h nh nm nr) g → sI (mvd (ownF h nr) g) (cnt (mayP h nr) nm) ≤ V0.toInt) : ∀ m k S g t, k + m = cnt (mayP h nr) nm → RK h h1 nh nm nr g → TBL h nh nm nr 0 g → am_gi g 259 0 = V0 → (∀ i, i < k → am_gi g 258 i = zI (t i)) → PRE (cnt (mayP h nr) nm) nh (ownF h nr) (alF h nh nm nr) V0.toInt k S (am_gi g 259 (4096 * k + S)) t → Ev (d + 1) 240 12 [.ref 216, .int (zI S), .int (zI k), .null, .null] [] g (fun r g' => r = none ∧ ∃ fr, RZ h h1 nh nm nr fr g')
  | 0, k, S, g, t, e, R, T, e0, J, P => by
    have kl := K_le I
    have bh := I.iho.1
    have ek : k = cnt (mayP h nr) nm := by omega
    subst ek
    refine ws240_12 _ _ (R.1.lay I.lay) ⟨fun _ => ⟨rfl, t, ?_⟩, fun z => absurd (by rw [R.2.1]; exact (zI_le (by omega) (by omega)).mpr (Nat.le_refl _)) z⟩
    obtain ⟨r1, r2⟩ := P.fin bh (by omega) M
    refine ⟨r1, R, J, ?_⟩
    rw [e0, ← Int32.toInt_inj]
    have c1 := cm_s (ownF h nr) t (cnt (mayP h nr) nm)
    have c2 : cm (ownF h nr) t (cnt (mayP h nr) nm) ≤ cnt (mayP h nr) nm := cnt_le' _ _
    rw [zI_toInt (by omega)]; omega
  | m + 1, k, S, g, t, e, R, T, e0, J, P => by
    have kl := K_le I
    have bh := I.iho.1
    have hk : k < cnt (mayP h nr) nm := by omega
    have hS := P.2.2.1
    have Lg := R.1.lay I.lay
    have on := (own_inj I).1 k hk
    have i24 : am_in (zI k) 24 := in_zI (by omega) (by decide)
    have ea : (4096 : Int32) * zI k + zI S = zI (4096 * k + S) := by rw [show (4096 : Int32) = zI 4096 from rfl, zI_mul, zI_add]
    refine ws240_12 _ _ Lg ⟨fun z => absurd ?_ (show ¬ cnt (mayP h nr) nm ≤ k by omega), fun _ => ?_⟩
    · rw [R.2.1] at z; exact (zI_le (by omega) (by omega)).mp z
    rw [ea, zI_tn (show 4096 * k + S < 2147483648 by omega), zI_tn (show k < 2147483648 by omega), (R.2.2.2 k hk).2]
    refine ⟨in_zI (by omega) (by decide), i24, i24, fun g4 e4 => ?_⟩
    have R4 : RK h h1 nh nm nr g4 := by rw [e4]; exact R.w _ (Or.inl rfl)
    rw [(R4.1.ag (t := 2) (by decide) 216 1 rfl).1, I.iho.2.2.1]
    refine l240h I (g0 := g4) (b := am_gi g 259 (4096 * k + S)) hk hS (fun g5 x R5 F5 e5 hx X => ?_) nh g4 (ownF h nr k) (Nat.le_refl _) R4 (fun _ _ _ => rfl) (by rw [e4, gi_eq]) (by omega) (Or.inl ⟨rfl, fun i h1 h2 => absurd h2 (by omega)⟩)
    have g259 : ∀ i, am_gi g5 259 i = am_gi g 259 i := fun i => by rw [F5 _ _ (by omega), e4, gi_ne (by omega)]
    rw [show (fun S => am_gi g5 259 (4096 * (k + 1) + S)) = (fun S => am_gi g 259 (4096 * (k + 1) + S)) from funext fun S => g259 _] at X
    obtain ⟨P2, xn⟩ := P.st bh (by omega) hk (fun U hU => T (k + 1) (by omega) (by omega) U hU) X
    obtain ⟨b1, b2, b3⟩ := orS_b hS hx
    rw [← b2]
    refine l240 I M m (k + 1) (orS S x) g5 (wr t k x) (by omega) R5 (fun y h1 h2 U hU => by rw [g259]; exact T y h1 h2 U hU) (by rw [g259]; exact e0) (fun i hi => ?_) (by rw [g259]; exact P2)
    by_cases y : i = k
    · rw [y, wr_eq]; exact e5
    · rw [wr_ne y, F5 _ _ (by omega), e4, gi_ne (by omega)]; exact J i (by omega)
theorem m240 {L : Nat} {xs : Nat → Int32} {c : Nat} {h g : AH} {nh nm nr na nt nc : Nat} (I : InvN L xs c h nh nm nr na nt nc) (X : Em h g) : Cl 5 240 [.ref 216] g (fun r g' => r = none ∧ ∃ fr, RZ h g nh nm nr fr g') := by
  have bm := I.ime.1
  have bh := I.iho.1
  have kl := K_le I
  refine ws240 (d := 4) (X.1.lay I.lay) (Cl.qv (m237 I (h1 := g) ⟨X, OM.rf [0] g⟩) (by decide) (fun g1 R1 => ⟨R1.1.lay I.lay, Cl.qv (m238 I (R1.k bm)) (by decide) (fun g2 q => ⟨q.1.1.lay I.lay, ?_⟩)⟩))
  obtain ⟨R2, T2⟩ := q
  have S0 := T2 0 (Nat.le_refl _) (by omega) 0 (by decide)
  rw [show 4096 * 0 + 0 = 0 from rfl] at S0
  have oi := own_inj I
  have cpl : ∀ g, inj (cnt (mayP h nr) nm) nh g → alo (cnt (mayP h nr) nm) (ownF h nr) (alF h nh nm nr) g → CPL (cnt (mayP h nr) nm) nh (ownF h nr) (alF h nh nm nr) 0 (zI 0) g := fun g hg ag => ⟨fun i _ h2 => ⟨hg.1 i h2, okb_i.mpr (ag i h2), tb_zero _⟩, fun i j _ h2 _ h4 e => hg.2 i j h2 h4 e⟩
  have M : ∀ g, inj (cnt (mayP h nr) nm) nh g → alo (cnt (mayP h nr) nm) (ownF h nr) (alF h nh nm nr) g → sI (mvd (ownF h nr) g) (cnt (mayP h nr) nm) ≤ (am_gi g2 259 0).toInt := fun g hg ag => by
    have := S0.2.1 g (cpl g hg ag)
    unfold mvs at this
    have z : sI (mvd (ownF h nr) g) 0 = 0 := rfl
    omega
  have nz : ¬ am_gi g2 259 0 = -1 := fun y => by
    have := M (ownF h nr) oi (fun k _ => Or.inl rfl)
    have p := mvd_b (own := ownF h nr) (f := ownF h nr) (K := cnt (mayP h nr) nm)
    rw [y] at this
    have m1 : (-1 : Int32).toInt = -1 := rfl
    omega
  refine l240 (d := 4) I M (cnt (mayP h nr) nm) 0 0 g2 (fun _ => 0) (by omega) R2 T2 rfl (fun i hi => absurd hi (by omega)) ⟨fun i hi => absurd hi (by omega), fun i j hi => absurd hi (by omega), by decide, fun j hj => ⟨fun y => ?_, fun ⟨i, hi, _⟩ => absurd hi (by omega)⟩, S0, nz, ?_, fun g _ _ _ => Or.inl (fun i hi => absurd hi (by omega))⟩
  · have : tb (zI 0) j = false := tb_zero j
    rw [this] at y; exact absurd y (by decide)
  · show (0 : Int) + _ = _
    rw [Int.zero_add]
/-- there is such a way, and both programs have the same -/
theorem RS_ex {L : Nat} {xs : Nat → Int32} {c : Nat} {h : AH} {nh nm nr na nt nc : Nat} (I : InvN L xs c h nh nm nr na nt nc) : ∃ fr, RS (cnt (mayP h nr) nm) nh (ownF h nr) (alF h nh nm nr) fr := by
  obtain ⟨n, r, g, _, _, fr, q⟩ := m240 I (Em.rf h)
  exact ⟨fr, q.1⟩
theorem RS.u {K n : Nat} {own f g : Nat → Nat} {al : Nat → Nat → Bool} (hK : K ≤ 12) (hn : n ≤ 12) (A : RS K n own al f) (B : RS K n own al g) : ∀ k, k < K → f k = g k := cst_u hK hn A.1 B.1 A.2.1 B.2.1 (Int.le_antisymm (A.2.2 g B.1 B.2.1) (B.2.2 f A.1 A.2.1))
theorem RZ.e {h h1 g : AH} {nh nm nr : Nat} {fr fr' : Nat → Nat} (hK : cnt (mayP h nr) nm ≤ 12) (hn : nh ≤ 12) (A : RS (cnt (mayP h nr) nm) nh (ownF h nr) (alF h nh nm nr) fr) (B : RZ h h1 nh nm nr fr' g) : RZ h h1 nh nm nr fr g := by
  have e := RS.u hK hn A B.1
  obtain ⟨b1, b2, b3, b4⟩ := B
  refine ⟨A, b2, fun k hk => by rw [e k hk]; exact b3 k hk, ?_⟩
  rw [b4]
  congr 1
  unfold cm
  exact cnt_congr (fun k hk => by rw [e k hk])
