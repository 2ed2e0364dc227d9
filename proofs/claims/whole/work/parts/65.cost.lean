/-! COST 5: the reference divides -/
def DM (g0 : AH) (B : Nat) (g : AH) : Prop := OM [0, 8] g0 g ∧ (∀ k, am_gi g 216 k = am_gi g0 216 k) ∧ (∀ j, am_gl g 261 j = am_gl g0 261 j) ∧ ∀ k, k < B → am_gi g 247 k = am_gi g0 247 k
theorem DM.rf (g0 : AH) (B : Nat) : DM g0 B g0 := ⟨OM.rf _ _, fun _ => rfl, fun _ => rfl, fun _ _ => rfl⟩
theorem DM.st {g0 g : AH} {B x : Nat} (D : DM g0 B g) (v : Int32) (u : Int64) : DM g0 B (am_sl (am_si g 247 (B + x) v) 262 x u) := by
  obtain ⟨E, d1, d2, d4⟩ := D
  refine ⟨E.tr (((OM.rf [0, 8] g).si (a := 247) (k := B + x) (by omega) (show tp 247 (B + x) ∈ [0, 8] from by rw [show tp 247 (B + x) = 8 from rfl]; decide)).sl (a := 262) (k := x) (by omega) (show tp 262 x ∈ [0, 8] from by rw [show tp 262 x = 0 from rfl]; decide)), fun k => ?_, fun j => ?_, fun k hk => ?_⟩
  · rw [gi_sl, gi_ne (by omega)]; exact d1 k
  · rw [gl_ne (by omega), gl_si]; exact d2 j
  · rw [gi_sl, gi_ne (by omega)]; exact d4 k hk
theorem l143 {g0 : AH} (L0 : Lay g0) {c : Int32} {nc nh d : Nat} {w : Nat → Int64} {T : Int64} (hn : nc < 30) (hh : nh ≤ 12) (e1 : am_gi g0 216 39 = zI nc) (en : am_gi g0 216 1 = zI nh) (hT : ¬ T = 0) (ew : ∀ j, j < nh → am_gl g0 261 j = w j) (wz : ∀ j, nh ≤ j → j < 12 → w j = 0) {Q : Option Value → AH → Prop} (K : ∀ g, DM g0 (12 * nc) g → (∀ j, j < 12 → am_gi g 247 (12 * nc + j) = qF c w T j ∧ am_gl g 262 j = rF c w T j) → Ev (d + 1) 244 235 [.ref 216, .null, .null, .null, .int (lF c w T 12), .null, .null, .null] [] g Q) : ∀ m i g, i + m = 12 → DM g0 (12 * nc) g → (∀ j, j < i → am_gi g 247 (12 * nc + j) = qF c w T j ∧ am_gl g 262 j = rF c w T j) → Ev (d + 1) 244 143 [.ref 216, .int c, .long T, .null, .int (lF c w T i), .int (zI i), .null, .null] [] g Q
  | 0, i, g, e, D, J => by
    have e' : i = 12 := by omega
    subst e'
    exact ws244_143 _ _ _ _ (D.1.lay L0) ⟨fun _ => K g D J, fun z => absurd (by decide) z⟩
  | m + 1, i, g, e, D, J => by
    have Lg := D.1.lay L0
    have i12 : am_in (zI i) 12 := in_zI (by omega) (by decide)
    have ea : (12 : Int32) * zI nc + zI i = zI (12 * nc + i) := by rw [show (12 : Int32) = zI 12 from rfl, zI_mul, zI_add]
    have ia : am_in (zI (12 * nc + i)) 360 := in_zI (by omega) (by decide)
    have st : ∀ v : Int64, v = w i → Ev (d + 1) 244 170 [.ref 216, .int c, .long T, .null, .int (lF c w T i), .int (zI i), .null, .null] [.long v] g Q := fun v ev => by
      subst ev
      refine ws244_170 _ _ _ _ _ Lg ?_
      rw [D.2.1, e1, ea, zI_tn (show 12 * nc + i < 2147483648 by omega), zI_tn (show i < 2147483648 by omega)]
      refine ⟨hT, ia, fun h3 e3 => ⟨hT, i12, fun h6 e6 => ?_⟩⟩
      have g6 : ∀ k, am_gi h6 216 k = am_gi g 216 k := fun k => by rw [e6, e3, gi_sl, gi_ne (by omega)]
      have q6 : am_gi h6 247 (12 * nc + i) = qF c w T i := by rw [e6, e3, gi_sl, gi_eq]; rfl
      rw [g6, D.2.1, e1, ea, zI_tn (show 12 * nc + i < 2147483648 by omega), q6, zI_succ]
      refine ⟨ia, ?_⟩
      have ih := l143 L0 hn hh e1 en hT ew wz K m (i + 1) _ (by omega) (D.st (x := i) (qF c w T i) (rF c w T i)) (fun j hj => by
        by_cases z : j = i
        · subst z; exact ⟨by rw [gi_sl, gi_eq], gl_eq⟩
        · exact ⟨by rw [gi_sl, gi_ne (by omega)]; exact (J j (by omega)).1, by rw [gl_ne (by omega), gl_si]; exact (J j (by omega)).2⟩)
      rw [lF_s] at ih
      rw [e6, e3]
      exact ih
    refine ws244_143 _ _ _ _ Lg ⟨fun z => absurd ((zI_le (m := 12) (n := i) (by decide) (by omega)).mp z) (by omega), fun _ => ⟨fun z => st _ ?_, fun z => ⟨i12, st _ ?_⟩⟩⟩
    · rw [D.2.1, en] at z
      exact (wz i ((zI_le (by omega) (by omega)).mp z) (by omega)).symm
    · rw [D.2.1, en] at z
      have : i < nh := by
        by_cases q : i < nh
        · exact q
        · exact absurd ((zI_le (by omega) (by omega)).mpr (by omega)) z
      rw [zI_tn (by omega), D.2.2.1]; exact ew i this
