/-! COST 6: the reference gives the last coins, then the debts -/
theorem l246 {g : AH} (Lg : Lay g) {nh nc d : Nat} (h2 : nh ≤ 12) (hn : nc < 30) (e1 : am_gi g 216 39 = zI nc) (en : am_gi g 216 1 = zI nh) {x : Int32} {Q : Option Value → AH → Prop} : ∀ m i a, i + m = nh → a < nh → Ev (d + 1) 244 235 [.ref 216, .null, .null, .null, .int (x + (-1)), .null, .null, .null] [] (am_sl (am_si g 247 (12 * nc + fold (aSt (am_gl g 262)) a i m) (am_gi g 247 (12 * nc + fold (aSt (am_gl g 262)) a i m) + 1)) 262 (fold (aSt (am_gl g 262)) a i m) 0) Q → Ev (d + 1) 244 246 [.ref 216, .null, .null, .null, .int x, .int (zI a), .int (zI i), .null] [] g Q
  | 0, i, a, e, ha, K => by
    have K' : Ev (d + 1) 244 235 [.ref 216, .null, .null, .null, .int (x + (-1)), .null, .null, .null] [] (am_sl (am_si g 247 (12 * nc + a) (am_gi g 247 (12 * nc + a) + 1)) 262 a 0) Q := K
    have ea : (12 : Int32) * zI nc + zI a = zI (12 * nc + a) := by rw [show (12 : Int32) = zI 12 from rfl, zI_mul, zI_add]
    have ia : am_in (zI (12 * nc + a)) 360 := in_zI (by omega) (by decide)
    refine ws244_246 _ _ _ Lg ⟨fun _ => ?_, fun z => absurd (by rw [en]; exact (zI_le (by omega) (by omega)).mpr (by omega)) z⟩
    rw [e1, ea, zI_tn (show 12 * nc + a < 2147483648 by omega), zI_tn (show a < 2147483648 by omega)]
    refine ⟨ia, ia, fun g3 e3 => ⟨in_zI (by omega) (by decide), fun g5 e5 => ?_⟩⟩
    rw [e5, e3]
    exact K'
  | m + 1, i, a, e, ha, K => by
    refine ws244_246 _ _ _ Lg ⟨fun z => absurd (by rw [en] at z; exact (zI_le (by omega) (by omega)).mp z) (by omega), fun _ => ⟨in_zI (by omega) (by decide), in_zI (by omega) (by decide), ?_⟩⟩
    rw [zI_tn (show i < 2147483648 by omega), zI_tn (show a < 2147483648 by omega), zI_succ, lg_cmp_le]
    rw [show fold (aSt (am_gl g 262)) a i (m + 1) = fold (aSt (am_gl g 262)) (aSt (am_gl g 262) a i) (i + 1) m from rfl] at K
    refine ⟨fun z => ?_, fun z => ?_⟩
    · rw [show aSt (am_gl g 262) a i = a from if_pos z] at K
      exact l246 Lg h2 hn e1 en m (i + 1) a (by omega) ha K
    · rw [show aSt (am_gl g 262) a i = i from if_neg z] at K
      exact l246 Lg h2 hn e1 en m (i + 1) i (by omega) (by omega) K
theorem l235 {g0 : AH} (L0 : Lay g0) {nh nc d : Nat} (h1 : 1 ≤ nh) (h2 : nh ≤ 12) (hn : nc < 30) (e1 : am_gi g0 216 39 = zI nc) (en : am_gi g0 216 1 = zI nh) {P : Option Value → AH → Prop} : ∀ s g Q R, s < 12 → DM g0 (12 * nc) g → (∀ j, j < 12 → am_gi g 247 (12 * nc + j) = Q j ∧ am_gl g 262 j = R j) → (∀ g', DM g0 (12 * nc) g' → (∀ j, j < 12 → am_gi g' 247 (12 * nc + j) = giv nh 0 s Q R j) → Ev (d + 1) 244 324 [.ref 216, .null, .null, .null, .null, .int 0, .null, .null] [] g' P) → Ev (d + 1) 244 235 [.ref 216, .null, .null, .null, .int (zI s), .null, .null, .null] [] g P
  | 0, g, Q, R, hs, D, J, K => ws244_235 _ (D.1.lay L0) ⟨fun _ => K g D (fun j hj => (J j hj).1), fun z => absurd (by decide) z⟩
  | s + 1, g, Q, R, hs, D, J, K => by
    have Lg := D.1.lay L0
    refine ws244_235 _ Lg ⟨fun z => absurd ((zI_le (m := s + 1) (n := 0) (by omega) (by decide)).mp z) (by omega), fun _ => ?_⟩
    refine l246 Lg h2 hn (by rw [D.2.1]; exact e1) (by rw [D.2.1]; exact en) (nh - 1) 1 0 (by omega) (by omega) ?_
    rw [← amx_f, amx_congr (n := nh) h1 (S := R) (fun j hj => (J j (by omega)).2), zI_addm1 (by omega), show s + 1 - 1 = s from rfl]
    have lt := (amx_spec R h1).1
    have q := (J (amx R nh) (by omega)).1
    rw [q]
    refine l235 L0 h1 h2 hn e1 en s _ (wr Q (amx R nh) (Q (amx R nh) + 1)) (wr R (amx R nh) 0) (by omega) (D.st _ _) (fun j hj => ?_) K
    generalize amx R nh = x
    by_cases z : j = x
    · subst z; exact ⟨by rw [gi_sl, gi_eq, wr_eq], by rw [gl_eq, wr_eq]⟩
    · exact ⟨by rw [gi_sl, gi_ne (by omega), wr_ne z]; exact (J j hj).1, by rw [gl_ne (by omega), gl_si, wr_ne z]; exact (J j hj).2⟩
def DN (g0 : AH) (f : Nat → Int64) (g : AH) : Prop := Sm g0 g ∧ (∀ a k, am_gi g a k = am_gi g0 a k) ∧ (∀ a k, a ≠ 227 → am_gl g a k = am_gl g0 a k) ∧ ∀ m, m < 24 → am_gl g 227 m = f m
theorem l324 {L : Nat} {xs : Nat → Int32} {c : Nat} {h : AH} {nh nm nr na nt nc : Nat} (I : InvN L xs c h nh nm nr na nt nc) {g0 : AH} (L0 : Lay g0) {Q : Nat → Int32} (V : vMR g0 nr (rR h)) (en : am_gi g0 216 1 = zI nh) (e0 : am_gi g0 216 0 = am_gi h 216 0) (hk : nc < 30) (ek : am_gi g0 216 39 = zI nc) (eq : ∀ j, j < 12 → am_gi g0 247 (12 * nc + j) = Q j) : ∀ m i g f, i + m = nh → DN g0 f g → Ev 12 244 324 [.ref 216, .null, .null, .null, .null, .int (zI i), .null, .null] [] g (fun r g' => r = some (.int (zI nc)) ∧ ∃ g2, g' = am_si g2 216 39 (zI (nc + 1)) ∧ DN g0 (fold (dB1 h nr Q) f i m) g2)
  | 0, i, g, f, e, D => ws244_324 _ (D.1.lay L0) ⟨fun _ g1 e1 => ⟨by rw [e1, gi_eq, D.2.1, ek, zI_succ, zI_pred], g, by rw [e1, D.2.1, ek, zI_succ], D⟩, fun z => absurd (by rw [D.2.1, en]; exact (zI_le (by have := I.iho.1; omega) (by have := I.iho.1; omega)).mpr (by omega)) z⟩
  | m + 1, i, g, f, e, D => by
    have b := I.iho.1
    have b3 := I.iri.1
    have b2 := I.ime.1
    have Lg := D.1.lay L0
    have Vg : vMR g nr (rR h) := ⟨V.1, by rw [D.2.1]; exact V.2.1, fun i hi k hk => by rw [D.2.1]; exact V.2.2 i hi k hk⟩
    refine ws244_324 _ Lg ⟨fun z => absurd z (by rw [D.2.1, en, zI_le (by omega) (by omega)]; omega), fun _ => ?_⟩
    rw [D.2.1 216 0, e0, zI_succ]
    rw [show fold (dB1 h nr Q) f i (m + 1) = fold (dB1 h nr Q) (dB1 h nr Q f i) (i + 1) m from rfl]
    refine Cl.i (p173 Lg Vg _ _) (by decide) Lg ⟨fun z => ?_, fun z => ?_⟩
    · rw [show dB1 h nr Q f i = f from if_pos z]
      exact l324 I L0 V en e0 hk ek eq m (i + 1) g f (by omega) D
    · rw [show dB1 h nr Q f i = _ from if_neg z]
      obtain ⟨r, hr, er, em, lm⟩ := hoF_ne I z
      generalize hlF h nr i = M at em lm
      have ea : (12 : Int32) * zI nc + zI i = zI (12 * nc + i) := by rw [show (12 : Int32) = zI 12 from rfl, zI_mul, zI_add]
      rw [show fHo (rR h) nr (zI i) (am_gi h 216 0) = zI r from er, zI_tn (show r < 2147483648 by omega), show am_gi g 230 r = zI M from (Vg.2.2 r hr 2 (by decide)).trans em, zI_tn (show M < 2147483648 by omega), D.2.1 216 39, ek, ea, zI_tn (show 12 * nc + i < 2147483648 by omega), D.2.1 247, eq i (by omega), D.2.2.2 M (by omega)]
      refine ⟨in_zI (by omega) (by decide), in_zI (by omega) (by decide), in_zI (by omega) (by decide), in_zI (by omega) (by decide), fun g9 e9 => ?_⟩
      refine l324 I L0 V en e0 hk ek eq m (i + 1) g9 _ (by omega) ?_
      subst e9
      refine ⟨D.1.sl _ _ _, D.2.1, fun a k z => ?_, fun m hm => ?_⟩
      · rw [gl_ne (by omega)]; exact D.2.2.1 a k z
      · by_cases q : m = M
        · subst q; rw [gl_eq, wr_eq]
        · rw [gl_ne (by omega), wr_ne q]; exact D.2.2.2 m hm
/-- the weights, and what they make together -/
def hwz (h : AH) (nt nm nr nh : Nat) (j : Nat) : Int64 := if j < nh then hw h nt nm nr j else 0
theorem hwz_b (h : AH) (nt nm nr nh j : Nat) : 0 ≤ (hwz h nt nm nr nh j).toInt ∧ (hwz h nt nm nr nh j).toInt ≤ 1000000 := by
  unfold hwz
  by_cases z : j < nh
  · rw [if_pos z]; exact hw_b ..
  · rw [if_neg z]; decide
theorem tot_i (h : AH) (nt nm nr : Nat) : ∀ n, n ≤ 12 → (tot h nt nm nr n).toInt = sI (fun j => (hw h nt nm nr j).toInt) n ∧ 0 ≤ (tot h nt nm nr n).toInt ∧ (tot h nt nm nr n).toInt ≤ n * 1000000
  | 0, _ => by
    have : (tot h nt nm nr 0) = 0 := rfl
    rw [this]; exact ⟨rfl, by decide, by decide⟩
  | n + 1, hn => by
    obtain ⟨a, b, e⟩ := tot_i h nt nm nr n (by omega)
    have q := hw_b h nt nm nr n
    have s : (tot h nt nm nr (n + 1)).toInt = (tot h nt nm nr n).toInt + (hw h nt nm nr n).toInt := by
      rw [tot_s, Int64.toInt_add, l_bm (by omega) (by omega)]
    rw [s]
    refine ⟨?_, by omega, by omega⟩
    show _ = sI (fun j => (hw h nt nm nr j).toInt) n + (hw h nt nm nr n).toInt
    rw [a]
theorem sI_tail {f : Nat → Int} {n : Nat} : ∀ m, (∀ j, n ≤ j → j < n + m → f j = 0) → sI f (n + m) = sI f n
  | 0, _ => rfl
  | m + 1, z => by
    show sI f (n + m) + f (n + m) = sI f n
    rw [sI_tail m (fun j h1 h2 => z j h1 (by omega)), z (n + m) (by omega) (by omega)]; omega
theorem tot_w (h : AH) (nt nm nr : Nat) {nh : Nat} (hn : nh ≤ 12) : (tot h nt nm nr nh).toInt = sI (fun j => (hwz h nt nm nr nh j).toInt) 12 := by
  have e : sI (fun j => (hwz h nt nm nr nh j).toInt) (nh + (12 - nh)) = sI (fun j => (hwz h nt nm nr nh j).toInt) nh := sI_tail _ (fun j h1 _ => by
    show (hwz h nt nm nr nh j).toInt = 0
    unfold hwz; rw [if_neg (by omega)]; rfl)
  rw [show nh + (12 - nh) = 12 by omega] at e
  rw [e, (tot_i h nt nm nr nh hn).1]
  refine sI_congr (fun j hj => ?_)
  show _ = (hwz h nt nm nr nh j).toInt
  unfold hwz; rw [if_pos hj]
