/-! PROPOSE 3: the scanner of the reference -/
def SR (B : Nat → Int32) (n t : Nat) (h : AH) : Prop := Lay h ∧ n ≤ 400 ∧ t < 12 ∧ am_gi h 235 t = zI n ∧ (∀ i, i < n → am_gi h 236 (400 * t + i) = B i ∧ 0 ≤ (B i).toInt) ∧ (∀ i, i < 85 → am_gi h 254 i = if wB i = 32 then 0 else wB i) ∧ am_gi h 216 50 = zI t
/-- only the scanner's cells -/
def FT (h h' : AH) : Prop := Sm h h' ∧ (∀ a k, ¬ (a = 216 ∧ 51 ≤ k ∧ k ≤ 54) → am_gi h' a k = am_gi h a k) ∧ ∀ a k, am_gl h' a k = am_gl h a k
/-- only the reading's cells -/
def FRm (t : Nat) (h h' : AH) : Prop := Sm h h' ∧ (∀ a k, ¬ ((a = 216 ∧ 51 ≤ k ∧ k ≤ 59) ∨ ((a = 237 ∨ a = 238) ∧ 400 * t ≤ k) ∨ (a = 239 ∧ 5 * t ≤ k)) → am_gi h' a k = am_gi h a k) ∧ ∀ a k, am_gl h' a k = am_gl h a k
theorem FT.rf (h : AH) : FT h h := ⟨Sm.rfl' _, fun _ _ _ => rfl, fun _ _ => rfl⟩
theorem FRm.rf (t : Nat) (h : AH) : FRm t h h := ⟨Sm.rfl' _, fun _ _ _ => rfl, fun _ _ => rfl⟩
theorem FT.fr {h h' : AH} (F : FT h h') (t : Nat) : FRm t h h' := ⟨F.1, fun a k z => F.2.1 a k (by omega), F.2.2⟩
theorem FT.tr {h h1 h2 : AH} (A : FT h h1) (C : FT h1 h2) : FT h h2 := ⟨A.1.trans C.1, fun a k z => (C.2.1 a k z).trans (A.2.1 a k z), fun a k => (C.2.2 a k).trans (A.2.2 a k)⟩
theorem FRm.tr {t : Nat} {h h1 h2 : AH} (A : FRm t h h1) (C : FRm t h1 h2) : FRm t h h2 := ⟨A.1.trans C.1, fun a k z => (C.2.1 a k z).trans (A.2.1 a k z), fun a k => (C.2.2 a k).trans (A.2.2 a k)⟩
theorem FT.si {h h1 : AH} (A : FT h h1) {k : Nat} (v : Int32) (z : 51 ≤ k ∧ k ≤ 54) : FT h (am_si h1 216 k v) := ⟨A.1.si _ _ _, fun a j y => by rw [gi_ne (by omega)]; exact A.2.1 a j y, A.2.2⟩
theorem FRm.si {t : Nat} {h h1 : AH} (A : FRm t h h1) {a k : Nat} (v : Int32) (z : (a = 216 ∧ 51 ≤ k ∧ k ≤ 59) ∨ ((a = 237 ∨ a = 238) ∧ 400 * t ≤ k) ∨ (a = 239 ∧ 5 * t ≤ k)) : FRm t h (am_si h1 a k v) := ⟨A.1.si _ _ _, fun b j y => by rw [gi_ne (by omega)]; exact A.2.1 b j y, A.2.2⟩
theorem SR.of {B : Nat → Int32} {n t : Nat} {h h' : AH} (S : SR B n t h) (F : FRm t h h') : SR B n t h' := by
  obtain ⟨s1, s2, s3, s4, s5, s6, s7⟩ := S
  exact ⟨F.1.lay s1, s2, s3, by rw [F.2.1 _ _ (by omega)]; exact s4, fun i hi => by rw [F.2.1 _ _ (by omega)]; exact s5 i hi, fun i hi => by rw [F.2.1 _ _ (by omega)]; exact s6 i hi, by rw [F.2.1 _ _ (by omega)]; exact s7⟩
def bt (B : Nat → Int32) (n i : Nat) : Int32 := if i < n then B i else -1
theorem p192 {B : Nat → Int32} {n t : Nat} {h : AH} (S : SR B n t h) {i : Nat} (hi : i ≤ 1000000) : PF 0 192 [.ref 216, .int (zI i)] h (.int (bt B n i)) := by
  obtain ⟨s1, s2, s3, s4, s5, s6, s7⟩ := S
  refine ws192 _ s1 ?_
  rw [s7, zI_tn (show t < 2147483648 by omega), s4]
  refine ⟨in_zI (by omega) (by decide), fun z => ⟨?_, rfl⟩, fun z => ?_⟩
  · rw [zI_le (by omega) (by omega)] at z; unfold bt; rw [if_neg (by omega)]
  · rw [zI_le (by omega) (by omega)] at z
    rw [show (400 : Int32) = zI 400 from rfl, zI_mul, zI_add, zI_tn (by omega), (s5 i (by omega)).1]
    exact ⟨in_zI (by omega) (by decide), by unfold bt; rw [if_pos (by omega)], rfl⟩
theorem p193 {h : AH} (Ly : Lay h) (x : Int32) : PF 0 193 [.int x] h (.int (bI (isLe x = true))) := by
  refine ws193 _ Ly ⟨fun z => ⟨?_, rfl⟩, fun z => ⟨fun y => ⟨?_, rfl⟩, fun y => ⟨?_, rfl⟩⟩⟩
  · rw [bI_f]; unfold isLe; rw [Bool.and_eq_true, decide_eq_true_eq]; exact fun w => i_ge.mpr w.1 z
  · rw [bI_f]; unfold isLe; rw [Bool.and_eq_true, decide_eq_true_eq, decide_eq_true_eq]; exact fun w => i_ge.mpr w.2 y
  · rw [bI_t]; unfold isLe; rw [Bool.and_eq_true, decide_eq_true_eq, decide_eq_true_eq]; exact ⟨i_ge.mp z, i_ge.mp y⟩
theorem p194 {h : AH} (Ly : Lay h) (x : Int32) : PF 0 194 [.int x] h (.int (bI (isDi x = true))) := by
  refine ws194 _ Ly ⟨fun z => ⟨?_, rfl⟩, fun z => ⟨fun y => ⟨?_, rfl⟩, fun y => ⟨?_, rfl⟩⟩⟩
  · rw [bI_f]; unfold isDi; rw [Bool.and_eq_true, decide_eq_true_eq]; exact fun w => i_ge.mpr w.1 z
  · rw [bI_f]; unfold isDi; rw [Bool.and_eq_true, decide_eq_true_eq, decide_eq_true_eq]; exact fun w => i_ge.mpr w.2 y
  · rw [bI_t]; unfold isDi; rw [Bool.and_eq_true, decide_eq_true_eq, decide_eq_true_eq]; exact ⟨i_ge.mp z, i_ge.mp y⟩
theorem bt_p {B : Nat → Int32} {n i : Nat} (h : i < n) : bt B n i = B i := if_pos h
theorem bt_n {B : Nat → Int32} {n i : Nat} (h : ¬ i < n) : bt B n i = -1 := if_neg h
/-- the letters of one word -/
theorem l197i {B : Nat → Int32} {n t b e k d : Nat} {h : AH} (S : SR B n t h) (hk : k < 15) (hb : b ≤ e) (he : e ≤ n) (e51 : am_gi h 216 51 = zI e) (e52 : am_gi h 216 52 = zI b) {Q : Option Value → AH → Prop} (K : Ev (d + 1) 197 41 [.ref 216, .int (zI k), .int (zI (wl k)), .int (bI (pr B b e k (wl k) = true)), .int (zI (wst k + wl k))] [] h Q) : ∀ m j, j + m = wl k → Ev (d + 1) 197 41 [.ref 216, .int (zI k), .int (zI j), .int (bI (pr B b e k j = true)), .int (zI (wst k + j))] [] h Q
  | 0, j, ej => by
    have : j = wl k := by omega
    subst this; exact K
  | m + 1, j, ej => by
    have bn := S.2.1
    obtain ⟨w1, w2, w3, w4, w5⟩ := wB_f k hk
    obtain ⟨u1, u2, u3, u4⟩ := w5 j (by omega)
    have hx : wst k + j < 85 := by omega
    have ih := l197i (d := d) S hk hb he e51 e52 K m (j + 1) (by omega)
    have ew : am_gi h 254 (wst k + j) = wB (wst k + j) := by rw [S.2.2.2.2.2.1 _ hx, if_neg u1]
    refine ws197_41 _ _ _ _ S.1 ⟨fun z => absurd ?_ (show ¬ 85 ≤ wst k + j by omega), fun _ => ⟨in_zI hx (by decide), ?_⟩⟩
    · rw [ln254 S.1] at z; exact (zI_le (m := 85) (by decide) (by omega)).mp z
    · rw [zI_tn (show wst k + j < 2147483648 by omega), ew, zI_succ (wst k + j), zI_succ j, show wst k + j + 1 = wst k + (j + 1) from rfl, e52, zI_add]
      refine ⟨fun _ => ⟨fun z => ?_, fun z => ?_⟩, fun z => absurd u2 z⟩
      · rw [bI_0] at z
        rw [bI_f (fun x => by rw [pr_s] at x; exact z x.1)] at ih
        exact ih
      · rw [bI_n0] at z
        refine Cl.i (p192 S (i := b + j) (by omega)) (by omega) S.1 ⟨in_zI hx (by decide), ?_⟩
        rw [ew, e51, e52, zI_sub hb (by omega)]
        refine ⟨fun y => ?_, fun y => ⟨fun x => ?_, fun x => ?_⟩⟩
        · rw [bI_f (fun x => by rw [pr_s] at x; rw [bt_p (show b + j < n by omega)] at y; exact y x.2.2)] at ih
          exact ih
        · rw [zI_le (by omega) (by omega)] at x
          rw [bI_f (fun v => by rw [pr_s] at v; omega)] at ih
          exact ih
        · rw [zI_le (by omega) (by omega)] at x
          have y := Decidable.not_not.mp y
          rw [bt_p (show b + j < n by omega)] at y
          rw [bI_t (by rw [pr_s]; exact ⟨z, by omega, y⟩)] at ih
          exact ih
/-- the words so far: none, or this one -/
def WF (B : Nat → Int32) (b e k : Nat) (h0 h : AH) : Prop := FT h0 h ∧ am_gi h 216 51 = zI e ∧ am_gi h 216 52 = zI b ∧ ((am_gi h 216 53 = 2 ∧ ∀ j, j < k → mtc B b e j = false) ∨ ∃ j, j < k ∧ mtc B b e j = true ∧ am_gi h 216 53 = wtk (zI j) ∧ am_gi h 216 54 = zI j)
theorem l197 {B : Nat → Int32} {n t b e d : Nat} {h0 : AH} (S0 : SR B n t h0) (hb : b ≤ e) (he : e ≤ n) : ∀ m k h, k + m = 15 → WF B b e k h0 h → Ev (d + 1) 197 41 [.ref 216, .int (zI k), .int 0, .int 1, .int (zI (wst k))] [] h (fun r h' => r = none ∧ WF B b e 15 h0 h')
  | 0, k, h, ek, W => by
    have e' : k = 15 := by omega
    subst e'
    have S := S0.of (W.1.fr t)
    refine ws197_41 _ _ _ _ S.1 ⟨fun z => ⟨rfl, W⟩, fun z => absurd ?_ z⟩
    rw [ln254 S.1]; decide
  | m + 1, k, h, ek, W => by
    have S := S0.of (W.1.fr t)
    have bn := S.2.1
    have hk : k < 15 := by omega
    obtain ⟨w1, w2, w3, w4, w5⟩ := wB_f k hk
    have hx : wst k + wl k < 85 := by omega
    have ew : am_gi h 254 (wst k + wl k) = 0 := by rw [S.2.2.2.2.2.1 _ hx, if_pos w4]
    refine l197i S hk hb he W.2.1 W.2.2.1 ?_ (wl k) 0 (by omega)
    refine ws197_41 _ _ _ _ S.1 ⟨fun z => absurd ?_ (show ¬ 85 ≤ wst k + wl k by omega), fun _ => ⟨in_zI hx (by decide), ?_⟩⟩
    · rw [ln254 S.1] at z; exact (zI_le (m := 85) (by decide) (by omega)).mp z
    · rw [zI_tn (show wst k + wl k < 2147483648 by omega), ew]
      have nx : ∀ h', WF B b e (k + 1) h0 h' → Ev (d + 1) 197 105 [.ref 216, .int (zI k), .null, .null, .int (zI (wst k + wl k))] [] h' (fun r h' => r = none ∧ WF B b e 15 h0 h') := fun h' W' => by
        refine ws197_105 _ _ (W'.1.1.lay S0.1) ?_
        rw [zI_succ, zI_succ, show wst k + wl k + 1 = wst (k + 1) from w1.symm]
        exact l197 S0 hb he m (k + 1) h' (by omega) W'
      have no : ¬ mtc B b e k = true → WF B b e (k + 1) h0 h := fun z => ⟨W.1, W.2.1, W.2.2.1, W.2.2.2.elim (fun y => Or.inl ⟨y.1, fun j hj => by
        by_cases x : j = k
        · rw [x]; simpa using z
        · exact y.2 j (by omega)⟩) (fun ⟨j, j1, j2⟩ => Or.inr ⟨j, by omega, j2⟩)⟩
      refine ⟨fun z => absurd rfl z, fun _ => ⟨fun z => ?_, fun z => ?_⟩⟩
      · rw [bI_0] at z
        exact nx h (no (fun y => z (mtc_i.mp y).1))
      · rw [bI_n0] at z
        rw [W.2.1, W.2.2.1, zI_sub hb (by omega)]
        refine ⟨fun y => ?_, fun y => ?_⟩
        · rw [zI_inj (by omega) (by omega)] at y
          exact nx h (no (fun x => y (by have := (mtc_i.mp x).2; omega)))
        · have y := Decidable.not_not.mp y
          rw [zI_inj (by omega) (by omega)] at y
          have mk : mtc B b e k = true := mtc_i.mpr ⟨z, by omega⟩
          refine ⟨fun x h6 e6 h7 e7 => nx h7 ?_, fun x h6 e6 h7 e7 => nx h7 ?_⟩
          · rw [e7, e6]
            refine ⟨(W.1.si _ (by omega)).si _ (by omega), by rw [gi_ne (by omega), gi_ne (by omega)]; exact W.2.1, by rw [gi_ne (by omega), gi_ne (by omega)]; exact W.2.2.1, Or.inr ⟨k, by omega, mk, ?_, by rw [gi_eq]⟩⟩
            rw [gi_ne (by omega), gi_eq]
            unfold wtk
            rw [if_neg (zI_ne1 (by omega)), if_pos x]
          · rw [e7, e6]
            refine ⟨(W.1.si _ (by omega)).si _ (by omega), by rw [gi_ne (by omega), gi_ne (by omega)]; exact W.2.1, by rw [gi_ne (by omega), gi_ne (by omega)]; exact W.2.2.1, Or.inr ⟨k, by omega, mk, ?_, by rw [gi_eq]⟩⟩
            rw [gi_ne (by omega), gi_eq]
            unfold wtk
            rw [if_neg (zI_ne1 (by omega)), if_neg x]
def PWm (B : Nat → Int32) (b e : Nat) (h0 h' : AH) : Prop := FT h0 h' ∧ am_gi h' 216 51 = zI e ∧ am_gi h' 216 52 = zI b ∧ am_gi h' 216 53 = wtk (wrd B b e) ∧ (¬ wrd B b e = -1 → am_gi h' 216 54 = wrd B b e)
theorem WF.fin {B : Nat → Int32} {b e : Nat} {h0 h : AH} (W : WF B b e 15 h0 h) : PWm B b e h0 h := by
  obtain ⟨w1, w2, w3, w4⟩ := W
  refine ⟨w1, w2, w3, ?_⟩
  rcases w4 with ⟨a, c⟩ | ⟨j, hj, mj, a, v⟩
  · rcases wrd_c B b e with ⟨r, _⟩ | ⟨k, hk, _, mk⟩
    · rw [r, a]; exact ⟨rfl, fun z => absurd rfl z⟩
    · rw [c k hk] at mk; exact absurd mk (by decide)
  · rw [wrd_k hj mj]; exact ⟨a, fun _ => v⟩
theorem m197 {B : Nat → Int32} {n t b d : Nat} {h0 : AH} (S0 : SR B n t h0) : ∀ m q h, n - q = m → FT h0 h → q ≤ n → b ≤ q → am_gi h 216 51 = zI q → am_gi h 216 52 = zI b → Cl (d + 1) 197 [.ref 216] h (fun r h' => r = none ∧ PWm B b (eow B n q) h0 h')
  | m, q, h, e, F, hq, hb, e51, e52 => by
    have S := S0.of (F.fr t)
    have bn := S.2.1
    refine ws197 S.1 ?_
    rw [e51]
    refine Cl.i (p192 S (i := q) (by omega)) (by omega) S.1 (Cl.i (p193 S.1 _) (by omega) S.1 ⟨fun z h7 e7 => ?_, fun z h8 e8 => ?_⟩)
    · rw [bI_0] at z
      have eq : eow B n q = q := by
        by_cases y : q < n
        · rw [bt_p y] at z; rw [eow_s y, if_neg z]
        · exact eow_e (by omega)
      rw [eq]
      refine Ev.mono (l197 (d := d) S0 hb hq 15 0 h7 (by decide) ?_) (Nat.le_refl _) (fun r h' P => ⟨P.1, P.2.fin⟩)
      rw [e7]
      exact ⟨F.si _ (by omega), by rw [gi_ne (by omega)]; exact e51, by rw [gi_ne (by omega)]; exact e52, Or.inl ⟨by rw [gi_eq], fun j hj => absurd hj (by omega)⟩⟩
    · rw [bI_n0] at z
      have y : q < n := by
        by_cases y : q < n
        · exact y
        · rw [bt_n y] at z; exact absurd z (by decide)
      rw [bt_p y] at z
      match m, e with
      | 0, e => omega
      | m + 1, e =>
        rw [e51, zI_succ] at e8
        have F8 : FT h0 h8 := by rw [e8]; exact F.si _ (by omega)
        have := m197 (b := b) (d := d) S0 m (q + 1) h8 (by omega) F8 (by omega) (by omega) (by rw [e8, gi_eq]) (by rw [e8, gi_ne (by omega)]; exact e52)
        rw [eow_s y, if_pos z]
        exact this
/-- a number -/
def PNm (B : Nat → Int32) (b e : Nat) (h0 h' : AH) : Prop := FT h0 h' ∧ am_gi h' 216 51 = zI e ∧ am_gi h' 216 52 = zI b ∧ am_gi h' 216 53 = (if 6 < e - b then 2 else 1) ∧ am_gi h' 216 54 = nva B b (min (e - b) 6)
theorem m196 {B : Nat → Int32} {n t b d : Nat} {h0 : AH} (S0 : SR B n t h0) : ∀ m q h, n - q = m → FT h0 h → q ≤ n → b ≤ q → am_gi h 216 51 = zI q → am_gi h 216 52 = zI b → am_gi h 216 54 = nva B b (min (q - b) 6) → Ev (d + 1) 196 5 [.ref 216] [] h (fun r h' => r = none ∧ PNm B b (eod B n q) h0 h')
  | m, q, h, e, F, hq, hb, e51, e52, e54 => by
    have S := S0.of (F.fr t)
    have bn := S.2.1
    refine ws196_5 S.1 ?_
    rw [e51]
    refine Cl.i (p192 S (i := q) (by omega)) (by omega) S.1 (Cl.i (p194 S.1 _) (by omega) S.1 ?_)
    rw [e51, e52, zI_sub hb (by omega)]
    refine ⟨fun z => ?_, fun z => ?_⟩
    · rw [bI_0] at z
      have eq : eod B n q = q := by
        by_cases y : q < n
        · rw [bt_p y] at z; rw [eod_s y, if_neg z]
        · exact eod_e (by omega)
      rw [eq]
      refine ⟨fun y h7 e7 => ⟨rfl, ?_⟩, fun y h7 e7 => ⟨rfl, ?_⟩⟩
      · have y := (zI_le (n := 6) (by omega) (by decide)).mp y
        rw [e7]
        exact ⟨F.si _ (by omega), by rw [gi_ne (by omega)]; exact e51, by rw [gi_ne (by omega)]; exact e52, by rw [gi_eq, if_neg (by omega)], by rw [gi_ne (by omega)]; exact e54⟩
      · have y : 6 < q - b := by
          by_cases x : 6 < q - b
          · exact x
          · exact absurd ((zI_le (n := 6) (by omega) (by decide)).mpr (by omega)) y
        rw [e7]
        exact ⟨F.si _ (by omega), by rw [gi_ne (by omega)]; exact e51, by rw [gi_ne (by omega)]; exact e52, by rw [gi_eq, if_pos y], by rw [gi_ne (by omega)]; exact e54⟩
    · rw [bI_n0] at z
      have y : q < n := by
        by_cases y : q < n
        · exact y
        · rw [bt_n y] at z; exact absurd z (by decide)
      rw [bt_p y] at z
      match m, e with
      | 0, e => omega
      | m + 1, e =>
        rw [eod_s y, if_pos z]
        refine ⟨fun x h9 e9 h10 e10 => ?_, fun x => Cl.i (p192 S (i := q) (by omega)) (by omega) S.1 (fun h9 e9 h10 e10 => ?_)⟩
        · have x := (zI_le (m := 6) (by decide) (by omega)).mp x
          rw [e9, gi_ne (by omega), e51, zI_succ] at e10
          have F8 : FT h0 h10 := by rw [e10]; exact (F.si _ (by omega)).si _ (by omega)
          refine m196 (b := b) (d := d) S0 m (q + 1) h10 (by omega) F8 (by omega) (by omega) (by rw [e10, gi_eq]) (by rw [e10, gi_ne (by omega), gi_ne (by omega)]; exact e52) ?_
          rw [e10, gi_ne (by omega), gi_eq, e54, show min (q + 1 - b) 6 = min (q - b) 6 by omega]
        · have x : q - b < 6 := by
            by_cases w : q - b < 6
            · exact w
            · exact absurd ((zI_le (m := 6) (by decide) (by omega)).mpr (by omega)) x
          rw [e9, gi_ne (by omega), e51, zI_succ, bt_p y, e54] at e10
          have F8 : FT h0 h10 := by rw [e10]; exact (F.si _ (by omega)).si _ (by omega)
          refine m196 (b := b) (d := d) S0 m (q + 1) h10 (by omega) F8 (by omega) (by omega) (by rw [e10, gi_eq]) (by rw [e10, gi_ne (by omega), gi_ne (by omega)]; exact e52) ?_
          rw [e10, gi_ne (by omega), gi_eq, show min (q + 1 - b) 6 = min (q - b) 6 + 1 by omega]
          unfold nva
          rw [fold_succ, show b + min (q - b) 6 = q by omega]
/-- the next token -/
def PT2 (B : Nat → Int32) (n q : Nat) (h h' : AH) : Prop := FT h h' ∧ am_gi h' 216 51 = zI (en B n q) ∧ am_gi h' 216 52 = zI (bgn B n q) ∧ am_gi h' 216 53 = tk B n q ∧ (tk B n q = 1 ∨ tk B n q = 3 → am_gi h' 216 54 = vl B n q)
theorem m195 {B : Nat → Int32} {n t : Nat} {h0 : AH} (S0 : SR B n t h0) : ∀ m q h, n - q = m → FT h0 h → q ≤ n → am_gi h 216 51 = zI q → Cl 3 195 [.ref 216] h (fun r h' => r = none ∧ PT2 B n q h0 h')
  | m, q, h, e, F, hq, e51 => by
    have S := S0.of (F.fr t)
    have bn := S.2.1
    have lp : isBl (bt B n q) = true → ∀ h4, h4 = am_si h 216 51 (zI q + 1) → Cl 3 195 [.ref 216] h4 (fun r h' => r = none ∧ PT2 B n q h0 h') := fun z h4 e4 => by
      have y : q < n := by
        by_cases y : q < n
        · exact y
        · rw [bt_n y] at z; exact absurd z (by decide)
      rw [bt_p y] at z
      match m, e with
      | 0, e => omega
      | m + 1, e =>
        rw [zI_succ] at e4
        have := m195 S0 m (q + 1) h4 (by omega) (by rw [e4]; exact F.si _ (by omega)) (by omega) (by rw [e4, gi_eq])
        unfold PT2 en tk vl at this ⊢
        rw [bgn_s y, if_pos z]
        exact this
    refine ws195 S.1 ?_
    rw [e51]
    refine Cl.i (p192 S (i := q) (by omega)) (by omega) S.1 ?_
    rw [e51]
    refine ⟨fun z h4 e4 => lp (by unfold isBl; rw [Bool.or_eq_true, decide_eq_true_eq]; exact Or.inl z) h4 e4, fun z1 => Cl.i (p192 S (i := q) (by omega)) (by omega) S.1 ?_⟩
    rw [e51]
    refine ⟨fun z2 h8 e8 => ?_, fun z h4 e4 => lp (by unfold isBl; rw [Bool.or_eq_true, decide_eq_true_eq, decide_eq_true_eq]; exact Or.inr (Decidable.not_not.mp z)) h4 e4⟩
    have nb : ¬ isBl (bt B n q) = true := by unfold isBl; rw [Bool.or_eq_true, decide_eq_true_eq, decide_eq_true_eq]; exact fun w => w.elim z1 z2
    have eb : bgn B n q = q := by
      by_cases y : q < n
      · rw [bt_p y] at nb; rw [bgn_s y, if_neg nb]
      · exact bgn_e (by omega)
    unfold PT2 en tk vl nxe ntk nvl
    rw [eb]
    have F8 : FT h0 h8 := by rw [e8]; exact F.si _ (by omega)
    have S8 := S0.of (F8.fr t)
    have e518 : am_gi h8 216 51 = zI q := by rw [e8, gi_ne (by omega)]; exact e51
    have e528 : am_gi h8 216 52 = zI q := by rw [e8, gi_eq]
    rw [e518]
    refine Cl.i (p192 S8 (i := q) (by omega)) (by omega) S8.1 ⟨fun z => ?_, fun z h9 e9 => ⟨rfl, ?_⟩⟩
    · have y : q < n := by
        by_cases y : q < n
        · exact y
        · exact absurd (bt_n y) z
      have z0 : ¬ n ≤ q := by omega
      rw [bt_p y, if_neg z0, if_neg z0]
      refine Cl.i (p193 S8.1 _) (by omega) S8.1 ⟨fun x => Cl.i (p194 S8.1 _) (by omega) S8.1 ⟨fun w => ?_, fun w => ?_⟩, fun x => ?_⟩
      · rw [bI_0] at x w
        rw [if_neg x, if_neg w, if_neg x, if_neg w, if_neg x]
        have fi : isSi (B q) = true → Ev 3 195 150 [.ref 216, .int (B q), .null] [.int 1] h8 (fun r h' => r = none ∧ FT h0 h' ∧ am_gi h' 216 51 = zI (q + 1) ∧ am_gi h' 216 52 = zI q ∧ am_gi h' 216 53 = (if isSi (B q) = true then B q else 2) ∧ ((if isSi (B q) = true then B q else 2) = 1 ∨ (if isSi (B q) = true then B q else 2) = 3 → am_gi h' 216 54 = nva B q (eod B n q - q))) := fun v => by
          refine ws195_150 _ _ S8.1 ⟨fun u => absurd u (by decide), fun _ h3 e3 h4 e4 => ⟨rfl, ?_⟩⟩
          rw [e4, e3, if_pos v]
          refine ⟨(F8.si _ (by omega)).si _ (by omega), by rw [gi_eq, gi_ne (by omega), e518, zI_succ], by rw [gi_ne (by omega), gi_ne (by omega)]; exact e528, by rw [gi_ne (by omega), gi_eq], fun u => ?_⟩
          rw [isSi_i] at v
          rcases u with u | u <;> (rw [u] at v; exact absurd v (by decide))
        refine ⟨fun v => fi (isSi_i.mpr (Or.inl v)), fun v1 => ⟨fun v => fi (isSi_i.mpr (Or.inr (Or.inl v))), fun v2 => ⟨fun v => fi (isSi_i.mpr (Or.inr (Or.inr (Or.inl v)))), fun v3 => ⟨fun v => fi (isSi_i.mpr (Or.inr (Or.inr (Or.inr (Or.inl v))))), fun v4 => ⟨fun v => fi (isSi_i.mpr (Or.inr (Or.inr (Or.inr (Or.inr (Or.inl v)))))), fun v5 => ⟨fun v => fi (isSi_i.mpr (Or.inr (Or.inr (Or.inr (Or.inr (Or.inr (Or.inl v))))))), fun v6 => ⟨fun v => fi (isSi_i.mpr (Or.inr (Or.inr (Or.inr (Or.inr (Or.inr (Or.inr (Or.inl v)))))))), fun v7 => ⟨fun v => ?_, fun v => fi (isSi_i.mpr (Or.inr (Or.inr (Or.inr (Or.inr (Or.inr (Or.inr (Or.inr (Decidable.not_not.mp v)))))))))⟩⟩⟩⟩⟩⟩⟩⟩
        have ns : ¬ isSi (B q) = true := by
          rw [isSi_i]; exact fun w => w.elim v1 (fun w => w.elim v2 (fun w => w.elim v3 (fun w => w.elim v4 (fun w => w.elim v5 (fun w => w.elim v6 (fun w => w.elim v7 v))))))
        refine ws195_150 _ _ S8.1 ⟨fun _ h3 e3 h4 e4 => ⟨rfl, ?_⟩, fun u => absurd rfl u⟩
        rw [e4, e3, if_neg ns]
        exact ⟨(F8.si _ (by omega)).si _ (by omega), by rw [gi_eq, gi_ne (by omega), e518, zI_succ], by rw [gi_ne (by omega), gi_ne (by omega)]; exact e528, by rw [gi_ne (by omega), gi_eq], fun u => absurd u (by decide)⟩
      · rw [bI_0] at x; rw [bI_n0] at w
        rw [if_neg x, if_pos w, if_neg x, if_pos w, if_neg x]
        refine Cl.qv (P := PNm B q (eod B n q) h0) (d := 2) (ws196 S8.1 (fun h1 e1 => m196 (b := q) (d := 1) S0 (n - q) q h1 rfl (by rw [e1]; exact F8.si _ (by omega)) hq (Nat.le_refl _) (by rw [e1, gi_ne (by omega)]; exact e518) (by rw [e1, gi_ne (by omega)]; exact e528) (by rw [e1, gi_eq, Nat.sub_self]; rfl))) (by omega) (fun h4 P => ⟨P.1.1.lay S0.1, rfl, P.1, P.2.1, P.2.2.1, P.2.2.2.1, fun v => ?_⟩)
        rw [P.2.2.2.2]
        by_cases u : 6 < eod B n q - q
        · rw [if_pos u] at v; exact absurd v (by decide)
        · rw [Nat.min_eq_left (by omega)]
      · rw [bI_n0] at x
        rw [if_pos x, if_pos x, if_pos x]
        refine Cl.qv (P := PWm B q (eow B n q) h0) (d := 2) (m197 (b := q) (d := 1) S0 (n - q) q h8 rfl F8 hq (Nat.le_refl _) e518 e528) (by omega) (fun h4 P => ⟨P.1.1.lay S0.1, rfl, P.1, P.2.1, P.2.2.1, P.2.2.2.1, fun v => P.2.2.2.2 (fun u => ?_)⟩)
        rw [u] at v; exact absurd v (by decide)
    · have y : ¬ q < n := fun y => by
        have z := Decidable.not_not.mp z
        rw [bt_p y] at z
        have := (S0.2.2.2.2.1 q y).2
        rw [z] at this; exact absurd this (by decide)
      have z0 : n ≤ q := by omega
      rw [if_pos z0, if_pos z0, e9]
      exact ⟨F8.si _ (by omega), by rw [gi_ne (by omega)]; exact e518, by rw [gi_ne (by omega)]; exact e528, by rw [gi_eq], fun v => absurd v (by decide)⟩
