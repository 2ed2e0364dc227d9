/-! PROPOSE 2: the scanner of the class -/
def SB (B : Nat → Int32) (n : Nat) (h : AH) : Prop := LyC h ∧ n ≤ 400 ∧ am_gi h 71 1 = zI n ∧ (∀ i, i < n → by2 (am_gi h 72 i) (B i)) ∧ (am_kd h 4 = 200 ∧ am_ln h 5 = 85 ∧ ∀ i, am_gi h 5 i = wB i) ∧ am_kd h 1 = 100 ∧ am_ln h 1 = 4 ∧ ∀ i, am_gi h 1 i = am_at am_alw i
/-- only the reader's own cells changed -/
def FRc (h h' : AH) : Prop := Sm h h' ∧ (∀ a k, ¬ ((a = 71 ∧ ¬ k = 1 ∧ ¬ k = 5 ∧ ¬ k = 6) ∨ a = 73 ∨ a = 74) → am_gi h' a k = am_gi h a k) ∧ ∀ a k, am_gl h' a k = am_gl h a k
/-- only the scanner's -/
def FS (h h' : AH) : Prop := Sm h h' ∧ (∀ a k, ¬ (a = 71 ∧ 8 ≤ k ∧ k ≤ 11) → am_gi h' a k = am_gi h a k) ∧ ∀ a k, am_gl h' a k = am_gl h a k
theorem FS.rf (h : AH) : FS h h := ⟨Sm.rfl' _, fun _ _ _ => rfl, fun _ _ => rfl⟩
theorem FRc.rf (h : AH) : FRc h h := ⟨Sm.rfl' _, fun _ _ _ => rfl, fun _ _ => rfl⟩
theorem FS.fc {h h' : AH} (F : FS h h') : FRc h h' := ⟨F.1, fun a k z => F.2.1 a k (by omega), F.2.2⟩
theorem FS.tr {h h1 h2 : AH} (A : FS h h1) (C : FS h1 h2) : FS h h2 := ⟨A.1.trans C.1, fun a k z => (C.2.1 a k z).trans (A.2.1 a k z), fun a k => (C.2.2 a k).trans (A.2.2 a k)⟩
theorem FRc.tr {h h1 h2 : AH} (A : FRc h h1) (C : FRc h1 h2) : FRc h h2 := ⟨A.1.trans C.1, fun a k z => (C.2.1 a k z).trans (A.2.1 a k z), fun a k => (C.2.2 a k).trans (A.2.2 a k)⟩
theorem FS.si {h h1 : AH} (A : FS h h1) {k : Nat} (v : Int32) (z : 8 ≤ k ∧ k ≤ 11) : FS h (am_si h1 71 k v) := ⟨A.1.si _ _ _, fun a j y => by rw [gi_ne (by omega)]; exact A.2.1 a j y, A.2.2⟩
theorem FRc.si {h h1 : AH} (A : FRc h h1) {a k : Nat} (v : Int32) (z : (a = 71 ∧ ¬ k = 1 ∧ ¬ k = 5 ∧ ¬ k = 6) ∨ a = 73 ∨ a = 74) : FRc h (am_si h1 a k v) := ⟨A.1.si _ _ _, fun b j y => by rw [gi_ne (by omega)]; exact A.2.1 b j y, A.2.2⟩
theorem SB.of {B : Nat → Int32} {n : Nat} {h h' : AH} (S : SB B n h) (F : FRc h h') : SB B n h' := by
  obtain ⟨s1, s2, s3, s4, ⟨s5, s6, s7⟩, s8, s9, s10⟩ := S
  refine ⟨F.1.lyc s1, s2, by rw [F.2.1 _ _ (by omega)]; exact s3, fun i hi => by rw [F.2.1 _ _ (by omega)]; exact s4 i hi, ⟨by rw [F.1.2.2.1]; exact s5, by rw [F.1.2.2.2.1]; exact s6, fun i => by rw [F.2.1 _ _ (by omega)]; exact s7 i⟩, by rw [F.1.2.2.1]; exact s8, by rw [F.1.2.2.2.1]; exact s9, fun i => by rw [F.2.1 _ _ (by omega)]; exact s10 i⟩
theorem p48 {h : AH} (Ly : LyC h) (x : Int32) : PF 0 48 [.int x] h (.int (bI (isBl x = true))) := by
  refine wc48 _ Ly ⟨fun z => ⟨?_, rfl⟩, fun z => ⟨fun y => ⟨?_, rfl⟩, fun y => ⟨?_, rfl⟩⟩⟩
  · rw [bI_t]; unfold isBl; rw [Bool.or_eq_true, decide_eq_true_eq]; exact Or.inl z
  · rw [bI_f]; unfold isBl; rw [Bool.or_eq_true, decide_eq_true_eq, decide_eq_true_eq]; exact fun w => w.elim z y
  · rw [bI_t]; unfold isBl; rw [Bool.or_eq_true, decide_eq_true_eq, decide_eq_true_eq]; exact Or.inr (Decidable.not_not.mp y)
theorem p49 {h : AH} (Ly : LyC h) (x : Int32) : PF 0 49 [.int x] h (.int (bI (isLe x = true))) := by
  refine wc49 _ Ly ⟨fun z => ⟨?_, rfl⟩, fun z => ⟨fun y => ⟨?_, rfl⟩, fun y => ⟨?_, rfl⟩⟩⟩
  · rw [bI_f]; unfold isLe; rw [Bool.and_eq_true, decide_eq_true_eq]; exact fun w => i_ge.mpr w.1 z
  · rw [bI_f]; unfold isLe; rw [Bool.and_eq_true, decide_eq_true_eq, decide_eq_true_eq]; exact fun w => i_ge.mpr w.2 y
  · rw [bI_t]; unfold isLe; rw [Bool.and_eq_true, decide_eq_true_eq, decide_eq_true_eq]; exact ⟨i_ge.mp z, i_ge.mp y⟩
theorem p50 {h : AH} (Ly : LyC h) (x : Int32) : PF 0 50 [.int x] h (.int (bI (isDi x = true))) := by
  refine wc50 _ Ly ⟨fun z => ⟨?_, rfl⟩, fun z => ⟨fun y => ⟨?_, rfl⟩, fun y => ⟨?_, rfl⟩⟩⟩
  · rw [bI_f]; unfold isDi; rw [Bool.and_eq_true, decide_eq_true_eq]; exact fun w => i_ge.mpr w.1 z
  · rw [bI_f]; unfold isDi; rw [Bool.and_eq_true, decide_eq_true_eq, decide_eq_true_eq]; exact fun w => i_ge.mpr w.2 y
  · rw [bI_t]; unfold isDi; rw [Bool.and_eq_true, decide_eq_true_eq, decide_eq_true_eq]; exact ⟨i_ge.mp z, i_ge.mp y⟩
theorem isSi_i {x : Int32} : isSi x = true ↔ x = 40 ∨ x = 41 ∨ x = 59 ∨ x = 43 ∨ x = 45 ∨ x = 42 ∨ x = 60 ∨ x = 61 := by
  unfold isSi; simp only [Bool.or_eq_true, decide_eq_true_eq, or_assoc]
theorem p51 {h : AH} (Ly : LyC h) (x : Int32) : PF 0 51 [.int x] h (.int (bI (isSi x = true))) := by
  have y : isSi x = true → Ev 0 51 48 [.null] [] h (fun r h' => r = some (.int (bI (isSi x = true))) ∧ h' = h) := fun z => wc51_48 Ly ⟨by rw [bI_t z], rfl⟩
  refine wc51 _ Ly ⟨fun z => y (isSi_i.mpr (Or.inl z)), fun z1 => ⟨fun z => y (isSi_i.mpr (Or.inr (Or.inl z))), fun z2 => ⟨fun z => y (isSi_i.mpr (Or.inr (Or.inr (Or.inl z)))), fun z3 => ⟨fun z => y (isSi_i.mpr (Or.inr (Or.inr (Or.inr (Or.inl z))))), fun z4 => ⟨fun z => y (isSi_i.mpr (Or.inr (Or.inr (Or.inr (Or.inr (Or.inl z)))))), fun z5 => ⟨fun z => y (isSi_i.mpr (Or.inr (Or.inr (Or.inr (Or.inr (Or.inr (Or.inl z))))))), fun z6 => ⟨fun z => y (isSi_i.mpr (Or.inr (Or.inr (Or.inr (Or.inr (Or.inr (Or.inr (Or.inl z)))))))), fun z7 => ⟨fun z => ⟨?_, rfl⟩, fun z => y (isSi_i.mpr (Or.inr (Or.inr (Or.inr (Or.inr (Or.inr (Or.inr (Or.inr (Decidable.not_not.mp z)))))))))⟩⟩⟩⟩⟩⟩⟩⟩
  rw [bI_f]; rw [isSi_i]; exact fun w => w.elim z1 (fun w => w.elim z2 (fun w => w.elim z3 (fun w => w.elim z4 (fun w => w.elim z5 (fun w => w.elim z6 (fun w => w.elim z7 z))))))
/-- blanks -/
theorem l44 {B : Nat → Int32} {n d : Nat} {Q : Option Value → AH → Prop} : ∀ m q h, n - q = m → SB B n h → q ≤ n → am_gi h 71 8 = zI q → (∀ h', FS h h' → am_gi h' 71 8 = zI (bgn B n q) → Ev (d + 1) 44 39 [.ref 71] [] h' Q) → Cl (d + 1) 44 [.ref 71] h Q
  | 0, q, h, e, S, hq, e8, K => by
    have b := S.2.1
    refine wc44 S.1 ⟨fun _ => K h (FS.rf h) (by rw [bgn_e (by omega)]; exact e8), fun z => absurd ?_ z⟩
    rw [S.2.2.1, e8]; exact (zI_le (by omega) (by omega)).mpr (by omega)
  | m + 1, q, h, e, S, hq, e8, K => by
    have b := S.2.1
    refine wc44 S.1 ⟨fun z => absurd ?_ (show ¬ n ≤ q by omega), fun _ => ?_⟩
    · rw [S.2.2.1, e8] at z; exact (zI_le (by omega) (by omega)).mp z
    · rw [e8, zI_tn (by omega)]
      refine ⟨in_zI (by omega) (by decide), Cl.ic (p48 S.1 _) (by omega) S.1 ⟨fun z => ?_, fun z h5 e5 => ?_⟩⟩
      · rw [bI_0, (S.2.2.2.1 q (by omega)).bl] at z
        exact K h (FS.rf h) (by rw [bgn_s (by omega), if_neg z]; exact e8)
      · rw [bI_n0, (S.2.2.2.1 q (by omega)).bl] at z
        rw [e8, zI_succ] at e5
        have F : FS h h5 := by rw [e5]; exact (FS.rf h).si _ (by omega)
        refine l44 m (q + 1) h5 (by omega) (S.of F.fc) (by omega) (by rw [e5, gi_eq]) (fun h' F' e' => K h' (F.tr F') ?_)
        rw [bgn_s (by omega), if_pos z]; exact e'
/-- which word: its letters, then the words -/
theorem l46i {B : Nat → Int32} {n b e k d : Nat} {h : AH} (S : SB B n h) (hk : k < 15) (hb : b ≤ e) (he : e ≤ n) (e8 : am_gi h 71 8 = zI e) {Q : Option Value → AH → Prop} (K : Ev d 46 9 [.ref 71, .int (zI k), .int (zI (if pr B b e k (wl k) then b + wl k else e + 1)), .int (zI (wst k + wl k)), .null] [] h Q) : ∀ m j, j + m = wl k → Ev d 46 9 [.ref 71, .int (zI k), .int (zI (if pr B b e k j then b + j else e + 1)), .int (zI (wst k + j)), .null] [] h Q
  | 0, j, ej => by rw [show j = wl k by omega]; exact K
  | m + 1, j, ej => by
    have bn := S.2.1
    obtain ⟨w1, w2, w3, w4, w5⟩ := wB_f k hk
    obtain ⟨u1, u2, u3, u4⟩ := w5 j (by omega)
    have hx : wst k + j < 85 := by omega
    have ih := l46i S hk hb he e8 K m (j + 1) (by omega)
    refine wc46_9 _ _ _ S.1 ⟨S.2.2.2.2.1.1, fun z => absurd ?_ (show ¬ 85 ≤ wst k + j by omega), fun _ => ⟨S.2.2.2.2.1.1, ?_, ?_⟩⟩
    · rw [S.2.2.2.2.1.2.1] at z; exact (zI_le (m := 85) (by decide) (by omega)).mp z
    · rw [S.2.2.2.2.1.2.1]; exact in_zI hx (by decide)
    · rw [zI_tn (show wst k + j < 2147483648 by omega), S.2.2.2.2.1.2.2, wB_255 _ hx, e8, zI_succ e, zI_succ (wst k + j), show wst k + j + 1 = wst k + (j + 1) from rfl]
      refine ⟨fun z => absurd z u1, fun _ => ?_⟩
      by_cases p : pr B b e k j = true
      · rw [if_pos p]
        refine ⟨fun z => ?_, fun z => ?_⟩
        · rw [zI_le (by omega) (by omega)] at z
          rw [if_neg (fun y => by rw [pr_s] at y; omega)] at ih
          exact ih
        · have lt : b + j < e := by
            by_cases y : b + j < e
            · exact y
            · exact absurd ((zI_le (by omega) (by omega)).mpr (by omega)) z
          rw [zI_tn (by omega), zI_succ (b + j)]
          have q := (S.2.2.2.1 (b + j) (by omega)).q (x := wB (wst k + j)) (by have := i_le.mp u3; have e : (97 : Int32).toInt = 97 := rfl; omega) (by have := i_le.mp u4; have e : (122 : Int32).toInt = 122 := rfl; omega)
          refine ⟨in_zI (by omega) (by decide), fun y => ?_, fun y => ?_⟩
          · rw [q] at y
            rw [if_neg (fun x => by rw [pr_s] at x; exact y x.2.2)] at ih
            exact ih
          · rw [q] at y
            rw [if_pos (by rw [pr_s]; exact ⟨p, lt, Decidable.not_not.mp y⟩)] at ih
            exact ih
      · rw [if_neg p]
        rw [if_neg (fun x => by rw [pr_s] at x; exact p x.1)] at ih
        refine ⟨fun z => ih, fun z => absurd ((zI_le (by omega) (by omega)).mpr (by omega)) z⟩
theorem l46 {B : Nat → Int32} {n b e d : Nat} {h : AH} (S : SB B n h) (hb : b ≤ e) (he : e ≤ n) (e8 : am_gi h 71 8 = zI e) (e10 : am_gi h 71 10 = zI b) : ∀ m k, k + m = 15 → Ev d 46 9 [.ref 71, .int (zI k), .int (zI b), .int (zI (wst k)), .null] [] h (fun r h' => r = some (.int (fst1 (mtc B b e) k m)) ∧ h' = h)
  | 0, k, ek => by
    have e' : k = 15 := by omega
    subst e'
    refine wc46_9 _ _ _ S.1 ⟨S.2.2.2.2.1.1, fun z => ⟨rfl, rfl⟩, fun z => absurd ?_ z⟩
    rw [S.2.2.2.2.1.2.1]; decide
  | m + 1, k, ek => by
    have bn := S.2.1
    have hk : k < 15 := by omega
    obtain ⟨w1, w2, w3, w4, w5⟩ := wB_f k hk
    have hx : wst k + wl k < 85 := by omega
    have ih := l46 (d := d) S hb he e8 e10 m (k + 1) (by omega)
    refine l46i S hk hb he e8 ?_ (wl k) 0 (by omega)
    refine wc46_9 _ _ _ S.1 ⟨S.2.2.2.2.1.1, fun z => absurd ?_ (show ¬ 85 ≤ wst k + wl k by omega), fun _ => ⟨S.2.2.2.2.1.1, ?_, ?_⟩⟩
    · rw [S.2.2.2.2.1.2.1] at z; exact (zI_le (m := 85) (by decide) (by omega)).mp z
    · rw [S.2.2.2.2.1.2.1]; exact in_zI hx (by decide)
    · rw [zI_tn (show wst k + wl k < 2147483648 by omega), S.2.2.2.2.1.2.2, wB_255 _ hx, e8, e10, zI_succ, zI_succ, show wst k + wl k + 1 = wst (k + 1) from w1.symm]
      refine ⟨fun _ => ?_, fun z => absurd w4 z⟩
      unfold fst1
      by_cases p : mtc B b e k = true
      · rw [if_pos p]
        have p' := mtc_i.mp p
        rw [if_pos p'.1, p'.2]
        exact ⟨fun z => absurd rfl z, fun _ => ⟨rfl, rfl⟩⟩
      · rw [if_neg p]
        refine ⟨fun _ => ih, fun z => absurd ?_ p⟩
        have z := Decidable.not_not.mp z
        by_cases y : pr B b e k (wl k) = true
        · rw [if_pos y, zI_inj (by omega) (by omega)] at z; exact mtc_i.mpr ⟨y, z⟩
        · rw [if_neg y, zI_inj (by omega) (by omega)] at z; omega
theorem p46 {B : Nat → Int32} {n b e : Nat} {h : AH} (S : SB B n h) (hb : b ≤ e) (he : e ≤ n) (e8 : am_gi h 71 8 = zI e) (e10 : am_gi h 71 10 = zI b) : PF 0 46 [.ref 71] h (.int (wrd B b e)) := by
  refine wc46 S.1 ?_
  rw [e10]
  exact l46 S hb he e8 e10 15 0 (by decide)
/-- a word -/
def PW (B : Nat → Int32) (b e : Nat) (h0 h' : AH) : Prop := FS h0 h' ∧ am_gi h' 71 8 = zI e ∧ am_gi h' 71 9 = tkc (wtk (wrd B b e)) ∧ am_gi h' 71 10 = zI b ∧ (¬ wrd B b e = -1 → am_gi h' 71 11 = wrd B b e)
theorem e61 {B : Nat → Int32} {b e d : Nat} {h0 h : AH} (Ly : LyC h) (F : FS h0 h) (e8 : am_gi h 71 8 = zI e) (e10 : am_gi h 71 10 = zI b) : Ev (d + 1) 45 61 [.ref 71, .null] [.int (wrd B b e)] h (fun r h' => r = none ∧ PW B b e h0 h') := by
  rcases wrd_c B b e with ⟨a, _⟩ | ⟨k, hk, a, _⟩
  · refine wc45_61 _ Ly ⟨fun z => absurd a z, fun _ h5 e5 => ⟨rfl, ?_⟩⟩
    rw [e5]
    exact ⟨F.si _ (by omega), by rw [gi_ne (by omega)]; exact e8, by rw [gi_eq, a]; rfl, by rw [gi_ne (by omega)]; exact e10, fun z => absurd a z⟩
  · refine wc45_61 _ Ly ⟨fun _ => ⟨fun z h1 e1 h2 e2 => ⟨rfl, ?_⟩, fun z h1 e1 h2 e2 => ⟨rfl, ?_⟩⟩, fun z => absurd (by rw [a]; exact zI_ne1 (by omega)) z⟩
    · rw [e2, e1]
      refine ⟨(F.si _ (by omega)).si _ (by omega), by rw [gi_ne (by omega), gi_ne (by omega)]; exact e8, ?_, by rw [gi_ne (by omega), gi_ne (by omega)]; exact e10, fun _ => by rw [gi_eq]⟩
      rw [gi_ne (by omega), gi_eq, a, tkc_w k hk, if_neg (by rw [a] at z; exact i_ge.mpr z)]
    · rw [e2, e1]
      refine ⟨(F.si _ (by omega)).si _ (by omega), by rw [gi_ne (by omega), gi_ne (by omega)]; exact e8, ?_, by rw [gi_ne (by omega), gi_ne (by omega)]; exact e10, fun _ => by rw [gi_eq]⟩
      rw [gi_ne (by omega), gi_eq, a, tkc_w k hk, if_pos (by rw [a] at z; exact i_gt.mp z)]
theorem zI_sub {m k : Nat} (h : k ≤ m) (hm : m < 2147483648) : zI m - zI k = zI (m - k) := by
  rw [← Int32.toInt_inj, i_sub (by rw [zI_toInt hm, zI_toInt (by omega)]; omega) (by rw [zI_toInt hm, zI_toInt (by omega)]; omega), zI_toInt hm, zI_toInt (by omega), zI_toInt (by omega)]; omega
theorem l45 {B : Nat → Int32} {n b d : Nat} {h0 : AH} : ∀ m q h, n - q = m → SB B n h → FS h0 h → q ≤ n → b ≤ q → am_gi h 71 8 = zI q → am_gi h 71 10 = zI b → Cl (d + 1) 45 [.ref 71] h (fun r h' => r = none ∧ PW B b (eow B n q) h0 h')
  | m, q, h, e, S, F, hq, hb, e8, e10 => by
    have bn := S.2.1
    have tl : ∀ (e1 : Nat), e1 = q → (((am_gi h 71 8) - (am_gi h 71 10)) ≤ (8 : Int32) → Cl d 46 [.ref 71] h (fun r2 h1 => ∃ x3, r2 = some (.int x3) ∧ LyC h1 ∧ Ev (d + 1) 45 61 [.ref 71, .null] [.int x3] h1 (fun r h' => r = none ∧ PW B b e1 h0 h'))) ∧ (¬ ((am_gi h 71 8) - (am_gi h 71 10)) ≤ (8 : Int32) → Ev (d + 1) 45 61 [.ref 71, .null] [.int (-1 : Int32)] h (fun r h' => r = none ∧ PW B b e1 h0 h')) := fun e1 ee => by
      rw [ee]
      refine ⟨fun _ => Cl.ic (p46 S hb hq e8 e10) (by omega) S.1 (e61 S.1 F e8 e10), fun z => ?_⟩
      have w := e61 (B := B) (d := d) S.1 F e8 e10
      rw [wrd_l (B := B) (b := b) (e := q) ?_] at w
      · exact w
      · rw [e8, e10, zI_sub hb (by omega)] at z
        by_cases y : 8 < q - b
        · exact y
        · exact absurd ((zI_le (n := 8) (by omega) (by decide)).mpr (by omega)) z
    match m, e with
    | 0, e =>
      refine wc45 S.1 ⟨fun _ => tl _ (eow_e (by omega)), fun z => absurd ?_ z⟩
      rw [S.2.2.1, e8]; exact (zI_le (by omega) (by omega)).mpr (by omega)
    | m + 1, e =>
      refine wc45 S.1 ⟨fun z => absurd ?_ (show ¬ n ≤ q by omega), fun _ => ?_⟩
      · rw [S.2.2.1, e8] at z; exact (zI_le (by omega) (by omega)).mp z
      · rw [show am_gi h 72 (Int32.toNatClampNeg (am_gi h 71 8)) = am_gi h 72 q from by rw [e8, zI_tn (by omega)]]
        refine ⟨by rw [e8]; exact in_zI (by omega) (by decide), Cl.ic (p49 S.1 _) (by omega) S.1 ⟨fun z => ?_, fun z h5 e5 => ?_⟩⟩
        · rw [bI_0, (S.2.2.2.1 q (by omega)).le] at z
          exact tl _ (by rw [eow_s (by omega), if_neg z])
        · rw [bI_n0, (S.2.2.2.1 q (by omega)).le] at z
          rw [e8, zI_succ] at e5
          have F5 : FS h h5 := by rw [e5]; exact (FS.rf h).si _ (by omega)
          have := l45 (b := b) (d := d) m (q + 1) h5 (by omega) (S.of F5.fc) (F.tr F5) (by omega) (by omega) (by rw [e5, gi_eq]) (by rw [e5, gi_ne (by omega)]; exact e10)
          rw [eow_s (by omega), if_pos z]
          exact this
/-- a number -/
def PNu (B : Nat → Int32) (b e : Nat) (h0 h' : AH) : Prop := FS h0 h' ∧ am_gi h' 71 8 = zI e ∧ am_gi h' 71 9 = tkc (if 6 < e - b then 2 else 1) ∧ am_gi h' 71 10 = zI b ∧ am_gi h' 71 11 = nva B b (e - b)
theorem l47 {B : Nat → Int32} {n b d : Nat} {h0 : AH} : ∀ m q h, n - q = m → SB B n h → FS h0 h → q ≤ n → b ≤ q → am_gi h 71 8 = zI q → am_gi h 71 10 = zI b → Ev (d + 1) 47 2 [.ref 71, .int (nva B b (q - b))] [] h (fun r h' => r = none ∧ PNu B b (eod B n q) h0 h')
  | m, q, h, e, S, F, hq, hb, e8, e10 => by
    have bn := S.2.1
    have tl : ∀ (e1 : Nat), e1 = q → Ev (d + 1) 47 59 [.ref 71, .int (nva B b (q - b))] [] h (fun r h' => r = none ∧ PNu B b e1 h0 h') := fun e1 ee => by
      rw [ee]
      refine wc47_59 _ S.1 ?_
      rw [e8, e10, zI_sub hb (by omega)]
      refine ⟨fun z h1 e1 h2 e2 => ⟨rfl, ?_⟩, fun z h1 e1 h2 e2 => ⟨rfl, ?_⟩⟩
      · have z := (zI_le (n := 6) (by omega) (by decide)).mp z
        rw [e2, e1]
        exact ⟨(F.si _ (by omega)).si _ (by omega), by rw [gi_ne (by omega), gi_ne (by omega)]; exact e8, by rw [gi_ne (by omega), gi_eq, if_neg (by omega)]; rfl, by rw [gi_ne (by omega), gi_ne (by omega)]; exact e10, by rw [gi_eq]⟩
      · have z : 6 < q - b := by
          by_cases y : 6 < q - b
          · exact y
          · exact absurd ((zI_le (n := 6) (by omega) (by decide)).mpr (by omega)) z
        rw [e2, e1]
        exact ⟨(F.si _ (by omega)).si _ (by omega), by rw [gi_ne (by omega), gi_ne (by omega)]; exact e8, by rw [gi_ne (by omega), gi_eq, if_pos z]; rfl, by rw [gi_ne (by omega), gi_ne (by omega)]; exact e10, by rw [gi_eq]⟩
    match m, e with
    | 0, e =>
      refine wc47_2 _ S.1 ⟨fun _ => tl _ (eod_e (by omega)), fun z => absurd ?_ z⟩
      rw [S.2.2.1, e8]; exact (zI_le (by omega) (by omega)).mpr (by omega)
    | m + 1, e =>
      refine wc47_2 _ S.1 ⟨fun z => absurd ?_ (show ¬ n ≤ q by omega), fun _ => ?_⟩
      · rw [S.2.2.1, e8] at z; exact (zI_le (by omega) (by omega)).mp z
      · rw [e8, zI_tn (by omega)]
        refine ⟨in_zI (by omega) (by decide), Cl.ic (p50 S.1 _) (by omega) S.1 ⟨fun z => ?_, fun z => ?_⟩⟩
        · rw [bI_0, (S.2.2.2.1 q (by omega)).di] at z
          exact tl _ (by rw [eod_s (by omega), if_neg z])
        · rw [bI_n0, (S.2.2.2.1 q (by omega)).di] at z
          rw [e8, zI_tn (by omega), (S.2.2.2.1 q (by omega)).e (isDi_127 z).1]
          refine ⟨in_zI (by omega) (by decide), fun h5 e5 => ?_⟩
          rw [zI_succ] at e5
          have F5 : FS h h5 := by rw [e5]; exact (FS.rf h).si _ (by omega)
          have := l47 (b := b) (d := d) m (q + 1) h5 (by omega) (S.of F5.fc) (F.tr F5) (by omega) (by omega) (by rw [e5, gi_eq]) (by rw [e5, gi_ne (by omega)]; exact e10)
          rw [show nva B b (q + 1 - b) = 10 * nva B b (q - b) + B q - 48 from by rw [show q + 1 - b = (q - b) + 1 by omega]; unfold nva; rw [fold_succ, show b + (q - b) = q by omega]] at this
          rw [eod_s (by omega), if_pos z]
          exact this
/-- the next token -/
def PT1 (B : Nat → Int32) (n q : Nat) (h h' : AH) : Prop := FS h h' ∧ am_gi h' 71 8 = zI (en B n q) ∧ am_gi h' 71 9 = tkc (tk B n q) ∧ am_gi h' 71 10 = zI (bgn B n q) ∧ (tk B n q = 1 ∨ tk B n q = 3 → am_gi h' 71 11 = vl B n q)
theorem c44 {B : Nat → Int32} {n q : Nat} {h : AH} (S : SB B n h) (hq : q ≤ n) (e8 : am_gi h 71 8 = zI q) : Cl 3 44 [.ref 71] h (fun r h' => r = none ∧ PT1 B n q h h') := by
  have bn := S.2.1
  refine l44 (d := 2) (n - q) q h rfl S hq e8 (fun h1 F1 e81 => ?_)
  have b := bgn_b (B := B) hq
  have S1 := S.of F1.fc
  unfold PT1 en tk vl nxe ntk nvl
  generalize bgn B n q = b0 at e81 b
  refine wc44_39 S1.1 (fun h2 e2 => ?_)
  have F2 : FS h h2 := by rw [e2]; exact F1.si _ (by omega)
  have S2 := S.of F2.fc
  have e82 : am_gi h2 71 8 = zI b0 := by rw [e2, gi_ne (by omega)]; exact e81
  have e102 : am_gi h2 71 10 = zI b0 := by rw [e2, gi_eq]; exact e81
  refine ⟨fun z => ?_, fun z h3 e3 => ⟨rfl, ?_⟩⟩
  · rw [e82, S2.2.2.1, zI_lt (by omega) (by omega)] at z
    have z1 : ¬ n ≤ b0 := by omega
    rw [if_neg z1, if_neg z1]
    have ec : am_gi h2 72 (Int32.toNatClampNeg (am_gi h2 71 8)) = am_gi h2 72 b0 := by rw [e82, zI_tn (by omega)]
    rw [ec]
    have ia : am_in (am_gi h2 71 8) 400 := by rw [e82]; exact in_zI (by omega) (by decide)
    have Y := S2.2.2.2.1 b0 z
    refine ⟨ia, Cl.ic (p49 S2.1 _) (by omega) S2.1 ⟨fun y => ⟨ia, Cl.ic (p50 S2.1 _) (by omega) S2.1 ⟨fun x => ⟨ia, Cl.ic (p51 S2.1 _) (by omega) S2.1 ⟨fun w => ?_, fun w => ?_⟩⟩, fun x => ?_⟩⟩, fun y => ?_⟩⟩
    · rw [bI_0, Y.le] at y; rw [bI_0, ec, Y.di] at x; rw [bI_0, ec, Y.si] at w
      rw [if_neg y, if_neg x, if_neg y, if_neg x, if_neg w, if_neg y]
      intro h4 e4 h5 e5
      refine ⟨rfl, ?_⟩
      rw [e5, e4]
      exact ⟨(F2.si _ (by omega)).si _ (by omega), by rw [gi_eq, gi_ne (by omega), e82, zI_succ], by rw [gi_ne (by omega), gi_eq]; rfl, by rw [gi_ne (by omega), gi_ne (by omega)]; exact e102, fun v => absurd v (by decide)⟩
    · rw [bI_0, Y.le] at y; rw [bI_0, ec, Y.di] at x; rw [bI_n0, ec, Y.si] at w
      rw [if_neg y, if_neg x, if_neg y, if_neg x, if_pos w, if_neg y]
      have r := isSi_t w
      rw [e82, zI_tn (by omega), Y.e r.2.1]
      refine ⟨by rw [← e82]; exact ia, fun h4 e4 h5 e5 => ⟨rfl, ?_⟩⟩
      rw [e5, e4]
      refine ⟨(F2.si _ (by omega)).si _ (by omega), by rw [gi_eq, gi_ne (by omega), e82, zI_succ], by rw [gi_ne (by omega), gi_eq, tkc_s w], by rw [gi_ne (by omega), gi_ne (by omega)]; exact e102, fun v => ?_⟩
      rw [isSi_i] at w
      rcases v with v | v <;> (rw [v] at w; exact absurd w (by decide))
    · rw [bI_0, Y.le] at y; rw [bI_n0, ec, Y.di] at x
      rw [if_neg y, if_pos x, if_neg y, if_pos x, if_neg y]
      refine Cl.qvc (P := PNu B b0 (eod B n b0) h) (d := 2) (wc47 S2.1 ?_) (by omega) (fun h4 P => ⟨P.1.1.lyc S.1, rfl, P.1, P.2.1, P.2.2.1, P.2.2.2.1, fun _ => P.2.2.2.2⟩)
      have := l47 (b := b0) (d := 1) (n - b0) b0 h2 rfl S2 F2 (by omega) (Nat.le_refl _) e82 e102
      rw [Nat.sub_self] at this
      exact this
    · rw [bI_n0, Y.le] at y
      rw [if_pos y, if_pos y, if_pos y]
      refine Cl.qvc (P := PW B b0 (eow B n b0) h) (l45 (b := b0) (d := 1) (n - b0) b0 h2 rfl S2 F2 (by omega) (Nat.le_refl _) e82 e102) (by omega) (fun h4 P => ⟨P.1.1.lyc S.1, rfl, P.1, P.2.1, P.2.2.1, P.2.2.2.1, fun v => P.2.2.2.2 (fun u => ?_)⟩)
      rw [u] at v; exact absurd v (by decide)
  · have z1 : n ≤ b0 := by
      by_cases y : n ≤ b0
      · exact y
      · exact absurd (by rw [e82, S2.2.2.1]; exact (zI_lt (by omega) (by omega)).mpr (by omega)) z
    rw [if_pos z1, if_pos z1, e3]
    exact ⟨F2.si _ (by omega), by rw [gi_ne (by omega)]; exact e82, by rw [gi_eq]; rfl, by rw [gi_ne (by omega)]; exact e102, fun v => absurd v (by decide)⟩
