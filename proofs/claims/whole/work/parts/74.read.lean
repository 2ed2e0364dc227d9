/-! PROPOSE 7: a whole text -/
def FRe (h h' : AH) : Prop := Sm h h' ∧ (∀ a k, ¬ ((a = 71 ∧ ¬ k = 1) ∨ a = 73 ∨ a = 74) → am_gi h' a k = am_gi h a k) ∧ ∀ a k, am_gl h' a k = am_gl h a k
theorem FRe.rf (h : AH) : FRe h h := ⟨Sm.rfl' _, fun _ _ _ => rfl, fun _ _ => rfl⟩
theorem FRe.tr {h h1 h2 : AH} (A : FRe h h1) (C : FRe h1 h2) : FRe h h2 := ⟨A.1.trans C.1, fun a k z => (C.2.1 a k z).trans (A.2.1 a k z), fun a k => (C.2.2 a k).trans (A.2.2 a k)⟩
theorem FRe.si {h h1 : AH} (A : FRe h h1) {a k : Nat} (v : Int32) (z : (a = 71 ∧ ¬ k = 1) ∨ a = 73 ∨ a = 74) : FRe h (am_si h1 a k v) := ⟨A.1.si _ _ _, fun b j y => by rw [gi_ne (by omega)]; exact A.2.1 b j y, A.2.2⟩
theorem FRc.e {h h' : AH} (F : FRc h h') : FRe h h' := ⟨F.1, fun a k z => F.2.1 a k (by omega), F.2.2⟩
theorem SB.e {B : Nat → Int32} {n : Nat} {h h' : AH} (S : SB B n h) (F : FRe h h') : SB B n h' := by
  obtain ⟨s1, s2, s3, s4, ⟨s5, s6, s7⟩, s8, s9, s10⟩ := S
  exact ⟨F.1.lyc s1, s2, by rw [F.2.1 _ _ (by omega)]; exact s3, fun i hi => by rw [F.2.1 _ _ (by omega)]; exact s4 i hi, ⟨by rw [F.1.2.2.1]; exact s5, by rw [F.1.2.2.2.1]; exact s6, fun i => by rw [F.2.1 _ _ (by omega)]; exact s7 i⟩, by rw [F.1.2.2.1]; exact s8, by rw [F.1.2.2.2.1]; exact s9, fun i => by rw [F.2.1 _ _ (by omega)]; exact s10 i⟩
/-- the frame begun anew -/
theorem Rc.rb {B : Nat → Int32} {n k p m : Nat} {h0 h : AH} {op w : Nat → Int32} {l : Int32} (R : Rc B n k h0 p m op w l h) : Rc B n k h p m op w l h := ⟨R.sb, FRc.rf h, fun _ => rfl, R.2.2.2⟩
theorem Rc.s74 {B : Nat → Int32} {n k p m j : Nat} {h0 h : AH} {op w : Nat → Int32} {l v : Int32} (R : Rc B n k h0 p m op w l h) : Rc B n k (am_si h 74 j v) p m op w l (am_si h 74 j v) := by
  have S := R.sb
  obtain ⟨r1, r2, r0, r3, r4, r5, r6, r7, r8, r9, r10⟩ := R
  exact ⟨S.of ((FRc.rf h).si _ (by omega)), FRc.rf _, fun _ => rfl, by rw [gi_ne (by omega)]; exact r3, by rw [gi_ne (by omega)]; exact r4, by rw [gi_ne (by omega)]; exact r5, by rw [gi_ne (by omega)]; exact r6, fun z => by rw [gi_ne (by omega)]; exact r7 z, by rw [gi_ne (by omega)]; exact r8, by rw [gi_ne (by omega)]; exact r9, fun i hi => by rw [gi_ne (by omega)]; exact r10 i hi⟩
theorem Rc.s7 {B : Nat → Int32} {n k k' p m : Nat} {h0 h : AH} {op w : Nat → Int32} {l : Int32} (R : Rc B n k h0 p m op w l h) : Rc B n k' (am_si h 71 7 (zI k')) p m op w l (am_si h 71 7 (zI k')) := by
  have S := R.sb
  obtain ⟨r1, r2, r0, r3, r4, r5, r6, r7, r8, r9, r10⟩ := R
  exact ⟨S.of ((FRc.rf h).si _ (by omega)), FRc.rf _, fun _ => rfl, by rw [gi_eq], by rw [gi_ne (by omega)]; exact r4, by rw [gi_ne (by omega)]; exact r5, by rw [gi_ne (by omega)]; exact r6, fun z => by rw [gi_ne (by omega)]; exact r7 z, by rw [gi_ne (by omega)]; exact r8, by rw [gi_ne (by omega)]; exact r9, fun i hi => by rw [gi_ne (by omega)]; exact r10 i hi⟩
theorem Rm.rb {B : Nat → Int32} {n t k o p m : Nat} {h0 h : AH} {op w : Nat → Int32} {l : Int32} (R : Rm B n t k o h0 p m op w l h) : Rm B n t k o h p m op w l h := ⟨R.sr, FRm.rf t h, fun _ => rfl, R.2.2.2⟩
theorem Fw.rb {B : Nat → Int32} {n t q b : Nat} {h0 h : AH} (R : Fw B n t h0 q b h) : Fw B n t h q b h := ⟨R.1.of R.2.1, FRm.rf t h, fun _ => rfl, R.2.2.2⟩
theorem Rm.s239 {B : Nat → Int32} {n t k o p m j : Nat} {h0 h : AH} {op w : Nat → Int32} {l v : Int32} (R : Rm B n t k o h0 p m op w l h) (hj : 5 * t ≤ j) : Rm B n t k o (am_si h 239 j v) p m op w l (am_si h 239 j v) := by
  have S := R.sr
  obtain ⟨r1, r2, r0, r4, r5, r6, r7, r8, r9, r10, r11, r12, r13⟩ := R
  exact ⟨S.of ((FRm.rf t h).si _ (by omega)), FRm.rf t _, fun _ => rfl, by rw [gi_ne (by omega)]; exact r4, by rw [gi_ne (by omega)]; exact r5, by rw [gi_ne (by omega)]; exact r6, fun z => by rw [gi_ne (by omega)]; exact r7 z, by rw [gi_ne (by omega)]; exact r8, by rw [gi_ne (by omega)]; exact r9, by rw [gi_ne (by omega)]; exact r10, by rw [gi_ne (by omega)]; exact r11, by rw [gi_ne (by omega)]; exact r12, fun i hi => by rw [gi_ne (by omega), gi_ne (by omega)]; exact r13 i hi⟩
theorem Fw.s239 {B : Nat → Int32} {n t q b j : Nat} {h0 h : AH} {v : Int32} (R : Fw B n t h0 q b h) (hj : 5 * t ≤ j) : Fw B n t (am_si h 239 j v) q b (am_si h 239 j v) := by
  have S := R.1.of R.2.1
  obtain ⟨r1, r2, r0, r3, m, r4, r5⟩ := R
  exact ⟨S.of ((FRm.rf t h).si _ (by omega)), FRm.rf t _, fun _ => rfl, ⟨r3.1, by rw [gi_ne (by omega)]; exact r3.2⟩, m, r4, by rw [gi_ne (by omega)]; exact r5⟩
theorem Rm.s59 {B : Nat → Int32} {n t k k' o p m : Nat} {h0 h : AH} {op w : Nat → Int32} {l : Int32} (R : Rm B n t k o h0 p m op w l h) : Rm B n t k' o h0 p m op w l (am_si h 216 59 (zI k')) := by
  obtain ⟨r1, r2, r0, r4, r5, r6, r7, r8, r9, r10, r11, r12, r13⟩ := R
  exact ⟨r1, r2.si _ (by omega), fun i => by rw [gi_ne (by omega)]; exact r0 i, by rw [gi_ne (by omega)]; exact r4, by rw [gi_ne (by omega)]; exact r5, by rw [gi_ne (by omega)]; exact r6, fun z => by rw [gi_ne (by omega)]; exact r7 z, by rw [gi_ne (by omega)]; exact r8, by rw [gi_ne (by omega)]; exact r9, by rw [gi_ne (by omega)]; exact r10, by rw [gi_ne (by omega)]; exact r11, by rw [gi_eq], fun i hi => by rw [gi_ne (by omega), gi_ne (by omega)]; exact r13 i hi⟩
theorem Fw.s59 {B : Nat → Int32} {n t q b : Nat} {h0 h : AH} (R : Fw B n t h0 q b h) (v : Int32) : Fw B n t h0 q b (am_si h 216 59 v) := by
  obtain ⟨r1, r2, r0, r3, m, r4, r5⟩ := R
  exact ⟨r1, r2.si _ (by omega), fun i => by rw [gi_ne (by omega)]; exact r0 i, ⟨r3.1, by rw [gi_ne (by omega)]; exact r3.2⟩, m, r4, by rw [gi_ne (by omega)]; exact r5⟩
/-- what both have come to: wv what can't stand there, lv the first name that may not, pp where the parts begin -/
def CO (h0 : AH) (wv lv : Int32) (pp : Nat → Nat) (m : Nat) (op w : Nat → Int32) (h : AH) : Prop := FRe h0 h ∧ am_gi h 71 5 = (if wv = -1 then (if lv = -1 then 0 else 2) else 1) ∧ am_gi h 71 6 = (if wv = -1 then lv else wv) ∧ (wv = -1 → am_gi h 71 3 = zI m ∧ (∀ j, j < 5 → am_gi h 74 j = zI (pp j)) ∧ ∀ i, i < m → cR (op i) (w i) (am_gi h 73 i))
def MO (t : Nat) (h0 : AH) (wv lv : Int32) (pp : Nat → Nat) (m : Nat) (op w : Nat → Int32) (h : AH) : Prop := FRm t h0 h ∧ am_gi h 216 55 = wv ∧ (wv = -1 → am_gi h 216 56 = lv ∧ (∀ j, j < 5 → am_gi h 239 (5 * t + j) = zI (pp j)) ∧ ∀ i, i < m → am_gi h 237 (400 * t + i) = op i ∧ am_gi h 238 (400 * t + i) = w i)
/-- the parts before k are as they must be -/
def PS (B : Nat → Int32) (k p m : Nat) (op w : Nat → Int32) (l : Int32) (pp : Nat → Nat) : Prop := (pp 0 = 0 ∧ pp k = m ∧ ∀ i, i < k → pp i ≤ pp (i + 1) ∧ pp (i + 1) ≤ m) ∧ (∀ i, i < k → hts op (pp i) (pp (i + 1) - pp i) 0 = some 1) ∧ (l = -1 → ∀ i, i < k → ∀ x, pp i ≤ x → x < pp (i + 1) → op x = 1 → alw i (w x)) ∧ ∀ i, i < p → (B i).toInt ≤ 127
def SMP (B : Nat → Int32) (n : Nat) : Nat → Nat → Nat → Prop
  | 0, _, p => tk B n p = 0
  | j + 1, k, p => tk B n p = 300 + zI k ∧ (tk B n (en B n p) = 1 ∨ (tk B n (en B n p) = 3 ∧ alw k (vl B n (en B n p)))) ∧ tk B n (en B n (en B n p)) = 59 ∧ SMP B n j (k + 1) (en B n (en B n (en B n p)))
theorem PS.nx {B : Nat → Int32} {n k p m m1 p3 H : Nat} {op w op1 w1 : Nat → Int32} {l l1 : Int32} {pp : Nat → Nat} (P : PS B k p m op w l pp) (hH : H ≤ 60) (U : PU B n k H 0 1 p m op w l true p3 m1 op1 w1 l1) : PS B (k + 1) p3 m1 op1 w1 l1 (wr pp (k + 1) m1) := by
  obtain ⟨⟨a1, a2, a3⟩, a4, a5, a6⟩ := P
  obtain ⟨⟨b1, b2, b3, b4⟩, b5, b6, b7, b8⟩ := U
  obtain ⟨b8, b9⟩ := b8 rfl
  have e0 : ∀ i, i ≤ k → wr pp (k + 1) m1 i = pp i := fun i hi => wr_ne (by omega)
  have e1 : wr pp (k + 1) m1 (k + 1) = m1 := wr_eq
  refine ⟨⟨by rw [e0 0 (by omega)]; exact a1, e1, fun i hi => ?_⟩, fun i hi => ?_, fun z i hi x h1 h2 h3 => ?_, fun i hi => ?_⟩
  · by_cases y : i = k
    · rw [y, e0 k (Nat.le_refl _), e1, a2]; exact ⟨b3, Nat.le_refl _⟩
    · rw [e0 i (by omega), e0 (i + 1) (by omega)]; have := a3 i (by omega); omega
  · by_cases y : i = k
    · rw [y, e0 k (Nat.le_refl _), e1, a2]; exact b9 0 (by omega)
    · rw [e0 i (by omega), e0 (i + 1) (by omega), hts_congr (op' := op) (fun j h1 h2 => (b5 j (by have := a3 i (by omega); omega)).1)]; exact a4 i (by omega)
  · have zl : l = -1 := by
      by_cases y : l = -1
      · exact y
      · exact absurd ((b6 y).symm.trans z) y
    by_cases y : i = k
    · rw [y, e0 k (Nat.le_refl _), a2] at h1
      rw [y, e1] at h2
      rw [y]; exact b7 z x h1 h2 h3
    · rw [e0 i (by omega)] at h1; rw [e0 (i + 1) (by omega)] at h2
      have := a3 i (by omega)
      rw [(b5 x (by omega)).1] at h3
      rw [(b5 x (by omega)).2]
      exact a5 zl i (by omega) x h1 h2 h3
  · by_cases y : i < p
    · exact a6 i y
    · exact b8 i (by omega) hi
/-- the class, once it has found what can't stand there -/
theorem cfail {B : Nat → Int32} {n k p m D : Nat} {h0 h1 h : AH} {op w : Nat → Int32} {l lv : Int32} {pp : Nat → Nat} {mm : Nat} {oo ww : Nat → Int32} (hp : p ≤ n) (hn : n ≤ 400) (hk : k < 4) (F : FRe h0 h) (R : Rc B n k h1 p m op w l h) : Ev (D + 1) 33 96 [.ref 71, .null] [] h (fun r h' => r = none ∧ CO h0 (zI (bgn B n p)) lv pp mm oo ww h') := by
  have b := bgn_b (B := B) hp
  have nw : ¬ zI (bgn B n p) = -1 := zI_ne1 (by omega)
  refine wc33_96 R.ly (fun h2 e2 => ?_)
  have e10 : am_gi h2 71 10 = zI (bgn B n p) := by rw [e2, gi_ne (by omega)]; exact R.2.2.2.2.2.2.1
  have F2 : FRe h0 h2 := by rw [e2]; exact F.si _ (by omega)
  have L2 : LyC h2 := by rw [e2]; exact R.ly.si _ _ _
  have fin : Ev (D + 1) 33 111 [.ref 71, .int 0] [] h2 (fun r h' => r = none ∧ CO h0 (zI (bgn B n p)) lv pp mm oo ww h') := by
    refine wc33_111 _ L2 ⟨in_zI (i := 4) (by decide) (by decide), fun h3 e3 => ⟨fun _ h4 e4 h5 e5 => ⟨rfl, ?_⟩, fun z => absurd rfl z⟩⟩
    rw [e5, e4, e3]
    refine ⟨((F2.si _ (by omega)).si _ (by omega)).si _ (by omega), ?_, ?_, fun z => absurd z nw⟩
    · rw [gi_ne (by omega), gi_eq, if_neg nw]
    · rw [gi_eq, gi_ne (by omega), gi_ne (by omega), if_neg nw]; exact e10
  exact wc33_36 _ L2 ⟨fun _ => fin, fun _ => ⟨fun _ => fin, fun z => absurd rfl z⟩⟩
/-- the reference, once it has -/
theorem mfail {B : Nat → Int32} {n t b q D : Nat} {h0 : AH} {lv : Int32} {pp : Nat → Nat} {mm : Nat} {oo ww : Nat → Int32} (hD : 4 ≤ D) : ∀ j k h1 h, k + j = 4 → FRm t h0 h → Fw B n t h1 q b h → Ev (D + 1) 203 36 [.ref 216, .int (zI t), .int (zI k)] [] h (fun r h' => r = none ∧ MO t h0 (zI b) lv pp mm oo ww h')
  | 0, k, h1, h, e, F, W => by
    have ek : k = 4 := by omega
    subst ek
    have ht := W.1.2.2.1
    have ea : (5 : Int32) * zI t + 4 = zI (5 * t + 4) := by rw [show (5 : Int32) = zI 5 from rfl, show (4 : Int32) = zI 4 from rfl, zI_mul, zI_add]
    refine ws203_36 _ _ W.ly ⟨fun _ => ?_, fun z => absurd (by decide) z⟩
    rw [ea, zI_tn (by omega)]
    refine ⟨in_zI (by omega) (by decide), fun h2 e2 => ?_⟩
    have W2 : Fw B n t h2 q b h2 := by rw [e2]; exact W.s239 (by omega)
    have F2 : FRm t h0 h2 := by rw [e2]; exact F.si _ (by omega)
    exact Cl.gv (W2.need 0) (by omega) W2.ly ⟨rfl, F2, W2.2.2.2.1.2, fun z => absurd z (zI_ne1 (by have := W2.2.2.2.1.1; omega))⟩
  | j + 1, k, h1, h, e, F, W => by
    have ht := W.1.2.2.1
    have ea : (5 : Int32) * zI t + zI k = zI (5 * t + k) := by rw [show (5 : Int32) = zI 5 from rfl, zI_mul, zI_add]
    refine ws203_36 _ _ W.ly ⟨fun z => absurd ((zI_le (m := 4) (by decide) (by omega)).mp z) (by omega), fun _ => ?_⟩
    rw [ea, zI_tn (by omega)]
    refine ⟨in_zI (by omega) (by decide), fun h2 e2 h3 e3 => ?_⟩
    have W2 : Fw B n t h2 q b h3 := by rw [e3, e2]; exact (W.s239 (by omega)).s59 _
    have F2 : FRm t h0 h3 := by rw [e3, e2]; exact (F.si _ (by omega)).si _ (by omega)
    refine Cl.gv (W2.need _) (by omega) W2.ly (Cl.gv W2.either (by omega) W2.ly (Cl.gv (W2.need _) (by omega) W2.ly ?_))
    rw [zI_succ]
    exact mfail hD j (k + 1) h2 h3 (by omega) F2 W2
def PO (B : Nat → Int32) (n : Nat) (wv lv : Int32) (pp : Nat → Nat) (m : Nat) (op w : Nat → Int32) : Prop := (wv = -1 ∨ ∃ b, b ≤ 400 ∧ wv = zI b) ∧ (wv = -1 → lv = -1 → PS B 4 n m op w (-1) pp ∧ m ≤ 400)
theorem rd {B : Nat → Int32} {n t : Nat} (hn : n ≤ 400) : ∀ j k, k + j = 4 → ∀ (p m : Nat) (op w : Nat → Int32) (l : Int32) (pp : Nat → Nat), p ≤ n → m ≤ p → PS B k p m op w l pp → ∃ (wv lv : Int32) (pp' : Nat → Nat) (m' : Nat) (op' w' : Nat → Int32), PO B n wv lv pp' m' op' w' ∧ (∀ h0 h, FRe h0 h → Rc B n k h p m op w l h → (∀ i, i < k → am_gi h 74 i = zI (pp i)) → am_gi h 71 5 = 0 → am_gi h 71 6 = -1 → Ev 93 33 36 [.ref 71, .int 1] [] h (fun r h' => r = none ∧ CO h0 wv lv pp' m' op' w' h')) ∧ (∀ h0 h kw, FRm t h0 h → Rm B n t kw 0 h p m op w l h → (∀ i, i < k → am_gi h 239 (5 * t + i) = zI (pp i)) → Ev 93 203 36 [.ref 216, .int (zI t), .int (zI k)] [] h (fun r h' => r = none ∧ MO t h0 wv lv pp' m' op' w' h')) ∧ (SMP B n j k p → l = -1 → wv = -1 ∧ lv = -1)
  | 0, k, ek, p, m, op, w, l, pp, hp, hm, P => by
    have e4 : k = 4 := by omega
    subst e4
    have b := bgn_b (B := B) hp
    have e := en_b (B := B) hp
    have cl : ∀ {h0 h : AH} (wv : Int32), (tk B n p = 0 ∧ wv = -1) ∨ (¬ tk B n p = 0 ∧ wv = zI (bgn B n p)) → FRe h0 h → Rc B n 4 h p m op w l h → (∀ i, i < 4 → am_gi h 74 i = zI (pp i)) → am_gi h 71 5 = 0 → am_gi h 71 6 = -1 → Ev 93 33 36 [.ref 71, .int 1] [] h (fun r h' => r = none ∧ CO h0 wv l pp m op w h') := fun {h0 h} wv hw F R S5 f5 f6 => by
      refine wc33_36 _ R.ly ⟨fun _ => ?_, fun z => absurd (by rw [R.2.2.2.1]; decide) z⟩
      refine wc33_111 _ R.ly ⟨in_zI (i := 4) (by decide) (by decide), fun h2 e2 => ?_⟩
      rw [R.2.2.2.2.2.2.2.2.2.1, show (4 : Int32).toNatClampNeg = 4 from rfl] at e2
      have F2 : FRe h0 h2 := by rw [e2]; exact F.si _ (by omega)
      have t9 : am_gi h2 71 9 = 0 ↔ tk B n p = 0 := by rw [e2, gi_ne (by omega)]; exact R.tok (T := 0) (by decide) rfl
      have v10 : am_gi h2 71 10 = zI (bgn B n p) := by rw [e2, gi_ne (by omega)]; exact R.2.2.2.2.2.2.1
      have v12 : am_gi h2 71 12 = l := by rw [e2, gi_ne (by omega)]; exact R.2.2.2.2.2.2.2.2.1
      have v5 : am_gi h2 71 5 = 0 := by rw [e2, gi_ne (by omega)]; exact f5
      have v6 : am_gi h2 71 6 = -1 := by rw [e2, gi_ne (by omega)]; exact f6
      have good : ∀ h', (∀ a k, ¬ (a = 71 ∧ (k = 5 ∨ k = 6)) → am_gi h' a k = am_gi h2 a k) → am_gi h' 71 3 = zI m ∧ (∀ j, j < 5 → am_gi h' 74 j = zI (pp j)) ∧ ∀ i, i < m → cR (op i) (w i) (am_gi h' 73 i) := fun h' G => by
        refine ⟨?_, fun j hj => ?_, fun i hi => ?_⟩
        · rw [G _ _ (by omega), e2, gi_ne (by omega)]; exact R.2.2.2.2.2.2.2.2.2.1
        · rw [G _ _ (by omega), e2]
          by_cases y : j = 4
          · rw [y, gi_eq, P.1.2.1]
          · rw [gi_ne (by omega)]; exact S5 j (by omega)
        · rw [G _ _ (by omega), e2, gi_ne (by omega)]; exact R.2.2.2.2.2.2.2.2.2.2 i hi
      refine ⟨fun z => absurd z (by decide), fun _ => ⟨fun z => ?_, fun z h7 e7 h8 e8 => ?_⟩⟩
      · rw [t9] at z
        have ew : wv = -1 := hw.elim (fun y => y.2) (fun y => absurd z y.1)
        subst ew
        rw [v12]
        refine ⟨fun y => ⟨rfl, F2, by rw [v5, if_pos rfl, if_pos y], by rw [v6, if_pos rfl, y], fun _ => good h2 (fun _ _ _ => rfl)⟩, fun y h5 e5 h6 e6 => ⟨rfl, ?_⟩⟩
        rw [e6, e5]
        refine ⟨(F2.si _ (by omega)).si _ (by omega), by rw [gi_ne (by omega), gi_eq, if_pos rfl, if_neg y], by rw [gi_eq, gi_ne (by omega), v12, if_pos rfl], fun _ => good _ (fun a k x => by rw [gi_ne (by omega), gi_ne (by omega)])⟩
      · rw [t9] at z
        have ew : wv = zI (bgn B n p) := hw.elim (fun y => absurd y.1 z) (fun y => y.2)
        have nw : ¬ wv = -1 := by rw [ew]; exact zI_ne1 (by omega)
        refine ⟨rfl, ?_⟩
        rw [e8, e7]
        exact ⟨(F2.si _ (by omega)).si _ (by omega), by rw [gi_ne (by omega), gi_eq, if_neg nw], by rw [gi_eq, gi_ne (by omega), v10, if_neg nw, ew], fun x => absurd x nw⟩
    have ml : ∀ {h0 h : AH} {kw : Nat} (wv : Int32), (tk B n p = 0 ∧ wv = -1) ∨ (¬ tk B n p = 0 ∧ wv = zI (bgn B n p)) → FRm t h0 h → Rm B n t kw 0 h p m op w l h → (∀ i, i < 4 → am_gi h 239 (5 * t + i) = zI (pp i)) → Ev 93 203 36 [.ref 216, .int (zI t), .int (zI 4)] [] h (fun r h' => r = none ∧ MO t h0 wv l pp m op w h') := fun {h0 h kw} wv hw F R S5 => by
      have ht := R.1.2.2.1
      have ea : (5 : Int32) * zI t + 4 = zI (5 * t + 4) := by rw [show (5 : Int32) = zI 5 from rfl, show (4 : Int32) = zI 4 from rfl, zI_mul, zI_add]
      refine ws203_36 _ _ R.ly ⟨fun _ => ?_, fun z => absurd (by decide) z⟩
      rw [ea, zI_tn (by omega), R.2.2.2.2.2.2.2.2.2.2.1]
      refine ⟨in_zI (by omega) (by decide), fun h2 e2 => ?_⟩
      have R2 : Rm B n t kw 0 h2 p m op w l h2 := by rw [e2]; exact R.s239 (by omega)
      have F2 : FRm t h0 h2 := by rw [e2]; exact F.si _ (by omega)
      by_cases z : tk B n p = 0
      · have ew : wv = -1 := hw.elim (fun y => y.2) (fun y => absurd z y.1)
        refine Cl.qv ((R2.need hp).1 z) (by decide) (fun h3 R3 => ⟨R3.ly, rfl, F2.tr R3.2.1, R3.2.2.2.2.2.2.2.1.trans ew.symm, fun _ => ⟨R3.2.2.2.2.2.2.2.2.1, fun j hj => ?_, R3.2.2.2.2.2.2.2.2.2.2.2.2⟩⟩)
        rw [R3.2.2.1, e2]
        by_cases y : j = 4
        · rw [y, gi_eq, P.1.2.1]
        · rw [gi_ne (by omega)]; exact S5 j (by omega)
      · have ew : wv = zI (bgn B n p) := hw.elim (fun y => absurd y.1 z) (fun y => y.2)
        exact Cl.qv ((R2.need hp).2 z) (by decide) (fun h3 R3 => ⟨R3.ly, rfl, F2.tr R3.2.1, R3.2.2.2.1.2.trans ew.symm, fun x => absurd x (by rw [ew]; exact zI_ne1 (by omega))⟩)
    by_cases z : tk B n p = 0
    · refine ⟨-1, l, pp, m, op, w, ⟨Or.inl rfl, fun _ zl => ⟨?_, by omega⟩⟩, fun h0 h => cl (-1) (Or.inl ⟨z, rfl⟩), fun h0 h kw => ml (-1) (Or.inl ⟨z, rfl⟩), fun _ y => ⟨rfl, y⟩⟩
      obtain ⟨a1, a2, a3, a4⟩ := P
      refine ⟨a1, a2, fun _ => a3 zl, fun i hi => ?_⟩
      by_cases y : i < p
      · exact a4 i y
      · refine tk_127 hp (fun x => by rw [z] at x; exact absurd x (by decide)) i (by omega) ?_
        unfold en nxe
        by_cases x : n ≤ bgn B n p
        · rw [if_pos x]; omega
        · exfalso
          unfold tk ntk at z
          rw [if_neg x] at z
          by_cases z2 : isLe (B (bgn B n p)) = true
          · rw [if_pos z2] at z
            rcases wrd_c B (bgn B n p) (eow B n (bgn B n p)) with ⟨v, _⟩ | ⟨q, hq, v, _⟩
            · rw [v] at z; exact absurd z (by decide)
            · rw [v] at z; exact (wtk_z q hq).2.1 z
          · rw [if_neg z2] at z
            by_cases z3 : isDi (B (bgn B n p)) = true
            · rw [if_pos z3] at z
              by_cases z4 : 6 < eod B n (bgn B n p) - bgn B n p
              · rw [if_pos z4] at z; exact absurd z (by decide)
              · rw [if_neg z4] at z; exact absurd z (by decide)
            · rw [if_neg z3] at z
              by_cases z4 : isSi (B (bgn B n p)) = true
              · rw [if_pos z4] at z; rw [z] at z4; exact absurd z4 (by decide)
              · rw [if_neg z4] at z; exact absurd z (by decide)
    · exact ⟨zI (bgn B n p), l, pp, m, op, w, ⟨Or.inr ⟨bgn B n p, by omega, rfl⟩, fun x => absurd x (zI_ne1 (by omega))⟩, fun h0 h => cl _ (Or.inr ⟨z, rfl⟩), fun h0 h kw => ml _ (Or.inr ⟨z, rfl⟩), fun y => absurd y z⟩
  | j + 1, k, ek, p, m, op, w, l, pp, hp, hm, P => by
    have hk : k < 4 := by omega
    have b := bgn_b (B := B) hp
    have e := en_b (B := B) hp
    have tT : (300 + zI k) ∈ toks ∧ tkc (300 + zI k) = 8 + zI k ∧ ¬ (300 + zI k) = 0 ∧ ¬ (300 + zI k) = 2 := by
      rcases (show k = 0 ∨ k = 1 ∨ k = 2 ∨ k = 3 by omega) with rfl | rfl | rfl | rfl <;> decide
    -- heads
    have ch : ∀ {Q : Option Value → AH → Prop} {h : AH}, Rc B n k h p m op w l h → (∀ h2, h2 = am_si h 74 k (zI m) → Rc B n k h2 p m op w l h2 → Cl 92 42 [.ref 71, .int (8 + zI k)] h2 (fun r4 h3 => ∃ x5, r4 = some (.int x5) ∧ LyC h3 ∧ (x5 = (0 : Int32) → Ev 93 33 96 [.ref 71, .null] [] h3 Q) ∧ (¬ x5 = (0 : Int32) → Cl 92 34 [.ref 71, .int (0 : Int32)] h3 (fun r7 h6 => ∃ x8, r7 = some (.int x8) ∧ LyC h6 ∧ (x8 = (0 : Int32) → Ev 93 33 96 [.ref 71, .null] [] h6 Q) ∧ (¬ x8 = (0 : Int32) → Cl 92 42 [.ref 71, .int (59 : Int32)] h6 (fun r10 h9 => ∃ x11, r10 = some (.int x11) ∧ LyC h9 ∧ (x11 = (0 : Int32) → Ev 93 33 96 [.ref 71, .null] [] h9 Q) ∧ (¬ x11 = (0 : Int32) → ∀ h12, h12 = am_si h9 71 7 ((am_gi h9 71 7) + (1 : Int32)) → Ev 93 33 36 [.ref 71, .int (1 : Int32)] [] h12 Q))))))) → Ev 93 33 36 [.ref 71, .int 1] [] h Q := fun {Q h} R K => by
      refine wc33_36 (d := 92) _ R.ly ⟨fun z => absurd ?_ (show ¬ 4 ≤ k by omega), fun _ => ⟨fun z => absurd z (by decide), fun _ => ?_⟩⟩
      · rw [R.2.2.2.1] at z; exact (zI_le (m := 4) (by decide) (by omega)).mp z
      · rw [R.2.2.2.1, R.2.2.2.2.2.2.2.2.2.1, zI_tn (by omega)]
        refine ⟨in_zI (by omega) (by decide), fun h2 e2 => ?_⟩
        have R2 : Rc B n k h2 p m op w l h2 := by rw [e2]; exact R.s74
        rw [R2.2.2.2.1]
        exact K h2 e2 R2
    have mh : ∀ {Q : Option Value → AH → Prop} {h : AH} {kw : Nat}, Rm B n t kw 0 h p m op w l h → (∀ h2 h3, h2 = am_si h 239 (5 * t + k) (zI m) → h3 = am_si h2 216 59 (zI k) → Rm B n t k 0 h2 p m op w l h3 → Cl 92 200 [.ref 216, .int ((300 : Int32) + zI k)] h3 (fun r9 h8 => r9 = none ∧ Lay h8 ∧ Cl 92 204 [.ref 216] h8 (fun r11 h10 => r11 = none ∧ Lay h10 ∧ Cl 92 200 [.ref 216, .int (59 : Int32)] h10 (fun r13 h12 => r13 = none ∧ Lay h12 ∧ Ev 93 203 36 [.ref 216, .int (zI t), .int (zI (k + 1))] [] h12 Q)))) → Ev 93 203 36 [.ref 216, .int (zI t), .int (zI k)] [] h Q := fun {Q h kw} R K => by
      have ht := R.1.2.2.1
      have ea : (5 : Int32) * zI t + zI k = zI (5 * t + k) := by rw [show (5 : Int32) = zI 5 from rfl, zI_mul, zI_add]
      refine ws203_36 (d := 92) _ _ R.ly ⟨fun z => absurd ((zI_le (m := 4) (by decide) (by omega)).mp z) (by omega), fun _ => ?_⟩
      rw [ea, zI_tn (by omega), R.2.2.2.2.2.2.2.2.2.2.1]
      refine ⟨in_zI (by omega) (by decide), fun h2 e2 h3 e3 => ?_⟩
      rw [zI_succ]
      exact K h2 h3 e2 e3 (by rw [e3, e2]; exact (R.s239 (by omega)).s59)
    have cF : ∀ {h0 h h2 h3 : AH}, FRe h0 h → h2 = am_si h 74 k (zI m) → FRc h2 h3 → FRe h0 h3 := fun F e2 F3 => by
      subst e2; exact (F.si _ (by omega)).tr F3.e
    have mF : ∀ {h0 h h2 h3 : AH}, FRm t h0 h → h2 = am_si h 239 (5 * t + k) (zI m) → FRm t h2 h3 → FRm t h0 h3 := fun F e2 F3 => by
      subst e2; exact (F.si _ (by omega)).tr F3
    by_cases z1 : tk B n p = 300 + zI k
    · have t0 : ¬ tk B n p = 0 := by rw [z1]; exact tT.2.2.1
      have t2 : ¬ tk B n p = 2 := by rw [z1]; exact tT.2.2.2
      have lt := e.2.2 t0
      obtain ⟨ok, p1, m1, op1, w1, l1, U, C, M, Z⟩ := nt0 (B := B) (t := t) hn hk (en B n p) m op w l e.2.1 (by omega)
      have u1 := U.1
      have b1 := bgn_b (B := B) u1.2.1
      cases ok with
      | false =>
        refine ⟨zI (bgn B n p1), 0, pp, 0, op, w, ⟨Or.inr ⟨bgn B n p1, by omega, rfl⟩, fun x => absurd x (zI_ne1 (by omega))⟩, fun h0 h F R S5 f5 f6 => ?_, fun h0 h kw F R S5 => ?_, fun y yl => ?_⟩
        · refine ch R (fun h2 e2 R2 => Cl.qic ((R2.skip hp tT.1 tT.2.1).1 z1) (by decide) (fun h3 R3 => ⟨R3.ly, fun y => absurd y (by decide), fun _ => Cl.qic (C h2 h3 R3) (Nat.le_refl _) (fun h4 R4 => ⟨R4.ly, fun _ => ?_, fun y => absurd rfl y⟩)⟩))
          exact cfail u1.2.1 hn hk (cF F e2 R4.2.1) R4
        · refine mh R (fun h2 h3 e2 e3 R3 => Cl.qv ((R3.need hp).1 z1) (by decide) (fun h4 R4 => ⟨R4.ly, Cl.qv (M h2 h4 R4) (Nat.le_refl _) (fun h5 P5 => ?_)⟩))
          have W5 := P5.2 rfl
          exact ⟨W5.ly, Cl.gv (W5.need 59) (by decide) W5.ly (mfail (by decide) j (k + 1) h2 h5 (by omega) (mF F e2 W5.2.1) W5)⟩
        · have := (Z y.2.1 y.2.2.1).1
          exact absurd this (by decide)
      | true =>
        by_cases z2 : tk B n p1 = 59
        · have t2' : ¬ tk B n p1 = 2 := by rw [z2]; decide
          have V := ((PU.con (k := k) (H := 46) (a := 0) (m := m) (op := op) (w := w) (l := l) hp t2).seq U).seq (PU.con u1.2.1 t2')
          have v1 := V.1
          obtain ⟨wv, lv, pp', m', op', w', O, Cc, Mm, Sz⟩ := rd (t := t) hn j (k + 1) (by omega) (en B n p1) m1 op1 w1 l1 (wr pp (k + 1) m1) v1.2.1 (by omega) (P.nx (by decide) V)
          have epp : ∀ i, i < k + 1 → wr pp (k + 1) m1 i = pp i := fun i hi => wr_ne (by omega)
          refine ⟨wv, lv, pp', m', op', w', O, fun h0 h F R S5 f5 f6 => ?_, fun h0 h kw F R S5 => ?_, fun y yl => ?_⟩
          · refine ch R (fun h2 e2 R2 => Cl.qic ((R2.skip hp tT.1 tT.2.1).1 z1) (by decide) (fun h3 R3 => ⟨R3.ly, fun y => absurd y (by decide), fun _ => Cl.qic (C h2 h3 R3) (Nat.le_refl _) (fun h4 R4 => ⟨R4.ly, fun y => absurd y (by decide), fun _ => Cl.qic ((R4.skip (T := 59) u1.2.1 (by decide) rfl).1 z2) (by decide) (fun h5 R5 => ⟨R5.ly, fun y => absurd y (by decide), fun _ h6 e6 => ?_⟩)⟩)⟩))
            rw [R5.2.2.2.1, zI_succ] at e6
            refine Cc h0 h6 (by rw [e6]; exact (cF F e2 R5.2.1).si _ (by omega)) (by rw [e6]; exact R5.s7) (fun i hi => ?_) ?_ ?_
            · rw [epp i hi, e6, gi_ne (by omega), R5.2.2.1, e2]
              by_cases y : i = k
              · rw [y, gi_eq, P.1.2.1]
              · rw [gi_ne (by omega)]; exact S5 i (by omega)
            · rw [e6, gi_ne (by omega), R5.2.1.2.1 _ _ (by omega), e2, gi_ne (by omega)]; exact f5
            · rw [e6, gi_ne (by omega), R5.2.1.2.1 _ _ (by omega), e2, gi_ne (by omega)]; exact f6
          · refine mh R (fun h2 h3 e2 e3 R3 => Cl.qv ((R3.need hp).1 z1) (by decide) (fun h4 R4 => ⟨R4.ly, Cl.qv (M h2 h4 R4) (Nat.le_refl _) (fun h5 P5 => ?_)⟩))
            have W5 := P5.1 rfl
            refine ⟨W5.ly, Cl.qv ((W5.need u1.2.1).1 z2) (by decide) (fun h6 R6 => ⟨R6.ly, Mm h0 h6 k (mF F e2 R6.2.1) R6.rb (fun i hi => ?_)⟩)⟩
            rw [epp i hi, R6.2.2.1, e2]
            by_cases y : i = k
            · rw [y, gi_eq, P.1.2.1]
            · rw [gi_ne (by omega)]; exact S5 i (by omega)
          · obtain ⟨y1, y2, y3, y4⟩ := y
            obtain ⟨-, q2, q3⟩ := Z y2 y3
            rw [← q2] at y4
            exact Sz y4 (q3.trans yl)
        · refine ⟨zI (bgn B n p1), 0, pp, 0, op, w, ⟨Or.inr ⟨bgn B n p1, by omega, rfl⟩, fun x => absurd x (zI_ne1 (by omega))⟩, fun h0 h F R S5 f5 f6 => ?_, fun h0 h kw F R S5 => ?_, fun y yl => ?_⟩
          · refine ch R (fun h2 e2 R2 => Cl.qic ((R2.skip hp tT.1 tT.2.1).1 z1) (by decide) (fun h3 R3 => ⟨R3.ly, fun y => absurd y (by decide), fun _ => Cl.qic (C h2 h3 R3) (Nat.le_refl _) (fun h4 R4 => ⟨R4.ly, fun y => absurd y (by decide), fun _ => Cl.ic ((R4.skip (T := 59) u1.2.1 (by decide) rfl).2 z2) (by decide) R4.ly ⟨fun _ => ?_, fun y => absurd rfl y⟩⟩)⟩))
            exact cfail u1.2.1 hn hk (cF F e2 R4.2.1) R4
          · refine mh R (fun h2 h3 e2 e3 R3 => Cl.qv ((R3.need hp).1 z1) (by decide) (fun h4 R4 => ⟨R4.ly, Cl.qv (M h2 h4 R4) (Nat.le_refl _) (fun h5 P5 => ?_)⟩))
            have W5 := P5.1 rfl
            exact ⟨W5.ly, Cl.qv ((W5.need u1.2.1).2 z2) (by decide) (fun h6 R6 => ⟨R6.ly, mfail (by decide) j (k + 1) h2 h6 (by omega) (mF F e2 R6.2.1) R6⟩)⟩
          · obtain ⟨y1, y2, y3, y4⟩ := y
            obtain ⟨-, q2, q3⟩ := Z y2 y3
            rw [← q2] at y3
            exact absurd y3 z2
    · refine ⟨zI (bgn B n p), 0, pp, 0, op, w, ⟨Or.inr ⟨bgn B n p, by omega, rfl⟩, fun x => absurd x (zI_ne1 (by omega))⟩, fun h0 h F R S5 f5 f6 => ?_, fun h0 h kw F R S5 => ?_, fun y => absurd y.1 z1⟩
      · refine ch R (fun h2 e2 R2 => Cl.ic ((R2.skip hp tT.1 tT.2.1).2 z1) (by decide) R2.ly ⟨fun _ => ?_, fun y => absurd rfl y⟩)
        exact cfail hp hn hk (cF F e2 R2.2.1) R2
      · refine mh R (fun h2 h3 e2 e3 R3 => Cl.qv ((R3.need hp).2 z1) (by decide) (fun h4 R4 => ⟨R4.ly, Cl.gv R4.either (by decide) R4.ly (Cl.gv (R4.need 59) (by decide) R4.ly ?_)⟩))
        exact mfail (by decide) j (k + 1) h2 h4 (by omega) (mF F e2 R4.2.1) R4
theorem zI_all (x : Int32) : ∃ k, x = zI k := by
  by_cases z : 0 ≤ x.toInt
  · exact ⟨_, zI_of z⟩
  · have h1 := i_lo x
    refine ⟨(x.toInt + 4294967296).toNat, ?_⟩
    rw [← Int32.toInt_inj]
    show x.toInt = (Int32.ofNat (x.toInt + 4294967296).toNat).toInt
    rw [Int32.toInt_ofNat', show (((x.toInt + 4294967296).toNat : Nat) : Int) = x.toInt + ((Int32.size : Nat) : Int) by show _ = x.toInt + 4294967296; omega, Int.add_bmod_right]
    exact (i_bm (by omega) (by have := i_hi x; omega)).symm
/-- both programs read the same text -/
theorem rds {B : Nat → Int32} {n t : Nat} (hn : n ≤ 400) : ∃ (wv lv : Int32) (pp : Nat → Nat) (m : Nat) (op w : Nat → Int32), PO B n wv lv pp m op w ∧ (∀ h, SB B n h → Cl 93 33 [.ref 71] h (fun r h' => r = none ∧ CO h wv lv pp m op w h')) ∧ (∀ h h0, h0 = am_si h 216 50 (zI t) → SR B n t h0 → Cl 93 203 [.ref 216, .int (zI t)] h (fun r h' => r = none ∧ MO t h0 wv lv pp m op w h')) ∧ (SMP B n 4 0 0 → wv = -1 ∧ lv = -1) := by
  obtain ⟨wv, lv, pp, m, op, w, O, C, M, S⟩ := rd (B := B) (t := t) hn 4 0 rfl 0 0 (fun _ => 0) (fun _ => 0) (-1) (fun _ => 0) (by omega) (Nat.le_refl _) ⟨⟨rfl, rfl, fun i hi => absurd hi (by omega)⟩, fun i hi => absurd hi (by omega), fun _ i hi => absurd hi (by omega), fun i hi => absurd hi (by omega)⟩
  refine ⟨wv, lv, pp, m, op, w, O, fun h Sb => ?_, fun h h0 e0 Sr => ?_, fun y => S y rfl⟩
  · refine wc33 (d := 92) Sb.1 (fun h1 e1 h2 e2 h3 e3 h4 e4 h5 e5 => ?_)
    have F5 : FRe h h5 := by rw [e5, e4, e3, e2, e1]; exact (((((FRe.rf h).si _ (by omega)).si _ (by omega)).si _ (by omega)).si _ (by omega)).si _ (by omega)
    have S5 := Sb.e F5
    refine Cl.qvc (c44 (q := 0) S5 (by omega) (by rw [e5, e4, e3, e2, e1, gi_ne (by omega), gi_ne (by omega), gi_ne (by omega), gi_ne (by omega), gi_eq]; rfl)) (by decide) (fun h6 P => ?_)
    obtain ⟨F6, q8, q9, q10, q11⟩ := P
    have S6 := S5.of F6.fc
    refine ⟨S6.1, fun h8 e8 => C h h8 (by rw [e8]; exact (F5.tr F6.fc.e).si _ (by omega)) ?_ (fun i hi => absurd hi (by omega)) ?_ ?_⟩
    · rw [e8]
      refine ⟨S6.of ((FRc.rf h6).si _ (by omega)), FRc.rf _, fun _ => rfl, by rw [gi_eq]; rfl, by rw [gi_ne (by omega)]; exact q8, by rw [gi_ne (by omega)]; exact q9, by rw [gi_ne (by omega)]; exact q10, fun z => by rw [gi_ne (by omega)]; exact q11 z, ?_, ?_, fun i hi => absurd hi (by omega)⟩
      · rw [gi_ne (by omega), F6.2.1 _ _ (by omega), e5, e4, e3, gi_ne (by omega), gi_ne (by omega), gi_eq]
      · rw [gi_ne (by omega), F6.2.1 _ _ (by omega), e5, e4, e3, e2, gi_ne (by omega), gi_ne (by omega), gi_ne (by omega), gi_eq]; rfl
    · rw [e8, gi_ne (by omega), F6.2.1 _ _ (by omega), e5, gi_ne (by omega), e4, gi_eq]
    · rw [e8, gi_ne (by omega), F6.2.1 _ _ (by omega), e5, gi_eq]
  · have L0 : Lay h := by have := Sr.1; rw [e0] at this; exact this
    refine ws203 (d := 92) _ L0 (fun h1 e1 h2 e2 h3 e3 h4 e4 h5 e5 h6 e6 => ?_)
    have e10 : h1 = h0 := e1.trans e0.symm
    rw [e10] at e2
    have F6 : FRm t h0 h6 := by rw [e6, e5, e4, e3, e2]; exact (((((FRm.rf t h0).si _ (by omega)).si _ (by omega)).si _ (by omega)).si _ (by omega)).si _ (by omega)
    have S6 := Sr.of F6
    have g6 : am_gi h6 216 51 = zI 0 := by rw [e6, e5, e4, e3, e2, gi_ne (by omega), gi_ne (by omega), gi_ne (by omega), gi_ne (by omega), gi_eq]; rfl
    refine Cl.qv (m195 S6 _ 0 h6 rfl (FT.rf h6) (by omega) g6) (by decide) (fun h7 P => ?_)
    obtain ⟨F7, q1, q2, q3, q4⟩ := P
    have S7 := S6.of (F7.fr t)
    obtain ⟨kw, ek⟩ := zI_all (am_gi h7 216 59)
    refine ⟨S7.1, M h0 h7 kw (F6.tr (F7.fr t)) ⟨S7, FRm.rf t h7, fun _ => rfl, q1, q2, q3, q4, ?_, ?_, ?_, ?_, ek, fun i hi => absurd hi (by omega)⟩ (fun i hi => absurd hi (by omega))⟩
    · rw [F7.2.1 _ _ (by omega), e6, e5, e4, e3, gi_ne (by omega), gi_ne (by omega), gi_ne (by omega), gi_eq]
    · rw [F7.2.1 _ _ (by omega), e6, e5, e4, gi_ne (by omega), gi_ne (by omega), gi_eq]
    · rw [F7.2.1 _ _ (by omega), e6, e5, gi_ne (by omega), gi_eq]; rfl
    · rw [F7.2.1 _ _ (by omega), e6, gi_eq]; rfl
