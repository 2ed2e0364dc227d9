/-! BEST 2: the class's rents: the three small loops -/
def FH (h h' : AH) : Prop := Sm h h' ∧ (∀ a k, ¬ (102 ≤ a ∧ a ≤ 104) → am_gi h' a k = am_gi h a k) ∧ ∀ a k, ¬ (99 ≤ a ∧ a ≤ 101) → am_gl h' a k = am_gl h a k
theorem FH.rf (h : AH) : FH h h := ⟨Sm.rfl' _, fun _ _ _ => rfl, fun _ _ _ => rfl⟩
theorem FH.tr {h h1 h2 : AH} (A : FH h h1) (C : FH h1 h2) : FH h h2 := ⟨A.1.trans C.1, fun a k z => (C.2.1 a k z).trans (A.2.1 a k z), fun a k z => (C.2.2 a k z).trans (A.2.2 a k z)⟩
theorem FH.si {h h1 : AH} (A : FH h h1) {a k : Nat} (v : Int32) (z : 102 ≤ a ∧ a ≤ 104) : FH h (am_si h1 a k v) := ⟨A.1.si _ _ _, fun b j y => by rw [gi_ne (by omega)]; exact A.2.1 b j y, A.2.2⟩
theorem FH.sl {h h1 : AH} (A : FH h h1) {a k : Nat} (v : Int64) (z : 99 ≤ a ∧ a ≤ 101) : FH h (am_sl h1 a k v) := ⟨A.1.sl _ _ _, A.2.1, fun b j y => by rw [gl_ne (by omega)]; exact A.2.2 b j y⟩
/-- the rows of the exchange: prices c, rents u and v, slack s, whence cf, who gets it G, seen sn -/
def HR (n : Nat) (h : AH) (c : Nat → Nat → Int) (u v s : Nat → Int) (cf G : Nat → Nat) (sn : Nat → Bool) : Prop := Lay h ∧ n ≤ 12 ∧ am_gi h 80 11 = zI n ∧ (∀ a j, a ≤ n → 1 ≤ j → j ≤ n → (am_gl h (86 + a) j).toInt = c a j) ∧ ∀ j, j ≤ n → (am_gl h 99 j).toInt = u j ∧ (1 ≤ j → (am_gl h 100 j).toInt = v j) ∧ (am_gl h 101 j).toInt = s j ∧ am_gi h 102 j = zI (cf j) ∧ am_gi h 103 j = (if sn j then 1 else 0) ∧ am_gi h 104 j = zI (G j)
def bd (x : Int) : Prop := -1000000000000000000 ≤ x ∧ x ≤ 1000000000000000000
theorem l_sub {x y : Int64} (h1 : -9223372036854775808 ≤ x.toInt - y.toInt) (h2 : x.toInt - y.toInt < 9223372036854775808) : (x - y).toInt = x.toInt - y.toInt := by rw [Int64.toInt_sub, l_bm h1 h2]
theorem l_add {x y : Int64} (h1 : -9223372036854775808 ≤ x.toInt + y.toInt) (h2 : x.toInt + y.toInt < 9223372036854775808) : (x + y).toInt = x.toInt + y.toInt := by rw [Int64.toInt_add, l_bm h1 h2]
theorem sn_0 {b : Bool} : (if b then (1 : Int32) else 0) = 0 ↔ ¬ b = true := by cases b <;> decide
theorem zI13 {n : Nat} (h : n < 13) : am_in (zI n) 13 := in_zI h (by decide)
/-- look -/
theorem l7 {n at' a d : Nat} {c : Nat → Nat → Int} {u v : Nat → Int} {G : Nat → Nat} {sn : Nat → Bool} (ha : a ≤ n) (bu : bd (u a)) (bc : ∀ j, 1 ≤ j → j ≤ n → bd (c a j)) (bv : ∀ j, 1 ≤ j → j ≤ n → bd (v j)) : ∀ m j h s cf, j + m = n + 1 → 1 ≤ j → HR n h c u v s cf G sn → Ev d 7 9 [.ref 80, .int (zI at'), .int (zI a), .int (zI j), .null, .null] [] h (fun r h' => r = none ∧ FH h h' ∧ ∃ s' cf', HR n h' c u v s' cf' G sn ∧ ∀ x, x ≤ n → (j ≤ x → sn x = false → c a x - u a - v x < s x → s' x = c a x - u a - v x ∧ cf' x = at') ∧ (¬ (j ≤ x ∧ sn x = false ∧ c a x - u a - v x < s x) → s' x = s x ∧ cf' x = cf x))
  | 0, j, h, s, cf, e, j1, R => by
    have hn := R.2.1
    refine ws7_9 _ _ _ R.1 ⟨fun _ => ⟨rfl, FH.rf h, s, cf, R, fun x hx => ⟨fun y => absurd hx (by omega), fun _ => ⟨rfl, rfl⟩⟩⟩, fun z => absurd ?_ z⟩
    rw [R.2.2.1]; exact (zI_lt (by omega) (by omega)).mpr (by omega)
  | m + 1, j, h, s, cf, e, j1, R => by
    have hn := R.2.1
    obtain ⟨Ly, -, e11, rc, rr⟩ := R
    obtain ⟨q1, q2, q3, q4, q5, q6⟩ := rr j (by omega)
    have qu := (rr a ha).1
    have qc := rc a j ha j1 (by omega)
    have b1 := bc j j1 (by omega)
    have b2 := bv j j1 (by omega)
    have q2 := q2 j1
    unfold bd at bu b1 b2
    refine ws7_9 _ _ _ Ly ⟨fun z => absurd ?_ (show ¬ n < j by omega), fun _ => ?_⟩
    · rw [e11] at z; exact (zI_lt (by omega) (by omega)).mp z
    rw [zI_tn (show j < 2147483648 by omega), zI_tn (show a < 2147483648 by omega), zI_succ, q5]
    have er : ((am_gl h (86 + a) j - am_gl h 99 a) - am_gl h 100 j).toInt = c a j - u a - v j := by
      have e1 : (am_gl h (86 + a) j - am_gl h 99 a).toInt = c a j - u a := by rw [l_sub (by rw [qc, qu]; omega) (by rw [qc, qu]; omega), qc, qu]
      rw [l_sub (by rw [e1, q2]; omega) (by rw [e1, q2]; omega), e1, q2]
    have keep : ∀ (w : ¬ (sn j = false ∧ c a j - u a - v j < s j)), Ev d 7 9 [.ref 80, .int (zI at'), .int (zI a), .int (zI (j + 1)), .null, .null] [] h (fun r h' => r = none ∧ FH h h' ∧ ∃ s' cf', HR n h' c u v s' cf' G sn ∧ ∀ x, x ≤ n → (j ≤ x → sn x = false → c a x - u a - v x < s x → s' x = c a x - u a - v x ∧ cf' x = at') ∧ (¬ (j ≤ x ∧ sn x = false ∧ c a x - u a - v x < s x) → s' x = s x ∧ cf' x = cf x)) := fun w => by
      refine Ev.mono (l7 ha bu bc bv m (j + 1) h s cf (by omega) (by omega) ⟨Ly, hn, e11, rc, rr⟩) (Nat.le_refl _) (fun r h' P => ?_)
      obtain ⟨p1, p2, s', cf', p3, p4⟩ := P
      refine ⟨p1, p2, s', cf', p3, fun x hx => ⟨fun y1 y2 y3 => ?_, fun y => ?_⟩⟩
      · by_cases z : x = j
        · subst z; exact absurd ⟨y2, y3⟩ w
        · exact (p4 x hx).1 (by omega) y2 y3
      · exact (p4 x hx).2 (fun z => y ⟨by omega, z.2⟩)
    refine ⟨zI13 (by omega), zI13 (by omega), zI13 (by omega), zI13 (by omega), zI13 (by omega), fun z => ?_, fun z => ⟨zI13 (by omega), fun y => ?_, fun y => ⟨zI13 (by omega), fun h8 e8 => ⟨zI13 (by omega), fun h10 e10 => ?_⟩⟩⟩⟩
    · rw [sn_0] at z
      exact keep (fun w => z (by rw [w.1]; decide))
    · rw [lg_cmp_ge, l_le, er, q3] at y
      exact keep (fun w => by omega)
    · rw [lg_cmp_ge, l_le, er, q3] at y
      have z := sn_0.mp (Decidable.not_not.mp z)
      have z' : sn j = false := by simpa using z
      have R10 : HR n h10 c u v (wr s j (c a j - u a - v j)) (wr cf j at') G sn := by
        rw [e10, e8]
        refine ⟨(Ly.sl _ _ _).si _ _ _, hn, by rw [gi_ne (by omega), gi_sl]; exact e11, fun b k hb k1 k2 => by rw [gl_si, gl_ne (by omega)]; exact rc b k hb k1 k2, fun x hx => ?_⟩
        obtain ⟨t1, t2, t3, t4, t5, t6⟩ := rr x hx
        refine ⟨by rw [gl_si, gl_ne (by omega)]; exact t1, fun w => by rw [gl_si, gl_ne (by omega)]; exact t2 w, ?_, ?_, by rw [gi_ne (by omega), gi_sl]; exact t5, by rw [gi_ne (by omega), gi_sl]; exact t6⟩
        · by_cases w : x = j
          · subst w; rw [gl_si, gl_eq, wr_eq]; exact er
          · rw [gl_si, gl_ne (by omega), wr_ne w]; exact t3
        · by_cases w : x = j
          · subst w; rw [gi_eq, wr_eq]
          · rw [gi_ne (by omega), gi_sl, wr_ne w]; exact t4
      refine Ev.mono (l7 ha bu bc bv m (j + 1) h10 _ _ (by omega) (by omega) R10) (Nat.le_refl _) (fun r h' P => ?_)
      obtain ⟨p1, p2, s', cf', p3, p4⟩ := P
      refine ⟨p1, FH.tr (by rw [e10, e8]; exact ((FH.rf h).sl _ (by omega)).si _ (by omega)) p2, s', cf', p3, fun x hx => ⟨fun y1 y2 y3 => ?_, fun y4 => ?_⟩⟩
      · by_cases w : x = j
        · subst w
          have := (p4 x hx).2 (fun g => by omega)
          rw [wr_eq, wr_eq] at this
          exact this
        · exact (p4 x hx).1 (by omega) y2 (by rw [wr_ne w]; exact y3)
      · have w : ¬ x = j := fun w => by subst w; exact y4 ⟨Nat.le_refl _, z', by omega⟩
        have := (p4 x hx).2 (fun g => y4 ⟨by omega, g.2.1, by have := g.2.2; rw [wr_ne w] at this; exact this⟩)
        rw [wr_ne w, wr_ne w] at this
        exact this
/-- nearest -/
theorem l8 {n d : Nat} {c : Nat → Nat → Int} {u v s : Nat → Int} {cf G : Nat → Nat} {sn : Nat → Bool} {h : AH} (R : HR n h c u v s cf G sn) : ∀ m j b, j + m = n + 1 → 1 ≤ j → ((b = 0 ∧ ∀ x, 1 ≤ x → x < j → sn x = true) ∨ (1 ≤ b ∧ b < j ∧ sn b = false ∧ ∀ x, 1 ≤ x → x < j → sn x = false → s b ≤ s x)) → Ev d 8 4 [.ref 80, .int (zI b), .int (zI j)] [] h (fun r h' => (∃ b', r = some (.int (zI b')) ∧ ((b' = 0 ∧ ∀ x, 1 ≤ x → x < n + 1 → sn x = true) ∨ (1 ≤ b' ∧ b' < n + 1 ∧ sn b' = false ∧ ∀ x, 1 ≤ x → x < n + 1 → sn x = false → s b' ≤ s x))) ∧ h' = h)
  | 0, j, b, e, j1, B => by
    have hn := R.2.1
    have ej : j = n + 1 := by omega
    subst ej
    refine ws8_4 _ _ R.1 ⟨fun _ => ⟨⟨b, rfl, B⟩, rfl⟩, fun z => absurd ?_ z⟩
    rw [R.2.2.1]; exact (zI_lt (by omega) (by omega)).mpr (by omega)
  | m + 1, j, b, e, j1, B => by
    have hn := R.2.1
    obtain ⟨q1, q2, q3, q4, q5, q6⟩ := R.2.2.2.2 j (by omega)
    refine ws8_4 _ _ R.1 ⟨fun z => absurd ?_ (show ¬ n < j by omega), fun _ => ?_⟩
    · rw [R.2.2.1] at z; exact (zI_lt (by omega) (by omega)).mp z
    rw [zI_tn (show j < 2147483648 by omega), zI_succ, q5]
    have bn : b ≤ n := by omega
    refine ⟨zI13 (by omega), fun z => ?_, fun z => ⟨fun y => ?_, fun y => ?_⟩⟩
    · have z : sn j = true := by
        cases w : sn j
        · rw [w] at z; exact absurd rfl z
        · rfl
      refine l8 R m (j + 1) b (by omega) (by omega) (B.imp (fun g => ⟨g.1, fun x h1 h2 => ?_⟩) (fun g => ⟨g.1, by omega, g.2.2.1, fun x h1 h2 h3 => ?_⟩))
      · by_cases w : x = j
        · rw [w]; exact z
        · exact g.2 x h1 (by omega)
      · by_cases w : x = j
        · rw [w, z] at h3; exact absurd h3 (by decide)
        · exact g.2.2.2 x h1 (by omega) h3
    · have z := sn_0.mp (Decidable.not_not.mp z)
      have z' : sn j = false := by simpa using z
      have b0 : b = 0 := (zI_inj (n := 0) (by omega) (by decide)).mp y
      have B1 := B.resolve_right (fun g => by omega)
      refine l8 R m (j + 1) j (by omega) (by omega) (Or.inr ⟨j1, by omega, z', fun x h1 h2 h3 => ?_⟩)
      by_cases w : x = j
      · rw [w]; exact Int.le_refl _
      · have := B1.2 x h1 (by omega); rw [this] at h3; exact absurd h3 (by decide)
    · have z := sn_0.mp (Decidable.not_not.mp z)
      have z' : sn j = false := by simpa using z
      have b0 : ¬ b = 0 := fun w => y (by rw [w]; rfl)
      have B1 := B.resolve_left (fun g => b0 g.1)
      rw [zI_tn (show b < 2147483648 by omega), lg_cmp_ge, l_le, q3, (R.2.2.2.2 b bn).2.2.1]
      refine ⟨zI13 (by omega), zI13 (by omega), fun x => ?_, fun x => ?_⟩
      · refine l8 R m (j + 1) b (by omega) (by omega) (Or.inr ⟨B1.1, by omega, B1.2.2.1, fun w h1 h2 h3 => ?_⟩)
        by_cases g : w = j
        · rw [g]; exact x
        · exact B1.2.2.2 w h1 (by omega) h3
      · refine l8 R m (j + 1) j (by omega) (by omega) (Or.inr ⟨j1, by omega, z', fun w h1 h2 h3 => ?_⟩)
        by_cases g : w = j
        · rw [g]; exact Int.le_refl _
        · have := B1.2.2.2 w h1 (by omega) h3; omega
/-- shift -/
theorem l9 {n d : Nat} {c : Nat → Nat → Int} {cf G : Nat → Nat} {sn : Nat → Bool} {by' : Int64} (Gn : ∀ x, x ≤ n → sn x = true → G x ≤ n) (Gi : ∀ x y, x ≤ n → y ≤ n → sn x = true → sn y = true → G x = G y → x = y) (bb : bd by'.toInt) : ∀ m j h u v s, j + m = n + 1 → (∀ x, j ≤ x → x ≤ n → sn x = true → bd (u (G x)) ∧ bd (v x)) → (∀ x, j ≤ x → x ≤ n → sn x = false → bd (s x)) → HR n h c u v s cf G sn → Ev d 9 2 [.ref 80, .long by', .null, .int (zI j)] [] h (fun r h' => r = none ∧ FH h h' ∧ ∃ u' v' s', HR n h' c u' v' s' cf G sn ∧ (∀ x, j ≤ x → x ≤ n → sn x = true → u' (G x) = u (G x) + by'.toInt) ∧ (∀ a, a ≤ n → (∀ x, j ≤ x → x ≤ n → sn x = true → G x ≠ a) → u' a = u a) ∧ (∀ x, 1 ≤ x → x ≤ n → (j ≤ x → sn x = true → v' x = v x - by'.toInt) ∧ (¬ (j ≤ x ∧ sn x = true) → v' x = v x)) ∧ ∀ x, x ≤ n → (j ≤ x → sn x = false → s' x = s x - by'.toInt) ∧ (¬ (j ≤ x ∧ sn x = false) → s' x = s x))
  | 0, j, h, u, v, s, e, b1, b2, R => by
    have hn := R.2.1
    refine ws9_2 _ _ R.1 ⟨fun _ => ⟨rfl, FH.rf h, u, v, s, R, fun x hx hx2 => absurd hx2 (by omega), fun _ _ _ => rfl, fun x _ hx => ⟨fun y => absurd hx (by omega), fun _ => rfl⟩, fun x hx => ⟨fun y => absurd hx (by omega), fun _ => rfl⟩⟩, fun z => absurd ?_ z⟩
    rw [R.2.2.1]; exact (zI_lt (by omega) (by omega)).mpr (by omega)
  | m + 1, j, h, u, v, s, e, b1, b2, R => by
    have hn := R.2.1
    obtain ⟨Ly, -, e11, rc, rr⟩ := R
    obtain ⟨q1, q2, q3, q4, q5, q6⟩ := rr j (by omega)
    refine ws9_2 _ _ Ly ⟨fun z => absurd ?_ (show ¬ n < j by omega), fun _ => ?_⟩
    · rw [e11] at z; exact (zI_lt (by omega) (by omega)).mp z
    rw [zI_tn (show j < 2147483648 by omega), zI_succ, q5]
    refine ⟨zI13 (by omega), fun z => ⟨zI13 (by omega), zI13 (by omega), fun h4 e4 => ?_⟩, fun z => ?_⟩
    · have z := sn_0.mp z
      have z' : sn j = false := by simpa using z
      have bs := b2 j (Nat.le_refl _) (by omega) z'
      unfold bd at bs bb
      have es : (am_gl h 101 j - by').toInt = s j - by'.toInt := by rw [l_sub (by rw [q3]; omega) (by rw [q3]; omega), q3]
      have R4 : HR n h4 c u v (wr s j (s j - by'.toInt)) cf G sn := by
        rw [e4]
        refine ⟨Ly.sl _ _ _, hn, e11, fun b k hb k1 k2 => by rw [gl_ne (by omega)]; exact rc b k hb k1 k2, fun x hx => ?_⟩
        obtain ⟨t1, t2, t3, t4, t5, t6⟩ := rr x hx
        refine ⟨by rw [gl_ne (by omega)]; exact t1, fun w => by rw [gl_ne (by omega)]; exact t2 w, ?_, t4, t5, t6⟩
        by_cases w : x = j
        · subst w; rw [gl_eq, wr_eq]; exact es
        · rw [gl_ne (by omega), wr_ne w]; exact t3
      refine Ev.mono (l9 Gn Gi bb m (j + 1) h4 u v _ (by omega) (fun x h1 h2 h3 => b1 x (by omega) h2 h3) (fun x h1 h2 h3 => by rw [wr_ne (by omega)]; exact b2 x (by omega) h2 h3) R4) (Nat.le_refl _) (fun r h' P => ?_)
      obtain ⟨p1, p2, u', v', s', p3, p4, p5, p6, p7⟩ := P
      refine ⟨p1, FH.tr (by rw [e4]; exact (FH.rf h).sl _ (by omega)) p2, u', v', s', p3, fun x h1 h2 h3 => ?_, fun a ha g => p5 a ha (fun x h1 h2 h3 => g x (by omega) h2 h3), fun x x1 hx => ⟨fun h1 h2 => ?_, fun g => (p6 x x1 hx).2 (fun y => g ⟨by omega, y.2⟩)⟩, fun x hx => ⟨fun h1 h2 => ?_, fun g => ?_⟩⟩
      · by_cases w : x = j
        · rw [w, z'] at h3; exact absurd h3 (by decide)
        · exact p4 x (by omega) h2 h3
      · by_cases w : x = j
        · rw [w, z'] at h2; exact absurd h2 (by decide)
        · exact (p6 x x1 hx).1 (by omega) h2
      · by_cases w : x = j
        · subst w
          have := (p7 x hx).2 (fun y => by omega)
          rw [wr_eq] at this; exact this
        · have := (p7 x hx).1 (by omega) h2
          rw [wr_ne w] at this; exact this
      · have w : ¬ x = j := fun w => g ⟨by omega, by rw [w]; exact z'⟩
        have := (p7 x hx).2 (fun y => g ⟨by omega, y.2⟩)
        rw [wr_ne w] at this; exact this
    · have z : sn j = true := by
        cases w : sn j
        · rw [w] at z; exact absurd rfl z
        · rfl
      have gn := Gn j (by omega) z
      obtain ⟨bu, bv⟩ := b1 j (Nat.le_refl _) (by omega) z
      unfold bd at bu bv bb
      rw [q6, zI_tn (show G j < 2147483648 by omega)]
      refine ⟨zI13 (by omega), zI13 (by omega), zI13 (by omega), fun h8 e8 => ⟨zI13 (by omega), zI13 (by omega), fun h11 e11' => ?_⟩⟩
      have qu := (rr (G j) gn).1
      have eu : (am_gl h 99 (G j) + by').toInt = u (G j) + by'.toInt := by rw [l_add (by rw [qu]; omega) (by rw [qu]; omega), qu]
      have g8 : am_gl h8 100 j = am_gl h 100 j := by rw [e8, gl_ne (by omega)]
      rw [g8] at e11'
      have ev : 1 ≤ j → (am_gl h 100 j - by').toInt = v j - by'.toInt := fun w => by rw [l_sub (by rw [q2 w]; omega) (by rw [q2 w]; omega), q2 w]
      have R11 : HR n h11 c (wr u (G j) (u (G j) + by'.toInt)) (wr v j (v j - by'.toInt)) s cf G sn := by
        rw [e11', e8]
        refine ⟨(Ly.sl _ _ _).sl _ _ _, hn, e11, fun b k hb k1 k2 => by rw [gl_ne (by omega), gl_ne (by omega)]; exact rc b k hb k1 k2, fun x hx => ?_⟩
        obtain ⟨t1, t2, t3, t4, t5, t6⟩ := rr x hx
        refine ⟨?_, fun w => ?_, by rw [gl_ne (by omega), gl_ne (by omega)]; exact t3, t4, t5, t6⟩
        · by_cases w : x = G j
          · subst w; rw [gl_ne (by omega), gl_eq, wr_eq]; exact eu
          · rw [gl_ne (by omega), gl_ne (by omega), wr_ne w]; exact t1
        · by_cases y : x = j
          · subst y; rw [gl_eq, wr_eq]; exact ev w
          · rw [gl_ne (by omega), gl_ne (by omega), wr_ne y]; exact t2 w
      refine Ev.mono (l9 Gn Gi bb m (j + 1) h11 _ _ s (by omega) (fun x h1 h2 h3 => ?_) (fun x h1 h2 h3 => b2 x (by omega) h2 h3) R11) (Nat.le_refl _) (fun r h' P => ?_)
      · have w : G x ≠ G j := fun w => by have := Gi x j h2 (by omega) h3 z w; omega
        rw [wr_ne w, wr_ne (show x ≠ j by omega)]; exact b1 x (by omega) h2 h3
      obtain ⟨p1, p2, u', v', s', p3, p4, p5, p6, p7⟩ := P
      refine ⟨p1, FH.tr (by rw [e11', e8]; exact ((FH.rf h).sl _ (by omega)).sl _ (by omega)) p2, u', v', s', p3, fun x h1 h2 h3 => ?_, fun a ha g => ?_, fun x x1 hx => ⟨fun h1 h2 => ?_, fun g => ?_⟩, fun x hx => ⟨fun h1 h2 => ?_, fun g => ?_⟩⟩
      · by_cases w : x = j
        · rw [w]
          have := p5 (G j) gn (fun y h1 h2 h3 w' => by have := Gi y j h2 (by omega) h3 z w'; omega)
          rw [wr_eq] at this; exact this
        · have := p4 x (by omega) h2 h3
          rw [wr_ne (fun w' => w (Gi x j h2 (by omega) h3 z w'))] at this; exact this
      · have := p5 a ha (fun x h1 h2 h3 => g x (by omega) h2 h3)
        rw [wr_ne (fun w => g j (Nat.le_refl _) (by omega) z w.symm)] at this; exact this
      · by_cases w : x = j
        · subst w
          have := (p6 x x1 hx).2 (fun y => by omega)
          rw [wr_eq] at this; exact this
        · have := (p6 x x1 hx).1 (by omega) h2
          rw [wr_ne w] at this; exact this
      · have w : ¬ x = j := fun w => g ⟨by omega, by rw [w]; exact z⟩
        have := (p6 x x1 hx).2 (fun y => g ⟨by omega, y.2⟩)
        rw [wr_ne w] at this; exact this
      · by_cases w : x = j
        · rw [w, z] at h2; exact absurd h2 (by decide)
        · exact (p7 x hx).1 (by omega) h2
      · exact (p7 x hx).2 (fun y => g ⟨by omega, y.2⟩)
