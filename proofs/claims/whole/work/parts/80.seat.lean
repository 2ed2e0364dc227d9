/-! BEST 4: one more is seated -/
theorem HR.ly {n : Nat} {h : AH} {c : Nat → Nat → Int} {u v s : Nat → Int} {cf G : Nat → Nat} {sn : Nat → Bool} (R : HR n h c u v s cf G sn) : Lay h := R.1
/-- the way back: x is the place that is left open -/
def AG (n i x q : Nat) (c : Nat → Nat → Int) (u v : Nat → Int) (cf G : Nat → Nat) (sn : Nat → Bool) (ord : Nat → Nat) : Prop := (x ≤ n ∧ q + ord x ≤ n) ∧ (∀ j k, j ≤ n → k ≤ n → j ≠ x → k ≠ x → G j = G k → ¬ G j = 0 → j = k) ∧ (∀ a, 1 ≤ a → a ≤ i → ∃ j, j ≤ n ∧ j ≠ x ∧ G j = a) ∧ (∀ j, j ≤ n → j ≠ x → G j ≤ i) ∧ (∀ j, 1 ≤ j → j ≤ n → j ≠ x → ¬ G j = 0 → u (G j) + v j = c (G j) j) ∧ (∀ j, 1 ≤ j → j ≤ n → j ≠ x → G j = 0 → v j = 0) ∧ ∀ y, 1 ≤ y → y ≤ n → (sn y = true ∨ y = x) → ord y ≤ ord x → sn (cf y) = true ∧ cf y ≤ n ∧ ord (cf y) < ord y ∧ u (G (cf y)) + v y = c (G (cf y)) y ∧ ¬ G (cf y) = 0
theorem AG.st {n i x q : Nat} {c : Nat → Nat → Int} {u v : Nat → Int} {cf G : Nat → Nat} {sn : Nat → Bool} {ord : Nat → Nat} (A : AG n i x q c u v cf G sn ord) (x0 : ¬ x = 0) : cf x ≤ n ∧ AG n i (cf x) (q + 1) c u v cf (wr G x (G (cf x))) sn ord := by
  obtain ⟨⟨a1, a2⟩, a3, a4, a5, a6, a7, a8⟩ := A
  obtain ⟨p1, p2, p3, p4, p5⟩ := a8 x (by omega) a1 (Or.inr rfl) (Nat.le_refl _)
  have ne : cf x ≠ x := fun z => by rw [z] at p3; omega
  refine ⟨p2, ⟨p2, by omega⟩, fun j k hj hk nj nk e z => ?_, fun a h1 h2 => ?_, fun j hj nj => ?_, fun j j1 j2 nj z => ?_, fun j j1 j2 nj z => ?_, fun y y1 y2 h1 h2 => ?_⟩
  · by_cases ej : j = x
    · rw [ej, wr_eq] at e z
      by_cases ek : k = x
      · rw [ej, ek]
      · rw [wr_ne ek] at e
        exact absurd (a3 (cf x) k p2 hk ne ek e z).symm nk
    · rw [wr_ne ej] at e z
      by_cases ek : k = x
      · rw [ek, wr_eq] at e
        exact absurd (a3 j (cf x) hj p2 ej ne e z) nj
      · rw [wr_ne ek] at e
        exact a3 j k hj hk ej ek e z
  · obtain ⟨j, j1, j2, j3⟩ := a4 a h1 h2
    by_cases y : j = cf x
    · exact ⟨x, a1, fun z => ne z.symm, by rw [wr_eq, ← y]; exact j3⟩
    · exact ⟨j, j1, y, by rw [wr_ne j2]; exact j3⟩
  · by_cases ej : j = x
    · rw [ej, wr_eq]; exact a5 _ p2 ne
    · rw [wr_ne ej]; exact a5 j hj ej
  · by_cases ej : j = x
    · rw [ej, wr_eq]; exact p4
    · rw [wr_ne ej] at z ⊢; exact a6 j j1 j2 ej z
  · by_cases ej : j = x
    · rw [ej, wr_eq] at z; exact absurd z p5
    · rw [wr_ne ej] at z; exact a7 j j1 j2 ej z
  · have ny : y ≠ x := fun z => by rw [z] at h2; omega
    have h1' : sn y = true ∨ y = x := h1.elim Or.inl (fun z => Or.inl (by rw [z]; exact p1))
    obtain ⟨r1, r2, r3, r4, r5⟩ := a8 y y1 y2 h1' (by omega)
    have nc : cf y ≠ x := fun z => by rw [z] at r3; omega
    exact ⟨r1, r2, r3, by rw [wr_ne nc]; exact r4, by rw [wr_ne nc]; exact r5⟩
/-- the result of seating -/
def SE (n i : Nat) (c : Nat → Nat → Int) (h h' : AH) : Prop := FH h h' ∧ ∃ u v s cf G sn, HR n h' c u v s cf G sn ∧ IV n (i + 1) c u v G
theorem l6a {n i d : Nat} {c : Nat → Nat → Int} {u v s : Nat → Int} {cf : Nat → Nat} {sn : Nat → Bool} {ord : Nat → Nat} (f1 : ∀ a j, 1 ≤ a → a ≤ i → 1 ≤ j → j ≤ n → u a + v j ≤ c a j) (vb : ∀ j, 1 ≤ j → j ≤ n → v j ≤ 0 ∧ -(((i : Int)) * 10023298085122481) ≤ v j) (u0 : ∀ a, i < a → a ≤ n → u a = 0) : ∀ m q x h G, q + m = n + 1 → HR n h c u v s cf G sn → AG n i x q c u v cf G sn ord → Ev (d + 1) 6 100 [.ref 80, .null, .int (zI x), .int (zI q), .null] [] h (fun r h' => r = none ∧ SE n i c h h')
  | m, q, x, h, G, e, R, A => by
    have hn := R.2.1
    have fin : x = 0 → SE n i c h h := fun z => by
      subst z
      obtain ⟨⟨a1, a2⟩, a3, a4, a5, a6, a7, a8⟩ := A
      refine ⟨FH.rf h, u, v, s, cf, G, sn, R, fun j j1 j2 => by have := a5 j j2 (by omega); omega, fun j k j1 j2 k1 k2 e z => a3 j k j2 k2 (by omega) (by omega) e z, fun a h1 h2 => ?_, fun a j h1 h2 j1 j2 => f1 a j h1 (by omega) j1 j2, fun j j1 j2 z => a6 j j1 j2 (by omega) z, fun j j1 j2 => ⟨(vb j j1 j2).1, by have := (vb j j1 j2).2; omega, a7 j j1 j2 (by omega)⟩, fun a h1 h2 => u0 a (by omega) h2⟩
      obtain ⟨j, j1, j2, j3⟩ := a4 a h1 (by omega)
      exact ⟨j, by omega, j1, j3⟩
    by_cases x0 : x = 0
    · refine ws6_100 _ _ R.1 ⟨fun _ => ⟨rfl, fin x0⟩, fun _ => ⟨fun _ => ⟨rfl, fin x0⟩, fun z => absurd (by rw [x0]; rfl) z⟩⟩
    · obtain ⟨c1, A'⟩ := A.st x0
      have xq := A.1
      obtain ⟨q1, q2, q3, q4, q5, q6⟩ := R.2.2.2.2 x xq.1
      have qc := (R.2.2.2.2 (cf x) c1).2.2.2.2.2
      refine ws6_100 _ _ R.1 ⟨fun z => absurd ?_ (show ¬ n < q by omega), fun _ => ⟨fun z => absurd ((zI_inj (n := 0) (by omega) (by decide)).mp z) x0, fun _ => ?_⟩⟩
      · rw [R.2.2.1] at z; exact (zI_lt (by omega) (by omega)).mp z
      rw [zI_tn (show x < 2147483648 by omega), q4, zI_tn (show cf x < 2147483648 by omega), qc, zI_succ]
      refine ⟨zI13 (by omega), zI13 (by omega), zI13 (by omega), fun h4 e4 => ⟨zI13 (by omega), ?_⟩⟩
      rw [show am_gi h4 102 x = zI (cf x) from by rw [e4, gi_ne (by omega)]; exact q4]
      have R4 : HR n h4 c u v s cf (wr G x (G (cf x))) sn := by
        obtain ⟨Ly, -, e11, rc, rr⟩ := R
        rw [e4]
        refine ⟨Ly.si _ _ _, hn, by rw [gi_ne (by omega)]; exact e11, rc, fun y hy => ?_⟩
        obtain ⟨t1, t2, t3, t4, t5, t6⟩ := rr y hy
        refine ⟨t1, t2, t3, by rw [gi_ne (by omega)]; exact t4, by rw [gi_ne (by omega)]; exact t5, ?_⟩
        by_cases w : y = x
        · subst w; rw [gi_eq, wr_eq]
        · rw [gi_ne (by omega), wr_ne w]; exact t6
      match m, e with
      | 0, e => omega
      | m + 1, e =>
        refine Ev.mono (l6a f1 vb u0 m (q + 1) (cf x) h4 _ (by omega) R4 A') (Nat.le_refl _) (fun r h' P => ⟨P.1, FH.tr ?_ P.2.1, P.2.2⟩)
        rw [e4]; exact (FH.rf h).si _ (by omega)
/-- look, choose, shift: one round of the machine -/
theorem e43 {n i r at' d : Nat} {c : Nat → Nat → Int} {u v s : Nat → Int} {cf G : Nat → Nat} {sn : Nat → Bool} {h : AH} (R : HR n h c u v s cf G sn) (hat : at' ≤ n) (hr : r ≤ n) (ga : ¬ G at' = 0) (gn : ∀ x, x ≤ n → G x ≤ n) (gi : ∀ x y, x ≤ n → y ≤ n → G x = G y → ¬ G x = 0 → x = y) (sg : ∀ x, x ≤ n → sn x = true → ¬ G x = 0) (fr : ∃ x, 1 ≤ x ∧ x ≤ n ∧ (wr sn at' true) x = false)
    (bu : ∀ x, x ≤ n → (wr sn at' true) x = true → bd (u (G x))) (bv : ∀ x, 1 ≤ x → x ≤ n → bd (v x)) (bc : ∀ x, 1 ≤ x → x ≤ n → bd (c (G at') x)) (v0 : bd (v 0))
    (bs : ∀ x, 1 ≤ x → x ≤ n → (wr sn at' true) x = false → bd (c (G at') x - u (G at') - v x) ∧ (bd (s x) ∨ c (G at') x - u (G at') - v x < s x)) (s0 : (wr sn at' true) 0 = true)
    {Q : Option Value → AH → Prop} (K : ∀ (h' : AH) (b : Nat) (s1 : Nat → Int) (cf1 : Nat → Nat) (u2 v2 s2 : Nat → Int), FH h h' → HR n h' c u2 v2 s2 cf1 G (wr sn at' true) →
      (∀ x, x ≤ n → (1 ≤ x → (wr sn at' true) x = false → c (G at') x - u (G at') - v x < s x → s1 x = c (G at') x - u (G at') - v x ∧ cf1 x = at') ∧ (¬ (1 ≤ x ∧ (wr sn at' true) x = false ∧ c (G at') x - u (G at') - v x < s x) → s1 x = s x ∧ cf1 x = cf x)) →
      (1 ≤ b ∧ b < n + 1 ∧ (wr sn at' true) b = false ∧ ∀ x, 1 ≤ x → x < n + 1 → (wr sn at' true) x = false → s1 b ≤ s1 x) →
      (∀ x, 0 ≤ x → x ≤ n → (wr sn at' true) x = true → u2 (G x) = u (G x) + s1 b) → (∀ a, a ≤ n → (∀ x, 0 ≤ x → x ≤ n → (wr sn at' true) x = true → G x ≠ a) → u2 a = u a) →
      (∀ x, 1 ≤ x → x ≤ n → (0 ≤ x → (wr sn at' true) x = true → v2 x = v x - s1 b) ∧ (¬ (0 ≤ x ∧ (wr sn at' true) x = true) → v2 x = v x)) →
      (∀ x, x ≤ n → (0 ≤ x → (wr sn at' true) x = false → s2 x = s1 x - s1 b) ∧ (¬ (0 ≤ x ∧ (wr sn at' true) x = false) → s2 x = s1 x)) →
      Ev (d + 1) 6 43 [.ref 80, .null, .int (zI b), .int (zI (r + 1)), .null] [] h' Q) : Ev (d + 1) 6 43 [.ref 80, .null, .int (zI at'), .int (zI r), .null] [] h Q := by
  have hn := R.2.1
  have q6 := (R.2.2.2.2 at' hat).2.2.2.2.2
  have gat := gn at' hat
  refine ws6_43 _ _ R.1 ⟨fun z => absurd ?_ (show ¬ n < r by omega), fun _ => ?_⟩
  · rw [R.2.2.1] at z; exact (zI_lt (by omega) (by omega)).mp z
  rw [zI_tn (show at' < 2147483648 by omega), q6]
  refine ⟨zI13 (by omega), fun z => absurd ((zI_inj (n := 0) (by omega) (by decide)).mp z) ga, fun _ => ⟨zI13 (by omega), fun h3 e3 => ?_⟩⟩
  have R3 : HR n h3 c u v s cf G (wr sn at' true) := by
    obtain ⟨Ly, -, e11, rc, rr⟩ := R
    rw [e3]
    refine ⟨Ly.si _ _ _, hn, by rw [gi_ne (by omega)]; exact e11, rc, fun y hy => ?_⟩
    obtain ⟨t1, t2, t3, t4, t5, t6⟩ := rr y hy
    refine ⟨t1, t2, t3, by rw [gi_ne (by omega)]; exact t4, ?_, by rw [gi_ne (by omega)]; exact t6⟩
    by_cases w : y = at'
    · subst w; rw [gi_eq, wr_eq]; rfl
    · rw [gi_ne (by omega), wr_ne w]; exact t5
  have F3 : FH h h3 := by rw [e3]; exact (FH.rf h).si _ (by omega)
  have sa : (wr sn at' true) at' = true := wr_eq
  have st : ∀ x, (wr sn at' true) x = true → sn x = true ∨ x = at' := fun x hx => by
    by_cases y : x = at'
    · exact Or.inr y
    · rw [wr_ne y] at hx; exact Or.inl hx
  have sg' : ∀ x, x ≤ n → (wr sn at' true) x = true → ¬ G x = 0 := fun x hx h => (st x h).elim (fun y => sg x hx y) (fun y => by rw [y]; exact ga)
  generalize hsn : wr sn at' true = sn1 at *
  refine Cl.qv (d := 0) (P := fun h' => FH h3 h' ∧ ∃ s' cf', HR n h' c u v s' cf' G sn1 ∧ ∀ x, x ≤ n → (1 ≤ x → sn1 x = false → c (G at') x - u (G at') - v x < s x → s' x = c (G at') x - u (G at') - v x ∧ cf' x = at') ∧ (¬ (1 ≤ x ∧ sn1 x = false ∧ c (G at') x - u (G at') - v x < s x) → s' x = s x ∧ cf' x = cf x)) (ws7 _ R3.1 ?_) (by omega) (fun h4 P => ?_)
  · rw [zI_tn (show at' < 2147483648 by omega), (R3.2.2.2.2 at' hat).2.2.2.2.2]
    exact ⟨zI13 (by omega), l7 (at' := at') gat (bu at' hat sa) bc bv n 1 h3 s cf (by omega) (Nat.le_refl _) R3⟩
  obtain ⟨F4, s1, cf1, R4, L4⟩ := P
  have bs1 : ∀ x, 1 ≤ x → x ≤ n → sn1 x = false → bd (s1 x) := fun x x1 x2 hx => by
    obtain ⟨w1, w2⟩ := bs x x1 x2 hx
    by_cases y : c (G at') x - u (G at') - v x < s x
    · rw [((L4 x x2).1 x1 hx y).1]; exact w1
    · rw [((L4 x x2).2 (fun z => y z.2.2)).1]; exact w2.resolve_right y
  refine ⟨R4.1, ?_⟩
  refine Cl.mono (d := 0) (ws8 R4.1 (l8 R4 n 1 0 (by omega) (Nat.le_refl _) (Or.inl ⟨rfl, fun x h1 h2 => absurd h2 (by omega)⟩))) (by omega) (fun r5 h5 P => ?_)
  obtain ⟨⟨b, eb, B⟩, e5⟩ := P
  rw [e5]
  have B := B.resolve_left (fun g => by
    obtain ⟨x, x1, x2, x3⟩ := fr
    have := g.2 x x1 (by omega); rw [this] at x3; exact absurd x3 (by decide))
  refine ⟨zI b, eb, R4.1, zI13 (by omega), ?_⟩
  rw [zI_tn (show b < 2147483648 by omega)]
  have q3 := (R4.2.2.2.2 b (by omega)).2.2.1
  have bb := bs1 b B.1 (by omega) B.2.2.1
  refine Cl.qv (d := 0) (P := fun h' => FH h4 h' ∧ ∃ u' v' s', HR n h' c u' v' s' cf1 G sn1 ∧ (∀ x, 0 ≤ x → x ≤ n → sn1 x = true → u' (G x) = u (G x) + (am_gl h4 101 b).toInt) ∧ (∀ a, a ≤ n → (∀ x, 0 ≤ x → x ≤ n → sn1 x = true → G x ≠ a) → u' a = u a) ∧ (∀ x, 1 ≤ x → x ≤ n → (0 ≤ x → sn1 x = true → v' x = v x - (am_gl h4 101 b).toInt) ∧ (¬ (0 ≤ x ∧ sn1 x = true) → v' x = v x)) ∧ ∀ x, x ≤ n → (0 ≤ x → sn1 x = false → s' x = s1 x - (am_gl h4 101 b).toInt) ∧ (¬ (0 ≤ x ∧ sn1 x = false) → s' x = s1 x)) (ws9 _ R4.1 (l9 (fun x hx _ => gn x hx) (fun x y hx hy h1 h2 e => gi x y hx hy e (sg' x hx h1)) (by rw [q3]; exact bb) (n + 1) 0 h4 u v s1 (by omega) (fun x _ hx hs => ⟨bu x hx hs, ?_⟩) (fun x _ hx hs => ?_) R4)) (by omega) (fun h6 P => ?_)
  · by_cases y : x = 0
    · rw [y]; exact v0
    · exact bv x (by omega) hx
  · by_cases y : x = 0
    · rw [y, s0] at hs; exact absurd hs (by decide)
    · exact bs1 x (by omega) hx hs
  obtain ⟨F6, u2, v2, s2, R6, U1, U2, V, S⟩ := P
  rw [q3] at U1 V S
  refine ⟨R6.1, ?_⟩
  rw [zI_succ]
  exact K h6 b s1 cf1 u2 v2 s2 (F3.tr (F4.tr F6)) R6 L4 B U1 U2 V S
theorem ML.ct {n i r at' : Nat} {c : Nat → Nat → Int} {u v s : Nat → Int} {cf G : Nat → Nat} {sn : Nat → Bool} {ord : Nat → Nat} (B : GB n i G) (M : ML n i r at' c u v s cf G sn ord) : r ≤ n ∧ ∃ x, 1 ≤ x ∧ x ≤ n ∧ G x = 0 ∧ sn x = false := by
  obtain ⟨g0, g1, g2, g3, g4, g5⟩ := B
  obtain ⟨j, j1, j2, j3⟩ := fre g2 g1 g3 (fun j k _ h2 _ h4 => g4 j k h2 h4)
  have nj : sn j = false := by
    cases w : sn j
    · rfl
    · exact absurd j3 (M.1.2.2.2.2 j j2 w).1
  have := sn_ct j2 nj
  rw [M.2.2.2.2.2.2] at this
  exact ⟨by omega, j, j1, j2, j3, nj⟩
theorem l6m {n i d : Nat} {c : Nat → Nat → Int} {G : Nat → Nat} (hn : n ≤ 12) (B : GB n i G) (cb : cB n i c) : ∀ m r at' h u v s cf sn ord, r + m = n + 1 → HR n h c u v s cf G sn → FE n i c u v G → ML n i r at' c u v s cf G sn ord → Ev (d + 1) 6 43 [.ref 80, .null, .int (zI at'), .int (zI r), .null] [] h (fun r h' => r = none ∧ SE n i c h h')
  | m, r, at', h, u, v, s, cf, sn, ord, e, R, F, M => by
    have B0 := B
    obtain ⟨g0, g1, g2, g3, g4, g5⟩ := B
    obtain ⟨rn, x0, x1, x2, x3, x4⟩ := M.ct B0
    have ub := M.ub B0 cb F
    obtain ⟨vb, ab⟩ := M.bd hn B0 cb F
    have at1 := M.1
    have gn : ∀ x, x ≤ n → G x ≤ n := fun x hx => by
      by_cases y : x = 0
      · rw [y, g0]; exact g2
      · have := g3 x (by omega) hx; omega
    have gi' : ∀ x, x ≤ n → ¬ G x = 0 → 1 ≤ G x ∧ G x ≤ i := fun x hx h => by
      by_cases y : x = 0
      · rw [y, g0]; exact ⟨g1, Nat.le_refl _⟩
      · have := g3 x (by omega) hx; omega
    by_cases ga : G at' = 0
    · -- a free home
      have hr : ¬ zI n < zI r := fun z => absurd ((zI_lt (by omega) (by omega)).mp z) (by omega)
      have q6 := (R.2.2.2.2 at' at1.2.2.1).2.2.2.2.2
      have go : Ev (d + 1) 6 100 [.ref 80, .null, .int (zI at'), .int 0, .null] [] h (fun r h' => r = none ∧ SE n i c h h') := by
        refine l6a (ord := wr ord at' r) (fun a j a1 a2 j1 j2 => ?_) (fun j j1 j2 => ?_) F.2.2.2 (n + 1) 0 at' h G (by omega) R ⟨⟨at1.2.2.1, by rw [wr_eq]; omega⟩, fun j k hj hk _ _ e z => g4 j k hj hk e z, fun a a1 a2 => ?_, fun j hj nj => ?_, fun j j1 j2 _ z => F.2.1 j j1 j2 z, fun j j1 j2 _ z => (F.2.2.1 j j1 j2).2 z, fun y y1 y2 h1 h2 => ?_⟩
        · by_cases z : a = i
          · rw [z]; exact M.2.1 j j1 j2
          · exact F.1 a j a1 (by omega) j1 j2
        · refine ⟨(F.2.2.1 j j1 j2).1, ?_⟩
          have := M.2.2.1.2 j j1 j2
          omega
        · by_cases z : a = i
          · exact ⟨0, by omega, by omega, by rw [z]; exact g0⟩
          · obtain ⟨j, j1, j2, j3⟩ := g5 a a1 (by omega)
            exact ⟨j, j2, fun w => by rw [w, ga] at j3; omega, j3⟩
        · by_cases z : j = 0
          · rw [z, g0]; exact Nat.le_refl _
          · have := g3 j (by omega) hj; omega
        · by_cases z : y = at'
          · subst z
            obtain ⟨k1, k2, k3, k4, k5⟩ := M.2.2.2.1 y y1 y2 at1.2.2.2.1
            have nc : cf y ≠ y := fun w => by rw [w, at1.2.2.2.1] at k3; exact absurd k3 (by decide)
            refine ⟨k3, k4, by rw [wr_ne nc, wr_eq]; exact (at1.2.2.2.2 _ k4 k3).2, ?_, (at1.2.2.2.2 _ k4 k3).1⟩
            have := M.2.2.2.2.1; omega
          · have sy := h1.resolve_right z
            obtain ⟨k1, k2, k3, k4⟩ := M.2.2.2.2.2.1 y y1 y2 sy
            have nc : cf y ≠ at' := fun w => by rw [w, at1.2.2.2.1] at k1; exact absurd k1 (by decide)
            exact ⟨k1, k2, by rw [wr_ne nc, wr_ne z]; exact k3, k4, (at1.2.2.2.2 _ k2 k1).1⟩
      refine ws6_43 _ _ R.1 ⟨fun z => absurd (by rw [R.2.2.1] at z; exact z) hr, fun _ => ⟨zI13 (by omega), fun _ => go, fun z => absurd ?_ z⟩⟩
      rw [zI_tn (by omega), q6, ga]; rfl
    · have fr : ∃ x, 1 ≤ x ∧ x ≤ n ∧ (wr sn at' true) x = false := ⟨x0, x1, x2, by rw [wr_ne (fun w => ga (by rw [← w]; exact x3))]; exact x4⟩
      have sm : ∀ x, (wr sn at' true) x = false → sn x = false := fun x hx => by
        by_cases y : x = at'
        · rw [y, wr_eq] at hx; exact absurd hx (by decide)
        · rw [wr_ne y] at hx; exact hx
      have sg : ∀ x, x ≤ n → (wr sn at' true) x = true → ¬ G x = 0 := fun x hx h => by
        by_cases y : x = at'
        · rw [y]; exact ga
        · rw [wr_ne y] at h; exact (at1.2.2.2.2 x hx h).1
      obtain ⟨ga1, ga2⟩ := gi' at' at1.2.2.1 ga
      match m, e with
      | 0, e => omega
      | m + 1, e =>
        refine e43 (i := i) (c := c) (u := u) (s := s) (cf := cf) (sn := sn) (v := wr v 0 0) ?_ at1.2.2.1 rn ga gn g4 (fun x hx h => (at1.2.2.2.2 x hx h).1) fr (fun x hx h => ?_) (fun x x1 x2 => ?_) (fun x x1 x2 => ?_) ?_ (fun x x1 x2 h => ?_) ?_ (fun h' b s1 cf1 u2 v2 s2 F' R' L' N' U1 U2 V S => ?_)
        · obtain ⟨r1, r2, r3, r4, r5⟩ := R
          refine ⟨r1, r2, r3, r4, fun j hj => ?_⟩
          obtain ⟨t1, t2, t3, t4, t5, t6⟩ := r5 j hj
          exact ⟨t1, fun w => by rw [wr_ne (by omega)]; exact t2 w, t3, t4, t5, t6⟩
        · obtain ⟨q1, q2⟩ := gi' x hx (sg x hx h)
          have := ab (G x) q1 q2; unfold bd; omega
        · rw [wr_ne (by omega)]; have := vb x x1 x2; unfold bd; omega
        · have := cb (G at') x ga1 (by omega) x1 x2; unfold bd; omega
        · rw [wr_eq]; unfold bd; decide
        · rw [wr_ne (by omega)]
          have q1 := cb (G at') x ga1 (by omega) x1 x2
          have q2 := ab (G at') ga1 ga2
          have q3 := vb x x1 x2
          refine ⟨by unfold bd; omega, Or.inl ?_⟩
          obtain ⟨k1, k2, k3, k4, k5⟩ := M.2.2.2.1 x x1 x2 (sm x h)
          obtain ⟨w1, w2⟩ := gi' (cf x) k4 (at1.2.2.2.2 _ k4 k3).1
          have q4 := cb (G (cf x)) x w1 (by omega) x1 x2
          have q5 := ab (G (cf x)) w1 w2
          unfold bd; omega
        · rw [wr_ne (by omega)]; exact at1.1
        · have wv : ∀ x, 1 ≤ x → (wr v 0 0) x = v x := fun x hx => wr_ne (by omega)
          have L2 : ∀ x, x ≤ n → (1 ≤ x → (wr sn at' true) x = false → c (G at') x - u (G at') - v x < s x → s1 x = c (G at') x - u (G at') - v x ∧ cf1 x = at') ∧ (¬ (1 ≤ x ∧ (wr sn at' true) x = false ∧ c (G at') x - u (G at') - v x < s x) → s1 x = s x ∧ cf1 x = cf x) := fun x hx => ⟨fun h1 h2 h3 => by
              have := (L' x hx).1 h1 h2 (by rw [wv x h1]; exact h3)
              rw [wv x h1] at this; exact this, fun h1 => (L' x hx).2 (fun y => h1 ⟨y.1, y.2.1, by have := y.2.2; rw [wv x y.1] at this; exact this⟩)⟩
          have V2 : ∀ x, 1 ≤ x → x ≤ n → (0 ≤ x → (wr sn at' true) x = true → v2 x = v x - s1 b) ∧ (¬ (0 ≤ x ∧ (wr sn at' true) x = true) → v2 x = v x) := fun x h1 h2 => by
            have := V x h1 h2; rw [wv x h1] at this; exact this
          obtain ⟨F2, M2⟩ := M.st B0 F ga L2 N' U1 U2 V2 S
          exact Ev.mono (l6m hn B0 cb m (r + 1) b h' u2 v2 s2 cf1 _ _ (by omega) R' F2 M2) (Nat.le_refl _) (fun r h' P => ⟨P.1, F'.tr P.2.1, P.2.2⟩)
def HQ (n : Nat) (h : AH) (c : Nat → Nat → Int) (u v : Nat → Int) (cf G : Nat → Nat) : Prop := Lay h ∧ n ≤ 12 ∧ am_gi h 80 11 = zI n ∧ (∀ a j, a ≤ n → 1 ≤ j → j ≤ n → (am_gl h (86 + a) j).toInt = c a j) ∧ ∀ j, j ≤ n → (am_gl h 99 j).toInt = u j ∧ (1 ≤ j → (am_gl h 100 j).toInt = v j) ∧ am_gi h 102 j = zI (cf j) ∧ am_gi h 104 j = zI (G j)
theorem HR.q {n : Nat} {h : AH} {c : Nat → Nat → Int} {u v s : Nat → Int} {cf G : Nat → Nat} {sn : Nat → Bool} (R : HR n h c u v s cf G sn) : HQ n h c u v cf G := ⟨R.1, R.2.1, R.2.2.1, R.2.2.2.1, fun j hj => ⟨(R.2.2.2.2 j hj).1, (R.2.2.2.2 j hj).2.1, (R.2.2.2.2 j hj).2.2.2.1, (R.2.2.2.2 j hj).2.2.2.2.2⟩⟩
theorem l6i {n d : Nat} {c : Nat → Nat → Int} {u v : Nat → Int} {cf G : Nat → Nat} {P : AH → Prop} {h0 : AH} (K : ∀ h, FH h0 h → HR n h c u v (fun _ => 4000000000000000000) cf G (fun _ => false) → Ev (d + 1) 6 43 [.ref 80, .null, .int 0, .int 0, .null] [] h (fun r h' => r = none ∧ P h')) : ∀ m j h, j + m = n + 1 → FH h0 h → HQ n h c u v cf G → (∀ x, x < j → (am_gl h 101 x).toInt = 4000000000000000000 ∧ am_gi h 103 x = 0) → Ev (d + 1) 6 9 [.ref 80, .null, .int (zI j), .null, .null] [] h (fun r h' => r = none ∧ P h')
  | 0, j, h, e, F, R, J => by
    have hn := R.2.1
    refine ws6_9 _ R.1 ⟨fun _ => K h F ⟨R.1, R.2.1, R.2.2.1, R.2.2.2.1, fun x hx => ?_⟩, fun z => absurd ?_ z⟩
    · obtain ⟨t1, t2, t3, t4⟩ := R.2.2.2.2 x hx
      exact ⟨t1, t2, (J x (by omega)).1, t3, (J x (by omega)).2, t4⟩
    · rw [R.2.2.1]; exact (zI_lt (by omega) (by omega)).mpr (by omega)
  | m + 1, j, h, e, F, R, J => by
    have hn := R.2.1
    refine ws6_9 _ R.1 ⟨fun z => absurd ?_ (show ¬ n < j by omega), fun _ => ?_⟩
    · rw [R.2.2.1] at z; exact (zI_lt (by omega) (by omega)).mp z
    rw [zI_tn (by omega), zI_succ]
    refine ⟨zI13 (by omega), fun h2 e2 => ⟨zI13 (by omega), fun h4 e4 => ?_⟩⟩
    refine l6i K m (j + 1) h4 (by omega) (by rw [e4, e2]; exact (F.sl _ (by omega)).si _ (by omega)) ?_ (fun x hx => ?_)
    · obtain ⟨Ly, -, e11, rc, rr⟩ := R
      rw [e4, e2]
      refine ⟨(Ly.sl _ _ _).si _ _ _, hn, by rw [gi_ne (by omega)]; exact e11, fun a k ha k1 k2 => by rw [gl_si, gl_ne (by omega)]; exact rc a k ha k1 k2, fun y hy => ?_⟩
      obtain ⟨t1, t2, t3, t4⟩ := rr y hy
      exact ⟨by rw [gl_si, gl_ne (by omega)]; exact t1, fun w => by rw [gl_si, gl_ne (by omega)]; exact t2 w, by rw [gi_ne (by omega)]; exact t3, by rw [gi_ne (by omega)]; exact t4⟩
    · rw [e4, e2]
      by_cases y : x = j
      · subst y; exact ⟨by rw [gl_si, gl_eq]; rfl, gi_eq⟩
      · exact ⟨by rw [gl_si, gl_ne (by omega)]; exact (J x (by omega)).1, by rw [gi_ne (by omega)]; exact (J x (by omega)).2⟩
theorem c6 {n i d : Nat} {c : Nat → Nat → Int} {u v : Nat → Int} {cf G : Nat → Nat} {h : AH} (R : HQ n h c u v cf G) (I : IV n i c u v G) (i1 : 1 ≤ i) (i2 : i ≤ n) (cb : cB n i c) : Cl (d + 1) 6 [.ref 80, .int (zI i)] h (fun r h' => r = none ∧ SE n i c h h') := by
  have hn := R.2.1
  obtain ⟨v1, v2, v3, v4, v5, v6, v7⟩ := I
  refine ws6 _ R.1 ⟨in_zI (i := 0) (by decide) (by decide), fun h2 e2 => ?_⟩
  rw [show (0 : Int32).toNatClampNeg = 0 from rfl] at e2
  have F2 : FH h h2 := by rw [e2]; exact (FH.rf h).si _ (by omega)
  have gs : ∀ j, 1 ≤ j → (wr G 0 i) j = G j := fun j hj => wr_ne (by omega)
  have B : GB n i (wr G 0 i) := by
    refine ⟨wr_eq, i1, i2, fun j j1 j2 => by rw [gs j j1]; exact v1 j j1 j2, fun j k hj hk e z => ?_, fun a a1 a2 => ?_⟩
    · by_cases y : j = 0
      · by_cases x : k = 0
        · rw [y, x]
        · rw [y, wr_eq, gs k (by omega)] at e; have := v1 k (by omega) hk; omega
      · by_cases x : k = 0
        · rw [x, wr_eq, gs j (by omega)] at e; have := v1 j (by omega) hj; omega
        · rw [gs j (by omega)] at e z; rw [gs k (by omega)] at e; exact v2 j k (by omega) hj (by omega) hk e z
    · obtain ⟨j, j1, j2, j3⟩ := v3 a a1 a2
      exact ⟨j, j1, j2, by rw [gs j j1]; exact j3⟩
  have F : FE n i c u v (wr G 0 i) := ⟨v4, fun j j1 j2 z => by rw [gs j j1] at z ⊢; exact v5 j j1 j2 z, fun j j1 j2 => ⟨(v6 j j1 j2).1, fun z => by rw [gs j j1] at z; exact (v6 j j1 j2).2.2 z⟩, fun a a1 a2 => v7 a (by omega) a2⟩
  have R2 : HQ n h2 c u v cf (wr G 0 i) := by
    obtain ⟨Ly, -, e11, rc, rr⟩ := R
    rw [e2]
    refine ⟨Ly.si _ _ _, hn, by rw [gi_ne (by omega)]; exact e11, rc, fun y hy => ?_⟩
    obtain ⟨t1, t2, t3, t4⟩ := rr y hy
    refine ⟨t1, t2, by rw [gi_ne (by omega)]; exact t3, ?_⟩
    by_cases w : y = 0
    · subst w; rw [gi_eq, wr_eq]
    · rw [gi_ne (by omega), wr_ne w]; exact t4
  refine Ev.mono (l6i (P := fun h' => SE n i c h h') (fun h3 F3 R3 => ?_) (n + 1) 0 h2 (by omega) F2 R2 (fun x hx => absurd hx (by omega))) (Nat.le_refl _) (fun r h' q => q)
  have sn0 : ∀ x, 1 ≤ x → (wr (fun _ => false) 0 true : Nat → Bool) x = false := fun x hx => wr_ne (by omega)
  have st : ∀ x, (wr (fun _ => false) 0 true : Nat → Bool) x = true → x = 0 := fun x hx => by
    by_cases y : x = 0
    · exact y
    · rw [sn0 x (by omega)] at hx; exact absurd hx (by decide)
  have ui : u i = 0 := v7 i (Nat.le_refl _) i2
  have g0 : (wr G 0 i) 0 = i := wr_eq
  refine e43 (i := i) (r := 0) (at' := 0) (c := c) (u := u) (s := fun _ => 4000000000000000000) (cf := cf) (sn := fun _ => false) (G := wr G 0 i) (v := wr v 0 0) ?_ (by omega) (by omega) (by rw [g0]; omega) (fun x hx => ?_) B.2.2.2.2.1 (fun x _ h => absurd h (by decide)) ⟨1, by omega, by omega, sn0 1 (by omega)⟩ (fun x hx h => ?_) (fun x x1 x2 => ?_) (fun x x1 x2 => ?_) ?_ (fun x x1 x2 h => ?_) wr_eq (fun h' b s1 cf1 u2 v2' s2 F' R' L' N' U1 U2 V S => ?_)
  · obtain ⟨r1, r2, r3, r4, r5⟩ := R3
    refine ⟨r1, r2, r3, r4, fun j hj => ?_⟩
    obtain ⟨t1, t2, t3, t4, t5, t6⟩ := r5 j hj
    exact ⟨t1, fun w => by rw [wr_ne (by omega)]; exact t2 w, t3, t4, t5, t6⟩
  · by_cases y : x = 0
    · rw [y, g0]; exact i2
    · rw [gs x (by omega)]; have := v1 x (by omega) hx; omega
  · rw [st x h, g0, ui]; unfold bd; decide
  · rw [wr_ne (by omega)]; have := v6 x x1 x2; unfold bd; omega
  · rw [g0]; have := cb i x i1 (Nat.le_refl _) x1 x2; unfold bd; omega
  · rw [wr_eq]; unfold bd; decide
  · rw [g0, wr_ne (show x ≠ 0 by omega), ui]
    have q1 := cb i x i1 (Nat.le_refl _) x1 x2
    have q2 := v6 x x1 x2
    refine ⟨by unfold bd; omega, Or.inr ?_⟩
    show _ < (4000000000000000000 : Int)
    omega
  · have wv : ∀ x, 1 ≤ x → (wr v 0 0) x = v x := fun x hx => wr_ne (by omega)
    have L2 : ∀ x, x ≤ n → (1 ≤ x → (wr (fun _ => false) 0 true : Nat → Bool) x = false → c ((wr G 0 i) 0) x - u ((wr G 0 i) 0) - v x < (fun _ => 4000000000000000000 : Nat → Int) x → s1 x = c ((wr G 0 i) 0) x - u ((wr G 0 i) 0) - v x ∧ cf1 x = 0) ∧ (¬ (1 ≤ x ∧ (wr (fun _ => false) 0 true : Nat → Bool) x = false ∧ c ((wr G 0 i) 0) x - u ((wr G 0 i) 0) - v x < (fun _ => 4000000000000000000 : Nat → Int) x) → s1 x = (fun _ => 4000000000000000000 : Nat → Int) x ∧ cf1 x = cf x) := fun x hx => ⟨fun h1 h2 h3 => by
        have := (L' x hx).1 h1 h2 (by rw [wv x h1]; exact h3)
        rw [wv x h1] at this; exact this, fun h1 => (L' x hx).2 (fun y => h1 ⟨y.1, y.2.1, by have := y.2.2; rw [wv x y.1] at this; exact this⟩)⟩
    have V2 : ∀ x, 1 ≤ x → x ≤ n → (0 ≤ x → (wr (fun _ => false) 0 true : Nat → Bool) x = true → v2' x = v x - s1 b) ∧ (¬ (0 ≤ x ∧ (wr (fun _ => false) 0 true : Nat → Bool) x = true) → v2' x = v x) := fun x h1 h2 => by
      have := V x h1 h2; rw [wv x h1] at this; exact this
    obtain ⟨F2', M2⟩ := ML.s0 (s := fun _ => 4000000000000000000) (sn := fun _ => false) hn B cb F ui (fun j j1 j2 => (v6 j j1 j2).2.1) (fun _ _ => rfl) (fun _ _ => rfl) L2 N' U1 U2 V2 S
    exact Ev.mono (l6m hn B cb n 1 b h' u2 v2' s2 cf1 _ _ (by omega) R' F2' M2) (Nat.le_refl _) (fun r h' P => ⟨P.1, (F3.tr F').tr P.2.1, P.2.2⟩)
