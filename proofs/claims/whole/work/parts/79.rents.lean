/-! BEST 3: what the rents are like while one more is seated, without machines -/
/-- before the i-th is seated -/
def IV (n i : Nat) (c : Nat → Nat → Int) (u v : Nat → Int) (G : Nat → Nat) : Prop := (∀ j, 1 ≤ j → j ≤ n → G j < i) ∧ (∀ j k, 1 ≤ j → j ≤ n → 1 ≤ k → k ≤ n → G j = G k → ¬ G j = 0 → j = k) ∧ (∀ a, 1 ≤ a → a < i → ∃ j, 1 ≤ j ∧ j ≤ n ∧ G j = a) ∧ (∀ a j, 1 ≤ a → a < i → 1 ≤ j → j ≤ n → u a + v j ≤ c a j) ∧ (∀ j, 1 ≤ j → j ≤ n → ¬ G j = 0 → u (G j) + v j = c (G j) j) ∧ (∀ j, 1 ≤ j → j ≤ n → v j ≤ 0 ∧ -(((i : Int) - 1) * 10023298085122481) ≤ v j ∧ (G j = 0 → v j = 0)) ∧ ∀ a, i ≤ a → a ≤ n → u a = 0
def cB (n K : Nat) (c : Nat → Nat → Int) : Prop := ∀ a j, 1 ≤ a → a ≤ K → 1 ≤ j → j ≤ n → -23298085122481 ≤ c a j ∧ c a j ≤ 10000000000000000
/-- a home is still free -/
theorem fre {n i : Nat} {G : Nat → Nat} (hi : i ≤ n) (h1 : 1 ≤ i) (g1 : ∀ j, 1 ≤ j → j ≤ n → G j < i) (g2 : ∀ j k, 1 ≤ j → j ≤ n → 1 ≤ k → k ≤ n → G j = G k → ¬ G j = 0 → j = k) : ∃ j, 1 ≤ j ∧ j ≤ n ∧ G j = 0 := by
  by_cases z : ∃ j, 1 ≤ j ∧ j ≤ n ∧ G j = 0
  · exact z
  · exfalso
    have nz : ∀ j, 1 ≤ j → j ≤ n → ¬ G j = 0 := fun j a b e => z ⟨j, a, b, e⟩
    have : inj n (i - 1) (fun j => G (j + 1) - 1) := ⟨fun k hk => by
      have := g1 (k + 1) (by omega) (by omega)
      have := nz (k + 1) (by omega) (by omega)
      show G (k + 1) - 1 < i - 1
      omega, fun a b ha hb e => by
      have e : G (a + 1) - 1 = G (b + 1) - 1 := e
      have x := nz (a + 1) (by omega) (by omega)
      have y := nz (b + 1) (by omega) (by omega)
      have := g2 (a + 1) (b + 1) (by omega) (by omega) (by omega) (by omega) (by omega) x
      omega⟩
    have := pig this
    omega
/-- what holds all the while: i is at place 0 -/
def GB (n i : Nat) (G : Nat → Nat) : Prop := G 0 = i ∧ 1 ≤ i ∧ i ≤ n ∧ (∀ j, 1 ≤ j → j ≤ n → G j < i) ∧ (∀ j k, j ≤ n → k ≤ n → G j = G k → ¬ G j = 0 → j = k) ∧ ∀ a, 1 ≤ a → a < i → ∃ j, 1 ≤ j ∧ j ≤ n ∧ G j = a
def FE (n i : Nat) (c : Nat → Nat → Int) (u v : Nat → Int) (G : Nat → Nat) : Prop := (∀ a j, 1 ≤ a → a < i → 1 ≤ j → j ≤ n → u a + v j ≤ c a j) ∧ (∀ j, 1 ≤ j → j ≤ n → ¬ G j = 0 → u (G j) + v j = c (G j) j) ∧ (∀ j, 1 ≤ j → j ≤ n → v j ≤ 0 ∧ (G j = 0 → v j = 0)) ∧ ∀ a, i < a → a ≤ n → u a = 0
/-- after r looks, at the place at' -/
def ML (n i r at' : Nat) (c : Nat → Nat → Int) (u v s : Nat → Int) (cf G : Nat → Nat) (sn : Nat → Bool) (ord : Nat → Nat) : Prop := (sn 0 = true ∧ 1 ≤ at' ∧ at' ≤ n ∧ sn at' = false ∧ ∀ j, j ≤ n → sn j = true → ¬ G j = 0 ∧ ord j < r) ∧ (∀ j, 1 ≤ j → j ≤ n → u i + v j ≤ c i j) ∧ (-23298085122481 ≤ u i ∧ ∀ j, 1 ≤ j → j ≤ n → -(((i : Int) - 1) * 10023298085122481) - (u i + 23298085122481) ≤ v j) ∧ (∀ j, 1 ≤ j → j ≤ n → sn j = false → 0 ≤ s j ∧ (∀ t, t ≤ n → sn t = true → s j ≤ c (G t) j - u (G t) - v j) ∧ sn (cf j) = true ∧ cf j ≤ n ∧ s j = c (G (cf j)) j - u (G (cf j)) - v j) ∧ s at' = 0 ∧ (∀ j, 1 ≤ j → j ≤ n → sn j = true → sn (cf j) = true ∧ cf j ≤ n ∧ ord (cf j) < ord j ∧ u (G (cf j)) + v j = c (G (cf j)) j) ∧ sI (fun j => if sn j then 1 else 0) (n + 1) = r
theorem ML.ub {n i r at' : Nat} {c : Nat → Nat → Int} {u v s : Nat → Int} {cf G : Nat → Nat} {sn : Nat → Bool} {ord : Nat → Nat} (B : GB n i G) (cb : cB n i c) (F : FE n i c u v G) (M : ML n i r at' c u v s cf G sn ord) : u i ≤ 10000000000000000 := by
  obtain ⟨g0, g1, g2, g3, g4, g5⟩ := B
  obtain ⟨j, j1, j2, j3⟩ := fre g2 g1 g3 (fun j k _ h2 _ h4 => g4 j k h2 h4)
  have nj : sn j = false := by
    cases w : sn j
    · rfl
    · exact absurd j3 (M.1.2.2.2.2 j j2 w).1
  obtain ⟨s0, s1, -⟩ := M.2.2.2.1 j j1 j2 nj
  have := s1 0 (by omega) M.1.1
  rw [g0] at this
  have := (F.2.2.1 j j1 j2).2 j3
  have := (cb i j g1 (Nat.le_refl _) j1 j2).2
  omega
theorem ML.bd {n i r at' : Nat} {c : Nat → Nat → Int} {u v s : Nat → Int} {cf G : Nat → Nat} {sn : Nat → Bool} {ord : Nat → Nat} (hn : n ≤ 12) (B : GB n i G) (cb : cB n i c) (F : FE n i c u v G) (M : ML n i r at' c u v s cf G sn ord) : (∀ j, 1 ≤ j → j ≤ n → -120279577021469772 ≤ v j ∧ v j ≤ 0) ∧ ∀ a, 1 ≤ a → a ≤ i → -23298085122481 ≤ u a ∧ u a ≤ 130279577021469772 := by
  have ub := M.ub B cb F
  obtain ⟨g0, g1, g2, g3, g4, g5⟩ := B
  have vb : ∀ j, 1 ≤ j → j ≤ n → -120279577021469772 ≤ v j ∧ v j ≤ 0 := fun j j1 j2 => by
    have a := M.2.2.1.2 j j1 j2
    have b := (F.2.2.1 j j1 j2).1
    omega
  refine ⟨vb, fun a a1 a2 => ?_⟩
  by_cases z : a = i
  · subst z; have := M.2.2.1.1; omega
  · obtain ⟨j, j1, j2, j3⟩ := g5 a a1 (by omega)
    have q := F.2.1 j j1 j2 (by omega)
    rw [j3] at q
    have := cb a j a1 (by omega) j1 j2
    have := vb j j1 j2
    omega
/-- how many are seen -/
theorem sn_ct {sn : Nat → Bool} {n x : Nat} (hx : x ≤ n) (z : sn x = false) : sI (fun j => if sn j then (1 : Int) else 0) (n + 1) ≤ n := by
  have e : sI (wr (fun j => if sn j then (1 : Int) else 0) x 1) (n + 1) = sI (fun j => if sn j then (1 : Int) else 0) (n + 1) + (if x < n + 1 then wr (fun j => if sn j then (1 : Int) else 0) x 1 x - (if sn x then 1 else 0) else 0) := sI_upd (fun j _ hj => wr_ne hj)
  rw [if_pos (by omega), wr_eq, z] at e
  have := sI_le (f := wr (fun j => if sn j then (1 : Int) else 0) x 1) (g := fun _ => 1) (n := n + 1) (fun j _ => by
    by_cases y : j = x
    · rw [y, wr_eq]; exact Int.le_refl _
    · rw [wr_ne y]; split <;> decide)
  rw [sI_const] at this
  simp only [Bool.false_eq_true, if_false] at e
  omega
theorem sn_s1 {sn : Nat → Bool} {n x : Nat} (hx : x ≤ n) (z : sn x = false) : sI (fun j => if (wr sn x true) j then (1 : Int) else 0) (n + 1) = sI (fun j => if sn j then (1 : Int) else 0) (n + 1) + 1 := by
  have e : sI (fun j => if (wr sn x true) j then (1 : Int) else 0) (n + 1) = sI (fun j => if sn j then (1 : Int) else 0) (n + 1) + (if x < n + 1 then (if (wr sn x true) x then (1 : Int) else 0) - (if sn x then 1 else 0) else 0) := sI_upd (fun j _ hj => by
    show (if (wr sn x true) j then (1 : Int) else 0) = _
    rw [wr_ne hj])
  rw [if_pos (by omega), wr_eq, z] at e
  rw [e]; rfl
/-- one look more -/
theorem ML.st {n i r at' b : Nat} {c : Nat → Nat → Int} {u v s s1 u2 v2 s2 : Nat → Int} {cf cf1 G : Nat → Nat} {sn : Nat → Bool} {ord : Nat → Nat} (B : GB n i G) (F : FE n i c u v G) (M : ML n i r at' c u v s cf G sn ord) (ga : ¬ G at' = 0)
    (L : ∀ x, x ≤ n → (1 ≤ x → (wr sn at' true) x = false → c (G at') x - u (G at') - v x < s x → s1 x = c (G at') x - u (G at') - v x ∧ cf1 x = at') ∧ (¬ (1 ≤ x ∧ (wr sn at' true) x = false ∧ c (G at') x - u (G at') - v x < s x) → s1 x = s x ∧ cf1 x = cf x))
    (N : 1 ≤ b ∧ b < n + 1 ∧ (wr sn at' true) b = false ∧ ∀ x, 1 ≤ x → x < n + 1 → (wr sn at' true) x = false → s1 b ≤ s1 x)
    (U1 : ∀ x, 0 ≤ x → x ≤ n → (wr sn at' true) x = true → u2 (G x) = u (G x) + s1 b) (U2 : ∀ a, a ≤ n → (∀ x, 0 ≤ x → x ≤ n → (wr sn at' true) x = true → G x ≠ a) → u2 a = u a)
    (V : ∀ x, 1 ≤ x → x ≤ n → (0 ≤ x → (wr sn at' true) x = true → v2 x = v x - s1 b) ∧ (¬ (0 ≤ x ∧ (wr sn at' true) x = true) → v2 x = v x))
    (S : ∀ x, x ≤ n → (0 ≤ x → (wr sn at' true) x = false → s2 x = s1 x - s1 b) ∧ (¬ (0 ≤ x ∧ (wr sn at' true) x = false) → s2 x = s1 x)) :
    FE n i c u2 v2 G ∧ ML n i (r + 1) b c u2 v2 s2 cf1 G (wr sn at' true) (wr ord at' r) := by
  obtain ⟨g0, g1, g2, g3, g4, g5⟩ := B
  obtain ⟨f1, f2, f3, f4⟩ := F
  obtain ⟨⟨m1, m2, m3, m4, m5⟩, m6, ⟨m7, m8⟩, m9, m10, m11, m12⟩ := M
  obtain ⟨b1, b2, b3, b4⟩ := N
  have sa : (wr sn at' true) at' = true := wr_eq
  have s0 : (wr sn at' true) 0 = true := by rw [wr_ne (by omega)]; exact m1
  have sm : ∀ x, sn x = true → (wr sn at' true) x = true := fun x hx => by
    by_cases y : x = at'
    · rw [y]; exact sa
    · rw [wr_ne y]; exact hx
  have sf : ∀ x, (wr sn at' true) x = false → sn x = false ∧ x ≠ at' := fun x hx => by
    by_cases y : x = at'
    · rw [y, sa] at hx; exact absurd hx (by decide)
    · rw [wr_ne y] at hx; exact ⟨hx, y⟩
  have st : ∀ x, (wr sn at' true) x = true → sn x = true ∨ x = at' := fun x hx => by
    by_cases y : x = at'
    · exact Or.inr y
    · rw [wr_ne y] at hx; exact Or.inl hx
  have sg : ∀ x, x ≤ n → (wr sn at' true) x = true → ¬ G x = 0 := fun x hx h => (st x h).elim (fun y => (m5 x hx y).1) (fun y => by rw [y]; exact ga)
  have ga1 : G at' < i := g3 at' m2 m3
  have res : ∀ x, 1 ≤ x → x ≤ n → 0 ≤ c (G at') x - u (G at') - v x := fun x x1 x2 => by have := f1 (G at') x (by omega) ga1 x1 x2; omega
  -- the slack behind the look
  have k : ∀ x, 1 ≤ x → x ≤ n → (wr sn at' true) x = false → 0 ≤ s1 x ∧ (∀ t, t ≤ n → (wr sn at' true) t = true → s1 x ≤ c (G t) x - u (G t) - v x) ∧ (wr sn at' true) (cf1 x) = true ∧ cf1 x ≤ n ∧ s1 x = c (G (cf1 x)) x - u (G (cf1 x)) - v x := fun x x1 x2 hx => by
    obtain ⟨h1, h2⟩ := sf x hx
    obtain ⟨k1, k2, k3, k4, k5⟩ := m9 x x1 x2 h1
    have r0 := res x x1 x2
    by_cases y : c (G at') x - u (G at') - v x < s x
    · obtain ⟨l1, l2⟩ := (L x x2).1 x1 hx y
      rw [l1, l2]
      refine ⟨r0, fun t ht h => ?_, sa, m3, rfl⟩
      rcases st t h with w | w
      · have := k2 t ht w; omega
      · rw [w]; exact Int.le_refl _
    · obtain ⟨l1, l2⟩ := (L x x2).2 (fun z => y z.2.2)
      rw [l1, l2]
      refine ⟨k1, fun t ht h => ?_, sm _ k3, k4, k5⟩
      rcases st t h with w | w
      · exact k2 t ht w
      · rw [w]; omega
  have by0 : 0 ≤ s1 b := (k b b1 (by omega) b3).1
  have su : ∀ a, a ≤ n → ((∃ x, x ≤ n ∧ (wr sn at' true) x = true ∧ G x = a) ∧ u2 a = u a + s1 b) ∨ ((∀ x, x ≤ n → (wr sn at' true) x = true → G x ≠ a) ∧ u2 a = u a) := fun a ha => by
    by_cases y : ∃ x, x ≤ n ∧ (wr sn at' true) x = true ∧ G x = a
    · obtain ⟨x, x1, x2, x3⟩ := y
      refine Or.inl ⟨⟨x, x1, x2, x3⟩, ?_⟩
      have := U1 x (by omega) x1 x2
      rw [x3] at this; exact this
    · exact Or.inr ⟨fun x h1 h2 h3 => y ⟨x, h1, h2, h3⟩, U2 a ha (fun x _ h1 h2 h3 => y ⟨x, h1, h2, h3⟩)⟩
  have vs : ∀ x, 1 ≤ x → x ≤ n → ((wr sn at' true) x = true ∧ v2 x = v x - s1 b) ∨ ((wr sn at' true) x = false ∧ v2 x = v x) := fun x x1 x2 => by
    cases w : (wr sn at' true) x
    · exact Or.inr ⟨rfl, (V x x1 x2).2 (fun y => by rw [w] at y; exact absurd y.2 (by decide))⟩
    · exact Or.inl ⟨rfl, (V x x1 x2).1 (by omega) w⟩
  -- all rows fit still
  have fit : ∀ a j, 1 ≤ a → a ≤ i → 1 ≤ j → j ≤ n → u a + v j ≤ c a j → u2 a + v2 j ≤ c a j := fun a j a1 a2 j1 j2 le => by
    rcases su a (by omega) with ⟨⟨x, x1, x2, x3⟩, eu⟩ | ⟨_, eu⟩
    · rcases vs j j1 j2 with ⟨_, ev⟩ | ⟨w, ev⟩
      · rw [eu, ev]; omega
      · have q := (k j j1 j2 w).2.1 x x1 x2
        rw [x3] at q
        have := b4 j j1 (by omega) w
        rw [eu, ev]; omega
    · rcases vs j j1 j2 with ⟨_, ev⟩ | ⟨_, ev⟩ <;> (rw [eu, ev]; omega)
  have ui : u2 i = u i + s1 b := by
    have := U1 0 (by omega) (by omega) s0
    rw [g0] at this; exact this
  refine ⟨⟨fun a j a1 a2 j1 j2 => fit a j a1 (by omega) j1 j2 (f1 a j a1 a2 j1 j2), fun j j1 j2 jz => ?_, fun j j1 j2 => ⟨?_, fun jz => ?_⟩, fun a a1 a2 => ?_⟩, ⟨s0, b1, by omega, b3, fun j hj h => ⟨sg j hj h, ?_⟩⟩, fun j j1 j2 => fit i j g1 (Nat.le_refl _) j1 j2 (m6 j j1 j2), ⟨by omega, fun j j1 j2 => ?_⟩, fun j j1 j2 h => ?_, ?_, fun j j1 j2 h => ?_, ?_⟩
  · have le := f2 j j1 j2 jz
    rcases vs j j1 j2 with ⟨w, ev⟩ | ⟨w, ev⟩
    · rw [U1 j (by omega) j2 w, ev]; omega
    · have nu : u2 (G j) = u (G j) := by
        have := g3 j j1 j2
        refine U2 (G j) (by omega) (fun x _ x1 x2 x3 => ?_)
        have := g4 x j x1 j2 x3 (sg x x1 x2)
        rw [this, w] at x2; exact absurd x2 (by decide)
      rw [nu, ev]; exact le
  · have := (f3 j j1 j2).1
    rcases vs j j1 j2 with ⟨_, ev⟩ | ⟨_, ev⟩ <;> (rw [ev]; omega)
  · rcases vs j j1 j2 with ⟨w, ev⟩ | ⟨w, ev⟩
    · exact absurd jz (sg j j2 w)
    · rw [ev]; exact (f3 j j1 j2).2 jz
  · rw [U2 a a2 (fun x _ x1 x2 x3 => ?_)]
    · exact f4 a a1 a2
    · by_cases y : x = 0
      · rw [y, g0] at x3; omega
      · have := g3 x (by omega) x1; omega
  · by_cases y : j = at'
    · rw [y, wr_eq]; omega
    · rw [wr_ne y]
      have := (m5 j hj ((st j h).resolve_right y)).2
      omega
  · have := m8 j j1 j2
    rcases vs j j1 j2 with ⟨_, ev⟩ | ⟨_, ev⟩ <;> (rw [ev, ui]; omega)
  · obtain ⟨k1, k2, k3, k4, k5⟩ := k j j1 j2 h
    have es := (S j j2).1 (by omega) h
    have ev : v2 j = v j := (V j j1 j2).2 (fun y => by rw [h] at y; exact absurd y.2 (by decide))
    have mb := b4 j j1 (by omega) h
    refine ⟨by rw [es]; omega, fun t ht w => ?_, k3, k4, ?_⟩
    · rw [es, ev, U1 t (by omega) ht w]; have := k2 t ht w; omega
    · rw [es, ev, U1 (cf1 j) (by omega) k4 k3]; omega
  · rw [(S b (by omega)).1 (by omega) b3]; omega
  · have ecf : cf1 j = cf j := ((L j j2).2 (fun y => by rw [h] at y; exact absurd y.2.1 (by decide))).2
    have ev : v2 j = v j - s1 b := (V j j1 j2).1 (by omega) h
    rw [ecf]
    rcases st j h with w | w
    · obtain ⟨q1, q2, q3, q4⟩ := m11 j j1 j2 w
      have nj : j ≠ at' := fun y => by rw [y, m4] at w; exact absurd w (by decide)
      have nc : cf j ≠ at' := fun y => by rw [y, m4] at q1; exact absurd q1 (by decide)
      refine ⟨sm _ q1, q2, by rw [wr_ne nc, wr_ne nj]; exact q3, ?_⟩
      rw [ev, U1 (cf j) (by omega) q2 (sm _ q1)]; omega
    · subst w
      obtain ⟨k1, k2, k3, k4, k5⟩ := m9 j m2 m3 m4
      have nc : cf j ≠ j := fun y => by rw [y, m4] at k3; exact absurd k3 (by decide)
      refine ⟨sm _ k3, k4, ?_, ?_⟩
      · rw [wr_ne nc, wr_eq]; exact (m5 _ k4 k3).2
      · rw [ev, U1 (cf j) (by omega) k4 (sm _ k3)]; omega
  · rw [sn_s1 m3 m4, m12]; omega
/-- the first look -/
theorem ML.s0 {n i b : Nat} {c : Nat → Nat → Int} {u v s s1 u2 v2 s2 : Nat → Int} {cf cf1 G : Nat → Nat} {sn : Nat → Bool} (hn : n ≤ 12) (B : GB n i G) (cb : cB n i c) (F : FE n i c u v G) (ui0 : u i = 0) (vb : ∀ j, 1 ≤ j → j ≤ n → -(((i : Int) - 1) * 10023298085122481) ≤ v j) (sn0 : ∀ x, x ≤ n → sn x = false) (s4 : ∀ x, x ≤ n → s x = 4000000000000000000)
    (L : ∀ x, x ≤ n → (1 ≤ x → (wr sn 0 true) x = false → c (G 0) x - u (G 0) - v x < s x → s1 x = c (G 0) x - u (G 0) - v x ∧ cf1 x = 0) ∧ (¬ (1 ≤ x ∧ (wr sn 0 true) x = false ∧ c (G 0) x - u (G 0) - v x < s x) → s1 x = s x ∧ cf1 x = cf x))
    (N : 1 ≤ b ∧ b < n + 1 ∧ (wr sn 0 true) b = false ∧ ∀ x, 1 ≤ x → x < n + 1 → (wr sn 0 true) x = false → s1 b ≤ s1 x)
    (U1 : ∀ x, 0 ≤ x → x ≤ n → (wr sn 0 true) x = true → u2 (G x) = u (G x) + s1 b) (U2 : ∀ a, a ≤ n → (∀ x, 0 ≤ x → x ≤ n → (wr sn 0 true) x = true → G x ≠ a) → u2 a = u a)
    (V : ∀ x, 1 ≤ x → x ≤ n → (0 ≤ x → (wr sn 0 true) x = true → v2 x = v x - s1 b) ∧ (¬ (0 ≤ x ∧ (wr sn 0 true) x = true) → v2 x = v x))
    (S : ∀ x, x ≤ n → (0 ≤ x → (wr sn 0 true) x = false → s2 x = s1 x - s1 b) ∧ (¬ (0 ≤ x ∧ (wr sn 0 true) x = false) → s2 x = s1 x)) :
    FE n i c u2 v2 G ∧ ML n i 1 b c u2 v2 s2 cf1 G (wr sn 0 true) (fun _ => 0) := by
  obtain ⟨g0, g1, g2, g3, g4, g5⟩ := B
  obtain ⟨f1, f2, f3, f4⟩ := F
  obtain ⟨b1, b2, b3, b4⟩ := N
  have s0 : (wr sn 0 true) 0 = true := wr_eq
  have sf : ∀ x, 1 ≤ x → x ≤ n → (wr sn 0 true) x = false := fun x h1 h2 => by rw [wr_ne (by omega)]; exact sn0 x h2
  have st : ∀ x, x ≤ n → (wr sn 0 true) x = true → x = 0 := fun x hx h => by
    by_cases y : x = 0
    · exact y
    · rw [sf x (by omega) hx] at h; exact absurd h (by decide)
  have k : ∀ x, 1 ≤ x → x ≤ n → s1 x = c i x - v x ∧ cf1 x = 0 := fun x x1 x2 => by
    have q := cb i x g1 (Nat.le_refl _) x1 x2
    have w := vb x x1 x2
    have := (L x x2).1 x1 (sf x x1 x2) (by rw [s4 x x2, g0, ui0]; omega)
    rw [g0, ui0] at this
    exact ⟨by rw [this.1]; omega, this.2⟩
  have ui : u2 i = s1 b := by
    have := U1 0 (by omega) (by omega) s0
    rw [g0, ui0] at this; omega
  have uo : ∀ a, a ≤ n → ¬ a = i → u2 a = u a := fun a ha z => U2 a ha (fun x _ h1 h2 h3 => by rw [st x h1 h2, g0] at h3; exact z h3.symm)
  have vo : ∀ x, 1 ≤ x → x ≤ n → v2 x = v x := fun x x1 x2 => (V x x1 x2).2 (fun y => by rw [sf x x1 x2] at y; exact absurd y.2 (by decide))
  have so : ∀ x, 1 ≤ x → x ≤ n → s2 x = s1 x - s1 b := fun x x1 x2 => (S x x2).1 (by omega) (sf x x1 x2)
  have ml : ∀ x, 1 ≤ x → x ≤ n → s1 b ≤ c i x - v x := fun x x1 x2 => by rw [← (k x x1 x2).1]; exact b4 x x1 (by omega) (sf x x1 x2)
  have bl : -23298085122481 ≤ s1 b := by
    rw [(k b b1 (by omega)).1]
    have := cb i b g1 (Nat.le_refl _) b1 (by omega)
    have := (f3 b b1 (by omega)).1
    omega
  refine ⟨⟨fun a j a1 a2 j1 j2 => by rw [uo a (by omega) (by omega), vo j j1 j2]; exact f1 a j a1 a2 j1 j2, fun j j1 j2 jz => ?_, fun j j1 j2 => by rw [vo j j1 j2]; exact f3 j j1 j2, fun a a1 a2 => by rw [uo a a2 (by omega)]; exact f4 a a1 a2⟩, ⟨s0, b1, by omega, b3, fun j hj h => ?_⟩, fun j j1 j2 => ?_, ⟨by omega, fun j j1 j2 => ?_⟩, fun j j1 j2 h => ?_, ?_, fun j j1 j2 h => ?_, ?_⟩
  · have := g3 j j1 j2
    rw [uo (G j) (by omega) (by omega), vo j j1 j2]; exact f2 j j1 j2 jz
  · rw [st j hj h, g0]; exact ⟨by omega, Nat.zero_lt_one⟩
  · rw [ui, vo j j1 j2]; have := ml j j1 j2; omega
  · rw [vo j j1 j2, ui]; have := vb j j1 j2; omega
  · have := ml j j1 j2
    rw [so j j1 j2, (k j j1 j2).1, (k j j1 j2).2, vo j j1 j2, g0, ui]
    refine ⟨by omega, fun t ht w => ?_, s0, by omega, by omega⟩
    rw [st t ht w, g0, ui]; omega
  · rw [so b b1 (by omega)]; omega
  · rw [st j j2 h] at j1; omega
  · rw [sn_s1 (by omega) (sn0 0 (by omega)), sI_congr (g := fun _ => (0 : Int)) (fun j hj => by rw [sn0 j (by omega)]; rfl), sI_const]
    simp
