/-! CHANGE 1: the rights once those before k have moved, without machines -/
def rk (h : AH) (nr k : Nat) : Nat := (rt h nr (memF h nr k)).toNatClampNeg
def gK (h : AH) (nr : Nat) (fr : Nat → Nat) : Nat → Nat → Nat → Int32
  | 0 => rR h
  | k + 1 => if fr k = ownF h nr k then gK h nr fr k else gAdd (gEnd (gK h nr fr k) (rk h nr k) (am_gi h 216 0)) (nr + cm (ownF h nr) fr k) (rR h 0 (rk h nr k)) (zI (fr k)) (rR h 2 (rk h nr k)) (rR h 3 (rk h nr k)) (am_gi h 216 0) (-1)
theorem cm_s0 {own fr : Nat → Nat} {k : Nat} (h : fr k = own k) : cm own fr (k + 1) = cm own fr k := cnt_s0 (p := fun k => !decide (fr k = own k)) (by rw [decide_eq_true h]; rfl)
theorem cm_s1 {own fr : Nat → Nat} {k : Nat} (h : ¬ fr k = own k) : cm own fr (k + 1) = cm own fr k + 1 := cnt_s1 (p := fun k => !decide (fr k = own k)) (by rw [decide_eq_false h]; rfl)
theorem rk_s {L : Nat} {xs : Nat → Int32} {c : Nat} {h : AH} {nh nm nr na nt nc : Nat} (I : InvN L xs c h nh nm nr na nt nc) {k : Nat} (hk : k < cnt (mayP h nr) nm) : rk h nr k < nr ∧ fMe (rR h) nr (zI (memF h nr k)) (am_gi h 216 0) = zI (rk h nr k) ∧ hoR (rR h) (rk h nr k) (am_gi h 216 0) = true ∧ rR h 2 (rk h nr k) = zI (memF h nr k) ∧ rR h 1 (rk h nr k) = zI (ownF h nr k) := by
  have bm := I.ime.1
  have br := I.iri.1
  obtain ⟨a, b, _⟩ := memF_k (h := h) bm hk
  obtain ⟨r, r1, r2, r3, _, _, r6, r7, _⟩ := mover I b
  have e : rk h nr k = r := by unfold rk; rw [r2, zI_tn (by omega)]
  rw [e]
  exact ⟨r1, r2, r3, r6, r7⟩
theorem rk_i {L : Nat} {xs : Nat → Int32} {c : Nat} {h : AH} {nh nm nr na nt nc : Nat} (I : InvN L xs c h nh nm nr na nt nc) {i j : Nat} (hi : i < cnt (mayP h nr) nm) (hj : j < cnt (mayP h nr) nm) (e : rk h nr i = rk h nr j) : i = j := by
  have bm := I.ime.1
  have a := rk_s I hi
  have b := rk_s I hj
  have m1 := memF_k (h := h) bm hi
  have m2 := memF_k (h := h) bm hj
  rw [e, b.2.2.2.1] at a
  have := (zI_inj (by omega) (by omega)).mp a.2.2.2.1
  rw [← m1.2.2, ← m2.2.2, this]
theorem gK_f {L : Nat} {xs : Nat → Int32} {c : Nat} {h : AH} {nh nm nr na nt nc : Nat} (I : InvN L xs c h nh nm nr na nt nc) (fr : Nat → Nat) : ∀ k, k ≤ cnt (mayP h nr) nm → (∀ i, i < nr → ∀ x, ¬ x = 5 → gK h nr fr k x i = rR h x i) ∧ (∀ i, i < nr → (gK h nr fr k 5 i = rR h 5 i ∧ ∀ j, j < k → ¬ fr j = ownF h nr j → rk h nr j ≠ i) ∨ (gK h nr fr k 5 i = am_gi h 216 0 ∧ ∃ j, j < k ∧ ¬ fr j = ownF h nr j ∧ rk h nr j = i)) ∧ ∀ i, nr ≤ i → i < nr + cm (ownF h nr) fr k → ∃ j, j < k ∧ ¬ fr j = ownF h nr j ∧ i = nr + cm (ownF h nr) fr j ∧ ∀ x, gK h nr fr k x i = gRow (rR h 0 (rk h nr j)) (zI (fr j)) (rR h 2 (rk h nr j)) (rR h 3 (rk h nr j)) (am_gi h 216 0) (-1) x
  | 0, _ => ⟨fun _ _ _ _ => rfl, fun i hi => Or.inl ⟨rfl, fun j hj => absurd hj (by omega)⟩, fun i h1 h2 => absurd h2 (by show ¬ i < nr + 0; omega)⟩
  | k + 1, hk => by
    obtain ⟨a, b, cc⟩ := gK_f I fr k (by omega)
    by_cases z : fr k = ownF h nr k
    · have e : gK h nr fr (k + 1) = gK h nr fr k := if_pos z
      rw [e, cm_s0 z]
      refine ⟨a, fun i hi => (b i hi).imp (fun y => ⟨y.1, fun j hj w => ?_⟩) (fun ⟨y, j, j1, j2⟩ => ⟨y, j, by omega, j2⟩), fun i h1 h2 => ?_⟩
      · by_cases v : j = k
        · rw [v] at w; exact absurd z w
        · exact y.2 j (by omega) w
      · obtain ⟨j, j1, j2⟩ := cc i h1 h2
        exact ⟨j, by omega, j2⟩
    · have e : gK h nr fr (k + 1) = gAdd (gEnd (gK h nr fr k) (rk h nr k) (am_gi h 216 0)) (nr + cm (ownF h nr) fr k) (rR h 0 (rk h nr k)) (zI (fr k)) (rR h 2 (rk h nr k)) (rR h 3 (rk h nr k)) (am_gi h 216 0) (-1) := if_neg z
      have rl := (rk_s I (k := k) (by omega)).1
      rw [e, cm_s1 z]
      refine ⟨fun i hi x hx => ?_, fun i hi => ?_, fun i h1 h2 => ?_⟩
      · rw [gAdd_o (by omega)]; unfold gEnd; rw [if_neg (fun y => hx y.1)]; exact a i hi x hx
      · rw [gAdd_o (by omega)]
        unfold gEnd
        by_cases y : i = rk h nr k
        · rw [if_pos ⟨rfl, y⟩]; exact Or.inr ⟨rfl, k, by omega, z, y.symm⟩
        · rw [if_neg (fun w => y w.2)]
          refine (b i hi).imp (fun w => ⟨w.1, fun j hj v => ?_⟩) (fun ⟨w, j, j1, j2⟩ => ⟨w, j, by omega, j2⟩)
          by_cases u : j = k
          · rw [u]; exact fun t => y t.symm
          · exact w.2 j (by omega) v
      · by_cases y : i = nr + cm (ownF h nr) fr k
        · refine ⟨k, by omega, z, y, fun x => ?_⟩
          rw [y, gAdd_n]
        · obtain ⟨j, j1, j2, j3, j4⟩ := cc i h1 (by omega)
          refine ⟨j, by omega, j2, j3, fun x => ?_⟩
          rw [gAdd_o y]
          unfold gEnd; rw [if_neg (fun w => by omega)]; exact j4 x
/-- each right that is held then, and the one that it comes from -/
theorem gK_h {L : Nat} {xs : Nat → Int32} {c : Nat} {h : AH} {nh nm nr na nt nc : Nat} (I : InvN L xs c h nh nm nr na nt nc) (fr : Nat → Nat) {k : Nat} (hk : k ≤ cnt (mayP h nr) nm) {i : Nat} (hi : i < nr + cm (ownF h nr) fr k) (ho : hoR (gK h nr fr k) i (am_gi h 216 0) = true) : ∃ b, b < nr ∧ hoR (rR h) b (am_gi h 216 0) = true ∧ (∀ w, ofR (gK h nr fr k) i w = ofR (rR h) b w) ∧ ((i = b ∧ (∀ j, j < k → ¬ fr j = ownF h nr j → rk h nr j ≠ b) ∧ gK h nr fr k 1 i = rR h 1 b) ∨ ∃ j, j < k ∧ ¬ fr j = ownF h nr j ∧ b = rk h nr j ∧ i = nr + cm (ownF h nr) fr j ∧ gK h nr fr k 1 i = zI (fr j)) := by
  obtain ⟨a, b, cc⟩ := gK_f I fr k hk
  have d0 := I.ida.2.1
  by_cases z : i < nr
  · rcases b i z with ⟨b1, b2⟩ | ⟨b1, _⟩
    · refine ⟨i, z, ?_, fun w => ofR_congr (a i z 0 (by decide)) (a i z 2 (by decide)) (a i z 3 (by decide)), Or.inl ⟨rfl, b2, a i z 1 (by decide)⟩⟩
      rw [← hoR_congr (a i z 0 (by decide)) (a i z 4 (by decide)) b1]; exact ho
    · exfalso
      rw [hoR_e] at ho
      have o := ho.2
      unfold onR at o
      rw [b1, Bool.and_eq_true, Bool.or_eq_true, decide_eq_true_eq, decide_eq_true_eq, decide_eq_true_eq] at o
      rcases o.2 with o | o
      · rw [o] at d0; exact absurd d0 (by decide)
      · exact Int32.lt_irrefl o
  · obtain ⟨j, j1, j2, j3, j4⟩ := cc i (by omega) hi
    obtain ⟨r1, r2, r3, r4, r5⟩ := rk_s I (k := j) (by omega)
    exact ⟨rk h nr j, r1, r3, fun w => by unfold ofR; rw [j4 0, j4 2, j4 3]; rfl, Or.inr ⟨j, j1, j2, rfl, j3, j4 1⟩⟩
theorem gK_u {L : Nat} {xs : Nat → Int32} {c : Nat} {h : AH} {nh nm nr na nt nc : Nat} (I : InvN L xs c h nh nm nr na nt nc) (fr : Nat → Nat) {k : Nat} (hk : k ≤ cnt (mayP h nr) nm) {i i' : Nat} (hi : i < nr + cm (ownF h nr) fr k) (hi' : i' < nr + cm (ownF h nr) fr k) (ho : hoR (gK h nr fr k) i (am_gi h 216 0) = true) (ho' : hoR (gK h nr fr k) i' (am_gi h 216 0) = true) {w : Int32} (f : ofR (gK h nr fr k) i w = true) (f' : ofR (gK h nr fr k) i' w = true) : i = i' := by
  obtain ⟨b, b1, b2, b3, b4⟩ := gK_h I fr hk hi ho
  obtain ⟨b', c1, c2, c3, c4⟩ := gK_h I fr hk hi' ho'
  rw [b3] at f
  rw [c3] at f'
  have e := I.ix3.2.1 b b' w b1 c1 b2 c2 f f'
  subst e
  rcases b4 with ⟨x1, x2, _⟩ | ⟨j, j1, j2, j3, j4, _⟩
  · rcases c4 with ⟨y1, _⟩ | ⟨j', k1, k2, k3, _⟩
    · rw [x1, y1]
    · exact absurd k3.symm (x2 j' k1 k2)
  · rcases c4 with ⟨y1, y2, _⟩ | ⟨j', k1, k2, k3, k4, _⟩
    · exact absurd j3.symm (y2 j j1 j2)
    · have := rk_i I (by omega) (by omega) (j3.symm.trans k3)
      rw [j4, k4, this]
theorem fst1_1 {p : Nat → Bool} {n j : Nat} (hj : j < n) (h : p j = true) (u : ∀ i, i < n → p i = true → i = j) : fst1 p 0 n = zI j := by
  rcases fst1_spec p n 0 with ⟨_, a⟩ | ⟨k, _, k2, k3, k4, _⟩
  · have := a j (by omega) (by omega)
    rw [h] at this; exact absurd this (by decide)
  · rw [k3, u k (by omega) k4]
/-- who is to move holds still what it held -/
theorem gK_me {L : Nat} {xs : Nat → Int32} {c : Nat} {h : AH} {nh nm nr na nt nc : Nat} (I : InvN L xs c h nh nm nr na nt nc) (fr : Nat → Nat) {k : Nat} (hk : k < cnt (mayP h nr) nm) : fMe (gK h nr fr k) (nr + cm (ownF h nr) fr k) (zI (memF h nr k)) (am_gi h 216 0) = zI (rk h nr k) := by
  obtain ⟨r1, r2, r3, r4, r5⟩ := rk_s I hk
  obtain ⟨a, b, cc⟩ := gK_f I fr k (by omega)
  have b5 : gK h nr fr k 5 (rk h nr k) = rR h 5 (rk h nr k) := by
    rcases b _ r1 with y | ⟨_, j, j1, j2, j3⟩
    · exact y.1
    · have := rk_i I (i := j) (j := k) (by omega) hk j3
      omega
  have h1 : hoR (gK h nr fr k) (rk h nr k) (am_gi h 216 0) = true := by
    rw [hoR_congr (a _ r1 0 (by decide)) (a _ r1 4 (by decide)) b5]; exact r3
  have h2 : ofR (gK h nr fr k) (rk h nr k) (zI (memF h nr k)) = true := by
    rw [ofR_congr (a _ r1 0 (by decide)) (a _ r1 2 (by decide)) (a _ r1 3 (by decide))]
    unfold ofR; rw [r4, decide_eq_true rfl, Bool.true_or]
  unfold fMe
  refine fst1_1 (by omega) (by rw [h1, h2]; rfl) (fun i hi y => ?_)
  rw [Bool.and_eq_true] at y
  exact gK_u I fr (by omega) hi (by omega) y.2 h1 y.1 h2
theorem gK_rv {L : Nat} {xs : Nat → Int32} {c : Nat} {h : AH} {nh nm nr na nt nc : Nat} (I : InvN L xs c h nh nm nr na nt nc) (fr : Nat → Nat) {k : Nat} (hk : k ≤ cnt (mayP h nr) nm) : RV (nr + cm (ownF h nr) fr k) (gK h nr fr k) := fun i hi n => by
  obtain ⟨a, b, cc⟩ := gK_f I fr k hk
  by_cases z : i < nr
  · rw [a i z 0 (by decide)] at n
    rw [a i z 3 (by decide)]; exact I.ix3.rv i z n
  · obtain ⟨j, j1, j2, j3, j4⟩ := cc i (by omega) hi
    obtain ⟨r1, _⟩ := rk_s I (k := j) (by omega)
    rw [j4 0] at n
    rw [j4 3]; exact I.ix3.rv _ r1 n
theorem obit_c {h : AH} {nh nr j : Nat} : ∀ i, obit h nh nr i j = true → (j < nh ∧ fHo (rR h) nr (zI j) (am_gi h 216 0) = -1 ∧ offP h j = false) ∨ ∃ m, m < i ∧ mayP h nr m = true ∧ ownM h nr m = j
  | 0, z => by
    have z : (decide (j < nh) && (decide (fHo (rR h) nr (zI j) (am_gi h 216 0) = -1) && !offP h j)) = true := z
    rw [Bool.and_eq_true, Bool.and_eq_true, decide_eq_true_eq, decide_eq_true_eq] at z
    exact Or.inl ⟨z.1, z.2.1, by simpa using z.2.2⟩
  | i + 1, z => by
    have z : (obit h nh nr i j || (mayP h nr i && decide (ownM h nr i = j))) = true := z
    rw [Bool.or_eq_true, Bool.and_eq_true, decide_eq_true_eq] at z
    rcases z with z | z
    · exact (obit_c i z).imp id (fun ⟨m, m1, m2⟩ => ⟨m, by omega, m2⟩)
    · exact Or.inr ⟨i, by omega, z⟩
/-- all have moved: the rights are as they must be -/
theorem gK_w {L : Nat} {xs : Nat → Int32} {c : Nat} {h : AH} {nh nm nr na nt nc : Nat} (I : InvN L xs c h nh nm nr na nt nc) {fr : Nat → Nat} (R : RS (cnt (mayP h nr) nm) nh (ownF h nr) (alF h nh nm nr) fr) : RW (gK h nr fr (cnt (mayP h nr) nm)) nh nm (nr + cm (ownF h nr) fr (cnt (mayP h nr) nm)) (am_gi h 216 0) ∧ RO (gK h nr fr (cnt (mayP h nr) nm)) (nr + cm (ownF h nr) fr (cnt (mayP h nr) nm)) (am_gi h 216 0) (am_gi h 220) := by
  have bm := I.ime.1
  have bh := I.iho.1
  have br := I.iri.1
  have kl := K_le I
  obtain ⟨a, b, cc⟩ := gK_f I fr _ (Nat.le_refl _)
  have al : ∀ j, j < cnt (mayP h nr) nm → ¬ fr j = ownF h nr j → obit h nh nr nm (fr j) = true := fun j hj z => by
    have := (R.2.1 j hj).resolve_left z
    unfold alF at this; rw [Bool.and_eq_true] at this; exact this.2
  -- where one comes to nobody stays
  have cl : ∀ j, j < cnt (mayP h nr) nm → ¬ fr j = ownF h nr j → ∀ x, x < nr → hoR (rR h) x (am_gi h 216 0) = true → rR h 1 x = zI (fr j) → ∃ j', j' < cnt (mayP h nr) nm ∧ ¬ fr j' = ownF h nr j' ∧ rk h nr j' = x := fun j hj z x hx hox e => by
    have fj := R.1.1 j hj
    rcases obit_c nm (al j hj z) with ⟨_, y, _⟩ | ⟨m, m1, m2, m3⟩
    · exact absurd e (fHo_n y br x hx hox)
    · have kk := cnt_up (mayP h nr) (show m + 1 ≤ nm by omega)
      rw [cnt_s1 m2] at kk
      have me := memF_m (h := h) (nr := nr) (show m < 24 by omega) m2
      have oe : ownF h nr (cnt (mayP h nr) m) = fr j := by unfold ownF; rw [me]; exact m3
      obtain ⟨r1, r2, r3, r4, r5⟩ := rk_s I (k := cnt (mayP h nr) m) (by omega)
      refine ⟨cnt (mayP h nr) m, by omega, fun y => ?_, I.ix3.2.2 _ _ r1 hx r3 hox (by rw [r5, e, oe])⟩
      have := R.1.2 _ _ (by omega) hj (y.trans oe)
      rw [this] at oe; exact z oe.symm
  refine ⟨⟨fun i hi => ?_, fun i j w hi hj h1 h2 h3 h4 => gK_u I fr (Nat.le_refl _) hi hj h1 h2 h3 h4, fun i i' hi hi' h1 h2 e => ?_⟩, fun i hi ho => ?_⟩
  · by_cases z : i < nr
    · rw [a i z 0 (by decide), a i z 1 (by decide), a i z 2 (by decide), a i z 3 (by decide), a i z 4 (by decide)]; exact I.ix3.1 i z
    · obtain ⟨j, j1, j2, j3, j4⟩ := cc i (by omega) hi
      obtain ⟨r1, r2, r3, r4, r5⟩ := rk_s I (k := j) j1
      have q := I.ix3.1 _ r1
      have fj := R.1.1 j j1
      have ez : (zI (fr j)).toInt = fr j := zI_toInt (by omega)
      rw [j4 0, j4 1, j4 2, j4 3, j4 4]
      refine ⟨q.1, ?_, q.2.2.1, q.2.2.2.1, Int32.le_refl _⟩
      show 0 ≤ (zI (fr j)).toInt ∧ (zI (fr j)).toInt < nh
      omega
  · obtain ⟨x, x1, x2, x3, x4⟩ := gK_h I fr (Nat.le_refl _) hi h1
    obtain ⟨y, y1, y2, y3, y4⟩ := gK_h I fr (Nat.le_refl _) hi' h2
    rcases x4 with ⟨u1, u2, u3⟩ | ⟨j, j1, j2, j3, j4, j5⟩
    · rcases y4 with ⟨v1, v2, v3⟩ | ⟨j', k1, k2, k3, k4, k5⟩
      · rw [u3, v3] at e
        rw [u1, v1]; exact I.ix3.2.2 x y x1 y1 x2 y2 e
      · rw [u3, k5] at e
        obtain ⟨j'', l1, l2, l3⟩ := cl j' k1 k2 x x1 x2 e
        exact absurd l3 (u2 j'' l1 l2)
    · rcases y4 with ⟨v1, v2, v3⟩ | ⟨j', k1, k2, k3, k4, k5⟩
      · rw [v3, j5] at e
        obtain ⟨j'', l1, l2, l3⟩ := cl j j1 j2 y y1 y2 e.symm
        exact absurd l3 (v2 j'' l1 l2)
      · rw [j5, k5] at e
        have f1 := R.1.1 j j1
        have f2 := R.1.1 j' k1
        have := R.1.2 j j' j1 k1 ((zI_inj (by omega) (by omega)).mp e)
        rw [j4, k4, this]
  · obtain ⟨x, x1, x2, x3, x4⟩ := gK_h I fr (Nat.le_refl _) hi ho
    rcases x4 with ⟨u1, u2, u3⟩ | ⟨j, j1, j2, j3, j4, j5⟩
    · rw [u3]; exact I.ix4 x x1 x2
    · have fj := R.1.1 j j1
      rw [j5, zI_tn (by omega)]
      rcases obit_c nm (al j j1 j2) with ⟨_, _, y⟩ | ⟨m, m1, m2, m3⟩
      · unfold offP at y; simpa using y
      · obtain ⟨r, r1, r2, r3, _, _, _, r7, r8⟩ := mover I m2
        have := I.ix4 r r1 r3
        rw [r7, zI_tn (by omega), m3] at this; exact this
