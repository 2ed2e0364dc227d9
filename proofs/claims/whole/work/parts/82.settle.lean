/-! BEST 6: the class settles -/
theorem cnt_sI (p : Nat → Bool) : ∀ n, ((cnt p n : Nat) : Int) = sI (fun j => if p j then 1 else 0) n
  | 0 => rfl
  | n + 1 => by
    show _ = sI (fun j => if p j then 1 else 0) n + (if p n then 1 else 0)
    rw [← cnt_sI p n]
    cases w : p n
    · rw [cnt_s0 w]; simp
    · rw [cnt_s1 w]; simp
theorem cnt_le' (p : Nat → Bool) : ∀ n, cnt p n ≤ n
  | 0 => Nat.le_refl _
  | n + 1 => by
    have := cnt_le' p n
    cases w : p n
    · rw [cnt_s0 w]; omega
    · rw [cnt_s1 w]; omega
def cm (own f : Nat → Nat) (K : Nat) : Nat := cnt (fun k => !decide (f k = own k)) K
theorem cm_s (own f : Nat → Nat) (K : Nat) : ((cm own f K : Nat) : Int) = sI (mvd own f) K := by
  unfold cm
  rw [cnt_sI]
  refine sI_congr (fun k _ => ?_)
  unfold mvd
  by_cases z : f k = own k
  · rw [if_pos z, decide_eq_true z]; rfl
  · rw [if_neg z, decide_eq_false z]; rfl
/-- a home that somebody comes to -/
def ind (own G : Nat → Nat) (j : Nat) : Bool := !decide (G (j + 1) = 0) && !decide (own (G (j + 1) - 1) = j)
theorem ind_i {own G : Nat → Nat} {j : Nat} : ind own G j = true ↔ ¬ G (j + 1) = 0 ∧ ¬ own (G (j + 1) - 1) = j := by
  unfold ind; simp
theorem l10 {n K d : Nat} {own G mem : Nat → Nat} {h0 : AH} (L0 : Lay h0) (hn : n ≤ 12) (hK : K ≤ n) (e11 : am_gi h0 80 11 = zI n) (eo : ∀ k, k < K → own k < n ∧ am_gi h0 83 (k + 1) = zI (own k)) (em : ∀ k, k < K → mem k < 24 ∧ am_gi h0 82 (k + 1) = zI (mem k)) (eG : ∀ j, j < n → am_gi h0 104 (j + 1) = zI (G (j + 1)) ∧ G (j + 1) ≤ K) (gi' : ∀ i j, i < n → j < n → ¬ G (i + 1) = 0 → ¬ G (j + 1) = 0 → mem (G (i + 1) - 1) = mem (G (j + 1) - 1) → i = j) : ∀ m j h, j + m = n → Sm h0 h → (∀ a k, ¬ a = 81 → am_gi h a k = am_gi h0 a k) → (∀ a k, am_gl h a k = am_gl h0 a k) → (∀ i, i < j → ind own G i = true → am_gi h 81 (mem (G (i + 1) - 1)) = zI i) → (∀ x, x < 24 → (∀ i, i < j → ind own G i = true → mem (G (i + 1) - 1) ≠ x) → am_gi h 81 x = -1) → Ev d 10 25 [.ref 80, .int (zI (cnt (ind own G) j)), .int (zI (j + 1)), .null] [] h (fun r h' => r = some (.int (zI (cnt (ind own G) n))) ∧ Sm h0 h' ∧ (∀ a k, ¬ a = 81 → am_gi h' a k = am_gi h0 a k) ∧ (∀ a k, am_gl h' a k = am_gl h0 a k) ∧ (∀ i, i < n → ind own G i = true → am_gi h' 81 (mem (G (i + 1) - 1)) = zI i) ∧ ∀ x, x < 24 → (∀ i, i < n → ind own G i = true → mem (G (i + 1) - 1) ≠ x) → am_gi h' 81 x = -1)
  | 0, j, h, e, S, F, W, J1, J2 => by
    have ej : j = n := by omega
    subst ej
    refine ws10_25 _ _ (S.lay L0) ⟨fun _ => ⟨rfl, S, F, W, J1, J2⟩, fun z => absurd ?_ z⟩
    rw [F _ _ (by omega), e11]; exact (zI_lt (by omega) (by omega)).mpr (by omega)
  | m + 1, j, h, e, S, F, W, J1, J2 => by
    have Ly := S.lay L0
    obtain ⟨g1, g2⟩ := eG j (by omega)
    have ct := cnt_le' (ind own G) j
    refine ws10_25 _ _ Ly ⟨fun z => absurd ?_ (show ¬ n < j + 1 by omega), fun _ => ?_⟩
    · rw [F _ _ (by omega), e11] at z; exact (zI_lt (by omega) (by omega)).mp z
    rw [zI_tn (show j + 1 < 2147483648 by omega), F 104 _ (by omega), g1, zI_tn (show G (j + 1) < 2147483648 by omega), zI_succ, zI_succ, zI_pred]
    have stay : ind own G j = false → Ev d 10 25 [.ref 80, .int (zI (cnt (ind own G) j)), .int (zI (j + 1 + 1)), .null] [] h (fun r h' => r = some (.int (zI (cnt (ind own G) n))) ∧ Sm h0 h' ∧ (∀ a k, ¬ a = 81 → am_gi h' a k = am_gi h0 a k) ∧ (∀ a k, am_gl h' a k = am_gl h0 a k) ∧ (∀ i, i < n → ind own G i = true → am_gi h' 81 (mem (G (i + 1) - 1)) = zI i) ∧ ∀ x, x < 24 → (∀ i, i < n → ind own G i = true → mem (G (i + 1) - 1) ≠ x) → am_gi h' 81 x = -1) := fun z => by
      have q := l10 (d := d) L0 hn hK e11 eo em eG gi' m (j + 1) h (by omega) S F W (fun i hi y => ?_) (fun x hx y => J2 x hx (fun i hi z => y i (by omega) z))
      · rw [cnt_s0 z] at q; exact q
      · by_cases w : i = j
        · rw [w, z] at y; exact absurd y (by decide)
        · exact J1 i (by omega) y
    refine ⟨zI13 (by omega), fun z => ?_, fun z => ⟨zI13 (by omega), fun y => ?_, fun y => ?_⟩⟩
    · have z := (zI_inj (n := 0) (by omega) (by decide)).mp z
      refine stay ?_
      cases w : ind own G j
      · rfl
      · exact absurd z (ind_i.mp w).1
    · have z : ¬ G (j + 1) = 0 := fun w => z (by rw [w]; rfl)
      obtain ⟨o1, o2⟩ := eo (G (j + 1) - 1) (by omega)
      rw [show G (j + 1) - 1 + 1 = G (j + 1) by omega] at o2
      rw [F 83 _ (by omega), o2, zI_inj (by omega) (by omega)] at y
      refine stay ?_
      cases w : ind own G j
      · rfl
      · exact absurd y (ind_i.mp w).2
    · have z : ¬ G (j + 1) = 0 := fun w => z (by rw [w]; rfl)
      obtain ⟨o1, o2⟩ := eo (G (j + 1) - 1) (by omega)
      obtain ⟨m1, m2⟩ := em (G (j + 1) - 1) (by omega)
      rw [show G (j + 1) - 1 + 1 = G (j + 1) by omega] at o2 m2
      rw [F 83 _ (by omega), o2, zI_inj (by omega) (by omega)] at y
      have w : ind own G j = true := ind_i.mpr ⟨z, y⟩
      rw [F 82 _ (by omega), m2, zI_tn (show mem (G (j + 1) - 1) < 2147483648 by omega)]
      refine ⟨zI13 (by omega), in_zI m1 (by decide), fun h5 e5 => ?_⟩
      have q := l10 (d := d) L0 hn hK e11 eo em eG gi' m (j + 1) h5 (by omega) (by rw [e5]; exact S.si _ _ _) (fun a k x => by rw [e5, gi_ne (by omega)]; exact F a k x) (fun a k => by rw [e5, gl_si]; exact W a k) (fun i hi v => ?_) (fun x hx v => ?_)
      · rw [cnt_s1 w] at q; exact q
      · rw [e5]
        by_cases g : i = j
        · subst g; rw [gi_eq]
        · have ne : mem (G (i + 1) - 1) ≠ mem (G (j + 1) - 1) := fun x => g (gi' i j (by omega) (by omega) (ind_i.mp v).1 z x)
          rw [gi_ne (Or.inr ne)]; exact J1 i (by omega) v
      · rw [e5, gi_ne (Or.inr (fun g => v j (by omega) w g.symm))]
        exact J2 x hx (fun i hi g => v i (by omega) g)
theorem l10a {n d : Nat} {h0 : AH} (L0 : Lay h0) {Q : Option Value → AH → Prop} (K : ∀ h, Sm h0 h → (∀ a k, ¬ a = 81 → am_gi h a k = am_gi h0 a k) → (∀ a k, am_gl h a k = am_gl h0 a k) → (∀ x, x < 24 → am_gi h 81 x = -1) → Ev d 10 25 [.ref 80, .int 0, .int 1, .null] [] h Q) : ∀ m i h, i + m = 24 → Sm h0 h → (∀ a k, ¬ a = 81 → am_gi h a k = am_gi h0 a k) → (∀ a k, am_gl h a k = am_gl h0 a k) → (∀ x, x < i → am_gi h 81 x = -1) → Ev d 10 2 [.ref 80, .int (zI i), .null, .null] [] h Q
  | 0, i, h, e, S, F, W, J => by
    have ei : i = 24 := by omega
    subst ei
    exact ws10_2 _ (S.lay L0) ⟨fun _ => K h S F W J, fun z => absurd (by decide) z⟩
  | m + 1, i, h, e, S, F, W, J => by
    refine ws10_2 _ (S.lay L0) ⟨fun z => absurd ((zI_le (m := 24) (by decide) (by omega)).mp z) (by omega), fun _ => ?_⟩
    rw [zI_tn (by omega), zI_succ]
    refine ⟨in_zI (by omega) (by decide), fun h2 e2 => l10a (n := n) L0 K m (i + 1) h2 (by omega) (by rw [e2]; exact S.si _ _ _) (fun a k x => by rw [e2, gi_ne (by omega)]; exact F a k x) (fun a k => by rw [e2, gl_si]; exact W a k) (fun x hx => ?_)⟩
    rw [e2]
    by_cases g : x = i
    · subst g; rw [gi_eq]
    · rw [gi_ne (by omega)]; exact J x (by omega)
/-- what the reference finds, without machines -/
def RS (K n : Nat) (own : Nat → Nat) (al : Nat → Nat → Bool) (fr : Nat → Nat) : Prop := inj K n fr ∧ alo K own al fr ∧ ∀ g, inj K n g → alo K own al g → cst own al fr K ≤ cst own al g K
/-- what the class is left with -/
def GS (n K : Nat) (own mem fr : Nat → Nat) (h h' : AH) : Prop := OC [0] h h' ∧ (∀ k, k < K → am_gi h' 81 (mem k) = if fr k = own k then -1 else zI (fr k)) ∧ ∀ x, x < 24 → (∀ k, k < K → mem k ≠ x) → am_gi h' 81 x = -1
theorem l3s {n K d : Nat} {c : Nat → Nat → Int} (hK : K ≤ n) (cb : ∀ i, i ≤ K → cB n i c) {h0 : AH} {Q : Option Value → AH → Prop} (E12 : ∀ h, FH h0 h → am_gi h 80 12 = zI K) (T : ∀ h, FH h0 h → (∃ u v cf G, HQ n h c u v cf G ∧ IV n (K + 1) c u v G) → Ev (d + 2) 3 43 [.ref 80, .int (zI (K + 1))] [] h Q) : ∀ m i h, i + m = K + 1 → 1 ≤ i → FH h0 h → (∃ u v cf G, HQ n h c u v cf G ∧ IV n i c u v G) → Ev (d + 2) 3 43 [.ref 80, .int (zI i)] [] h Q
  | 0, i, h, e, i1, F, X => by
    have : i = K + 1 := by omega
    subst this; exact T h F X
  | m + 1, i, h, e, i1, F, X => by
    obtain ⟨u, v, cf, G, R, I⟩ := X
    have hn := R.2.1
    refine ws3_43 (d := d + 1) _ R.1 ⟨fun z => absurd ?_ (show ¬ K < i by omega), fun _ => ?_⟩
    · rw [E12 h F] at z; exact (zI_lt (by omega) (by omega)).mp z
    refine Cl.qv (c6 (d := d) R I i1 (by omega) (cb i (by omega))) (Nat.le_refl _) (fun h1 P => ?_)
    obtain ⟨F1, u1, v1, s1, cf1, G1, sn1, R1, I1⟩ := P
    refine ⟨R1.1, ?_⟩
    rw [zI_succ]
    exact l3s hK cb E12 T m (i + 1) h1 (by omega) (by omega) (F.tr F1) ⟨u1, v1, cf1, G1, R1.q, I1⟩
theorem l3i {n d : Nat} {h0 : AH} (L0 : Lay h0) (hn : n ≤ 12) (e11 : am_gi h0 80 11 = zI n) {Q : Option Value → AH → Prop} (K : ∀ h, FH h0 h → (∀ x, x ≤ n → am_gi h 104 x = 0 ∧ am_gl h 100 x = 0 ∧ am_gl h 99 x = 0) → Ev (d + 1) 3 43 [.ref 80, .int 1] [] h Q) : ∀ m j h, j + m = n + 1 → FH h0 h → (∀ x, x < j → am_gi h 104 x = 0 ∧ am_gl h 100 x = 0 ∧ am_gl h 99 x = 0) → Ev (d + 1) 3 6 [.ref 80, .int (zI j)] [] h Q
  | 0, j, h, e, F, J => by
    refine ws3_6 _ (F.1.lay L0) ⟨fun _ => K h F (fun x hx => J x (by omega)), fun z => absurd ?_ z⟩
    rw [F.2.1 _ _ (by omega), e11]; exact (zI_lt (by omega) (by omega)).mpr (by omega)
  | m + 1, j, h, e, F, J => by
    refine ws3_6 _ (F.1.lay L0) ⟨fun z => absurd ?_ (show ¬ n < j by omega), fun _ => ?_⟩
    · rw [F.2.1 _ _ (by omega), e11] at z; exact (zI_lt (by omega) (by omega)).mp z
    rw [zI_tn (by omega), zI_succ]
    refine ⟨zI13 (by omega), fun h2 e2 => ⟨zI13 (by omega), fun h4 e4 => ⟨zI13 (by omega), fun h6 e6 => ?_⟩⟩⟩
    refine l3i L0 hn e11 K m (j + 1) h6 (by omega) (by rw [e6, e4, e2]; exact ((F.si _ (by omega)).sl _ (by omega)).sl _ (by omega)) (fun x hx => ?_)
    rw [e6, e4, e2]
    by_cases g : x = j
    · subst g; exact ⟨by rw [gi_sl, gi_sl, gi_eq], by rw [gl_ne (by omega), gl_eq], by rw [gl_eq]⟩
    · obtain ⟨t1, t2, t3⟩ := J x (by omega)
      exact ⟨by rw [gi_sl, gi_sl, gi_ne (by omega)]; exact t1, by rw [gl_ne (by omega), gl_ne (by omega), gl_si]; exact t2, by rw [gl_ne (by omega), gl_ne (by omega), gl_si]; exact t3⟩
theorem c3 {n K : Nat} {own mem fr : Nat → Nat} {al : Nat → Nat → Bool} {h : AH} (P : PD n K own al h) (em : ∀ k, k < K → mem k < 24 ∧ am_gi h 82 (k + 1) = zI (mem k)) (mi : ∀ i j, i < K → j < K → mem i = mem j → i = j) (ow : inj K n own) (R : RS K n own al fr) : Cl 4 3 [.ref 80] h (fun r h' => r = some (.int (zI (cm own fr K))) ∧ GS n K own mem fr h h') := by
  have P0 := P
  obtain ⟨Ly, hn, hK, e11, e12, po, pa⟩ := P
  refine ws3 (d := 3) Ly (Cl.qv (P := fun h' => FP h h' ∧ ∀ b j, b < K → j < n → (am_gl h' (86 + (b + 1)) (j + 1)).toInt = pri own al b j) (ws4 (d := 1) Ly (l4 P0 K 0 h 1792160394037 (by omega) (FP.rf h) (fun _ => by decide) (fun b j hb => absurd hb (by omega)))) (by decide) (fun h1 q => ?_))
  obtain ⟨F1, pr1⟩ := q
  have L1 := F1.1.lay Ly
  have g1 := F1.2.1
  refine ⟨L1, l3i (d := 3) L1 hn (by rw [g1]; exact e11) (fun h2 F2 Z2 => ?_) (n + 1) 0 h1 (by omega) (FH.rf h1) (fun x hx => absurd hx (by omega))⟩
  have z64 : (0 : Int64).toInt = 0 := rfl
  have L2 := F2.1.lay L1
  have pc : ∀ a j, am_gl h2 (86 + a) j = am_gl h2 (86 + a) j := fun _ _ => rfl
  have ec : ∀ b j, b < K → j < n → (am_gl h2 (86 + (b + 1)) (j + 1)).toInt = pri own al b j := fun b j hb hj => by rw [F2.2.2 _ _ (by omega)]; exact pr1 b j hb hj
  have Hq : HQ n h2 (fun a j => (am_gl h2 (86 + a) j).toInt) (fun _ => 0) (fun _ => 0) (fun j => Classical.choose (zI_all (am_gi h2 102 j))) (fun _ => 0) := ⟨L2, hn, by rw [F2.2.1 _ _ (by omega), g1]; exact e11, fun a j _ _ _ => rfl, fun j hj => ⟨by rw [(Z2 j hj).2.2]; rfl, fun _ => by rw [(Z2 j hj).2.1]; rfl, Classical.choose_spec (zI_all (am_gi h2 102 j)), (Z2 j hj).1⟩⟩
  have I1 : IV n 1 (fun a j => (am_gl h2 (86 + a) j).toInt) (fun _ => 0) (fun _ => 0) (fun _ => 0) := ⟨fun _ _ _ => Nat.zero_lt_one, fun _ _ _ _ _ _ _ z => absurd rfl z, fun a a1 a2 => absurd a2 (by omega), fun a j a1 a2 => absurd a2 (by omega), fun _ _ _ z => absurd rfl z, fun _ _ _ => ⟨Int.le_refl _, by show -((((1 : Nat) : Int) - 1) * 10023298085122481) ≤ (0 : Int); decide, fun _ => rfl⟩, fun _ _ _ => rfl⟩
  refine l3s (d := 2) (c := fun a j => (am_gl h2 (86 + a) j).toInt) hK (fun i hi => cB_p hn hK ec hi) (h0 := h2) (fun h3 F3 => by rw [F3.2.1 _ _ (by omega), F2.2.1 _ _ (by omega), g1]; exact e12) (fun h3 F3 X => ?_) K 1 h2 (by omega) (Nat.le_refl _) (FH.rf h2) ⟨_, _, _, _, Hq, I1⟩
  obtain ⟨u, v, cf, G, R3, I3⟩ := X
  have O3 : OC [0] h h3 := (F1.oc.tr F2.oc).tr F3.oc
  have L3 := R3.1
  have g3 : ∀ a k, ¬ (102 ≤ a ∧ a ≤ 104) → am_gi h3 a k = am_gi h a k := fun a k z => by rw [F3.2.1 _ _ z, F2.2.1 _ _ z, g1]
  obtain ⟨f, fi, fG, fb, fm⟩ := I3.f
  have cc : ∀ g, inj K n g → cst own al g K = sI (fun k => (am_gl h2 (86 + (k + 1)) (g k + 1)).toInt) K := fun g hg => (sI_congr (fun k hk => ec k (g k) hk (hg.1 k hk))).symm
  have fmin : ∀ g, inj K n g → cst own al f K ≤ cst own al g K := fun g hg => by rw [cc f fi, cc g hg]; exact fm g hg
  have fa : alo K own al f := cst_f (by omega) hn ow fmin
  have eq : ∀ k, k < K → f k = fr k := cst_u (by omega) hn fi R.1 fa R.2.1 (Int.le_antisymm (fmin fr R.1) (R.2.2 f fi fa))
  refine ws3_43 (d := 3) _ L3 ⟨fun _ => ?_, fun z => absurd ?_ z⟩
  · refine Cl.qi (P := fun h' => GS n K own mem fr h h') (v := zI (cm own fr K)) (d := 0) ?_ (by decide) (fun h5 q => ⟨q.1.lay Ly, rfl, q⟩)
    refine ws10 L3 (l10a (n := n) L3 (fun h4 S4 F4 W4 J4 => ?_) 24 0 h3 (by decide) (Sm.rfl' _) (fun _ _ _ => rfl) (fun _ _ => rfl) (fun x hx => absurd hx (by omega)))
    have eG : ∀ j, j < n → am_gi h4 104 (j + 1) = zI (G (j + 1)) ∧ G (j + 1) ≤ K := fun j hj => by
      rw [F4 _ _ (by omega)]
      exact ⟨(R3.2.2.2.2 (j + 1) (by omega)).2.2.2, by have := I3.1 (j + 1) (by omega) (by omega); omega⟩
    refine Ev.mono (l10 (d := 0) (own := own) (G := G) (mem := mem) (S4.lay L3) hn hK (by rw [F4 _ _ (by omega), g3 _ _ (by omega)]; exact e11) (fun k hk => by rw [F4 _ _ (by omega), g3 _ _ (by omega)]; exact po k hk) (fun k hk => by rw [F4 _ _ (by omega), g3 _ _ (by omega)]; exact em k hk) eG (fun i j hi hj zi zj e => ?_) n 0 h4 (by omega) (Sm.rfl' _) (fun _ _ _ => rfl) (fun _ _ => rfl) (fun i hi => absurd hi (by omega)) (fun x hx _ => J4 x hx)) (Nat.le_refl _) (fun r h5 q => ?_)
    · have a := fb i hi zi
      have b := fb j hj zj
      have := mi (G (i + 1) - 1) (G (j + 1) - 1) (by omega) (by omega) e
      rw [← a.2, ← b.2, this]
    · obtain ⟨q1, q2, q3, q4, q5, q6⟩ := q
      have iv : ∀ k, k < K → (ind own G (f k) = true ↔ ¬ f k = own k) := fun k hk => by
        rw [ind_i, fG k hk, show k + 1 - 1 = k by omega]
        exact ⟨fun z y => z.2 y.symm, fun z => ⟨by omega, fun y => z y.symm⟩⟩
      refine ⟨?_, ?_, fun k hk => ?_, fun x hx z => ?_⟩
      · rw [q1]
        have : cnt (ind own G) n = cm own fr K := by
          have a := cnt_sI (ind own G) n
          have b := sI_onto K f (fun j => if ind own G j then 1 else 0) fi (fun j hj z => by
            show (if ind own G j then (1 : Int) else 0) = 0
            cases w : ind own G j
            · rfl
            · exfalso
              have y := (ind_i.mp w).1
              have := fb j hj y
              exact z (G (j + 1) - 1) (by omega) this.2)
          have d := cm_s own fr K
          have e : sI (fun k => if ind own G (f k) then (1 : Int) else 0) K = sI (mvd own fr) K := sI_congr (fun k hk => by
            have := iv k hk
            unfold mvd
            rw [← eq k hk]
            by_cases y : f k = own k
            · rw [if_pos y, if_neg (fun w => this.mp w y)]
            · rw [if_neg y, if_pos (this.mpr y)])
          have b' : sI (fun j => if ind own G j then (1 : Int) else 0) n = sI (fun k => if ind own G (f k) then (1 : Int) else 0) K := b
          omega
        rw [this]
      · refine ⟨O3.1.trans (S4.trans q2), fun a k z => ⟨?_, ?_⟩⟩
        · have n81 : ¬ a = 81 := fun y => by
            rcases z with z | z
            · omega
            · rw [tp_80 (by omega)] at z; exact z (List.mem_singleton.mpr rfl)
          rw [q3 a k n81, F4 a k n81]; exact (O3.2 a k z).1
        · rw [q4 a k, W4 a k]; exact (O3.2 a k z).2
      · by_cases y : f k = own k
        · rw [← eq k hk, if_pos y]
          refine q6 _ (em k hk).1 (fun i hi w e => ?_)
          have z := (ind_i.mp w).1
          have bi := fb i hi z
          have := mi (G (i + 1) - 1) k (by omega) hk e
          have fk : f k = i := by rw [← this]; exact bi.2
          rw [← fk] at w
          exact (iv k hk).mp w y
        · rw [← eq k hk, if_neg y]
          have := q5 (f k) (fi.1 k hk) ((iv k hk).mpr y)
          rw [fG k hk, show k + 1 - 1 = k by omega] at this
          exact this
      · refine q6 x hx (fun i hi w e => ?_)
        have y := (ind_i.mp w).1
        have bi := fb i hi y
        exact z (G (i + 1) - 1) (by omega) e
  · rw [g3 _ _ (by omega), e12]; exact (zI_lt (by omega) (by omega)).mpr (by omega)
