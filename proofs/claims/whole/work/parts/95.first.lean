/-! BUILDING 6: both are built -/
theorem kfL : ∀ q ∈ ly_T, 6 ≤ q.1 ∧ ¬ q.1 = 214 ∧ ¬ q.1 = 215 ∧ q.1 < 263 ∧ kdF q.1 = q.2.1 ∧ lnF q.1 = q.2.2 := by decide +kernel
theorem rfL : ∀ q ∈ ly_R, ((q.1 < 216 ∧ (q.1, q.2.1) ∈ tA) ∨ (q.1 = 216 ∧ q.2.1 ∈ tM)) ∧ rfF q.1 q.2.1 = some q.2.2 := by decide +kernel
theorem kfN : (∀ i, i < 12 → kdF (112 + i) = 2) ∧ (∀ i, i < 24 → kdF (124 + i) = 3) ∧ (∀ i, i < 60 → kdF (11 + i) = 7) ∧ (∀ i, i < 12 → kdF (148 + 4 * i) = 9) ∧ (∀ i, i < 12 → kdF (151 + 4 * i) = 100 ∧ lnF (151 + 4 * i) = 5) ∧ (∀ i, i < 6 → kdF (196 + 3 * i) = 10) ∧ (∀ i, i < 6 → kdF (198 + 3 * i) = 101 ∧ lnF (198 + 3 * i) = 24) ∧ ∀ i, i < 13 → kdF (86 + i) = 101 ∧ lnF (86 + i) = 13 := by decide +kernel
theorem rfN : (∀ i, i < 12 → rfF 7 i = some (112 + i)) ∧ (∀ i, i < 24 → rfF 8 i = some (124 + i)) ∧ (∀ i, i < 60 → rfF 10 i = some (11 + i)) ∧ (∀ i, i < 12 → rfF 78 i = some (148 + 4 * i)) ∧ (∀ i, i < 6 → rfF 111 i = some (196 + 3 * i)) ∧ (∀ i, i < 13 → rfF 85 i = some (86 + i)) ∧ (∀ i, i < 12 → rfF (148 + 4 * i) 2 = some (151 + 4 * i)) ∧ ∀ i, i < 6 → rfF (196 + 3 * i) 4 = some (198 + 3 * i) := by decide +kernel
theorem ly0 {L : Nat} {xs : Nat → Int32} {pp : Nat → Nat} {m : Nat} {op w : Nat → Int32} {h1 h : AH} {N : Nat} (C : CFn L xs pp m op w h1) (B : BJ h1 263 N tM 42 85 1 h) : Lay h := by
  have K : ∀ a, 6 ≤ a → ¬ a = 214 → ¬ a = 215 → a < 263 → am_kd h a = kdF a ∧ am_ln h a = lnF a := fun a g1 g2 g3 g4 => by
    by_cases y : a < 216
    · rw [(B.2.1 a y).1, (B.2.1 a y).2.1]; exact C.2.2.1 a g1 (by omega)
    · exact B.2.2.1 a (by omega) g4
  have G : ∀ a k, a < 216 → stL tA (fB 12 24 12 6) a k → am_gr h a k = rfF a k := fun a k g s => by
    rw [((B.2.1 a g).2.2 k).2.1]; exact C.2.2.2.1 a k s
  have F : ∀ a k, a < 216 → fB 12 24 12 6 a k → am_gr h a k = rfF a k := fun a k g s => G a k g (Or.inr s)
  refine ⟨Nat.le_of_eq B.1.1.symm, fun q hq => ?_, fun q hq => ?_, ⟨fun i hi => ?_, fun i hi => ?_, fun i hi => ?_, fun i hi => ?_, fun i hi => ?_, fun i hi => ?_, fun i hi => ?_, fun i hi => ?_⟩, ⟨fun i hi => ?_, fun i hi => ?_, fun i hi => ?_, fun i hi => ?_, fun i hi => ?_, fun i hi => ?_⟩, fun i hi => ?_, fun i hi => ?_⟩
  · obtain ⟨g1, g2, g3, g4, g5, g6⟩ := kfL q hq
    rw [(K _ g1 g2 g3 g4).1, (K _ g1 g2 g3 g4).2]; exact ⟨g5, g6⟩
  · obtain ⟨g1, g2⟩ := rfL q hq
    rw [← g2]
    rcases g1 with g1 | g1
    · exact G _ _ g1.1 (Or.inl g1.2)
    · rw [g1.1]; exact B.2.2.2.1 _ g1.2
  · rw [(K _ (by omega) (by omega) (by omega) (by omega)).1]; exact kfN.1 i hi
  · rw [(K _ (by omega) (by omega) (by omega) (by omega)).1]; exact kfN.2.1 i hi
  · rw [(K _ (by omega) (by omega) (by omega) (by omega)).1]; exact kfN.2.2.1 i hi
  · rw [(K _ (by omega) (by omega) (by omega) (by omega)).1]; exact kfN.2.2.2.1 i hi
  · rw [(K (151 + 4 * i) (by omega) (by omega) (by omega) (by omega)).1, (K (151 + 4 * i) (by omega) (by omega) (by omega) (by omega)).2]; exact kfN.2.2.2.2.1 i hi
  · rw [(K _ (by omega) (by omega) (by omega) (by omega)).1]; exact kfN.2.2.2.2.2.1 i hi
  · rw [(K (198 + 3 * i) (by omega) (by omega) (by omega) (by omega)).1, (K (198 + 3 * i) (by omega) (by omega) (by omega) (by omega)).2]; exact kfN.2.2.2.2.2.2.1 i hi
  · rw [(K (86 + i) (by omega) (by omega) (by omega) (by omega)).1, (K (86 + i) (by omega) (by omega) (by omega) (by omega)).2]; exact kfN.2.2.2.2.2.2.2 i hi
  · rw [F _ _ (by omega) (by unfold fB f85; omega)]; exact rfN.1 i hi
  · rw [F _ _ (by omega) (by unfold fB f85; omega)]; exact rfN.2.1 i hi
  · rw [F _ _ (by omega) (by unfold fB f85; omega)]; exact rfN.2.2.1 i hi
  · rw [F _ _ (by omega) (by unfold fB f85; omega)]; exact rfN.2.2.2.1 i hi
  · rw [F _ _ (by omega) (by unfold fB f85; omega)]; exact rfN.2.2.2.2.1 i hi
  · rw [F _ _ (by omega) (by unfold fB f85; omega)]; exact rfN.2.2.2.2.2.1 i hi
  · rw [F _ _ (by omega) (by unfold fB f85; omega)]; exact rfN.2.2.2.2.2.2.1 i hi
  · rw [F _ _ (by omega) (by unfold fB f85; omega)]; exact rfN.2.2.2.2.2.2.2 i hi
/-- i bytes of the first text are copied -/
def CPy (h2 : AH) (i : Nat) (h : AH) : Prop := Sm h2 h ∧ (∀ a k, ¬ (a = 236 ∧ k < i) → am_gi h a k = am_gi h2 a k) ∧ (∀ a k, am_gl h a k = am_gl h2 a k) ∧ ∀ k, k < i → am_gi h 236 k = am_at am_by0 k
theorem lCp {d : Nat} {h2 : AH} (L2 : Lay h2) (f : ∀ k, k < 42 → am_gi h2 253 k = am_at am_by0 k) {Q : Option Value → AH → Prop} (K : ∀ h, CPy h2 42 h → Ev (d + 1) 166 1121 [.ref 216, .int (zI 42)] [] h Q) : ∀ m i h, i + m = 42 → CPy h2 i h → Ev (d + 1) 166 1121 [.ref 216, .int (zI i)] [] h Q
  | 0, i, h, e, A => by
    have ei : i = 42 := by omega
    subst ei
    exact K h A
  | m + 1, i, h, e, A => by
    obtain ⟨S, F, W, J⟩ := A
    have Lh := S.lay L2
    refine wp166_1121 _ _ ⟨lk216 Lh, 253, lr216_48 Lh, by rw [lk253 Lh]; decide, fun z => absurd ?_ (show ¬ 42 ≤ i by omega), fun _ => ⟨lk216 Lh, 236, lr216_25 Lh, lk216 Lh, 253, lr216_48 Lh, lk253 Lh, by rw [ln253 Lh]; exact in_zI (by omega) (by decide), ⟨lk236 Lh, by decide⟩, by rw [ln236 Lh]; exact in_zI (by omega) (by decide), fun h44 e44 => ?_⟩⟩
    · rw [ln253 Lh] at z; exact (zI_le (m := 42) (by decide) (by omega)).mp z
    · rw [zI_tn (by omega), F 253 i (by omega), f i (by omega)] at e44
      rw [zI_succ]
      refine lCp L2 f K m (i + 1) h44 (by omega) ⟨by rw [e44]; exact S.si _ _ _, fun a k y => by rw [e44, gi_ne (by omega)]; exact F a k (by omega), fun a k => by rw [e44]; exact W a k, fun k hk => ?_⟩
      rw [e44]
      by_cases y : k = i
      · subst y; rw [gi_eq]
      · rw [gi_ne (by omega)]; exact J k (by omega)
/-- what stands when both are built; h2: before the reference reads -/
def FIN (h2 : AH) (pp : Nat → Nat) (m : Nat) (op w : Nat → Int32) (h : AH) : Prop := Sm h2 h ∧ (∀ a k, ¬ ((a = 216 ∧ (k = 23 ∨ k = 36 ∨ (50 ≤ k ∧ k ≤ 59))) ∨ (a = 235 ∧ k = 0) ∨ (a = 236 ∧ k < 42) ∨ a = 237 ∨ a = 238 ∨ a = 239 ∨ (a = 240 ∧ k = 0) ∨ (a = 244 ∧ k = 0)) → am_gi h a k = am_gi h2 a k) ∧ (∀ a k, am_gl h a k = am_gl h2 a k) ∧ (am_gi h 216 23 = 1 ∧ am_gi h 216 36 = 1 ∧ am_gi h 235 0 = 42 ∧ am_gi h 240 0 = 1 ∧ am_gi h 244 0 = -1) ∧ (∀ k, k < 42 → am_gi h 236 k = am_at am_by0 k) ∧ (∀ k, k < 5 → am_gi h 239 k = zI (pp k)) ∧ ∀ i, i < m → am_gi h 237 i = op i ∧ am_gi h 238 i = w i
theorem c166 {h1 : AH} {M : Nat} {h : AH} (B : BJ h1 217 (M + 0) [] 0 0 0 h) {L : Nat} {xs : Nat → Int32} {pp : Nat → Nat} {m : Nat} {op w : Nat → Int32} (Cf : CFn L xs pp m op w h1) (C : ∀ h h0, h0 = am_si h 216 50 (zI 0) → SR (am_at am_by0) 42 0 h0 → Cl 93 203 [.ref 216, .int (zI 0)] h (fun r h' => r = none ∧ MO 0 h0 (-1) (-1) pp m op w h')) : Cl 94 166 [.ref 216] h (fun r h' => r = none ∧ ∃ h2, BJ h1 263 (M + 73466) tM 42 85 1 h2 ∧ FIN h2 pp m op w h') := by
  refine b166 (d := 93) B (fun h2 B2 => ?_)
  have L2 := ly0 Cf B2
  have f2 : ∀ k, k < 42 → am_gi h2 253 k = am_at am_by0 k := fun k hk => by
    rw [B2.2.2.2.2.1 253 k (by decide) (by decide)]
    show (if k < 42 then am_at am_by0 k else 0) = _
    rw [if_pos hk]
  refine lCp (d := 93) L2 f2 (fun h3 A => ?_) 42 0 h2 (by decide) ⟨Sm.rfl' _, fun _ _ _ => rfl, fun _ _ => rfl, fun k hk => absurd hk (by omega)⟩
  obtain ⟨S, F, W, J⟩ := A
  have L3 := S.lay L2
  refine wp166_1121 _ _ ⟨lk216 L3, 253, lr216_48 L3, by rw [lk253 L3]; decide, fun _ => ⟨lk216 L3, 235, lr216_24 L3, lk216 L3, 253, lr216_48 L3, by rw [lk253 L3]; decide, ⟨lk235 L3, by decide⟩, by rw [ln235 L3]; exact in_zI (i := 0) (by decide) (by decide), fun h14 e14 => ?_⟩, fun z => absurd (by rw [ln253 L3]; decide) z⟩
  rw [ln253 L3] at e14
  have L4 : Lay h14 := by rw [e14]; exact L3.si _ _ _
  refine ⟨lk216 L4, Cl.rv (C h14 _ rfl ⟨L4.si _ _ _, by decide, by decide, ?_, fun i hi => ⟨?_, (by0_v i hi).2.1⟩, fun i hi => ?_, gi_eq⟩) (Nat.le_refl _) (fun h15 O => ?_)⟩
  · rw [gi_ne (by omega), e14]; exact gi_eq
  · rw [gi_ne (by omega), e14, gi_ne (by omega), Nat.mul_zero, Nat.zero_add]; exact J i hi
  · rw [gi_ne (by omega), e14, gi_ne (by omega), F 254 i (by omega), B2.2.2.2.2.1 254 i (by decide) (by decide)]
    show (if i < 85 then iV 254 i else 0) = _
    rw [if_pos hi]; rfl
  · obtain ⟨⟨S5, F5, W5⟩, _, o6⟩ := O
    obtain ⟨_, o7, o8⟩ := o6 rfl
    have L5 : Lay h15 := S5.lay (L4.si _ _ _)
    have S6 : Sm h2 h15 := (show Sm h2 (am_si h14 216 50 (zI 0)) by rw [e14]; exact (S.si _ _ _).si _ _ _).trans S5
    refine ⟨lk216 L5, 240, lr216_29 L5, ⟨lk240 L5, by decide⟩, by rw [ln240 L5]; exact in_zI (i := 0) (by decide) (by decide), fun h23 e23 => ?_⟩
    have L6 : Lay h23 := by rw [e23]; exact L5.si _ _ _
    refine ⟨lk216 L6, 244, lr216_33 L6, ⟨lk244 L6, by decide⟩, by rw [ln244 L6]; exact in_zI (i := 0) (by decide) (by decide), fun h29 e29 => ?_⟩
    have L7 : Lay h29 := by rw [e29]; exact L6.si _ _ _
    refine ⟨lk216 L7, fun h31 e31 => ?_⟩
    have L8 : Lay h31 := by rw [e31]; exact L7.si _ _ _
    refine ⟨lk216 L8, fun h33 e33 => ⟨rfl, h2, B2, ?_⟩⟩
    have t0 : Int32.toNatClampNeg (0 : Int32) = 0 := rfl
    rw [t0] at e14 e23 e29
    have g : ∀ a k, ¬ (a = 240 ∧ k = 0) → ¬ (a = 244 ∧ k = 0) → ¬ (a = 216 ∧ (k = 23 ∨ k = 36)) → am_gi h33 a k = am_gi h15 a k := fun a k y1 y2 y3 => by
      rw [e33, gi_ne (by omega), e31, gi_ne (by omega), e29, gi_ne (by omega), e23, gi_ne (by omega)]
    have g5 : ∀ a k, ¬ (a = 216 ∧ (50 ≤ k ∧ k ≤ 59)) → ¬ (a = 235 ∧ k = 0) → ¬ a = 237 → ¬ a = 238 → ¬ a = 239 → am_gi h15 a k = am_gi h3 a k := fun a k y1 y2 y3 y4 y5 => by
      rw [F5 a k (by omega), gi_ne (by omega), e14, gi_ne (by omega)]
    refine ⟨by rw [e33, e31, e29, e23]; exact (((S6.si _ _ _).si _ _ _).si _ _ _).si _ _ _, fun a k y => ?_, fun a k => ?_, ⟨?_, ?_, ?_, ?_, ?_⟩, fun k hk => ?_, fun k hk => ?_, fun i hi => ⟨?_, ?_⟩⟩
    · rw [g a k (by omega) (by omega) (by omega), g5 a k (by omega) (by omega) (by omega) (by omega) (by omega)]
      exact F a k (by omega)
    · rw [e33, e31, e29, e23]
      show am_gl h15 a k = _
      rw [W5, e14]; exact W a k
    · rw [e33, gi_ne (by omega), e31]; exact gi_eq
    · rw [e33]; exact gi_eq
    · rw [g 235 0 (by omega) (by omega) (by omega), F5 235 0 (by omega), gi_ne (by omega), e14]; exact gi_eq
    · rw [e33, gi_ne (by omega), e31, gi_ne (by omega), e29, gi_ne (by omega), e23]; exact gi_eq
    · rw [e33, gi_ne (by omega), e31, gi_ne (by omega), e29]; exact gi_eq
    · rw [g 236 k (by omega) (by omega) (by omega), g5 236 k (by omega) (by omega) (by omega) (by omega) (by omega)]; exact J k hk
    · rw [g 239 k (by omega) (by omega) (by omega)]
      have := o7 k hk
      rw [Nat.mul_zero, Nat.zero_add] at this; exact this
    · rw [g 237 i (by omega) (by omega) (by omega)]
      have := (o8 i hi).1
      rw [Nat.mul_zero, Nat.zero_add] at this; exact this
    · rw [g 238 i (by omega) (by omega) (by omega)]
      have := (o8 i hi).2
      rw [Nat.mul_zero, Nat.zero_add] at this; exact this
theorem inv0 {L : Nat} {xs : Nat → Int32} {pp : Nat → Nat} {m : Nat} {op w : Nat → Int32} {h1 h2 h : AH} {wv lv : Int32} (Cf : CFn L xs pp m op w h1) (B : BJ h1 263 (2786 + m + 71 + 73466) tM 42 85 1 h2) (I : FIN h2 pp m op w h) (m4 : m ≤ 400) (P : PS (am_at am_by0) 4 42 m op w (-1) pp) : Inv L xs 0 h := by
  have L2 := ly0 Cf B
  obtain ⟨S, F, W, ⟨i1, i2, i3, i4, i5⟩, i6, i7, i8⟩ := I
  have Lh := S.lay L2
  obtain ⟨c1, c2, c3, c4, c5, c6, c7, c8, c9, ⟨d1, d2, d3, d4, d5⟩, d6, d7, d8⟩ := Cf
  have GC : ∀ a k, a < 216 → am_gi h a k = am_gi h1 a k := fun a k ha => by rw [F a k (by omega)]; exact ((B.2.1 a ha).2.2 k).1
  have Z : ∀ a k, 6 ≤ a → a < 214 → ¬ (a = 71 ∨ a = 72 ∨ a = 73 ∨ a = 74 ∨ a = 151 ∨ a = 214 ∨ a = 215 ∨ (a = 148 ∧ 6 ≤ k) ∨ (a = 6 ∧ k = 9)) → ¬ sB 24 12 a k → am_gi h a k = 0 := fun a k y1 y2 y3 y4 => by rw [GC a k (by omega)]; exact (d7 a k y1 y3).2 y4
  have V : ∀ a k, 6 ≤ a → a < 214 → ¬ (a = 71 ∨ a = 72 ∨ a = 73 ∨ a = 74 ∨ a = 151 ∨ a = 214 ∨ a = 215 ∨ (a = 148 ∧ 6 ≤ k) ∨ (a = 6 ∧ k = 9)) → sB 24 12 a k → am_gi h a k = -1 := fun a k y1 y2 y3 y4 => by
    rw [GC a k (by omega), (d7 a k y1 y3).1 y4]
    unfold iV; rw [if_neg (by omega), if_neg (by omega)]
  have Y : ∀ a k, 216 ≤ a → a < 263 → ¬ ((a = 216 ∧ (k = 23 ∨ k = 36 ∨ k = 38 ∨ (50 ≤ k ∧ k ≤ 59))) ∨ (a = 235 ∧ k = 0) ∨ a = 236 ∨ a = 237 ∨ a = 238 ∨ a = 239 ∨ (a = 240 ∧ k = 0) ∨ (a = 244 ∧ k = 0) ∨ a = 253 ∨ a = 254) → am_gi h a k = 0 := fun a k y1 y2 y3 => by
    rw [F a k (by omega), B.2.2.2.2.1 a k y1 y2]
    unfold jV
    rw [if_neg (by omega), if_neg (by omega)]
    by_cases y : a = 216
    · rw [if_pos y, if_neg (by omega)]
    · rw [if_neg y]
  have gl1 : ∀ a k, 6 ≤ a → a < 214 → am_gl h a k = 0 := fun a k y1 y2 => by rw [W, ((B.2.1 a (by omega)).2.2 k).2.2]; exact d8 a k y1 (by omega)
  have gl2 : ∀ a k, 216 ≤ a → a < 263 → am_gl h a k = 0 := fun a k y1 y2 => by rw [W]; exact B.2.2.2.2.2 a k y1 y2
  have n38 : am_gi h 216 38 = -1 := by rw [F 216 38 (by omega), B.2.2.2.2.1 216 38 (by decide) (by decide)]; rfl
  have kdc : ∀ a, a < 216 → am_kd h a = am_kd h1 a ∧ am_ln h a = am_ln h1 a := fun a ha => by rw [S.2.2.1, S.2.2.2.1]; exact ⟨(B.2.1 a ha).1, (B.2.1 a ha).2.1⟩
  have grc : ∀ a k, a < 216 → am_gr h a k = am_gr h1 a k := fun a k ha => by rw [S.2.2.2.2]; exact ((B.2.1 a ha).2.2 k).2.1
  have co : ICo L xs h := by
    refine ⟨⟨?_, ?_, ?_, ?_, ?_, ?_⟩, ⟨?_, ?_, ?_, ?_⟩, fun i => ?_, fun i => ?_, fun i => ?_, fun i => ?_, fun i hi => ?_⟩
    · rw [(kdc 0 (by omega)).1, (c2 0 (by omega)).1]; rfl
    · rw [(kdc 1 (by omega)).1, (c2 1 (by omega)).1]; rfl
    · rw [(kdc 2 (by omega)).1, (c2 2 (by omega)).1]; rfl
    · rw [(kdc 3 (by omega)).1, (c2 3 (by omega)).1]; rfl
    · rw [(kdc 4 (by omega)).1, (c2 4 (by omega)).1]; rfl
    · rw [(kdc 5 (by omega)).1, (c2 5 (by omega)).1]; rfl
    · rw [(kdc 0 (by omega)).2, (c2 0 (by omega)).2.1]; rfl
    · rw [(kdc 1 (by omega)).2, (c2 1 (by omega)).2.1]; rfl
    · rw [(kdc 3 (by omega)).2, (c2 3 (by omega)).2.1]; rfl
    · rw [(kdc 5 (by omega)).2, (c2 5 (by omega)).2.1]; rfl
    · rw [GC 0 i (by omega), (c2 0 (by omega)).2.2 i]; rfl
    · rw [GC 1 i (by omega), (c2 1 (by omega)).2.2 i]; rfl
    · rw [GC 3 i (by omega), (c2 3 (by omega)).2.2 i]; rfl
    · rw [GC 5 i (by omega), (c2 5 (by omega)).2.2 i]; rfl
    · rw [F 254 i (by omega), B.2.2.2.2.1 254 i (by decide) (by decide)]
      show (if i < 85 then iV 254 i else 0) = _
      rw [if_pos hi]; rfl
  have z9 : ∀ k, ¬ (k = 9 ∨ k = 12) → am_gi h 6 k = 0 := fun k hk => Z 6 k (by omega) (by omega) (by omega) (by unfold sB siA; omega)
  have y16 : ∀ k, ¬ (k = 23 ∨ k = 36 ∨ k = 38 ∨ (50 ≤ k ∧ k ≤ 59)) → am_gi h 216 k = 0 := fun k hk => Y 216 k (by omega) (by omega) (by omega)
  have tx : ITx h 1 0 := by
    refine ⟨⟨by decide, by decide⟩, by rw [GC 6 9 (by omega)]; exact d4, i1, ⟨by rw [z9 10 (by omega), i2]; decide, by rw [i2]; decide, by rw [i2]; decide⟩, fun t ht => ?_, ⟨i4, i5⟩, fun t h1 ht => ?_⟩
    · have t0 : t = 0 := by omega
      subst t0
      refine ⟨⟨⟨?_, ?_⟩, ⟨?_, ?_⟩, ⟨?_, Or.inl ?_⟩, Or.inl ⟨i4, ?_, ?_⟩, ?_, ⟨?_, Or.inl i5⟩⟩, ⟨214, 42, ?_, ?_, Or.inl rfl, by decide, ?_, ?_, by decide, i3, fun i hi => ?_⟩, ⟨215, pp, ?_, ?_, Or.inr (Or.inl rfl), by decide, ?_, ?_, fun k hk => ⟨?_, ?_⟩, ⟨?_, fun i hi => ?_, fun k hk => ⟨?_, fun i g1 g2 g3 => ?_⟩⟩⟩⟩
      · rw [Z 148 3 (by omega) (by omega) (by omega) (by unfold sB siA; omega), Y 245 0 (by omega) (by omega) (by omega)]
      · rw [Y 245 0 (by omega) (by omega) (by omega)]; decide
      · rw [Z 148 4 (by omega) (by omega) (by omega) (by unfold sB siA; omega), Y 246 0 (by omega) (by omega) (by omega)]
      · rw [Y 246 0 (by omega) (by omega) (by omega)]; decide
      · rw [Z 148 5 (by omega) (by omega) (by omega) (by unfold sB siA; omega), Y 241 0 (by omega) (by omega) (by omega)]
      · exact Y 241 0 (by omega) (by omega) (by omega)
      · rw [GC 148 6 (by omega), Y 243 0 (by omega) (by omega) (by omega)]; exact d1
      · rw [Y 243 0 (by omega) (by omega) (by omega)]; decide
      · rw [GC 148 7 (by omega), Y 242 0 (by omega) (by omega) (by omega)]; exact d2
      · rw [GC 148 8 (by omega), i5]; exact d3
      · rw [grc 148 0 (by omega)]; exact c5.1
      · rw [S.1, B.1.1]; decide
      · rw [(kdc 214 (by omega)).1]; exact c6.1
      · rw [(kdc 214 (by omega)).2]; exact c6.2.1
      · rw [GC 214 i (by omega), c7 i hi, Nat.mul_zero, Nat.zero_add, i6 i hi]
        exact ⟨rfl, (by0_v i hi).2.1, (by0_v i hi).2.2⟩
      · rw [grc 148 1 (by omega)]; exact c5.2
      · rw [S.1, B.1.1]; decide
      · rw [(kdc 215 (by omega)).1]; exact c6.2.2.1
      · rw [(kdc 215 (by omega)).2, P.1.2.1]; exact c6.2.2.2
      · rw [GC 151 k (by omega)]; exact c9 k hk
      · rw [Nat.mul_zero, Nat.zero_add]; exact i7 k hk
      · have := P.1.2.2
        exact ⟨P.1.1, (this 0 (by decide)).1, (this 1 (by decide)).1, (this 2 (by decide)).1, (this 3 (by decide)).1, by rw [P.1.2.1]; exact m4⟩
      · rw [P.1.2.1] at hi
        show cR (am_gi h 237 (400 * 0 + i)) (am_gi h 238 (400 * 0 + i)) (am_gi h 215 i)
        rw [Nat.mul_zero, Nat.zero_add, (i8 i hi).1, (i8 i hi).2, GC 215 i (by omega)]; exact c8 i hi
      · have pm := (P.1.2.2 k hk).2
        rw [hts_congr (op' := op) (fun j g1 g2 => ?_)]
        · exact P.2.1 k hk
        · show am_gi h 237 (400 * 0 + j) = _
          rw [Nat.mul_zero, Nat.zero_add]
          exact (i8 j (by have := (P.1.2.2 k hk).1; omega)).1
      · have pm := (P.1.2.2 k hk).2
        have e3 : am_gi h 237 (400 * 0 + i) = 1 := g3
        show alw k (am_gi h 238 (400 * 0 + i))
        rw [Nat.mul_zero, Nat.zero_add] at e3 ⊢
        rw [(i8 i (by omega)).1] at e3
        rw [(i8 i (by omega)).2]
        exact P.2.2.1 rfl k hk i g1 g2 e3
    · refine ⟨?_, ?_, ?_, ?_, ?_, ?_⟩
      · exact Z _ 3 (by omega) (by omega) (by omega) (by unfold sB siA; omega)
      · exact Z _ 4 (by omega) (by omega) (by omega) (by unfold sB siA; omega)
      · exact Z _ 5 (by omega) (by omega) (by omega) (by unfold sB siA; omega)
      · exact V _ 6 (by omega) (by omega) (by omega) (by unfold sB siA; omega)
      · exact V _ 7 (by omega) (by omega) (by omega) (by unfold sB siA; omega)
      · exact V _ 8 (by omega) (by omega) (by omega) (by unfold sB siA; omega)
  refine ⟨0, 0, 0, 0, 1, 0, Lh, co, ⟨by rw [S.1, B.1.1]; decide, by rw [S.2.1, B.1.2.1]; omega⟩, ⟨by rw [z9 0 (by omega), y16 0 (by omega)], by rw [y16 0 (by omega)]; decide, by rw [y16 0 (by omega)]; decide⟩, ⟨by rw [z9 11 (by omega), y16 37 (by omega)], by rw [n38]; exact V 6 12 (by omega) (by omega) (by omega) (by unfold sB siA; omega)⟩, ⟨by rw [y16 42 (by omega)]; exact Z 109 1 (by omega) (by omega) (by omega) (by unfold sB siA; omega), by rw [y16 42 (by omega)]; decide, fun i hi => ?_⟩, by show am_gi h 6 18 = am_gi h 216 47; rw [z9 18 (by omega), y16 47 (by omega)], ⟨by decide, z9 2 (by omega), y16 1 (by omega), fun i hi => ?_, fun i hi => absurd hi (by omega)⟩, ⟨by decide, z9 4 (by omega), y16 7 (by omega), fun i hi => ?_, fun i hi => absurd hi (by omega), fun i _ hi => ⟨?_, ?_⟩⟩, ⟨by decide, Z 9 1 (by omega) (by omega) (by omega) (by unfold sB siA; omega), y16 14 (by omega), fun i hi => absurd hi (by omega)⟩, ⟨by decide, by rw [GC 71 1 (by omega)]; exact d5, y16 22 (by omega), fun i hi => by rw [GC 72 i (by omega)]; exact d6 i hi, fun i hi => absurd hi (by omega)⟩, ⟨by decide, Z 105 1 (by omega) (by omega) (by omega) (by unfold sB siA; omega), y16 39 (by omega), fun i hi => absurd hi (by omega)⟩, fun j hj => absurd hj (by omega), fun i hi j hj => Or.inr ?_, ⟨fun i hi => absurd hi (by omega), fun i _ _ hi => absurd hi (by omega), fun i _ hi => absurd hi (by omega)⟩, tx, fun t ht => ?_, fun i hi => absurd hi (by omega)⟩
  · rw [Z 110 i (by omega) (by omega) (by omega) (by unfold sB siA; omega), Y 248 i (by omega) (by omega) (by omega)]; decide
  · rw [Z (112 + i) 3 (by omega) (by omega) (by omega) (by unfold sB siA; omega), Y 220 i (by omega) (by omega) (by omega)]; decide
  · rw [Z (124 + i) 4 (by omega) (by omega) (by omega) (by unfold sB siA; omega), Y 226 i (by omega) (by omega) (by omega), gl1 (124 + i) 5 (by omega) (by omega), gl2 227 i (by omega) (by omega)]; decide
  · exact V (124 + i) 2 (by omega) (by omega) (by omega) (by unfold sB siA; omega)
  · exact V (124 + i) 3 (by omega) (by omega) (by omega) (by unfold sB siA; omega)
  · rw [Z (112 + i) 4 (by omega) (by omega) (by omega) (by unfold sB siA; omega), Y 221 i (by omega) (by omega) (by omega)]
  · have e9 : am_gi h 249 t = 0 := Y 249 t (by omega) (by omega) (by omega)
    refine ⟨?_, ?_, fun z => ?_, fun z => ?_, fun z => ?_, fun z => ?_⟩
    · rw [e9]; exact Z (196 + 3 * t) 0 (by omega) (by omega) (by omega) (by unfold sB siA; omega)
    · rw [e9]; decide
    · rw [e9] at z; exact absurd z (by decide)
    · rw [e9] at z; exact absurd z (by decide)
    · rw [e9] at z; exact absurd z (by decide)
    · rw [e9] at z; exact absurd z (by decide)
