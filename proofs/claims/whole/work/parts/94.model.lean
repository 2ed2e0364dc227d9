/-! BUILDING 5: the reference's cells -/
/-- the ints of the reference's cells while they are laid -/
def jV (p q s a k : Nat) : Int32 := if a = 253 then (if k < p then am_at am_by0 k else 0) else if a = 254 then (if k < q then iV 254 k else 0) else if a = 216 then (if k = 38 ∧ s = 1 then -1 else 0) else 0
/-- on the class's heap h1, z cells are laid, N slots, the model's references T stand, p bytes of the first text and q bytes of the words -/
def BJ (h1 : AH) (z N : Nat) (T : List Nat) (p q s : Nat) (h : AH) : Prop := (am_sz h = z ∧ am_sn h = N ∧ 217 ≤ z) ∧ (∀ a, a < 216 → am_kd h a = am_kd h1 a ∧ am_ln h a = am_ln h1 a ∧ ∀ k, am_gi h a k = am_gi h1 a k ∧ am_gr h a k = am_gr h1 a k ∧ am_gl h a k = am_gl h1 a k) ∧ (∀ a, 216 ≤ a → a < z → am_kd h a = kdF a ∧ am_ln h a = lnF a) ∧ (∀ f, f ∈ T → am_gr h 216 f = rfF 216 f) ∧ (∀ a k, 216 ≤ a → a < z → am_gi h a k = jV p q s a k) ∧ ∀ a k, 216 ≤ a → a < z → am_gl h a k = 0
theorem jV_0 {p q s a k : Nat} (h1 : a = 253 → p = 0) (h2 : a = 254 → q = 0) (h3 : ¬ a = 216) : jV p q s a k = 0 := by
  unfold jV
  by_cases y : a = 253
  · rw [if_pos y, if_neg (by have := h1 y; omega)]
  · rw [if_neg y]
    by_cases w : a = 254
    · rw [if_pos w, if_neg (by have := h2 w; omega)]
    · rw [if_neg w, if_neg h3]
theorem BJ.nw {h1 : AH} {z N : Nat} {T : List Nat} {p q s : Nat} {h : AH} (B : BJ h1 z N T p q s h) {kd n w : Nat} (e1 : kdF z = kd) (e2 : lnF z = n) (hp : z = 253 → p = 0) (hq : z = 254 → q = 0) : BJ h1 (z + 1) (N + w) T p q s (am_nw h kd n w) := by
  obtain ⟨⟨a1, a2, a0⟩, a3, a4, a5, a6, a7⟩ := B
  have g : ∀ b, b ≠ z → b ≠ am_sz h := fun b y => by rw [a1]; exact y
  refine ⟨⟨by show am_sz h + 1 = _; rw [a1], by show am_sn h + w = _; rw [a2], by omega⟩, fun a ha => ?_, fun a h1 h2 => ?_, fun f s => ?_, fun a j h1 h2 => ?_, fun a j h1 h2 => ?_⟩
  · rw [am_nw_kd (g a (by omega)), am_nw_ln (g a (by omega)), am_nw_gi (g a (by omega)), am_nw_gr (g a (by omega)), am_nw_gl (g a (by omega))]; exact a3 a ha
  · by_cases y : a = z
    · rw [y, ← a1, am_nw_kd0, am_nw_ln0, a1]; exact ⟨e1.symm, e2.symm⟩
    · rw [am_nw_kd (g a y), am_nw_ln (g a y)]; exact a4 a h1 (by omega)
  · rw [am_nw_gr (g 216 (by omega))]; exact a5 f s
  · by_cases y : a = z
    · rw [jV_0 (fun e => hp (by omega)) (fun e => hq (by omega)) (by omega), y, ← a1, am_nw_gi0]
    · rw [am_nw_gi (g a y)]; exact a6 a j h1 (by omega)
  · by_cases y : a = z
    · rw [y, ← a1, am_nw_gl0]
    · rw [am_nw_gl (g a y)]; exact a7 a j h1 (by omega)
theorem BJ.sr {h1 : AH} {z N : Nat} {T : List Nat} {p q s : Nat} {h : AH} (B : BJ h1 z N T p q s h) {f v : Nat} (e : rfF 216 f = some v) : BJ h1 z N (f :: T) p q s (am_sr h 216 f (some v)) := by
  obtain ⟨a1, a3, a4, a5, a6, a7⟩ := B
  refine ⟨a1, fun a ha => ⟨(a3 a ha).1, (a3 a ha).2.1, fun k => ⟨((a3 a ha).2.2 k).1, ?_, ((a3 a ha).2.2 k).2.2⟩⟩, a4, fun g s => ?_, a6, a7⟩
  · rw [am_sr_gr, if_neg (by omega)]; exact ((a3 a ha).2.2 k).2.1
  · rw [am_sr_gr]
    by_cases y : g = f
    · rw [if_pos ⟨rfl, y⟩, y, e]
    · rw [if_neg (fun w => y w.2)]
      exact a5 g ((List.mem_cons.mp s).resolve_left y)
/-- a row is made and its name bound -/
theorem ar {h1 : AH} {z M n : Nat} {T : List Nat} {p q s : Nat} {h : AH} (B : BJ h1 z (M + n) T p q s h) {z' n' kd f : Nat} {i : Int32} (e : ¬ i < (0 : Int32) ∧ Int32.toNatClampNeg i = lnF z ∧ lnF z ≤ 100000 ∧ kdF z = kd ∧ rfF 216 f = some z ∧ n + lnF z = n' ∧ z + 1 = z' ∧ ¬ z = 253 ∧ ¬ z = 254) {R : AH → Prop} (K : ∀ h6, BJ h1 z' (M + n') (f :: T) p q s h6 → R h6) : (¬ i < (0 : Int32) ∧ (Int32.toNatClampNeg i) ≤ 100000) ∧ ∀ b, b = am_sz h → ∀ h2, h2 = am_nw h kd (Int32.toNatClampNeg i) (Int32.toNatClampNeg i) → am_kd h2 216 = 12 ∧ ∀ h6, h6 = am_sr h2 216 f (some b) → R h6 := by
  obtain ⟨e1, e2, e3, e4, e5, e6, e7, e8, e9⟩ := e
  rw [e2, B.1.1]
  refine ⟨⟨e1, e3⟩, fun b eb h2 eh => ?_⟩
  have B2 := B.nw (w := lnF z) e4 rfl (fun w => absurd w e8) (fun w => absurd w e9)
  rw [← eh, Nat.add_assoc, e6, e7] at B2
  refine ⟨(B2.2.2.1 216 (Nat.le_refl _) (by have := B.1.2.2; omega)).1.trans (by decide +kernel), fun h6 e6 => K h6 ?_⟩
  rw [e6, eb]
  exact B2.sr e5
theorem arN {h1 : AH} {z M n : Nat} {T : List Nat} {p q s : Nat} {h : AH} (B : BJ h1 z (M + n) T p q s h) {z' n' kd : Nat} {i : Int32} (e : ¬ i < (0 : Int32) ∧ Int32.toNatClampNeg i = lnF z ∧ lnF z ≤ 100000 ∧ kdF z = kd ∧ n + lnF z = n' ∧ z + 1 = z' ∧ (z = 253 → p = 0) ∧ (z = 254 → q = 0)) {R : Nat → AH → Prop} (K : ∀ h6, BJ h1 z' (M + n') T p q s h6 → R z h6) : (¬ i < (0 : Int32) ∧ (Int32.toNatClampNeg i) ≤ 100000) ∧ ∀ b, b = am_sz h → ∀ h2, h2 = am_nw h kd (Int32.toNatClampNeg i) (Int32.toNatClampNeg i) → R b h2 := by
  obtain ⟨e1, e2, e3, e4, e6, e7, e8, e9⟩ := e
  rw [e2, B.1.1]
  refine ⟨⟨e1, e3⟩, fun b eb h2 eh => ?_⟩
  have B2 := B.nw (w := lnF z) e4 rfl e8 e9
  rw [← eh, Nat.add_assoc, e6, e7] at B2
  rw [eb]; exact K h2 B2
theorem arS {h1 : AH} {z N : Nat} {T : List Nat} {p q s : Nat} {h : AH} (B : BJ h1 z N T p q s h) {f b : Nat} (e5 : rfF 216 f = some b) {R : AH → Prop} (K : ∀ h6, BJ h1 z N (f :: T) p q s h6 → R h6) : am_kd h 216 = 12 ∧ ∀ h6, h6 = am_sr h 216 f (some b) → R h6 :=
  ⟨(B.2.2.1 216 (Nat.le_refl _) (by have := B.1.2.2; omega)).1.trans (by decide +kernel), fun h6 e6 => K h6 (by rw [e6]; exact B.sr e5)⟩
theorem arI {h1 : AH} {z N : Nat} {T : List Nat} {p q : Nat} {h : AH} (B : BJ h1 z N T p q 0 h) {R : AH → Prop} (K : ∀ h6, BJ h1 z N T p q 1 h6 → R h6) : am_kd h 216 = 12 ∧ ∀ h6, h6 = am_si h 216 38 (-1 : Int32) → R h6 := by
  refine ⟨(B.2.2.1 216 (Nat.le_refl _) (by have := B.1.2.2; omega)).1.trans (by decide +kernel), fun h6 e6 => K h6 ?_⟩
  obtain ⟨a1, a3, a4, a5, a6, a7⟩ := B
  rw [e6]
  refine ⟨a1, fun a ha => ⟨(a3 a ha).1, (a3 a ha).2.1, fun k => ⟨by rw [gi_ne (by omega)]; exact ((a3 a ha).2.2 k).1, ((a3 a ha).2.2 k).2⟩⟩, a4, a5, fun a k h1 h2 => ?_, a7⟩
  by_cases y : a = 216 ∧ k = 38
  · rw [y.1, y.2, gi_eq]; rfl
  · rw [gi_ne (by omega), a6 a k h1 h2]
    unfold jV
    by_cases w : a = 216
    · rw [if_neg (by omega), if_neg (by omega), if_pos w, if_neg (by omega), if_neg (by omega), if_neg (by omega), if_pos w, if_neg (by omega)]
    · by_cases u : a = 253
      · rw [if_pos u, if_pos u]
      · rw [if_neg u, if_neg u]
        by_cases v : a = 254
        · rw [if_pos v, if_pos v]
        · rw [if_neg v, if_neg v, if_neg w, if_neg w]
theorem stF {h1 : AH} {N : Nat} {T : List Nat} {p q s : Nat} {h : AH} (B : BJ h1 254 N T p q s h) {p' : Nat} {i v : Int32} (e : p < 42 ∧ i = zI p ∧ v = am_at am_by0 p ∧ p + 1 = p') {R : AH → Prop} (K : ∀ h6, BJ h1 254 N T p' q s h6 → R h6) : (am_kd h 253 = 100 ∧ 6 ≤ 253) ∧ am_in i (am_ln h 253) ∧ ∀ h6, h6 = am_si h 253 (Int32.toNatClampNeg i) v → R h6 := by
  obtain ⟨e1, e2, e3, e4⟩ := e
  obtain ⟨a1, a3, a4, a5, a6, a7⟩ := B
  have k3 := a4 253 (by decide) (by decide)
  rw [e2, zI_tn (by omega), k3.1, k3.2]
  refine ⟨⟨by decide +kernel, by decide⟩, by rw [show lnF 253 = 42 by decide +kernel]; exact in_zI e1 (by decide), fun h6 e6 => K h6 ?_⟩
  rw [e6]
  refine ⟨a1, fun a ha => ⟨(a3 a ha).1, (a3 a ha).2.1, fun k => ⟨by rw [gi_ne (by omega)]; exact ((a3 a ha).2.2 k).1, ((a3 a ha).2.2 k).2⟩⟩, a4, a5, fun a k h1 h2 => ?_, a7⟩
  by_cases y : a = 253
  · subst y
    show _ = if k < p' then am_at am_by0 k else 0
    by_cases w : k = p
    · rw [w, gi_eq, if_pos (by omega)]; exact e3
    · rw [gi_ne (by omega), a6 253 k h1 h2]
      show (if k < p then am_at am_by0 k else 0) = _
      by_cases u : k < p
      · rw [if_pos u, if_pos (by omega)]
      · rw [if_neg u, if_neg (by omega)]
  · rw [gi_ne (by omega), a6 a k h1 h2]
    unfold jV
    rw [if_neg y, if_neg y]
theorem stW {h1 : AH} {N : Nat} {T : List Nat} {p q s : Nat} {h : AH} (B : BJ h1 255 N T p q s h) {q' : Nat} {i v : Int32} (e : q < 85 ∧ i = zI q ∧ v = iV 254 q ∧ q + 1 = q') {R : AH → Prop} (K : ∀ h6, BJ h1 255 N T p q' s h6 → R h6) : (am_kd h 254 = 100 ∧ 6 ≤ 254) ∧ am_in i (am_ln h 254) ∧ ∀ h6, h6 = am_si h 254 (Int32.toNatClampNeg i) v → R h6 := by
  obtain ⟨e1, e2, e3, e4⟩ := e
  obtain ⟨a1, a3, a4, a5, a6, a7⟩ := B
  have k3 := a4 254 (by decide) (by decide)
  rw [e2, zI_tn (by omega), k3.1, k3.2]
  refine ⟨⟨by decide +kernel, by decide⟩, by rw [show lnF 254 = 85 by decide +kernel]; exact in_zI e1 (by decide), fun h6 e6 => K h6 ?_⟩
  rw [e6]
  refine ⟨a1, fun a ha => ⟨(a3 a ha).1, (a3 a ha).2.1, fun k => ⟨by rw [gi_ne (by omega)]; exact ((a3 a ha).2.2 k).1, ((a3 a ha).2.2 k).2⟩⟩, a4, a5, fun a k h1 h2 => ?_, a7⟩
  by_cases y : a = 254
  · subst y
    show _ = if k < q' then iV 254 k else 0
    by_cases w : k = q
    · rw [w, gi_eq, if_pos (by omega)]; exact e3
    · rw [gi_ne (by omega), a6 254 k h1 h2]
      show (if k < q then iV 254 k else 0) = _
      by_cases u : k < q
      · rw [if_pos u, if_pos (by omega)]
      · rw [if_neg u, if_neg (by omega)]
  · rw [gi_ne (by omega), a6 a k h1 h2]
    unfold jV
    rw [if_neg y, if_neg y]
def tM : List Nat := [69, 68, 67, 65, 64, 63, 62, 60, 49, 48, 46, 45, 44, 43, 41, 40, 35, 34, 33, 32, 31, 30, 29, 28, 27, 26, 25, 24, 21, 20, 19, 18, 17, 16, 15, 13, 12, 11, 10, 9, 8, 6, 5, 4, 3, 2]
theorem b166 {h1 : AH} {M d : Nat} {h : AH} (B : BJ h1 217 (M + 0) [] 0 0 0 h) {Q : Option Value → AH → Prop} (K : ∀ h', BJ h1 263 (M + 73466) tM 42 85 1 h' → Ev (d + 1) 166 1121 [.ref 216, .int (0 : Int32)] [] h' Q) : Cl (d + 1) 166 [.ref 216] h Q := by
  refine wp166 _ (ar B (z' := 218) (n' := 12) (by decide +kernel) (fun h B => ?_))
  refine ar B (z' := 219) (n' := 24) (by decide +kernel) (fun h B => ?_)
  refine ar B (z' := 220) (n' := 36) (by decide +kernel) (fun h B => ?_)
  refine ar B (z' := 221) (n' := 48) (by decide +kernel) (fun h B => ?_)
  refine ar B (z' := 222) (n' := 60) (by decide +kernel) (fun h B => ?_)
  refine ar B (z' := 223) (n' := 84) (by decide +kernel) (fun h B => ?_)
  refine ar B (z' := 224) (n' := 108) (by decide +kernel) (fun h B => ?_)
  refine ar B (z' := 225) (n' := 132) (by decide +kernel) (fun h B => ?_)
  refine ar B (z' := 226) (n' := 156) (by decide +kernel) (fun h B => ?_)
  refine ar B (z' := 227) (n' := 180) (by decide +kernel) (fun h B => ?_)
  refine ar B (z' := 228) (n' := 204) (by decide +kernel) (fun h B => ?_)
  refine ar B (z' := 229) (n' := 264) (by decide +kernel) (fun h B => ?_)
  refine ar B (z' := 230) (n' := 324) (by decide +kernel) (fun h B => ?_)
  refine ar B (z' := 231) (n' := 384) (by decide +kernel) (fun h B => ?_)
  refine ar B (z' := 232) (n' := 444) (by decide +kernel) (fun h B => ?_)
  refine ar B (z' := 233) (n' := 504) (by decide +kernel) (fun h B => ?_)
  refine ar B (z' := 234) (n' := 564) (by decide +kernel) (fun h B => ?_)
  refine ar B (z' := 235) (n' := 964) (by decide +kernel) (fun h B => ?_)
  refine ar B (z' := 236) (n' := 977) (by decide +kernel) (fun h B => ?_)
  refine ar B (z' := 237) (n' := 6177) (by decide +kernel) (fun h B => ?_)
  refine ar B (z' := 238) (n' := 11377) (by decide +kernel) (fun h B => ?_)
  refine ar B (z' := 239) (n' := 16577) (by decide +kernel) (fun h B => ?_)
  refine ar B (z' := 240) (n' := 16642) (by decide +kernel) (fun h B => ?_)
  refine ar B (z' := 241) (n' := 16655) (by decide +kernel) (fun h B => ?_)
  refine ar B (z' := 242) (n' := 16668) (by decide +kernel) (fun h B => ?_)
  refine ar B (z' := 243) (n' := 16681) (by decide +kernel) (fun h B => ?_)
  refine ar B (z' := 244) (n' := 16694) (by decide +kernel) (fun h B => ?_)
  refine ar B (z' := 245) (n' := 16707) (by decide +kernel) (fun h B => ?_)
  refine ar B (z' := 246) (n' := 16720) (by decide +kernel) (fun h B => ?_)
  refine ar B (z' := 247) (n' := 16733) (by decide +kernel) (fun h B => ?_)
  refine arI B (fun h B => ?_)
  refine ar B (z' := 248) (n' := 17093) (by decide +kernel) (fun h B => ?_)
  refine ar B (z' := 249) (n' := 17133) (by decide +kernel) (fun h B => ?_)
  refine ar B (z' := 250) (n' := 17139) (by decide +kernel) (fun h B => ?_)
  refine ar B (z' := 251) (n' := 17145) (by decide +kernel) (fun h B => ?_)
  refine ar B (z' := 252) (n' := 17151) (by decide +kernel) (fun h B => ?_)
  refine ar B (z' := 253) (n' := 19551) (by decide +kernel) (fun h B => ?_)
  refine arN B (z' := 254) (n' := 19593) (by decide +kernel) (fun h B => ?_)
  refine stF B (p' := 1) (by decide +kernel) (fun h B => ?_)
  refine stF B (p' := 2) (by decide +kernel) (fun h B => ?_)
  refine stF B (p' := 3) (by decide +kernel) (fun h B => ?_)
  refine stF B (p' := 4) (by decide +kernel) (fun h B => ?_)
  refine stF B (p' := 5) (by decide +kernel) (fun h B => ?_)
  refine stF B (p' := 6) (by decide +kernel) (fun h B => ?_)
  refine stF B (p' := 7) (by decide +kernel) (fun h B => ?_)
  refine stF B (p' := 8) (by decide +kernel) (fun h B => ?_)
  refine stF B (p' := 9) (by decide +kernel) (fun h B => ?_)
  refine stF B (p' := 10) (by decide +kernel) (fun h B => ?_)
  refine stF B (p' := 11) (by decide +kernel) (fun h B => ?_)
  refine stF B (p' := 12) (by decide +kernel) (fun h B => ?_)
  refine stF B (p' := 13) (by decide +kernel) (fun h B => ?_)
  refine stF B (p' := 14) (by decide +kernel) (fun h B => ?_)
  refine stF B (p' := 15) (by decide +kernel) (fun h B => ?_)
  refine stF B (p' := 16) (by decide +kernel) (fun h B => ?_)
  refine stF B (p' := 17) (by decide +kernel) (fun h B => ?_)
  refine stF B (p' := 18) (by decide +kernel) (fun h B => ?_)
  refine stF B (p' := 19) (by decide +kernel) (fun h B => ?_)
  refine stF B (p' := 20) (by decide +kernel) (fun h B => ?_)
  refine stF B (p' := 21) (by decide +kernel) (fun h B => ?_)
  refine stF B (p' := 22) (by decide +kernel) (fun h B => ?_)
  refine stF B (p' := 23) (by decide +kernel) (fun h B => ?_)
  refine stF B (p' := 24) (by decide +kernel) (fun h B => ?_)
  refine stF B (p' := 25) (by decide +kernel) (fun h B => ?_)
  refine stF B (p' := 26) (by decide +kernel) (fun h B => ?_)
  refine stF B (p' := 27) (by decide +kernel) (fun h B => ?_)
  refine stF B (p' := 28) (by decide +kernel) (fun h B => ?_)
  refine stF B (p' := 29) (by decide +kernel) (fun h B => ?_)
  refine stF B (p' := 30) (by decide +kernel) (fun h B => ?_)
  refine stF B (p' := 31) (by decide +kernel) (fun h B => ?_)
  refine stF B (p' := 32) (by decide +kernel) (fun h B => ?_)
  refine stF B (p' := 33) (by decide +kernel) (fun h B => ?_)
  refine stF B (p' := 34) (by decide +kernel) (fun h B => ?_)
  refine stF B (p' := 35) (by decide +kernel) (fun h B => ?_)
  refine stF B (p' := 36) (by decide +kernel) (fun h B => ?_)
  refine stF B (p' := 37) (by decide +kernel) (fun h B => ?_)
  refine stF B (p' := 38) (by decide +kernel) (fun h B => ?_)
  refine stF B (p' := 39) (by decide +kernel) (fun h B => ?_)
  refine stF B (p' := 40) (by decide +kernel) (fun h B => ?_)
  refine stF B (p' := 41) (by decide +kernel) (fun h B => ?_)
  refine stF B (p' := 42) (by decide +kernel) (fun h B => ?_)
  refine arS B (by decide +kernel) (fun h B => ?_)
  refine arN B (z' := 255) (n' := 19678) (by decide +kernel) (fun h B => ?_)
  refine stW B (q' := 1) (by decide +kernel) (fun h B => ?_)
  refine stW B (q' := 2) (by decide +kernel) (fun h B => ?_)
  refine stW B (q' := 3) (by decide +kernel) (fun h B => ?_)
  refine stW B (q' := 4) (by decide +kernel) (fun h B => ?_)
  refine stW B (q' := 5) (by decide +kernel) (fun h B => ?_)
  refine stW B (q' := 6) (by decide +kernel) (fun h B => ?_)
  refine stW B (q' := 7) (by decide +kernel) (fun h B => ?_)
  refine stW B (q' := 8) (by decide +kernel) (fun h B => ?_)
  refine stW B (q' := 9) (by decide +kernel) (fun h B => ?_)
  refine stW B (q' := 10) (by decide +kernel) (fun h B => ?_)
  refine stW B (q' := 11) (by decide +kernel) (fun h B => ?_)
  refine stW B (q' := 12) (by decide +kernel) (fun h B => ?_)
  refine stW B (q' := 13) (by decide +kernel) (fun h B => ?_)
  refine stW B (q' := 14) (by decide +kernel) (fun h B => ?_)
  refine stW B (q' := 15) (by decide +kernel) (fun h B => ?_)
  refine stW B (q' := 16) (by decide +kernel) (fun h B => ?_)
  refine stW B (q' := 17) (by decide +kernel) (fun h B => ?_)
  refine stW B (q' := 18) (by decide +kernel) (fun h B => ?_)
  refine stW B (q' := 19) (by decide +kernel) (fun h B => ?_)
  refine stW B (q' := 20) (by decide +kernel) (fun h B => ?_)
  refine stW B (q' := 21) (by decide +kernel) (fun h B => ?_)
  refine stW B (q' := 22) (by decide +kernel) (fun h B => ?_)
  refine stW B (q' := 23) (by decide +kernel) (fun h B => ?_)
  refine stW B (q' := 24) (by decide +kernel) (fun h B => ?_)
  refine stW B (q' := 25) (by decide +kernel) (fun h B => ?_)
  refine stW B (q' := 26) (by decide +kernel) (fun h B => ?_)
  refine stW B (q' := 27) (by decide +kernel) (fun h B => ?_)
  refine stW B (q' := 28) (by decide +kernel) (fun h B => ?_)
  refine stW B (q' := 29) (by decide +kernel) (fun h B => ?_)
  refine stW B (q' := 30) (by decide +kernel) (fun h B => ?_)
  refine stW B (q' := 31) (by decide +kernel) (fun h B => ?_)
  refine stW B (q' := 32) (by decide +kernel) (fun h B => ?_)
  refine stW B (q' := 33) (by decide +kernel) (fun h B => ?_)
  refine stW B (q' := 34) (by decide +kernel) (fun h B => ?_)
  refine stW B (q' := 35) (by decide +kernel) (fun h B => ?_)
  refine stW B (q' := 36) (by decide +kernel) (fun h B => ?_)
  refine stW B (q' := 37) (by decide +kernel) (fun h B => ?_)
  refine stW B (q' := 38) (by decide +kernel) (fun h B => ?_)
  refine stW B (q' := 39) (by decide +kernel) (fun h B => ?_)
  refine stW B (q' := 40) (by decide +kernel) (fun h B => ?_)
  refine stW B (q' := 41) (by decide +kernel) (fun h B => ?_)
  refine stW B (q' := 42) (by decide +kernel) (fun h B => ?_)
  refine stW B (q' := 43) (by decide +kernel) (fun h B => ?_)
  refine stW B (q' := 44) (by decide +kernel) (fun h B => ?_)
  refine stW B (q' := 45) (by decide +kernel) (fun h B => ?_)
  refine stW B (q' := 46) (by decide +kernel) (fun h B => ?_)
  refine stW B (q' := 47) (by decide +kernel) (fun h B => ?_)
  refine stW B (q' := 48) (by decide +kernel) (fun h B => ?_)
  refine stW B (q' := 49) (by decide +kernel) (fun h B => ?_)
  refine stW B (q' := 50) (by decide +kernel) (fun h B => ?_)
  refine stW B (q' := 51) (by decide +kernel) (fun h B => ?_)
  refine stW B (q' := 52) (by decide +kernel) (fun h B => ?_)
  refine stW B (q' := 53) (by decide +kernel) (fun h B => ?_)
  refine stW B (q' := 54) (by decide +kernel) (fun h B => ?_)
  refine stW B (q' := 55) (by decide +kernel) (fun h B => ?_)
  refine stW B (q' := 56) (by decide +kernel) (fun h B => ?_)
  refine stW B (q' := 57) (by decide +kernel) (fun h B => ?_)
  refine stW B (q' := 58) (by decide +kernel) (fun h B => ?_)
  refine stW B (q' := 59) (by decide +kernel) (fun h B => ?_)
  refine stW B (q' := 60) (by decide +kernel) (fun h B => ?_)
  refine stW B (q' := 61) (by decide +kernel) (fun h B => ?_)
  refine stW B (q' := 62) (by decide +kernel) (fun h B => ?_)
  refine stW B (q' := 63) (by decide +kernel) (fun h B => ?_)
  refine stW B (q' := 64) (by decide +kernel) (fun h B => ?_)
  refine stW B (q' := 65) (by decide +kernel) (fun h B => ?_)
  refine stW B (q' := 66) (by decide +kernel) (fun h B => ?_)
  refine stW B (q' := 67) (by decide +kernel) (fun h B => ?_)
  refine stW B (q' := 68) (by decide +kernel) (fun h B => ?_)
  refine stW B (q' := 69) (by decide +kernel) (fun h B => ?_)
  refine stW B (q' := 70) (by decide +kernel) (fun h B => ?_)
  refine stW B (q' := 71) (by decide +kernel) (fun h B => ?_)
  refine stW B (q' := 72) (by decide +kernel) (fun h B => ?_)
  refine stW B (q' := 73) (by decide +kernel) (fun h B => ?_)
  refine stW B (q' := 74) (by decide +kernel) (fun h B => ?_)
  refine stW B (q' := 75) (by decide +kernel) (fun h B => ?_)
  refine stW B (q' := 76) (by decide +kernel) (fun h B => ?_)
  refine stW B (q' := 77) (by decide +kernel) (fun h B => ?_)
  refine stW B (q' := 78) (by decide +kernel) (fun h B => ?_)
  refine stW B (q' := 79) (by decide +kernel) (fun h B => ?_)
  refine stW B (q' := 80) (by decide +kernel) (fun h B => ?_)
  refine stW B (q' := 81) (by decide +kernel) (fun h B => ?_)
  refine stW B (q' := 82) (by decide +kernel) (fun h B => ?_)
  refine stW B (q' := 83) (by decide +kernel) (fun h B => ?_)
  refine stW B (q' := 84) (by decide +kernel) (fun h B => ?_)
  refine stW B (q' := 85) (by decide +kernel) (fun h B => ?_)
  refine arS B (by decide +kernel) (fun h B => ?_)
  refine ar B (z' := 256) (n' := 20098) (by decide +kernel) (fun h B => ?_)
  refine ar B (z' := 257) (n' := 20122) (by decide +kernel) (fun h B => ?_)
  refine ar B (z' := 258) (n' := 20146) (by decide +kernel) (fun h B => ?_)
  refine ar B (z' := 259) (n' := 20170) (by decide +kernel) (fun h B => ?_)
  refine ar B (z' := 260) (n' := 73418) (by decide +kernel) (fun h B => ?_)
  refine ar B (z' := 261) (n' := 73442) (by decide +kernel) (fun h B => ?_)
  refine ar B (z' := 262) (n' := 73454) (by decide +kernel) (fun h B => ?_)
  refine ar B (z' := 263) (n' := 73466) (by decide +kernel) (fun h B => ?_)
  exact K h B
