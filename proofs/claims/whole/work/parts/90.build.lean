/-! BUILDING 1: what holds while cells are laid -/
def kdL : List Nat := [11, 104, 105, 6, 106, 7, 7, 7, 7, 7, 7, 7, 7, 7, 7, 7, 7, 7, 7, 7, 7, 7, 7, 7, 7, 7, 7, 7, 7, 7, 7, 7, 7, 7, 7, 7, 7, 7, 7, 7, 7, 7, 7, 7, 7, 7, 7, 7, 7, 7, 7, 7, 7, 7, 7, 7, 7, 7, 7, 7, 7, 7, 7, 7, 7, 5, 102, 100, 100, 8, 101, 101, 107, 101, 0, 100, 100, 100, 100, 109, 101, 101, 101, 101, 101, 101, 101, 101, 101, 101, 101, 101, 101, 101, 101, 101, 100, 103, 100, 4, 100, 101, 101, 1, 100, 108, 2, 2, 2, 2, 2, 2, 2, 2, 2, 2, 2, 2, 3, 3, 3, 3, 3, 3, 3, 3, 3, 3, 3, 3, 3, 3, 3, 3, 3, 3, 3, 3, 3, 3, 3, 3, 9, 102, 100, 100, 9, 102, 100, 100, 9, 102, 100, 100, 9, 102, 100, 100, 9, 102, 100, 100, 9, 102, 100, 100, 9, 102, 100, 100, 9, 102, 100, 100, 9, 102, 100, 100, 9, 102, 100, 100, 9, 102, 100, 100, 9, 102, 100, 100, 10, 102, 101, 10, 102, 101, 10, 102, 101, 10, 102, 101, 10, 102, 101, 10, 102, 101, 102, 100, 12, 100, 100, 100, 103, 100, 100, 100, 100, 100, 100, 101, 100, 100, 100, 100, 100, 100, 100, 100, 100, 100, 100, 100, 103, 103, 100, 100, 100, 100, 100, 100, 100, 100, 100, 100, 101, 100, 100, 101, 100, 100, 100, 100, 100, 101, 101]
def lnL : List Nat := [0, 12, 24, 0, 60, 0, 0, 0, 0, 0, 0, 0, 0, 0, 0, 0, 0, 0, 0, 0, 0, 0, 0, 0, 0, 0, 0, 0, 0, 0, 0, 0, 0, 0, 0, 0, 0, 0, 0, 0, 0, 0, 0, 0, 0, 0, 0, 0, 0, 0, 0, 0, 0, 0, 0, 0, 0, 0, 0, 0, 0, 0, 0, 0, 0, 0, 400, 400, 5, 0, 8, 64, 12, 24, 0, 24, 13, 13, 13, 13, 13, 13, 13, 13, 13, 13, 13, 13, 13, 13, 13, 13, 13, 13, 13, 13, 13, 13, 13, 0, 360, 12, 12, 0, 40, 6, 0, 0, 0, 0, 0, 0, 0, 0, 0, 0, 0, 0, 0, 0, 0, 0, 0, 0, 0, 0, 0, 0, 0, 0, 0, 0, 0, 0, 0, 0, 0, 0, 0, 0, 0, 0, 0, 0, 0, 5, 0, 0, 0, 5, 0, 0, 0, 5, 0, 0, 0, 5, 0, 0, 0, 5, 0, 0, 0, 5, 0, 0, 0, 5, 0, 0, 0, 5, 0, 0, 0, 5, 0, 0, 0, 5, 0, 0, 0, 5, 0, 0, 0, 5, 0, 0, 24, 0, 0, 24, 0, 0, 24, 0, 0, 24, 0, 0, 24, 0, 0, 24, 42, 4, 0, 12, 12, 12, 12, 12, 24, 24, 24, 24, 24, 24, 60, 60, 60, 60, 60, 60, 400, 13, 5200, 5200, 5200, 65, 13, 13, 13, 13, 13, 13, 13, 360, 40, 6, 6, 6, 2400, 42, 85, 420, 24, 24, 24, 53248, 24, 12, 12]
def kdF (a : Nat) : Nat := kdL.getD (a - 6) 0
def lnF (a : Nat) : Nat := lnL.getD (a - 6) 0
def rfF (a k : Nat) : Option Nat := if a = 7 then some (112 + k) else if a = 8 then some (124 + k) else if a = 10 then some (11 + k) else if a = 78 then some (148 + 4 * k) else if a = 111 then some (196 + 3 * k) else if a = 85 then some (86 + k) else if 148 ≤ a ∧ a < 196 then some (a + 1 + k) else if 196 ≤ a ∧ a < 214 then (if k = 3 then some (a + 1) else some (a + 2)) else (ly_R.find? (fun q => q.1 == a && q.2.1 == k)).map (fun q => q.2.2)
def iV (a k : Nat) : Int32 := if a = 253 then am_at am_by0 k else if a = 254 then (if am_at am_by1 k = 32 then 0 else am_at am_by1 k) else -1
/-- z cells are laid, N slots; St: these references stand; Si: these ints have their word, all others are 0 -/
def BI (L : Nat) (xs : Nat → Int32) (z N : Nat) (St Si : Nat → Nat → Prop) (h : AH) : Prop := (am_sz h = z ∧ am_sn h = N) ∧ (∀ a, a < 6 → am_kd h a = am_kd (am_h0 L xs) a ∧ am_ln h a = am_ln (am_h0 L xs) a ∧ ∀ k, am_gi h a k = am_gi (am_h0 L xs) a k) ∧ (∀ a, 6 ≤ a → a < z → ¬ a = 214 → ¬ a = 215 → am_kd h a = kdF a ∧ am_ln h a = lnF a) ∧ (∀ a k, St a k → a < z ∧ am_gr h a k = rfF a k) ∧ (∀ a k, 6 ≤ a → (Si a k → a < z ∧ am_gi h a k = iV a k) ∧ (¬ Si a k → am_gi h a k = 0)) ∧ ∀ a k, 6 ≤ a → am_gl h a k = 0
theorem BI.sz {L : Nat} {xs : Nat → Int32} {z N : Nat} {St Si : Nat → Nat → Prop} {h : AH} (B : BI L xs z N St Si h) : am_sz h = z := B.1.1
theorem BI.kd {L : Nat} {xs : Nat → Int32} {z N : Nat} {St Si : Nat → Nat → Prop} {h : AH} (B : BI L xs z N St Si h) {a k : Nat} (h1 : 6 ≤ a ∧ a < z ∧ ¬ a = 214 ∧ ¬ a = 215) (e : kdF a = k) : am_kd h a = k := (B.2.2.1 a h1.1 h1.2.1 h1.2.2.1 h1.2.2.2).1.trans e
theorem BI.ln {L : Nat} {xs : Nat → Int32} {z N : Nat} {St Si : Nat → Nat → Prop} {h : AH} (B : BI L xs z N St Si h) {a k : Nat} (h1 : 6 ≤ a ∧ a < z ∧ ¬ a = 214 ∧ ¬ a = 215) (e : lnF a = k) : am_ln h a = k := (B.2.2.1 a h1.1 h1.2.1 h1.2.2.1 h1.2.2.2).2.trans e
theorem BI.gr {L : Nat} {xs : Nat → Int32} {z N : Nat} {St Si : Nat → Nat → Prop} {h : AH} (B : BI L xs z N St Si h) {a k : Nat} {v : Option Nat} (s : St a k) (e : rfF a k = v) : am_gr h a k = v := (B.2.2.2.1 a k s).2.trans e
theorem BI.n {L : Nat} {xs : Nat → Int32} {z z' N N' : Nat} {St Si : Nat → Nat → Prop} {h : AH} (B : BI L xs z N St Si h) (e : z = z') (e2 : N = N') : BI L xs z' N' St Si h := by rw [← e, ← e2]; exact B
theorem BI.w {L : Nat} {xs : Nat → Int32} {z N : Nat} {St Si St' Si' : Nat → Nat → Prop} {h : AH} (B : BI L xs z N St Si h) (s : ∀ a k, St' a k → St a k) (i : ∀ a k, Si' a k ↔ Si a k) : BI L xs z N St' Si' h := ⟨B.1, B.2.1, B.2.2.1, fun a k y => B.2.2.2.1 a k (s a k y), fun a k y => ⟨fun w => (B.2.2.2.2.1 a k y).1 ((i a k).mp w), fun w => (B.2.2.2.2.1 a k y).2 (fun u => w ((i a k).mpr u))⟩, B.2.2.2.2.2⟩
theorem BI.nw {L : Nat} {xs : Nat → Int32} {z N k n w : Nat} {St Si : Nat → Nat → Prop} {h : AH} (B : BI L xs z N St Si h) (hz : 6 ≤ z) (e1 : z = 214 ∨ z = 215 ∨ (kdF z = k ∧ lnF z = n)) : BI L xs (z + 1) (N + w) St Si (am_nw h k n w) := by
  obtain ⟨⟨a1, a2⟩, a3, a4, a5, a6, a7⟩ := B
  have g : ∀ b, b ≠ z → b ≠ am_sz h := fun b y => by rw [a1]; exact y
  refine ⟨⟨by show am_sz h + 1 = _; rw [a1], by show am_sn h + w = _; rw [a2]⟩, fun a ha => ?_, fun a h1 h2 h3 h4 => ?_, fun a j s => ?_, fun a j h1 => ?_, fun a j h1 => ?_⟩
  · rw [am_nw_kd (g a (by omega)), am_nw_ln (g a (by omega)), am_nw_gi (g a (by omega))]; exact a3 a ha
  · by_cases y : a = z
    · subst y
      rw [← a1]
      rw [am_nw_kd0, am_nw_ln0, a1]
      exact (e1.resolve_left h3).resolve_left h4 |>.imp Eq.symm Eq.symm
    · rw [am_nw_kd (g a y), am_nw_ln (g a y)]; exact a4 a h1 (by omega) h3 h4
  · have := a5 a j s
    rw [am_nw_gr (g a (by omega))]; exact ⟨by omega, this.2⟩
  · by_cases y : a = z
    · have zr : am_gi (am_nw h k n w) a j = 0 := by rw [y, ← a1, am_nw_gi0]
      exact ⟨fun s => by have := ((a6 a j h1).1 s).1; omega, fun _ => zr⟩
    · rw [am_nw_gi (g a y)]
      exact ⟨fun s => ⟨by have := ((a6 a j h1).1 s).1; omega, ((a6 a j h1).1 s).2⟩, (a6 a j h1).2⟩
  · by_cases y : a = z
    · rw [y, ← a1, am_nw_gl0]
    · rw [am_nw_gl (g a y)]; exact a7 a j h1
theorem BI.sr {L : Nat} {xs : Nat → Int32} {z N a k v : Nat} {St Si : Nat → Nat → Prop} {h : AH} (B : BI L xs z N St Si h) (ha : a < z) (e : rfF a k = some v) : BI L xs z N (fun x y => St x y ∨ (x = a ∧ y = k)) Si (am_sr h a k (some v)) := by
  refine ⟨B.1, B.2.1, B.2.2.1, fun x y s => ?_, B.2.2.2.2.1, B.2.2.2.2.2⟩
  rw [am_sr_gr]
  by_cases w : x = a ∧ y = k
  · rw [if_pos w, w.1, w.2]; exact ⟨ha, e.symm⟩
  · rw [if_neg w]; exact B.2.2.2.1 x y (s.resolve_right w)
theorem BI.si {L : Nat} {xs : Nat → Int32} {z N a k : Nat} {v : Int32} {St Si : Nat → Nat → Prop} {h : AH} (B : BI L xs z N St Si h) (h6 : 6 ≤ a) (ha : a < z) (e : iV a k = v) : BI L xs z N St (fun x y => Si x y ∨ (x = a ∧ y = k)) (am_si h a k v) := by
  refine ⟨B.1, fun x hx => ⟨(B.2.1 x hx).1, (B.2.1 x hx).2.1, fun y => by rw [gi_ne (by omega)]; exact (B.2.1 x hx).2.2 y⟩, B.2.2.1, B.2.2.2.1, fun x y h1 => ?_, B.2.2.2.2.2⟩
  by_cases w : x = a ∧ y = k
  · rw [w.1, w.2, gi_eq]; exact ⟨fun _ => ⟨ha, e.symm⟩, fun u => absurd (Or.inr ⟨rfl, rfl⟩) u⟩
  · rw [gi_ne (by omega)]
    exact ⟨fun s => (B.2.2.2.2.1 x y h1).1 (s.resolve_right w), fun s => (B.2.2.2.2.1 x y h1).2 (fun u => s (Or.inl u))⟩
/-- the references that stand: by a list, and families -/
def stL (T : List (Nat × Nat)) (F : Nat → Nat → Prop) (a k : Nat) : Prop := (a, k) ∈ T ∨ F a k
theorem BI.srL {L : Nat} {xs : Nat → Int32} {z N a k v : Nat} {T : List (Nat × Nat)} {F Si : Nat → Nat → Prop} {h : AH} (B : BI L xs z N (stL T F) Si h) (ha : a < z) (e : rfF a k = some v) : BI L xs z N (stL ((a, k) :: T) F) Si (am_sr h a k (some v)) := (B.sr ha e).w (fun x y s => by
  rcases s with s | s
  · rcases List.mem_cons.mp s with s | s
    · exact Or.inr ⟨congrArg Prod.fst s, congrArg Prod.snd s⟩
    · exact Or.inl (Or.inl s)
  · exact Or.inl (Or.inr s)) (fun _ _ => Iff.rfl)
theorem BI.fam {L : Nat} {xs : Nat → Int32} {z N : Nat} {T : List (Nat × Nat)} {F F' Si : Nat → Nat → Prop} {h : AH} (B : BI L xs z N (stL T F) Si h) (e : ∀ a k, F' a k → F a k) : BI L xs z N (stL T F') Si h := B.w (fun a k s => s.imp id (e a k)) (fun _ _ => Iff.rfl)
theorem BI.h0 (L : Nat) (xs : Nat → Int32) : BI L xs 6 0 (fun _ _ => False) (fun _ _ => False) (am_h0 L xs) := by
  refine ⟨⟨rfl, rfl⟩, fun _ _ => ⟨rfl, rfl, fun _ => rfl⟩, fun a h1 h2 => absurd h2 (by omega), fun _ _ s => s.elim, fun a k h1 => ⟨fun s => s.elim, fun _ => ?_⟩, fun _ _ _ => rfl⟩
  obtain ⟨b, rfl⟩ : ∃ b, a = b + 6 := ⟨a - 6, by omega⟩
  rfl
theorem Cl.rv {d d' M : Nat} {vs : List Value} {h : AH} {P A : AH → Prop} (H : Cl d M vs h (fun r h' => r = none ∧ P h')) (hd : d ≤ d') (k : ∀ h', P h' → A h') : Cl d' M vs h (fun r h1 => r = none ∧ A h1) := Cl.mono H hd (fun r h' q => ⟨q.1, k h' q.2⟩)
theorem in_l {h : AH} {a n i : Nat} (e : am_ln h a = n) (hi : i < n) (hn : n ≤ 2147483648) : am_in (zI i) (am_ln h a) := by rw [e]; exact in_zI hi hn
theorem b52l {L : Nat} {xs : Nat → Int32} {N : Nat} {T : List (Nat × Nat)} {F Si : Nat → Nat → Prop} (s0 : (9, 0) ∈ T) : ∀ m i h, i + m = 60 → BI L xs (11 + i) (N + 6 * i) (stL T (fun a k => F a k ∨ (a = 10 ∧ k < i))) Si h → Ev 1 52 15 [.ref 9, .int (zI i)] [] h (fun r h' => r = none ∧ BI L xs 71 (N + 360) (stL T (fun a k => F a k ∨ (a = 10 ∧ k < 60))) Si h')
  | 0, i, h, e, B => by
    have ei : i = 60 := by omega
    subst ei
    exact wp52_15 _ _ ⟨fun _ => ⟨rfl, B⟩, fun z => absurd (by decide) z⟩
  | m + 1, i, h, e, B => by
    refine wp52_15 _ _ ⟨fun z => absurd ((zI_le (m := 60) (by decide) (by omega)).mp z) (by omega), fun _ => ?_⟩
    have kf : ∀ i, i < 60 → kdF (11 + i) = 7 ∧ lnF (11 + i) = 0 ∧ ¬ (11 + i) = 214 := by decide +kernel
    refine ⟨B.kd (by omega) (by decide +kernel), 10, B.gr (Or.inl s0) (by decide +kernel), fun b5 e5 h4 e4 => ?_⟩
    rw [B.sz] at e5
    have B4 : BI L xs (11 + i + 1) (N + 6 * i + 6) (stL T (fun a k => F a k ∨ (a = 10 ∧ k < i))) Si h4 := by rw [e4]; exact B.nw (by omega) (Or.inr (Or.inr ⟨(kf i (by omega)).1, (kf i (by omega)).2.1⟩))
    rw [e5]
    refine ⟨B4.kd (by omega) (kf i (by omega)).1, wp64 _ ⟨rfl, ?_⟩⟩
    have k10 : am_kd h4 10 = 106 := B4.kd (by omega) (by decide +kernel)
    refine ⟨⟨by omega, by omega, by rw [k10]; exact (B4.kd (by omega) (kf i (by omega)).1).trans rfl⟩, in_l (n := 60) (B4.ln (by omega) (by decide +kernel)) (by omega) (by decide), fun h11 e11 => ?_⟩
    rw [zI_tn (by omega)] at e11
    rw [zI_succ]
    refine b52l s0 m (i + 1) h11 (by omega) ?_
    rw [e11]
    refine ((B4.sr (a := 10) (k := i) (by omega) rfl).n (by omega) (by omega)).w (fun a k s => ?_) (fun _ _ => Iff.rfl)
    rcases s with s | s | s
    · exact Or.inl (Or.inl s)
    · exact Or.inl (Or.inr (Or.inl s))
    · by_cases y : k = i
      · exact Or.inr ⟨s.1, y⟩
      · exact Or.inl (Or.inr (Or.inr ⟨s.1, by omega⟩))
theorem b52 {L : Nat} {xs : Nat → Int32} {N : Nat} {T : List (Nat × Nat)} {F Si : Nat → Nat → Prop} {h : AH} (B : BI L xs 10 N (stL T F) Si h) : Cl 1 52 [.ref 9] h (fun r h' => r = none ∧ BI L xs 71 (N + 420) (stL ((9, 0) :: T) (fun a k => F a k ∨ (a = 10 ∧ k < 60))) Si h') := by
  refine wp52 _ ⟨⟨by decide, by decide⟩, fun b3 e3 h2 e2 => ?_⟩
  rw [B.sz] at e3
  have B2 : BI L xs 11 (N + 60) (stL T F) Si h2 := by rw [e2]; exact B.nw (by omega) (Or.inr (Or.inr ⟨by decide +kernel, by decide +kernel⟩))
  refine ⟨B2.kd (by omega) (by decide +kernel), fun h6 e6 => ?_⟩
  have B6 : BI L xs 11 (N + 60) (stL ((9, 0) :: T) F) Si h6 := by rw [e6, e3]; exact B2.srL (by omega) (by decide +kernel)
  exact Ev.mono (b52l (N := N + 60) (F := F) (List.mem_cons_self ..) 60 0 h6 (by decide) (B6.fam (fun a k s => s.elim id (fun y => absurd y.2 (by omega))))) (Nat.le_refl _) (fun r h' q => ⟨q.1, q.2.n rfl (by omega)⟩)
theorem b30 {L : Nat} {xs : Nat → Int32} {N : Nat} {T : List (Nat × Nat)} {F Si : Nat → Nat → Prop} {h : AH} (B : BI L xs 72 N (stL T F) Si h) : Cl 0 30 [.ref 71] h (fun r h' => r = none ∧ BI L xs 75 (N + 805) (stL ((71, 4) :: (71, 2) :: (71, 0) :: T) F) Si h') := by
  refine wp30 _ ⟨⟨by decide, by decide⟩, fun b0 e0 h0 g0 => ?_⟩
  rw [B.sz] at e0
  have C0 : BI L xs 73 (N + 400) (stL (T) F) Si h0 := by rw [g0]; exact (B.nw (by omega) (Or.inr (Or.inr ⟨by decide +kernel, by decide +kernel⟩))).n rfl (by show _ + 400 = _; omega)
  refine ⟨C0.kd (by omega) (by decide +kernel), fun k0 f0 => ?_⟩
  have D0 : BI L xs 73 (N + 400) (stL ((71, 0) :: T) F) Si k0 := by rw [f0, e0]; exact C0.srL (by omega) (by decide +kernel)
  refine ⟨⟨by decide, by decide⟩, fun b1 e1 h1 g1 => ?_⟩
  rw [D0.sz] at e1
  have C1 : BI L xs 74 (N + 800) (stL ((71, 0) :: T) F) Si h1 := by rw [g1]; exact (D0.nw (by omega) (Or.inr (Or.inr ⟨by decide +kernel, by decide +kernel⟩))).n rfl (by show _ + 400 = _; omega)
  refine ⟨C1.kd (by omega) (by decide +kernel), fun k1 f1 => ?_⟩
  have D1 : BI L xs 74 (N + 800) (stL ((71, 2) :: (71, 0) :: T) F) Si k1 := by rw [f1, e1]; exact C1.srL (by omega) (by decide +kernel)
  refine ⟨⟨by decide, by decide⟩, fun b2 e2 h2 g2 => ?_⟩
  rw [D1.sz] at e2
  have C2 : BI L xs 75 (N + 805) (stL ((71, 2) :: (71, 0) :: T) F) Si h2 := by rw [g2]; exact (D1.nw (by omega) (Or.inr (Or.inr ⟨by decide +kernel, by decide +kernel⟩))).n rfl (by show _ + 5 = _; omega)
  refine ⟨C2.kd (by omega) (by decide +kernel), fun k2 f2 => ?_⟩
  have D2 : BI L xs 75 (N + 805) (stL ((71, 4) :: (71, 2) :: (71, 0) :: T) F) Si k2 := by rw [f2, e2]; exact C2.srL (by omega) (by decide +kernel)
  exact ⟨rfl, D2⟩
theorem b69 {L : Nat} {xs : Nat → Int32} {N : Nat} {T : List (Nat × Nat)} {F Si : Nat → Nat → Prop} {h : AH} (B : BI L xs 76 N (stL T F) Si h) : Cl 0 69 [.ref 75] h (fun r h' => r = none ∧ BI L xs 78 (N + 72) (stL ((75, 1) :: (75, 0) :: T) F) Si h') := by
  refine wp69 _ ⟨⟨by decide, by decide⟩, fun b0 e0 h0 g0 => ?_⟩
  rw [B.sz] at e0
  have C0 : BI L xs 77 (N + 8) (stL (T) F) Si h0 := by rw [g0]; exact (B.nw (by omega) (Or.inr (Or.inr ⟨by decide +kernel, by decide +kernel⟩))).n rfl (by show _ + 8 = _; omega)
  refine ⟨C0.kd (by omega) (by decide +kernel), fun k0 f0 => ?_⟩
  have D0 : BI L xs 77 (N + 8) (stL ((75, 0) :: T) F) Si k0 := by rw [f0, e0]; exact C0.srL (by omega) (by decide +kernel)
  refine ⟨⟨by decide, by decide⟩, fun b1 e1 h1 g1 => ?_⟩
  rw [D0.sz] at e1
  have C1 : BI L xs 78 (N + 72) (stL ((75, 0) :: T) F) Si h1 := by rw [g1]; exact (D0.nw (by omega) (Or.inr (Or.inr ⟨by decide +kernel, by decide +kernel⟩))).n rfl (by show _ + 64 = _; omega)
  refine ⟨C1.kd (by omega) (by decide +kernel), fun k1 f1 => ?_⟩
  have D1 : BI L xs 78 (N + 72) (stL ((75, 1) :: (75, 0) :: T) F) Si k1 := by rw [f1, e1]; exact C1.srL (by omega) (by decide +kernel)
  exact ⟨rfl, D1⟩
theorem b24 {L : Nat} {xs : Nat → Int32} {N : Nat} {T : List (Nat × Nat)} {F Si : Nat → Nat → Prop} {h : AH} (B : BI L xs 106 N (stL T F) Si h) : Cl 0 24 [.ref 105] h (fun r h' => r = none ∧ BI L xs 109 (N + 384) (stL ((105, 3) :: (105, 2) :: (105, 0) :: T) F) Si h') := by
  refine wp24 _ ⟨⟨by decide, by decide⟩, fun b0 e0 h0 g0 => ?_⟩
  rw [B.sz] at e0
  have C0 : BI L xs 107 (N + 360) (stL (T) F) Si h0 := by rw [g0]; exact (B.nw (by omega) (Or.inr (Or.inr ⟨by decide +kernel, by decide +kernel⟩))).n rfl (by show _ + 360 = _; omega)
  refine ⟨C0.kd (by omega) (by decide +kernel), fun k0 f0 => ?_⟩
  have D0 : BI L xs 107 (N + 360) (stL ((105, 0) :: T) F) Si k0 := by rw [f0, e0]; exact C0.srL (by omega) (by decide +kernel)
  refine ⟨⟨by decide, by decide⟩, fun b1 e1 h1 g1 => ?_⟩
  rw [D0.sz] at e1
  have C1 : BI L xs 108 (N + 372) (stL ((105, 0) :: T) F) Si h1 := by rw [g1]; exact (D0.nw (by omega) (Or.inr (Or.inr ⟨by decide +kernel, by decide +kernel⟩))).n rfl (by show _ + 12 = _; omega)
  refine ⟨C1.kd (by omega) (by decide +kernel), fun k1 f1 => ?_⟩
  have D1 : BI L xs 108 (N + 372) (stL ((105, 2) :: (105, 0) :: T) F) Si k1 := by rw [f1, e1]; exact C1.srL (by omega) (by decide +kernel)
  refine ⟨⟨by decide, by decide⟩, fun b2 e2 h2 g2 => ?_⟩
  rw [D1.sz] at e2
  have C2 : BI L xs 109 (N + 384) (stL ((105, 2) :: (105, 0) :: T) F) Si h2 := by rw [g2]; exact (D1.nw (by omega) (Or.inr (Or.inr ⟨by decide +kernel, by decide +kernel⟩))).n rfl (by show _ + 12 = _; omega)
  refine ⟨C2.kd (by omega) (by decide +kernel), fun k2 f2 => ?_⟩
  have D2 : BI L xs 109 (N + 384) (stL ((105, 3) :: (105, 2) :: (105, 0) :: T) F) Si k2 := by rw [f2, e2]; exact C2.srL (by omega) (by decide +kernel)
  exact ⟨rfl, D2⟩
theorem b11 {L : Nat} {xs : Nat → Int32} {N : Nat} {T : List (Nat × Nat)} {F Si : Nat → Nat → Prop} {h : AH} (B : BI L xs 110 N (stL T F) Si h) : Cl 0 11 [.ref 109] h (fun r h' => r = none ∧ BI L xs 111 (N + 40) (stL ((109, 0) :: T) F) Si h') := by
  refine wp11 _ ⟨⟨by decide, by decide⟩, fun b0 e0 h0 g0 => ?_⟩
  rw [B.sz] at e0
  have C0 : BI L xs 111 (N + 40) (stL (T) F) Si h0 := by rw [g0]; exact (B.nw (by omega) (Or.inr (Or.inr ⟨by decide +kernel, by decide +kernel⟩))).n rfl (by show _ + 40 = _; omega)
  refine ⟨C0.kd (by omega) (by decide +kernel), fun k0 f0 => ?_⟩
  have D0 : BI L xs 111 (N + 40) (stL ((109, 0) :: T) F) Si k0 := by rw [f0, e0]; exact C0.srL (by omega) (by decide +kernel)
  exact ⟨rfl, D0⟩
