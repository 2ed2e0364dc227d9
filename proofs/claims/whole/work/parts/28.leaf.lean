/-! LEAVES: what is asked of numbers, of homes, members, rights, texts, in both programs -/
abbrev inN (x : Int32) (n : Nat) : Prop := 0 ≤ x.toInt ∧ x.toInt < (n : Int)
abbrev inR (x a b : Int32) : Prop := ¬ x < a ∧ ¬ b < x
theorem inN_c {x : Int32} {n : Nat} (hn : n < 2147483648) : (¬ x < 0 ∧ ¬ zI n ≤ x) ↔ inN x n := by
  rw [i_lt, i_le, zI_toInt hn]
  have : (0 : Int32).toInt = 0 := rfl
  unfold inN; omega
theorem inN_m {x : Int32} {n : Nat} (hn : n < 2147483648) : inR x 0 (zI n - 1) ↔ inN x n := by
  have e1 : (1 : Int32).toInt = 1 := rfl
  have : (zI n - 1).toInt = (n : Int) - 1 := by rw [i_sub] <;> rw [zI_toInt hn, e1] <;> omega
  have e0 : (0 : Int32).toInt = 0 := rfl
  unfold inR inN; rw [i_lt, i_lt, this]; omega
theorem inN.ex {x : Int32} {n : Nat} (h : inN x n) : ∃ i, i < n ∧ x = zI i := ⟨x.toInt.toNat, by have := h.1; have := h.2; omega, zI_of h.1⟩
theorem inN_zI {i n : Nat} (h : i < n) (hn : n ≤ 2147483648) : inN (zI i) n := by
  unfold inN; rw [zI_toInt (by omega)]; omega
theorem inN_zI' {i n : Nat} (hi : i < 2147483648) : inN (zI i) n ↔ i < n := by
  unfold inN; rw [zI_toInt hi]; omega
theorem PF.c {d M : Nat} {vs : List Value} {h : AH} {p q : Prop} [Decidable p] [Decidable q] (H : PF d M vs h (.int (bI p))) (e : p ↔ q) : PF d M vs h (.int (bI q)) := by rw [← bI_c e]; exact H
theorem PF.m {d d' M : Nat} {vs : List Value} {h : AH} {v : Value} (H : PF d M vs h v) (hd : d ≤ d') : PF d' M vs h v := Cl.mono H hd (fun _ _ q => q)
theorem bI_01 {p : Prop} [Decidable p] : bI p = 0 ∨ bI p = 1 := by
  by_cases h : p
  · exact Or.inr (bI_t h)
  · exact Or.inl (bI_f h)
theorem p12 {h : AH} (Ly : Lay h) (x : Int32) : PF 0 12 [.ref 109, .int x] h (.int (bI (inN x 40))) := by
  refine PF.c (p := ¬ x < 0 ∧ ¬ zI 40 ≤ x) ?_ (inN_c (by decide))
  refine ws12 x Ly ⟨fun a => ⟨by simp [bI, a], rfl⟩, fun a => ⟨fun b => ⟨by rw [bI_f]; exact fun z => z.2 b, rfl⟩, fun b => ⟨by rw [bI_t]; exact ⟨a, b⟩, rfl⟩⟩⟩
theorem p53 {h : AH} (Ly : Lay h) {n : Nat} (hn : n < 2147483648) (e : am_gi h 9 1 = zI n) (x : Int32) : PF 0 53 [.ref 9, .int x] h (.int (bI (inN x n))) := by
  refine PF.c (p := ¬ x < 0 ∧ ¬ am_gi h 9 1 ≤ x) ?_ (by rw [e]; exact inN_c hn)
  refine ws53 x Ly ⟨fun a => ⟨by simp [bI, a], rfl⟩, fun a => ⟨fun b => ⟨by rw [bI_f]; exact fun z => z.2 b, rfl⟩, fun b => ⟨by rw [bI_t]; exact ⟨a, b⟩, rfl⟩⟩⟩
theorem p138 {h : AH} (Ly : Lay h) {n : Nat} (hn : n < 2147483648) (e : am_gi h 6 2 = zI n) (x : Int32) : PF 0 138 [.ref 6, .int x] h (.int (bI (inN x n))) := by
  refine PF.c (p := ¬ x < 0 ∧ ¬ am_gi h 6 2 ≤ x) ?_ (by rw [e]; exact inN_c hn)
  refine ws138 x Ly ⟨fun a => ⟨by simp [bI, a], rfl⟩, fun a => ⟨fun b => ⟨by rw [bI_f]; exact fun z => z.2 b, rfl⟩, fun b => ⟨by rw [bI_t]; exact ⟨a, b⟩, rfl⟩⟩⟩
theorem p139 {h : AH} (Ly : Lay h) {n : Nat} (hn : n < 2147483648) (e : am_gi h 6 4 = zI n) (x : Int32) : PF 0 139 [.ref 6, .int x] h (.int (bI (inN x n))) := by
  refine PF.c (p := ¬ x < 0 ∧ ¬ am_gi h 6 4 ≤ x) ?_ (by rw [e]; exact inN_c hn)
  refine ws139 x Ly ⟨fun a => ⟨by simp [bI, a], rfl⟩, fun a => ⟨fun b => ⟨by rw [bI_f]; exact fun z => z.2 b, rfl⟩, fun b => ⟨by rw [bI_t]; exact ⟨a, b⟩, rfl⟩⟩⟩
theorem p140 {h : AH} (Ly : Lay h) {n : Nat} (hn : n < 2147483648) (e : am_gi h 6 9 = zI n) (x : Int32) : PF 0 140 [.ref 6, .int x] h (.int (bI (inN x n))) := by
  refine PF.c (p := ¬ x < 0 ∧ ¬ am_gi h 6 9 ≤ x) ?_ (by rw [e]; exact inN_c hn)
  refine ws140 x Ly ⟨fun a => ⟨by simp [bI, a], rfl⟩, fun a => ⟨fun b => ⟨by rw [bI_f]; exact fun z => z.2 b, rfl⟩, fun b => ⟨by rw [bI_t]; exact ⟨a, b⟩, rfl⟩⟩⟩
theorem p141 {h : AH} (Ly : Lay h) (x : Int32) : PF 0 141 [.int x] h (.int (bI (inN x 6))) := by
  refine PF.c (p := ¬ x < 0 ∧ ¬ zI 6 ≤ x) ?_ (inN_c (by decide))
  refine ws141 x Ly ⟨fun a => ⟨by simp [bI, a], rfl⟩, fun a => ⟨fun b => ⟨by rw [bI_f]; exact fun z => z.2 b, rfl⟩, fun b => ⟨by rw [bI_t]; exact ⟨a, b⟩, rfl⟩⟩⟩
theorem p142 {h : AH} (Ly : Lay h) (x : Int32) : PF 0 142 [.int x] h (.int (bI (inR x 1 9))) := by
  refine ws142 x Ly ⟨fun a => ⟨by rw [bI_f]; exact fun z => z.1 a, rfl⟩, fun a => ⟨fun b => ⟨by rw [bI_f]; exact fun z => z.2 b, rfl⟩, fun b => ⟨by rw [bI_t]; exact ⟨a, b⟩, rfl⟩⟩⟩
theorem p143 {h : AH} (Ly : Lay h) (x : Int32) : PF 0 143 [.int x] h (.int (bI (inR x 0 2000000))) := by
  refine ws143 x Ly ⟨fun a => ⟨by rw [bI_f]; exact fun z => z.1 a, rfl⟩, fun a => ⟨fun b => ⟨by rw [bI_f]; exact fun z => z.2 b, rfl⟩, fun b => ⟨by rw [bI_t]; exact ⟨a, b⟩, rfl⟩⟩⟩
theorem p144 {h : AH} (Ly : Lay h) (x : Int32) : PF 0 144 [.int x] h (.int (bI (inR x 0 1000000))) := by
  refine ws144 x Ly ⟨fun a => ⟨by rw [bI_f]; exact fun z => z.1 a, rfl⟩, fun a => ⟨fun b => ⟨by rw [bI_f]; exact fun z => z.2 b, rfl⟩, fun b => ⟨by rw [bI_t]; exact ⟨a, b⟩, rfl⟩⟩⟩
theorem p167 {h : AH} (Ly : Lay h) (x a b : Int32) : PF 0 167 [.int x, .int a, .int b] h (.int (bI (inR x a b))) := by
  refine ws167 x a b Ly ⟨fun a => ⟨by rw [bI_f]; exact fun z => z.1 a, rfl⟩, fun a => ⟨fun b => ⟨by rw [bI_f]; exact fun z => z.2 b, rfl⟩, fun b => ⟨by rw [bI_t]; exact ⟨a, b⟩, rfl⟩⟩⟩
theorem p168 {h : AH} (Ly : Lay h) {n : Nat} (hn : n < 2147483648) (e : am_gi h 216 1 = zI n) (x : Int32) : PF 1 168 [.ref 216, .int x] h (.int (bI (inN x n))) := by
  refine ws168 x Ly (Cl.i ((p167 Ly _ _ _).c (by rw [e]; exact inN_m hn)) (by decide) Ly ⟨bI_01, rfl, rfl⟩)
theorem p169 {h : AH} (Ly : Lay h) {n : Nat} (hn : n < 2147483648) (e : am_gi h 216 7 = zI n) (x : Int32) : PF 1 169 [.ref 216, .int x] h (.int (bI (inN x n))) := by
  refine ws169 x Ly (Cl.i ((p167 Ly _ _ _).c (by rw [e]; exact inN_m hn)) (by decide) Ly ⟨bI_01, rfl, rfl⟩)
theorem p181 {h : AH} (Ly : Lay h) {n : Nat} (hn : n < 2147483648) (e : am_gi h 216 14 = zI n) (x : Int32) : PF 1 181 [.ref 216, .int x] h (.int (bI (inN x n))) := by
  refine ws181 x Ly (Cl.i ((p167 Ly _ _ _).c (by rw [e]; exact inN_m hn)) (by decide) Ly ⟨bI_01, rfl, rfl⟩)
theorem p219 {h : AH} (Ly : Lay h) {n : Nat} (hn : n < 2147483648) (e : am_gi h 216 23 = zI n) (x : Int32) : PF 1 219 [.ref 216, .int x] h (.int (bI (inN x n))) := by
  refine ws219 x Ly (Cl.i ((p167 Ly _ _ _).c (by rw [e]; exact inN_m hn)) (by decide) Ly ⟨bI_01, rfl, rfl⟩)
/-! rights -/
def vCR (h : AH) (n : Nat) (g : Nat → Nat → Int32) : Prop := n ≤ 60 ∧ am_gi h 9 1 = zI n ∧ ∀ i, i < n → ∀ k, k < 6 → am_gi h (11 + i) k = g k i
def vMR (h : AH) (n : Nat) (g : Nat → Nat → Int32) : Prop := n ≤ 60 ∧ am_gi h 216 14 = zI n ∧ ∀ i, i < n → ∀ k, k < 6 → am_gi h (228 + k) i = g k i
/-- kinds, and who is the second one -/
def RV (n : Nat) (g : Nat → Nat → Int32) : Prop := ∀ i, i < n → g 0 i ≠ 3 → g 3 i = -1
def fHo (g : Nat → Nat → Int32) (n : Nat) (w d : Int32) : Int32 := fst1 (fun i => decide (g 1 i = w) && hoR g i d) 0 n
def fMe (g : Nat → Nat → Int32) (n : Nat) (w d : Int32) : Int32 := fst1 (fun i => ofR g i w && hoR g i d) 0 n
theorem p65 {h : AH} (Ly : Lay h) {n : Nat} {g : Nat → Nat → Int32} (V : vCR h n g) {j : Nat} (hj : j < n) (d : Int32) : PF 0 65 [.ref (11 + j), .int d] h (.int (bI (onR g j d = true))) := by
  have h1 := V.1
  have e4 := V.2.2 j hj 4 (by decide)
  have e5 := V.2.2 j hj 5 (by decide)
  have r : (onR g j d = true) ↔ (¬ d < am_gi h (11 + j) 4 ∧ (am_gi h (11 + j) 5 = -1 ∨ ¬ am_gi h (11 + j) 5 ≤ d)) := by
    unfold onR
    rw [Bool.and_eq_true, Bool.or_eq_true, decide_eq_true_eq, decide_eq_true_eq, decide_eq_true_eq, e4, e5]
    exact and_congr i_ge.symm (or_congr Iff.rfl i_gt.symm)
  refine PF.c ?_ r.symm
  refine ws65 (by omega) d Ly ⟨fun a => ⟨?_, rfl⟩, fun a => ⟨fun b => ⟨?_, rfl⟩, fun b => ⟨fun c => ⟨?_, rfl⟩, fun c => ⟨?_, rfl⟩⟩⟩⟩
  · rw [bI_f]; exact fun z => z.1 a
  · rw [bI_t]; exact ⟨a, Or.inl b⟩
  · rw [bI_f]; exact fun z => z.2.elim b (fun w => w c)
  · rw [bI_t]; exact ⟨a, Or.inr c⟩
theorem p66 {h : AH} (Ly : Lay h) {n : Nat} {g : Nat → Nat → Int32} (V : vCR h n g) {j : Nat} (hj : j < n) (d : Int32) : PF 1 66 [.ref (11 + j), .int d] h (.int (bI (hoR g j d = true))) := by
  have h1 := V.1
  have e0 := V.2.2 j hj 0 (by decide)
  have r : (hoR g j d = true) ↔ (¬ am_gi h (11 + j) 0 = 2 ∧ onR g j d = true) := by
    unfold hoR
    rw [Bool.and_eq_true, Bool.not_eq_true', decide_eq_false_iff_not, e0]
  refine PF.c ?_ r.symm
  refine ws66 (by omega) d Ly ⟨fun a => ⟨?_, rfl⟩, fun a => Cl.i (p65 Ly V hj d) (by decide) Ly ⟨fun b => ⟨?_, rfl⟩, fun b => ⟨?_, rfl⟩⟩⟩
  · rw [bI_f]; exact fun z => z.1 a
  · rw [bI_f]; exact fun z => bI_0.mp b z.2
  · rw [bI_t]; exact ⟨a, bI_n0.mp b⟩
theorem p67 {h : AH} (Ly : Lay h) {n : Nat} {g : Nat → Nat → Int32} (V : vCR h n g) (R : RV n g) {j : Nat} (hj : j < n) {w : Int32} (hw : ¬ w = -1) : PF 0 67 [.ref (11 + j), .int w] h (.int (bI (ofR g j w = true))) := by
  have h1 := V.1
  have e2 := V.2.2 j hj 2 (by decide)
  have e3 := V.2.2 j hj 3 (by decide)
  have r : (ofR g j w = true) ↔ (am_gi h (11 + j) 2 = w ∨ am_gi h (11 + j) 3 = w) := by
    unfold ofR
    rw [Bool.or_eq_true, Bool.and_eq_true, decide_eq_true_eq, decide_eq_true_eq, decide_eq_true_eq, e2, e3]
    refine or_congr Iff.rfl ⟨fun z => z.2, fun z => ⟨Decidable.byContradiction fun q => hw (by rw [← z]; exact R j hj q), z⟩⟩
  refine PF.c ?_ r.symm
  refine ws67 (by omega) w Ly ⟨fun a => ⟨?_, rfl⟩, fun a => ⟨fun b => ⟨?_, rfl⟩, fun b => ⟨?_, rfl⟩⟩⟩
  · rw [bI_t]; exact Or.inl a
  · rw [bI_f]; exact fun z => z.elim a b
  · rw [bI_t]; exact Or.inr (Decidable.not_not.mp b)
theorem p68 {h : AH} (Ly : Lay h) {n : Nat} {g : Nat → Nat → Int32} (V : vCR h n g) {j : Nat} (hj : j < n) (w : Int32) : PF 0 68 [.ref (11 + j), .int w] h (.int (bI (g 2 j = w ∧ g 5 j = -1 ∧ (g 0 j = 0 ∨ g 0 j = 3 ∨ g 0 j = 4)))) := by
  have h1 := V.1
  rw [← V.2.2 j hj 2 (by decide), ← V.2.2 j hj 5 (by decide), ← V.2.2 j hj 0 (by decide)]
  refine ws68 (by omega) w Ly ⟨fun a => ⟨?_, rfl⟩, fun a => ⟨fun b => ⟨?_, rfl⟩, fun b => ⟨fun c => ⟨?_, rfl⟩, fun c => ⟨fun d => ⟨?_, rfl⟩, fun d => ⟨fun e => ⟨?_, rfl⟩, fun e => ⟨?_, rfl⟩⟩⟩⟩⟩⟩
  · rw [bI_f]; exact fun z => a z.1
  · rw [bI_f]; exact fun z => b z.2.1
  · rw [bI_t]; exact ⟨Decidable.not_not.mp a, Decidable.not_not.mp b, Or.inl c⟩
  · rw [bI_t]; exact ⟨Decidable.not_not.mp a, Decidable.not_not.mp b, Or.inr (Or.inl d)⟩
  · rw [bI_f]; exact fun z => z.2.2.elim c (fun w => w.elim d e)
  · rw [bI_t]; exact ⟨Decidable.not_not.mp a, Decidable.not_not.mp b, Or.inr (Or.inr (Decidable.not_not.mp e))⟩
theorem l56 {h : AH} (Ly : Lay h) {n : Nat} {g : Nat → Nat → Int32} (V : vCR h n g) (w d : Int32) : ∀ m i, i + m = n → Ev 2 56 2 [.ref 9, .int w, .int d, .int (zI i)] [] h (fun r h' => r = some (.int (fst1 (fun i => decide (g 1 i = w) && hoR g i d) i m)) ∧ h' = h)
  | 0, i, e => ws56_2 _ _ _ Ly ⟨fun _ => ⟨rfl, rfl⟩, fun z => absurd (by rw [V.2.1, ← e]; exact Int32.le_refl _) z⟩
  | m + 1, i, e => by
    have h1 := V.1
    have hi : i < n := by omega
    have ih := l56 Ly V w d m (i + 1) (by omega)
    have e1 := V.2.2 i hi 1 (by decide)
    refine ws56_2 _ _ _ Ly ⟨fun z => absurd z (by rw [V.2.1, zI_le (by omega) (by omega)]; omega), fun _ => ⟨in_zI (by omega) (by omega), ?_⟩⟩
    simp only [zI_tn (show i < 2147483648 by omega), zI_succ, e1]
    unfold fst1
    refine ⟨fun a => ?_, fun a => ⟨in_zI (by omega) (by omega), Cl.i (p66 Ly V hi d) (by decide) Ly ⟨fun b => ?_, fun b => ⟨?_, rfl⟩⟩⟩⟩
    · rw [if_neg (by rw [Bool.and_eq_true, decide_eq_true_eq]; exact fun z => a z.1)]; exact ih
    · rw [if_neg (by rw [Bool.and_eq_true]; exact fun z => bI_0.mp b z.2)]; exact ih
    · rw [if_pos (by rw [Bool.and_eq_true, decide_eq_true_eq]; exact ⟨Decidable.not_not.mp a, bI_n0.mp b⟩)]
theorem p56 {h : AH} (Ly : Lay h) {n : Nat} {g : Nat → Nat → Int32} (V : vCR h n g) (w d : Int32) : PF 2 56 [.ref 9, .int w, .int d] h (.int (fHo g n w d)) := ws56 _ _ Ly (l56 Ly V w d n 0 (by omega))
theorem l57 {h : AH} (Ly : Lay h) {n : Nat} {g : Nat → Nat → Int32} (V : vCR h n g) (R : RV n g) {w : Int32} (hw : ¬ w = -1) (d : Int32) : ∀ m i, i + m = n → Ev 2 57 2 [.ref 9, .int w, .int d, .int (zI i)] [] h (fun r h' => r = some (.int (fst1 (fun i => ofR g i w && hoR g i d) i m)) ∧ h' = h)
  | 0, i, e => ws57_2 _ _ _ Ly ⟨fun _ => ⟨rfl, rfl⟩, fun z => absurd (by rw [V.2.1, ← e]; exact Int32.le_refl _) z⟩
  | m + 1, i, e => by
    have h1 := V.1
    have hi : i < n := by omega
    have ih := l57 Ly V R hw d m (i + 1) (by omega)
    refine ws57_2 _ _ _ Ly ⟨fun z => absurd z (by rw [V.2.1, zI_le (by omega) (by omega)]; omega), fun _ => ⟨in_zI (by omega) (by omega), ?_⟩⟩
    simp only [zI_tn (show i < 2147483648 by omega), zI_succ]
    unfold fst1
    refine Cl.i (p67 Ly V R hi hw) (by decide) Ly ⟨fun a => ?_, fun a => ⟨in_zI (by omega) (by omega), Cl.i (p66 Ly V hi d) (by decide) Ly ⟨fun b => ?_, fun b => ⟨?_, rfl⟩⟩⟩⟩
    · rw [if_neg (by rw [Bool.and_eq_true]; exact fun z => bI_0.mp a z.1)]; exact ih
    · rw [if_neg (by rw [Bool.and_eq_true]; exact fun z => bI_0.mp b z.2)]; exact ih
    · rw [if_pos (by rw [Bool.and_eq_true]; exact ⟨bI_n0.mp a, bI_n0.mp b⟩)]
theorem p57 {h : AH} (Ly : Lay h) {n : Nat} {g : Nat → Nat → Int32} (V : vCR h n g) (R : RV n g) {w : Int32} (hw : ¬ w = -1) (d : Int32) : PF 2 57 [.ref 9, .int w, .int d] h (.int (fMe g n w d)) := ws57 _ _ Ly (l57 Ly V R hw d n 0 (by omega))
theorem p171 {h : AH} (Ly : Lay h) {n : Nat} {g : Nat → Nat → Int32} (V : vMR h n g) {j : Nat} (hj : j < n) (d : Int32) : PF 0 171 [.ref 216, .int (zI j), .int d] h (.int (bI (onR g j d = true))) := by
  have h1 := V.1
  have e4 : am_gi h 232 j = g 4 j := V.2.2 j hj 4 (by decide)
  have e5 : am_gi h 233 j = g 5 j := V.2.2 j hj 5 (by decide)
  have hj' : am_in (zI j) 60 := in_zI (by omega) (by omega)
  have r : (onR g j d = true) ↔ (¬ d < am_gi h 232 j ∧ (am_gi h 233 j = -1 ∨ ¬ am_gi h 233 j ≤ d)) := by
    unfold onR
    rw [Bool.and_eq_true, Bool.or_eq_true, decide_eq_true_eq, decide_eq_true_eq, decide_eq_true_eq, e4, e5]
    exact and_congr i_ge.symm (or_congr Iff.rfl i_gt.symm)
  refine PF.c ?_ r.symm
  refine ws171 _ d Ly ?_
  simp only [zI_tn (show j < 2147483648 by omega)]
  refine ⟨hj', fun a => ⟨?_, by trivial⟩, fun a => ⟨hj', fun b => ⟨?_, by trivial⟩, fun b => ⟨hj', fun c => ⟨?_, by trivial⟩, fun c => ⟨?_, by trivial⟩⟩⟩⟩
  · rw [bI_f]; exact fun z => z.1 a
  · rw [bI_t]; exact ⟨a, Or.inl b⟩
  · rw [bI_f]; exact fun z => z.2.elim b (fun w => w c)
  · rw [bI_t]; exact ⟨a, Or.inr c⟩
theorem p172 {h : AH} (Ly : Lay h) {n : Nat} {g : Nat → Nat → Int32} (V : vMR h n g) {j : Nat} (hj : j < n) (w : Int32) : PF 0 172 [.ref 216, .int (zI j), .int w] h (.int (bI (ofR g j w = true))) := by
  have h1 := V.1
  have e0 : am_gi h 228 j = g 0 j := V.2.2 j hj 0 (by decide)
  have e2 : am_gi h 230 j = g 2 j := V.2.2 j hj 2 (by decide)
  have e3 : am_gi h 231 j = g 3 j := V.2.2 j hj 3 (by decide)
  have hj' : am_in (zI j) 60 := in_zI (by omega) (by omega)
  have r : (ofR g j w = true) ↔ (g 2 j = w ∨ (g 0 j = 3 ∧ g 3 j = w)) := by
    unfold ofR
    rw [Bool.or_eq_true, Bool.and_eq_true, decide_eq_true_eq, decide_eq_true_eq, decide_eq_true_eq]
  refine PF.c ?_ r.symm
  refine ws172 _ w Ly ?_
  simp only [zI_tn (show j < 2147483648 by omega), e0, e2, e3]
  refine ⟨hj', fun a => ⟨?_, by trivial⟩, fun a => ⟨hj', fun b => ⟨?_, by trivial⟩, fun b => ⟨hj', fun c => ⟨?_, by trivial⟩, fun c => ⟨?_, by trivial⟩⟩⟩⟩
  · rw [bI_t]; exact Or.inl a
  · rw [bI_f]; exact fun z => z.elim a (fun w => b w.1)
  · rw [bI_f]; exact fun z => z.elim a (fun w => c w.2)
  · rw [bI_t]; exact Or.inr ⟨Decidable.not_not.mp b, Decidable.not_not.mp c⟩
theorem hoR_e {g : Nat → Nat → Int32} {i : Nat} {d : Int32} : hoR g i d = true ↔ ¬ g 0 i = 2 ∧ onR g i d = true := by
  unfold hoR
  rw [Bool.and_eq_true, Bool.not_eq_true', decide_eq_false_iff_not]
theorem l173 {h : AH} (Ly : Lay h) {n : Nat} {g : Nat → Nat → Int32} (V : vMR h n g) (w d : Int32) : ∀ m i, i + m = n → Ev 1 173 2 [.ref 216, .int w, .int d, .int (zI i)] [] h (fun r h' => r = some (.int (fst1 (fun i => decide (g 1 i = w) && hoR g i d) i m)) ∧ h' = h)
  | 0, i, e => ws173_2 _ _ _ Ly ⟨fun _ => ⟨rfl, rfl⟩, fun z => absurd (by rw [V.2.1, ← e]; exact Int32.le_refl _) z⟩
  | m + 1, i, e => by
    have h1 := V.1
    have hi : i < n := by omega
    have ih := l173 Ly V w d m (i + 1) (by omega)
    have e0 : am_gi h 228 i = g 0 i := V.2.2 i hi 0 (by decide)
    have e1 : am_gi h 229 i = g 1 i := V.2.2 i hi 1 (by decide)
    have hj' : am_in (zI i) 60 := in_zI (by omega) (by omega)
    refine ws173_2 _ _ _ Ly ⟨fun z => absurd z (by rw [V.2.1, zI_le (by omega) (by omega)]; omega), fun _ => ?_⟩
    simp only [zI_tn (show i < 2147483648 by omega), zI_succ, e0, e1]
    unfold fst1
    refine ⟨hj', fun a => ?_, fun a => ⟨hj', fun b => ?_, fun b => Cl.i (p171 Ly V hi d) (by decide) Ly ⟨fun c => ?_, fun c => ⟨?_, rfl⟩⟩⟩⟩
    · rw [if_neg (by rw [Bool.and_eq_true, hoR_e]; exact fun z => z.2.1 a)]; exact ih
    · rw [if_neg (by rw [Bool.and_eq_true, decide_eq_true_eq]; exact fun z => b z.1)]; exact ih
    · rw [if_neg (by rw [Bool.and_eq_true, hoR_e]; exact fun z => bI_0.mp c z.2.2)]; exact ih
    · rw [if_pos (by rw [Bool.and_eq_true, decide_eq_true_eq, hoR_e]; exact ⟨Decidable.not_not.mp b, a, bI_n0.mp c⟩)]
theorem p173 {h : AH} (Ly : Lay h) {n : Nat} {g : Nat → Nat → Int32} (V : vMR h n g) (w d : Int32) : PF 1 173 [.ref 216, .int w, .int d] h (.int (fHo g n w d)) := ws173 _ _ Ly (l173 Ly V w d n 0 (by omega))
theorem l174 {h : AH} (Ly : Lay h) {n : Nat} {g : Nat → Nat → Int32} (V : vMR h n g) (w d : Int32) : ∀ m i, i + m = n → Ev 1 174 2 [.ref 216, .int w, .int d, .int (zI i)] [] h (fun r h' => r = some (.int (fst1 (fun i => ofR g i w && hoR g i d) i m)) ∧ h' = h)
  | 0, i, e => ws174_2 _ _ _ Ly ⟨fun _ => ⟨rfl, rfl⟩, fun z => absurd (by rw [V.2.1, ← e]; exact Int32.le_refl _) z⟩
  | m + 1, i, e => by
    have h1 := V.1
    have hi : i < n := by omega
    have ih := l174 Ly V w d m (i + 1) (by omega)
    have e0 : am_gi h 228 i = g 0 i := V.2.2 i hi 0 (by decide)
    have hj' : am_in (zI i) 60 := in_zI (by omega) (by omega)
    refine ws174_2 _ _ _ Ly ⟨fun z => absurd z (by rw [V.2.1, zI_le (by omega) (by omega)]; omega), fun _ => ?_⟩
    simp only [zI_tn (show i < 2147483648 by omega), zI_succ, e0]
    unfold fst1
    refine ⟨hj', fun a => ?_, fun a => Cl.i (p172 Ly V hi w) (by decide) Ly ⟨fun b => ?_, fun b => Cl.i (p171 Ly V hi d) (by decide) Ly ⟨fun c => ?_, fun c => ⟨?_, rfl⟩⟩⟩⟩
    · rw [if_neg (by rw [Bool.and_eq_true, hoR_e]; exact fun z => z.2.1 a)]; exact ih
    · rw [if_neg (by rw [Bool.and_eq_true]; exact fun z => bI_0.mp b z.1)]; exact ih
    · rw [if_neg (by rw [Bool.and_eq_true, hoR_e]; exact fun z => bI_0.mp c z.2.2)]; exact ih
    · rw [if_pos (by rw [Bool.and_eq_true, hoR_e]; exact ⟨bI_n0.mp b, a, bI_n0.mp c⟩)]
theorem p174 {h : AH} (Ly : Lay h) {n : Nat} {g : Nat → Nat → Int32} (V : vMR h n g) (w d : Int32) : PF 1 174 [.ref 216, .int w, .int d] h (.int (fMe g n w d)) := ws174 _ _ Ly (l174 Ly V w d n 0 (by omega))
