/-! THE MATHEMATICS: numbers, calls that only answer, loops -/
abbrev zI (n : Nat) : Int32 := Int32.ofNat n
abbrev tn (x : Int32) : Nat := Int32.toNatClampNeg x
def i32lo : Int := -2147483648
theorem zI_toInt {n : Nat} (h : n < 2147483648) : (zI n).toInt = n := Int32.toInt_ofNat_of_lt h
theorem zI_tn {n : Nat} (h : n < 2147483648) : (zI n).toNatClampNeg = n := Int32.toNatClampNeg_ofNat_of_lt h
theorem zI_lt {m n : Nat} (hm : m < 2147483648) (hn : n < 2147483648) : zI m < zI n ↔ m < n := by
  rw [Int32.lt_iff_toInt_lt, zI_toInt hm, zI_toInt hn]; omega
theorem zI_le {m n : Nat} (hm : m < 2147483648) (hn : n < 2147483648) : zI m ≤ zI n ↔ m ≤ n := by
  rw [Int32.le_iff_toInt_le, zI_toInt hm, zI_toInt hn]; omega
theorem zI_inj {m n : Nat} (hm : m < 2147483648) (hn : n < 2147483648) : zI m = zI n ↔ m = n := by
  rw [← Int32.toInt_inj, zI_toInt hm, zI_toInt hn]; omega
theorem zI_add (m n : Nat) : zI m + zI n = zI (m + n) := (Int32.ofNat_add m n).symm
theorem zI_succ (n : Nat) : zI n + 1 = zI (n + 1) := (Int32.ofNat_add n 1).symm
theorem zI_nonneg {n : Nat} (h : n < 2147483648) : ¬ zI n < 0 := by
  rw [Int32.lt_iff_toInt_lt, zI_toInt h]; show ¬ ((n : Int) < 0); omega
theorem zI_ne1 {n : Nat} (h : n < 2147483648) : ¬ zI n = -1 := by
  rw [← Int32.toInt_inj, zI_toInt h]; show ¬ ((n : Int) = -1); omega
theorem i_bm {x : Int} (h1 : -2147483648 ≤ x) (h2 : x < 2147483648) : x.bmod (2 ^ 32) = x := by
  rw [Int.bmod_eq_of_le] <;> omega
theorem i_add {x y : Int32} (h1 : -2147483648 ≤ x.toInt + y.toInt) (h2 : x.toInt + y.toInt < 2147483648) : (x + y).toInt = x.toInt + y.toInt := by rw [Int32.toInt_add, i_bm h1 h2]
theorem i_sub {x y : Int32} (h1 : -2147483648 ≤ x.toInt - y.toInt) (h2 : x.toInt - y.toInt < 2147483648) : (x - y).toInt = x.toInt - y.toInt := by rw [Int32.toInt_sub, i_bm h1 h2]
theorem i_mul {x y : Int32} (h1 : -2147483648 ≤ x.toInt * y.toInt) (h2 : x.toInt * y.toInt < 2147483648) : (x * y).toInt = x.toInt * y.toInt := by rw [Int32.toInt_mul, i_bm h1 h2]
theorem i_lo (x : Int32) : -2147483648 ≤ x.toInt := Int32.le_toInt x
theorem i_hi (x : Int32) : x.toInt < 2147483648 := Int32.toInt_lt x
theorem zI_of {x : Int32} (h : 0 ≤ x.toInt) : x = zI x.toInt.toNat := by
  have h2 := i_hi x
  rw [← Int32.toInt_inj, zI_toInt (by omega)]; omega
theorem tn_of {x : Int32} (h : 0 ≤ x.toInt) : x.toNatClampNeg = x.toInt.toNat := rfl
theorem in_zI {i n : Nat} (h : i < n) (hn : n ≤ 2147483648) : am_in (zI i) n := by
  rintro (z | z)
  · exact zI_nonneg (by omega) z
  · rw [zI_tn (by omega)] at z; omega
theorem in_of {x : Int32} {n : Nat} (h0 : 0 ≤ x.toInt) (h : x.toInt < n) : am_in x n := by
  rintro (z | z)
  · rw [Int32.lt_iff_toInt_lt] at z; have : x.toInt < 0 := z; omega
  · rw [tn_of h0] at z; omega
theorem i_lt {x y : Int32} : x < y ↔ x.toInt < y.toInt := Int32.lt_iff_toInt_lt
theorem i_le {x y : Int32} : x ≤ y ↔ x.toInt ≤ y.toInt := Int32.le_iff_toInt_le
theorem i_eq {x y : Int32} : x = y ↔ x.toInt = y.toInt := Int32.toInt_inj.symm
theorem i_ge {x y : Int32} : ¬ x < y ↔ y ≤ x := by rw [i_lt, i_le]; omega
theorem i_gt {x y : Int32} : ¬ x ≤ y ↔ y < x := by rw [i_lt, i_le]; omega
/-- a number that is a place in a row of n -/
theorem i_pl {x : Int32} {n : Nat} (h0 : ¬ x < 0) (h : x < zI n) (hn : n < 2147483648) : ∃ i, i < n ∧ x = zI i := by
  rw [i_lt, zI_toInt hn] at h
  have : 0 ≤ x.toInt := by rw [i_lt] at h0; have : ¬ x.toInt < 0 := h0; omega
  exact ⟨x.toInt.toNat, by omega, zI_of this⟩
/-- a call that only answers -/
def PF (d M : Nat) (vs : List Value) (h : AH) (v : Value) : Prop := Cl d M vs h (fun r h' => r = some v ∧ h' = h)
theorem Cl.i {d d' M : Nat} {vs : List Value} {h : AH} {x : Int32} {A : Int32 → AH → Prop} (H : PF d M vs h (.int x)) (hd : d ≤ d') (Ly : Lay h) (k : A x h) : Cl d' M vs h (fun r h1 => ∃ x, r = some (.int x) ∧ Lay h1 ∧ A x h1) :=
  Cl.mono H hd (fun r h' q => ⟨x, q.1, by rw [q.2]; exact Ly, by rw [q.2]; exact k⟩)
theorem Cl.l {d d' M : Nat} {vs : List Value} {h : AH} {x : Int64} {A : Int64 → AH → Prop} (H : PF d M vs h (.long x)) (hd : d ≤ d') (Ly : Lay h) (k : A x h) : Cl d' M vs h (fun r h1 => ∃ x, r = some (.long x) ∧ Lay h1 ∧ A x h1) :=
  Cl.mono H hd (fun r h' q => ⟨x, q.1, by rw [q.2]; exact Ly, by rw [q.2]; exact k⟩)
/-- a call that answers a number and leaves heap g -/
def GF (d M : Nat) (vs : List Value) (h : AH) (v : Option Value) (g : AH) : Prop := Cl d M vs h (fun r h' => r = v ∧ h' = g)
theorem Cl.gi {d d' M : Nat} {vs : List Value} {h g : AH} {x : Int32} {A : Int32 → AH → Prop} (H : GF d M vs h (some (.int x)) g) (hd : d ≤ d') (Ly : Lay g) (k : A x g) : Cl d' M vs h (fun r h1 => ∃ x, r = some (.int x) ∧ Lay h1 ∧ A x h1) :=
  Cl.mono H hd (fun r h' q => ⟨x, q.1, by rw [q.2]; exact Ly, by rw [q.2]; exact k⟩)
theorem Cl.gl {d d' M : Nat} {vs : List Value} {h g : AH} {x : Int64} {A : Int64 → AH → Prop} (H : GF d M vs h (some (.long x)) g) (hd : d ≤ d') (Ly : Lay g) (k : A x g) : Cl d' M vs h (fun r h1 => ∃ x, r = some (.long x) ∧ Lay h1 ∧ A x h1) :=
  Cl.mono H hd (fun r h' q => ⟨x, q.1, by rw [q.2]; exact Ly, by rw [q.2]; exact k⟩)
theorem Cl.gv {d d' M : Nat} {vs : List Value} {h g : AH} {A : AH → Prop} (H : GF d M vs h none g) (hd : d ≤ d') (Ly : Lay g) (k : A g) : Cl d' M vs h (fun r h1 => r = none ∧ Lay h1 ∧ A h1) :=
  Cl.mono H hd (fun r h' q => ⟨q.1, by rw [q.2]; exact Ly, by rw [q.2]; exact k⟩)
/-- truth as a number -/
def bI (p : Prop) [Decidable p] : Int32 := if p then 1 else 0
theorem bI_t {p : Prop} [Decidable p] (h : p) : bI p = 1 := if_pos h
theorem bI_f {p : Prop} [Decidable p] (h : ¬ p) : bI p = 0 := if_neg h
theorem bI_0 {p : Prop} [Decidable p] : bI p = 0 ↔ ¬ p := by
  unfold bI; split
  · rename_i h; exact ⟨fun z => (by cases z), fun z => absurd h z⟩
  · rename_i h; exact ⟨fun _ => h, fun _ => rfl⟩
theorem bI_1 {p : Prop} [Decidable p] : bI p = 1 ↔ p := by
  unfold bI; split
  · rename_i h; exact ⟨fun _ => h, fun _ => rfl⟩
  · rename_i h; exact ⟨fun z => (by cases z), fun z => absurd z h⟩
theorem bI_n0 {p : Prop} [Decidable p] : ¬ bI p = 0 ↔ p := by rw [bI_0]; exact Decidable.not_not
theorem bI_c {p q : Prop} [Decidable p] [Decidable q] (h : p ↔ q) : bI p = bI q := by
  unfold bI; by_cases z : p
  · rw [if_pos z, if_pos (h.mp z)]
  · rw [if_neg z, if_neg (fun w => z (h.mpr w))]
/-- a loop over the places i .. i + m - 1 -/
def fold {α : Type} (f : α → Nat → α) : α → Nat → Nat → α
  | a, _, 0 => a
  | a, i, m + 1 => fold f (f a i) (i + 1) m
theorem fold_congr {α : Type} {f g : α → Nat → α} : ∀ {m i : Nat} {a : α}, (∀ j a, i ≤ j → j < i + m → f a j = g a j) → fold f a i m = fold g a i m
  | 0, _, _, _ => rfl
  | m + 1, i, a, h => by
    show fold f (f a i) (i + 1) m = fold g (g a i) (i + 1) m
    rw [h i a (Nat.le_refl _) (by omega)]
    exact fold_congr (fun j a h1 h2 => h j a (by omega) (by omega))
theorem fold_inv {α : Type} {f : α → Nat → α} (P : Nat → α → Prop) : ∀ {m i : Nat} {a : α}, P i a → (∀ j a, i ≤ j → j < i + m → P j a → P (j + 1) (f a j)) → P (i + m) (fold f a i m)
  | 0, _, _, h, _ => h
  | m + 1, i, a, h, st => by
    have := fold_inv (f := f) P (m := m) (i := i + 1) (a := f a i) (st i a (Nat.le_refl _) (by omega) h) (fun j a h1 h2 hp => st j a (by omega) (by omega) hp)
    rw [show i + (m + 1) = i + 1 + m by omega]
    exact this
theorem fold_succ {α : Type} {f : α → Nat → α} : ∀ {m i : Nat} {a : α}, fold f a i (m + 1) = f (fold f a i m) (i + m)
  | 0, _, _ => rfl
  | m + 1, i, a => by
    show fold f (f a i) (i + 1) (m + 1) = f (fold f (f a i) (i + 1) m) (i + (m + 1))
    rw [fold_succ (m := m), show i + 1 + m = i + (m + 1) by omega]
/-- the first place of i .. i + m - 1 with p, or -1 -/
def fst1 (p : Nat → Bool) : Nat → Nat → Int32
  | _, 0 => -1
  | i, m + 1 => if p i then zI i else fst1 p (i + 1) m
theorem fst1_congr {p q : Nat → Bool} : ∀ {m i : Nat}, (∀ j, i ≤ j → j < i + m → p j = q j) → fst1 p i m = fst1 q i m
  | 0, _, _ => rfl
  | m + 1, i, h => by
    show (if p i then zI i else fst1 p (i + 1) m) = (if q i then zI i else fst1 q (i + 1) m)
    rw [h i (Nat.le_refl _) (by omega), fst1_congr (m := m) (fun j h1 h2 => h j (by omega) (by omega))]
theorem fst1_spec (p : Nat → Bool) : ∀ (m i : Nat), (fst1 p i m = -1 ∧ ∀ j, i ≤ j → j < i + m → p j = false) ∨ ∃ k, i ≤ k ∧ k < i + m ∧ fst1 p i m = zI k ∧ p k = true ∧ ∀ j, i ≤ j → j < k → p j = false
  | 0, i => Or.inl ⟨rfl, fun j h1 h2 => by omega⟩
  | m + 1, i => by
    unfold fst1
    by_cases h : p i = true
    · rw [if_pos h]; exact Or.inr ⟨i, Nat.le_refl _, by omega, rfl, h, fun j h1 h2 => by omega⟩
    · rw [if_neg h]
      rcases fst1_spec p m (i + 1) with ⟨e, a⟩ | ⟨k, h1, h2, e, hk, a⟩
      · refine Or.inl ⟨e, fun j h1 h2 => ?_⟩
        by_cases hj : j = i
        · subst hj; simpa using h
        · exact a j (by omega) (by omega)
      · refine Or.inr ⟨k, by omega, by omega, e, hk, fun j h3 h4 => ?_⟩
        by_cases hj : j = i
        · subst hj; simpa using h
        · exact a j (by omega) h4
/-! THE INVARIANT BETWEEN CLASS AND REFERENCE. Which topic a cell's slot belongs to: 1 the day, 2 homes, 3 members, 4 rights, 5 the tape, 6 texts, 7 faults, 8 costs, 9 the fund, 10 the status, 11 trays, 12 what is never written; 0 what a call leaves behind and none reads -/
def tp (a k : Nat) : Nat :=
  if a < 6 then 12
  else if a = 6 then (if k = 0 then 1 else if k = 2 then 2 else if k = 4 then 3 else if k = 9 then 6 else if k = 10 then 6 else if k = 11 then 7 else if k = 12 then 7 else if k = 18 then 10 else 0)
  else if a = 9 then 4
  else if a < 11 then 0
  else if a < 71 then 4
  else if a = 71 then (if k = 1 then 5 else 0)
  else if a = 72 then 5
  else if a < 105 then 0
  else if a = 105 then (if k = 1 then 8 else 0)
  else if a = 106 then 8
  else if a < 109 then 0
  else if a < 111 then 9
  else if a = 111 then 0
  else if a < 124 then 2
  else if a < 148 then 3
  else if a < 196 then 6
  else if a < 214 then 11
  else if a < 216 then 6
  else if a = 216 then (if k = 0 then 1 else if k = 1 then 2 else if k = 7 then 3 else if k = 14 then 4 else if k = 22 then 5 else if k = 23 then 6 else if k = 36 then 6 else if k = 37 then 7 else if k = 38 then 7 else if k = 39 then 8 else if k = 42 then 9 else if k = 47 then 10 else 0)
  else if a < 222 then 2
  else if a < 228 then 3
  else if a < 234 then 4
  else if a = 234 then 5
  else if a < 247 then 6
  else if a = 247 then 8
  else if a = 248 then 9
  else if a < 253 then 11
  else if a = 254 then 12
  else if a < 263 then 0
  else 6
theorem tp_right {i k : Nat} (h : i < 60) : tp (11 + i) k = 4 := by unfold tp; (repeat' (first | rw [if_pos (by omega)] | rw [if_neg (by omega)]))
theorem tp_home {i k : Nat} (h : i < 12) : tp (112 + i) k = 2 := by unfold tp; (repeat' (first | rw [if_pos (by omega)] | rw [if_neg (by omega)]))
theorem tp_member {i k : Nat} (h : i < 24) : tp (124 + i) k = 3 := by unfold tp; (repeat' (first | rw [if_pos (by omega)] | rw [if_neg (by omega)]))
theorem tp_text {i k : Nat} (h : i < 12) : tp (148 + 4 * i) k = 6 := by unfold tp; (repeat' (first | rw [if_pos (by omega)] | rw [if_neg (by omega)]))
theorem tp_starts {i k : Nat} (h : i < 12) : tp (151 + 4 * i) k = 6 := by unfold tp; (repeat' (first | rw [if_pos (by omega)] | rw [if_neg (by omega)]))
theorem tp_tray {i k : Nat} (h : i < 6) : tp (196 + 3 * i) k = 11 := by unfold tp; (repeat' (first | rw [if_pos (by omega)] | rw [if_neg (by omega)]))
theorem tp_debts {i k : Nat} (h : i < 6) : tp (198 + 3 * i) k = 11 := by unfold tp; (repeat' (first | rw [if_pos (by omega)] | rw [if_neg (by omega)]))
theorem tp_price {i k : Nat} (h : i < 13) : tp (86 + i) k = 0 := by unfold tp; (repeat' (first | rw [if_pos (by omega)] | rw [if_neg (by omega)]))
/-- the cells themselves, their kinds, lengths and references are the same -/
def Sm (h h' : AH) : Prop := am_sz h' = am_sz h ∧ am_sn h' = am_sn h ∧ am_kd h' = am_kd h ∧ am_ln h' = am_ln h ∧ am_gr h' = am_gr h
theorem Sm.rfl' (h : AH) : Sm h h := ⟨rfl, rfl, rfl, rfl, rfl⟩
theorem Sm.trans {h h1 h2 : AH} (A : Sm h h1) (B : Sm h1 h2) : Sm h h2 := ⟨B.1.trans A.1, B.2.1.trans A.2.1, B.2.2.1.trans A.2.2.1, B.2.2.2.1.trans A.2.2.2.1, B.2.2.2.2.trans A.2.2.2.2⟩
theorem Sm.si {h h1 : AH} (A : Sm h h1) (a k : Nat) (v : Int32) : Sm h (am_si h1 a k v) := A
theorem Sm.sl {h h1 : AH} (A : Sm h h1) (a k : Nat) (v : Int64) : Sm h (am_sl h1 a k v) := A
theorem Sm.sw {h h1 : AH} (A : Sm h h1) (a : Nat) (g : Nat → Int32) : Sm h (am_sw h1 a g) := A
theorem Sm.lay {h h' : AH} (A : Sm h h') (L : Lay h) : Lay h' := by
  obtain ⟨a1, a2, a3, a4, a5⟩ := A
  unfold Lay at L ⊢
  rw [a1, a3, a4, a5]
  exact L
/-- the slots of topic t are the same -/
def Ag (t : Nat) (h h' : AH) : Prop := ∀ a k, tp a k = t → am_gi h' a k = am_gi h a k ∧ am_gl h' a k = am_gl h a k
theorem Ag.rfl' (t : Nat) (h : AH) : Ag t h h := fun _ _ _ => ⟨rfl, rfl⟩
theorem Ag.trans {t : Nat} {h h1 h2 : AH} (A : Ag t h h1) (B : Ag t h1 h2) : Ag t h h2 := fun a k e => ⟨(B a k e).1.trans (A a k e).1, (B a k e).2.trans (A a k e).2⟩
theorem Ag.si {t : Nat} {h h1 : AH} (A : Ag t h h1) {a k : Nat} {v : Int32} (n : tp a k ≠ t) : Ag t h (am_si h1 a k v) := fun b j e => by
  refine ⟨?_, (A b j e).2⟩
  rw [am_si_gi, if_neg (fun z => n (by rw [← z.1, ← z.2]; exact e))]
  exact (A b j e).1
theorem Ag.sl {t : Nat} {h h1 : AH} (A : Ag t h h1) {a k : Nat} {v : Int64} (n : tp a k ≠ t) : Ag t h (am_sl h1 a k v) := fun b j e => by
  refine ⟨(A b j e).1, ?_⟩
  rw [am_sl_gl, if_neg (fun z => n (by rw [← z.1, ← z.2]; exact e))]
  exact (A b j e).2
/-- only what none reads has changed -/
def Sc (h h' : AH) : Prop := Sm h h' ∧ ∀ a k, tp a k ≠ 0 → am_gi h' a k = am_gi h a k ∧ am_gl h' a k = am_gl h a k
theorem Sc.rfl' (h : AH) : Sc h h := ⟨Sm.rfl' h, fun _ _ _ => ⟨rfl, rfl⟩⟩
theorem Sc.trans {h h1 h2 : AH} (A : Sc h h1) (B : Sc h1 h2) : Sc h h2 := ⟨A.1.trans B.1, fun a k e => ⟨(B.2 a k e).1.trans (A.2 a k e).1, (B.2 a k e).2.trans (A.2 a k e).2⟩⟩
theorem Sc.si {h h1 : AH} (A : Sc h h1) {a k : Nat} {v : Int32} (n : tp a k = 0) : Sc h (am_si h1 a k v) := ⟨A.1, fun b j e => by
  refine ⟨?_, (A.2 b j e).2⟩
  rw [am_si_gi, if_neg (fun z => e (by rw [z.1, z.2]; exact n))]
  exact (A.2 b j e).1⟩
theorem Sc.sl {h h1 : AH} (A : Sc h h1) {a k : Nat} {v : Int64} (n : tp a k = 0) : Sc h (am_sl h1 a k v) := ⟨A.1, fun b j e => by
  refine ⟨(A.2 b j e).1, ?_⟩
  rw [am_sl_gl, if_neg (fun z => e (by rw [z.1, z.2]; exact n))]
  exact (A.2 b j e).2⟩
theorem Sc.ag {h h' : AH} (A : Sc h h') {t : Nat} (ht : t ≠ 0) : Ag t h h' := fun a k e => A.2 a k (by rw [e]; exact ht)
theorem Sc.gi {h h' : AH} (A : Sc h h') {a k : Nat} (n : tp a k ≠ 0) : am_gi h' a k = am_gi h a k := (A.2 a k n).1
theorem Sc.gl {h h' : AH} (A : Sc h h') {a k : Nat} (n : tp a k ≠ 0) : am_gl h' a k = am_gl h a k := (A.2 a k n).2
theorem Sc.lay {h h' : AH} (A : Sc h h') (L : Lay h) : Lay h' := A.1.lay L
/-- what is never written: the script, the table of names, the two Strings, the reference's words -/
def ICo (L : Nat) (xs : Nat → Int32) (h : AH) : Prop := (am_kd h 0 = 100 ∧ am_kd h 1 = 100 ∧ am_kd h 2 = 200 ∧ am_kd h 3 = 201 ∧ am_kd h 4 = 200 ∧ am_kd h 5 = 201) ∧ (am_ln h 0 = L ∧ am_ln h 1 = 4 ∧ am_ln h 3 = 42 ∧ am_ln h 5 = 85) ∧ (∀ i, am_gi h 0 i = xs i) ∧ (∀ i, am_gi h 1 i = am_at am_alw i) ∧ (∀ i, am_gi h 3 i = am_at am_by0 i) ∧ (∀ i, am_gi h 5 i = am_at am_by1 i) ∧ (∀ i, i < 85 → am_gi h 254 i = if am_at am_by1 i = 32 then 0 else am_at am_by1 i)
def IDa (h : AH) : Prop := am_gi h 6 0 = am_gi h 216 0 ∧ 0 ≤ (am_gi h 216 0).toInt ∧ (am_gi h 216 0).toInt ≤ 1000000
def IHo (h : AH) (n : Nat) : Prop := n ≤ 12 ∧ am_gi h 6 2 = zI n ∧ am_gi h 216 1 = zI n ∧ (∀ i, i < 12 → am_gi h (112 + i) 3 = am_gi h 220 i ∧ (am_gi h 220 i = 0 ∨ am_gi h 220 i = 1)) ∧ (∀ i, i < n → am_gi h (112 + i) 0 = am_gi h 217 i ∧ am_gi h (112 + i) 1 = am_gi h 218 i ∧ am_gi h (112 + i) 2 = am_gi h 219 i)
def IMe (h : AH) (n : Nat) : Prop := n ≤ 24 ∧ am_gi h 6 4 = zI n ∧ am_gi h 216 7 = zI n ∧ (∀ i, i < 24 → am_gi h (124 + i) 4 = am_gi h 226 i ∧ 0 ≤ (am_gi h 226 i).toInt ∧ am_gl h (124 + i) 5 = am_gl h 227 i) ∧ (∀ i, i < n → am_gi h (124 + i) 0 = am_gi h 222 i ∧ am_gi h (124 + i) 1 = am_gi h 223 i ∧ am_gi h (124 + i) 2 = am_gi h 224 i ∧ am_gi h (124 + i) 3 = am_gi h 225 i) ∧ (∀ i, n ≤ i → i < 24 → am_gi h (124 + i) 2 = -1 ∧ am_gi h (124 + i) 3 = -1)
def IRi (h : AH) (n : Nat) : Prop := n ≤ 60 ∧ am_gi h 9 1 = zI n ∧ am_gi h 216 14 = zI n ∧ (∀ i, i < n → ∀ k, k < 6 → am_gi h (11 + i) k = am_gi h (228 + k) i)
def ITa (h : AH) (n : Nat) : Prop := n ≤ 400 ∧ am_gi h 71 1 = zI n ∧ am_gi h 216 22 = zI n ∧ (∀ i, i < 400 → -128 ≤ (am_gi h 72 i).toInt ∧ (am_gi h 72 i).toInt ≤ 127) ∧ (∀ i, i < n → am_gi h 72 i = (am_gi h 234 i).toInt8.toInt32 ∧ 0 ≤ (am_gi h 234 i).toInt ∧ (am_gi h 234 i).toInt ≤ 255)
def IFa (h : AH) : Prop := am_gi h 6 11 = am_gi h 216 37 ∧ am_gi h 6 12 = am_gi h 216 38
def ICs (h : AH) (n : Nat) : Prop := n ≤ 30 ∧ am_gi h 105 1 = zI n ∧ am_gi h 216 39 = zI n ∧ (∀ i, i < 12 * n → am_gi h 106 i = am_gi h 247 i)
def IFu (h : AH) : Prop := am_gi h 109 1 = am_gi h 216 42 ∧ (0 ≤ (am_gi h 216 42).toInt ∧ (am_gi h 216 42).toInt ≤ 100) ∧ (∀ i, i < 40 → am_gi h 110 i = am_gi h 248 i ∧ 0 ≤ (am_gi h 248 i).toInt ∧ (am_gi h 248 i).toInt ≤ 1000000)
def ISt (h : AH) : Prop := am_gi h 6 18 = am_gi h 216 47
theorem ICo.of {L : Nat} {xs : Nat → Int32} {h h' : AH} (I : ICo L xs h) (S : Sm h h') (A : Ag 12 h h') : ICo L xs h' := by
  obtain ⟨a, b, c1, c2, c3, c4, c5⟩ := I
  have tl : ∀ a k, a < 6 → tp a k = 12 := fun a k h => by unfold tp; rw [if_pos h]
  unfold ICo
  rw [S.2.2.1, S.2.2.2.1]
  refine ⟨a, b, fun i => ?_, fun i => ?_, fun i => ?_, fun i => ?_, fun i hi => ?_⟩
  · rw [(A 0 i (tl _ _ (by omega))).1]; exact c1 i
  · rw [(A 1 i (tl _ _ (by omega))).1]; exact c2 i
  · rw [(A 3 i (tl _ _ (by omega))).1]; exact c3 i
  · rw [(A 5 i (tl _ _ (by omega))).1]; exact c4 i
  · rw [(A 254 i rfl).1]; exact c5 i hi
theorem IDa.of {h h' : AH} (I : IDa h) (A : Ag 1 h h') : IDa h' := by
  unfold IDa; rw [(A 6 0 rfl).1, (A 216 0 rfl).1]; exact I
theorem IHo.of {h h' : AH} {n : Nat} (I : IHo h n) (A : Ag 2 h h') : IHo h' n := by
  obtain ⟨a, b, c, e, f⟩ := I
  refine ⟨a, by rw [(A 6 2 rfl).1]; exact b, by rw [(A 216 1 rfl).1]; exact c, fun i hi => ?_, fun i hi => ?_⟩
  · rw [(A (112 + i) 3 (tp_home hi)).1, (A 220 i rfl).1]; exact e i hi
  · have hi' : i < 12 := by omega
    rw [(A (112 + i) 0 (tp_home hi')).1, (A (112 + i) 1 (tp_home hi')).1, (A (112 + i) 2 (tp_home hi')).1, (A 217 i rfl).1, (A 218 i rfl).1, (A 219 i rfl).1]; exact f i hi
theorem IMe.of {h h' : AH} {n : Nat} (I : IMe h n) (A : Ag 3 h h') : IMe h' n := by
  obtain ⟨a, b, c, e, f, g⟩ := I
  refine ⟨a, by rw [(A 6 4 rfl).1]; exact b, by rw [(A 216 7 rfl).1]; exact c, fun i hi => ?_, fun i hi => ?_, fun i h1 hi => ?_⟩
  · rw [(A (124 + i) 4 (tp_member hi)).1, (A (124 + i) 5 (tp_member hi)).2, (A 226 i rfl).1, (A 227 i rfl).2]; exact e i hi
  · have hi' : i < 24 := by omega
    rw [(A (124 + i) 0 (tp_member hi')).1, (A (124 + i) 1 (tp_member hi')).1, (A (124 + i) 2 (tp_member hi')).1, (A (124 + i) 3 (tp_member hi')).1, (A 222 i rfl).1, (A 223 i rfl).1, (A 224 i rfl).1, (A 225 i rfl).1]; exact f i hi
  · rw [(A (124 + i) 2 (tp_member hi)).1, (A (124 + i) 3 (tp_member hi)).1]; exact g i h1 hi
theorem tp_rr {k i : Nat} (h : k < 6) : tp (228 + k) i = 4 := by unfold tp; (repeat' (first | rw [if_pos (by omega)] | rw [if_neg (by omega)]))
theorem IRi.of {h h' : AH} {n : Nat} (I : IRi h n) (A : Ag 4 h h') : IRi h' n := by
  obtain ⟨a, b, c, e⟩ := I
  refine ⟨a, by rw [(A 9 1 rfl).1]; exact b, by rw [(A 216 14 rfl).1]; exact c, fun i hi k hk => ?_⟩
  rw [(A (11 + i) k (tp_right (by omega))).1, (A (228 + k) i (tp_rr hk)).1]; exact e i hi k hk
theorem ITa.of {h h' : AH} {n : Nat} (I : ITa h n) (A : Ag 5 h h') : ITa h' n := by
  obtain ⟨a, b, c, e, f⟩ := I
  refine ⟨a, by rw [(A 71 1 rfl).1]; exact b, by rw [(A 216 22 rfl).1]; exact c, fun i hi => ?_, fun i hi => ?_⟩
  · rw [(A 72 i rfl).1]; exact e i hi
  · rw [(A 72 i rfl).1, (A 234 i rfl).1]; exact f i hi
theorem IFa.of {h h' : AH} (I : IFa h) (A : Ag 7 h h') : IFa h' := by
  unfold IFa; rw [(A 6 11 rfl).1, (A 6 12 rfl).1, (A 216 37 rfl).1, (A 216 38 rfl).1]; exact I
theorem ICs.of {h h' : AH} {n : Nat} (I : ICs h n) (A : Ag 8 h h') : ICs h' n := by
  obtain ⟨a, b, c, e⟩ := I
  refine ⟨a, by rw [(A 105 1 rfl).1]; exact b, by rw [(A 216 39 rfl).1]; exact c, fun i hi => ?_⟩
  rw [(A 106 i rfl).1, (A 247 i rfl).1]; exact e i hi
theorem IFu.of {h h' : AH} (I : IFu h) (A : Ag 9 h h') : IFu h' := by
  obtain ⟨a, b, c⟩ := I
  refine ⟨by rw [(A 109 1 rfl).1, (A 216 42 rfl).1]; exact a, by rw [(A 216 42 rfl).1]; exact b, fun i hi => ?_⟩
  rw [(A 110 i rfl).1, (A 248 i rfl).1]; exact c i hi
theorem ISt.of {h h' : AH} (I : ISt h) (A : Ag 10 h h') : ISt h' := by
  unfold ISt; rw [(A 6 18 rfl).1, (A 216 47 rfl).1]; exact I
/-! members and the day; refusals; rights -/
def IX1 (h : AH) (nm : Nat) : Prop := ∀ j, j < nm → (am_gi h 223 j).toInt ≤ (am_gi h 216 0).toInt ∧ (am_gi h 224 j = -1 ∨ (am_gi h 224 j).toInt ≤ (am_gi h 216 0).toInt) ∧ (am_gi h 224 j = -1 ∨ am_gi h 225 j = -1)
/-- bit j of x, as the programs ask for it -/
def bq (x : Int32) (j : Nat) : Int32 := (x >>> (zI j &&& 31)) &&& 1
def IX2 (h : AH) (nm : Nat) : Prop := ∀ i, i < 12 → ∀ j, j < 24 → (j < nm ∧ am_gi h 224 j ≠ -1) ∨ bq (am_gi h (112 + i) 4) j = bq (am_gi h 221 i) j
/-- a right (row g: kind, home, holder, second, from, to) is on -/
def onR (g : Nat → Nat → Int32) (i : Nat) (day : Int32) : Bool := decide (g 4 i ≤ day) && (decide (g 5 i = -1) || decide (day < g 5 i))
def hoR (g : Nat → Nat → Int32) (i : Nat) (day : Int32) : Bool := !decide (g 0 i = 2) && onR g i day
def ofR (g : Nat → Nat → Int32) (i : Nat) (w : Int32) : Bool := decide (g 2 i = w) || (decide (g 0 i = 3) && decide (g 3 i = w))
/-- the reference's rows of rights, the class's -/
def rR (h : AH) (k i : Nat) : Int32 := am_gi h (228 + k) i
def rC (h : AH) (k i : Nat) : Int32 := am_gi h (11 + i) k
def IX3 (h : AH) (nh nm nr : Nat) : Prop := (∀ i, i < nr → (0 ≤ (rR h 0 i).toInt ∧ (rR h 0 i).toInt ≤ 4) ∧ (0 ≤ (rR h 1 i).toInt ∧ (rR h 1 i).toInt < nh) ∧ (0 ≤ (rR h 2 i).toInt ∧ (rR h 2 i).toInt < nm) ∧ ((rR h 0 i ≠ 3 ∧ rR h 3 i = -1) ∨ (rR h 0 i = 3 ∧ 0 ≤ (rR h 3 i).toInt ∧ (rR h 3 i).toInt < nm ∧ rR h 3 i ≠ rR h 2 i)) ∧ rR h 4 i ≤ am_gi h 216 0) ∧
  (∀ i j w, i < nr → j < nr → hoR (rR h) i (am_gi h 216 0) = true → hoR (rR h) j (am_gi h 216 0) = true → ofR (rR h) i w = true → ofR (rR h) j w = true → i = j) ∧
  (∀ i j, i < nr → j < nr → hoR (rR h) i (am_gi h 216 0) = true → hoR (rR h) j (am_gi h 216 0) = true → rR h 1 i = rR h 1 j → i = j)
theorem IX1.of {h h' : AH} {nm : Nat} (I : IX1 h nm) (A : Ag 1 h h') (B : Ag 3 h h') : IX1 h' nm := fun j hj => by
  rw [(B 223 j rfl).1, (B 224 j rfl).1, (B 225 j rfl).1, (A 216 0 rfl).1]; exact I j hj
theorem IX2.of {h h' : AH} {nm : Nat} (I : IX2 h nm) (A : Ag 2 h h') (B : Ag 3 h h') : IX2 h' nm := fun i hi j hj => by
  rw [(B 224 j rfl).1, (A (112 + i) 4 (tp_home hi)).1, (A 221 i rfl).1]; exact I i hi j hj
theorem onR_congr {g g' : Nat → Nat → Int32} {i : Nat} {d : Int32} (h4 : g 4 i = g' 4 i) (h5 : g 5 i = g' 5 i) : onR g i d = onR g' i d := by unfold onR; rw [h4, h5]
theorem hoR_congr {g g' : Nat → Nat → Int32} {i : Nat} {d : Int32} (h0 : g 0 i = g' 0 i) (h4 : g 4 i = g' 4 i) (h5 : g 5 i = g' 5 i) : hoR g i d = hoR g' i d := by unfold hoR; rw [h0, onR_congr h4 h5]
theorem ofR_congr {g g' : Nat → Nat → Int32} {i : Nat} {w : Int32} (h0 : g 0 i = g' 0 i) (h2 : g 2 i = g' 2 i) (h3 : g 3 i = g' 3 i) : ofR g i w = ofR g' i w := by unfold ofR; rw [h0, h2, h3]
theorem Ag.rR {h h' : AH} (A : Ag 4 h h') {k i : Nat} (hk : k < 6) : rR h' k i = rR h k i := (A (228 + k) i (tp_rr hk)).1
theorem IX3.of {h h' : AH} {nh nm nr : Nat} (I : IX3 h nh nm nr) (A : Ag 1 h h') (B : Ag 4 h h') : IX3 h' nh nm nr := by
  obtain ⟨a, b, c⟩ := I
  have e : am_gi h' 216 0 = am_gi h 216 0 := (A 216 0 rfl).1
  have f : ∀ k, k < 6 → ∀ i, rR h' k i = rR h k i := fun k hk i => B.rR hk
  have g1 : ∀ i d, hoR (rR h') i d = hoR (rR h) i d := fun i d => hoR_congr (f 0 (by omega) i) (f 4 (by omega) i) (f 5 (by omega) i)
  have g2 : ∀ i w, ofR (rR h') i w = ofR (rR h) i w := fun i w => ofR_congr (f 0 (by omega) i) (f 2 (by omega) i) (f 3 (by omega) i)
  unfold IX3
  refine ⟨fun i hi => ?_, fun i j w hi hj h1 h2 h3 h4 => ?_, fun i j hi hj h1 h2 h3 => ?_⟩
  · rw [f 0 (by omega), f 1 (by omega), f 2 (by omega), f 3 (by omega), f 4 (by omega), e]; exact a i hi
  · rw [e, g1] at h1 h2; rw [g2] at h3 h4; exact b i j w hi hj h1 h2 h3 h4
  · rw [e, g1] at h1 h2; rw [f 1 (by omega), f 1 (by omega)] at h3; exact c i j hi hj h1 h2 h3
/-- what is on offer is empty -/
def IX4 (h : AH) (nr : Nat) : Prop := ∀ i, i < nr → hoR (rR h) i (am_gi h 216 0) = true → am_gi h 220 (rR h 1 i).toNatClampNeg = 0
theorem IX4.of {h h' : AH} {nr : Nat} (I : IX4 h nr) (A : Ag 1 h h') (B : Ag 2 h h') (C : Ag 4 h h') : IX4 h' nr := fun i hi z => by
  have e : am_gi h' 216 0 = am_gi h 216 0 := (A 216 0 rfl).1
  rw [e, hoR_congr (C.rR (by omega)) (C.rR (by omega)) (C.rR (by omega))] at z
  rw [(B 220 _ rfl).1, C.rR (by omega)]
  exact I i hi z
/-! texts -/
/-- what the class's code has for the reference's step -/
def cR (op w c : Int32) : Prop := (op = 0 ∧ c = w ∧ 0 ≤ w.toInt) ∨ (op = 1 ∧ 0 ≤ w.toInt ∧ w.toInt < 8 ∧ c = -1 - w) ∨ (2 ≤ op.toInt ∧ op.toInt ≤ 10 ∧ c = -19 - op)
/-- how high the pile stands behind the steps i .. i + m - 1 -/
def hts (op : Nat → Int32) : Nat → Nat → Nat → Option Nat
  | _, 0, n => some n
  | i, m + 1, n => if op i = 0 ∨ op i = 1 then (if n < 60 then hts op (i + 1) m (n + 1) else none) else if op i = 4 ∨ op i = 10 then (if 1 ≤ n then hts op (i + 1) m n else none) else (if 2 ≤ n then hts op (i + 1) m (n - 1) else none)
/-- which names a part may have -/
def alw (k : Nat) (w : Int32) : Prop := if k < 2 then w.toInt < 7 else if k = 2 then w = 7 else (w = 1 ∨ w = 2 ∨ w = 5 ∨ w = 6)
/-- the code of one text: op, w the reference's rows from the text's place on, c the class's; p where the parts begin -/
def ICd (op w c : Nat → Int32) (p : Nat → Nat) : Prop := (p 0 = 0 ∧ p 0 ≤ p 1 ∧ p 1 ≤ p 2 ∧ p 2 ≤ p 3 ∧ p 3 ≤ p 4 ∧ p 4 ≤ 400) ∧ (∀ i, i < p 4 → cR (op i) (w i) (c i)) ∧ (∀ k, k < 4 → hts op (p k) (p (k + 1) - p k) 0 = some 1 ∧ ∀ i, p k ≤ i → i < p (k + 1) → op i = 1 → alw k (w i))
def ITb (h : AH) (t : Nat) : Prop := ∃ b n, am_gr h (148 + 4 * t) 0 = some b ∧ b < am_sz h ∧ (b = 214 ∨ b = 215 ∨ 263 ≤ b) ∧ tp b 0 = 6 ∧ am_kd h b = 102 ∧ am_ln h b = n ∧ n ≤ 400 ∧ am_gi h 235 t = zI n ∧ ∀ i, i < n → am_gi h b i = am_gi h 236 (400 * t + i) ∧ 0 ≤ (am_gi h b i).toInt ∧ (am_gi h b i).toInt ≤ 127
def ITc (h : AH) (t : Nat) : Prop := ∃ b p, am_gr h (148 + 4 * t) 1 = some b ∧ b < am_sz h ∧ (b = 214 ∨ b = 215 ∨ 263 ≤ b) ∧ tp b 0 = 6 ∧ am_kd h b = 100 ∧ am_ln h b = p 4 ∧ (∀ k, k < 5 → am_gi h (151 + 4 * t) k = zI (p k) ∧ am_gi h 239 (5 * t + k) = zI (p k)) ∧ ICd (fun i => am_gi h 237 (400 * t + i)) (fun i => am_gi h 238 (400 * t + i)) (am_gi h b) p
def ITt (h : AH) (nt t : Nat) : Prop := (am_gi h (148 + 4 * t) 3 = am_gi h 245 t ∧ 0 ≤ (am_gi h 245 t).toInt) ∧ (am_gi h (148 + 4 * t) 4 = am_gi h 246 t ∧ 0 ≤ (am_gi h 246 t).toInt) ∧ (am_gi h (148 + 4 * t) 5 = am_gi h 241 t ∧ (am_gi h 241 t = 0 ∨ am_gi h 241 t = 1)) ∧ ((am_gi h 240 t = 1 ∧ am_gi h (148 + 4 * t) 6 = am_gi h 243 t ∧ 0 ≤ (am_gi h 243 t).toInt) ∨ (am_gi h 240 t = 0 ∧ am_gi h (148 + 4 * t) 6 = -1)) ∧ am_gi h (148 + 4 * t) 7 = am_gi h 242 t ∧ (am_gi h (148 + 4 * t) 8 = am_gi h 244 t ∧ (am_gi h 244 t = -1 ∨ (0 ≤ (am_gi h 244 t).toInt ∧ (am_gi h 244 t).toInt < nt)))
def ITx (h : AH) (nt c : Nat) : Prop := (1 ≤ nt ∧ nt ≤ 12) ∧ am_gi h 6 9 = zI nt ∧ am_gi h 216 23 = zI nt ∧ (am_gi h 6 10 + 1 = am_gi h 216 36 ∧ 1 ≤ (am_gi h 216 36).toInt ∧ (am_gi h 216 36).toInt ≤ 1 + c) ∧ (∀ t, t < nt → ITt h nt t ∧ ITb h t ∧ ITc h t) ∧ (am_gi h 240 0 = 1 ∧ am_gi h 244 0 = -1) ∧ (∀ t, nt ≤ t → t < 12 → am_gi h (148 + 4 * t) 3 = 0 ∧ am_gi h (148 + 4 * t) 4 = 0 ∧ am_gi h (148 + 4 * t) 5 = 0 ∧ am_gi h (148 + 4 * t) 6 = -1 ∧ am_gi h (148 + 4 * t) 7 = -1 ∧ am_gi h (148 + 4 * t) 8 = -1)
/-- the rows that texts point at are the same -/
def SmT (h h' : AH) : Prop := am_sz h ≤ am_sz h' ∧ (∀ a, a < am_sz h → am_kd h' a = am_kd h a ∧ am_ln h' a = am_ln h a) ∧ (∀ t k, t < 12 → am_gr h' (148 + 4 * t) k = am_gr h (148 + 4 * t) k)
theorem Sm.t {h h' : AH} (S : Sm h h') : SmT h h' := ⟨Nat.le_of_eq S.1.symm, fun a _ => by rw [S.2.2.1, S.2.2.2.1]; exact ⟨rfl, rfl⟩, fun t k _ => by rw [S.2.2.2.2]⟩
theorem tp_k {b k : Nat} (h1 : ¬ b = 6) (h2 : ¬ b = 71) (h3 : ¬ b = 105) (h4 : ¬ b = 216) : tp b k = tp b 0 := by
  unfold tp
  simp only [h1, h2, h3, h4, if_false]
theorem tp6 {b k : Nat} (h1 : b = 214 ∨ b = 215 ∨ 263 ≤ b) (h2 : tp b 0 = 6) : tp b k = 6 := by
  have h3 : ¬ b = 216 := fun z => by subst z; exact absurd h2 (by decide)
  rw [tp_k (by omega) (by omega) (by omega) h3]; exact h2
theorem ITt.of {h h' : AH} {nt t : Nat} (I : ITt h nt t) (A : Ag 6 h h') (ht : t < 12) : ITt h' nt t := by
  unfold ITt at I ⊢
  rw [(A _ 3 (tp_text ht)).1, (A _ 4 (tp_text ht)).1, (A _ 5 (tp_text ht)).1, (A _ 6 (tp_text ht)).1, (A _ 7 (tp_text ht)).1, (A _ 8 (tp_text ht)).1, (A 240 t rfl).1, (A 241 t rfl).1, (A 242 t rfl).1, (A 243 t rfl).1, (A 244 t rfl).1, (A 245 t rfl).1, (A 246 t rfl).1]
  exact I
theorem ITb.of {h h' : AH} {t : Nat} (I : ITb h t) (S : SmT h h') (A : Ag 6 h h') (ht : t < 12) : ITb h' t := by
  obtain ⟨b, n, a1, a2, a3, a4, a5, a6, a7, a8, a9⟩ := I
  refine ⟨b, n, by rw [S.2.2 t 0 ht]; exact a1, Nat.lt_of_lt_of_le a2 S.1, a3, a4, by rw [(S.2.1 b a2).1]; exact a5, by rw [(S.2.1 b a2).2]; exact a6, a7, by rw [(A 235 t rfl).1]; exact a8, fun i hi => ?_⟩
  rw [(A b i (tp6 a3 a4)).1, (A 236 (400 * t + i) rfl).1]; exact a9 i hi
theorem ITc.of {h h' : AH} {t : Nat} (I : ITc h t) (S : SmT h h') (A : Ag 6 h h') (ht : t < 12) : ITc h' t := by
  obtain ⟨b, p, a1, a2, a3, a4, a5, a6, a8, a9⟩ := I
  refine ⟨b, p, by rw [S.2.2 t 1 ht]; exact a1, Nat.lt_of_lt_of_le a2 S.1, a3, a4, by rw [(S.2.1 b a2).1]; exact a5, by rw [(S.2.1 b a2).2]; exact a6, fun k hk => ?_, ?_⟩
  · rw [(A (151 + 4 * t) k (tp_starts ht)).1, (A 239 (5 * t + k) rfl).1]; exact a8 k hk
  · rw [show (fun i => am_gi h' 237 (400 * t + i)) = (fun i => am_gi h 237 (400 * t + i)) from funext fun i => (A 237 _ rfl).1, show (fun i => am_gi h' 238 (400 * t + i)) = (fun i => am_gi h 238 (400 * t + i)) from funext fun i => (A 238 _ rfl).1, show am_gi h' b = am_gi h b from funext fun i => (A b i (tp6 a3 a4)).1]; exact a9
theorem ITx.of {h h' : AH} {nt c : Nat} (I : ITx h nt c) (S : SmT h h') (A : Ag 6 h h') : ITx h' nt c := by
  obtain ⟨a, b, e, f, g, i, j⟩ := I
  refine ⟨a, by rw [(A 6 9 rfl).1]; exact b, by rw [(A 216 23 rfl).1]; exact e, by rw [(A 6 10 rfl).1, (A 216 36 rfl).1]; exact f, fun t ht => ?_, by rw [(A 240 0 rfl).1, (A 244 0 rfl).1]; exact i, fun t h1 ht => ?_⟩
  · obtain ⟨g1, g2, g3⟩ := g t ht
    exact ⟨g1.of A (by omega), g2.of S A (by omega), g3.of S A (by omega)⟩
  · rw [(A _ 3 (tp_text ht)).1, (A _ 4 (tp_text ht)).1, (A _ 5 (tp_text ht)).1, (A _ 6 (tp_text ht)).1, (A _ 7 (tp_text ht)).1, (A _ 8 (tp_text ht)).1]; exact j t h1 ht
theorem ITx.more {h : AH} {nt c c' : Nat} (I : ITx h nt c) (hc : c ≤ c') : ITx h nt c' := by
  obtain ⟨a, b, e, ⟨f1, f2, f3⟩, g⟩ := I
  exact ⟨a, b, e, ⟨f1, f2, by omega⟩, g⟩
/-! trays -/
def ITy (h : AH) (nr t : Nat) : Prop := am_gi h (196 + 3 * t) 0 = am_gi h 249 t ∧ (0 ≤ (am_gi h 249 t).toInt ∧ (am_gi h 249 t).toInt ≤ 4) ∧
  (am_gi h 249 t = 1 → ∃ r, r < nr ∧ am_gi h 250 t = zI r ∧ am_gi h (196 + 3 * t) 1 = am_gi h 228 r ∧ am_gi h (196 + 3 * t) 2 = am_gi h 229 r) ∧
  (am_gi h 249 t = 2 → ∃ b n, n ≤ 400 ∧ am_gr h (196 + 3 * t) 3 = some b ∧ b < am_sz h ∧ (b = 214 ∨ b = 215 ∨ 263 ≤ b) ∧ tp b 0 = 6 ∧ am_kd h b = 102 ∧ am_gi h (196 + 3 * t) 6 = zI n ∧ am_gi h 251 t = zI n ∧ am_ln h b = n ∧ ∀ i, i < n → (am_gi h b i).toInt64 = am_gl h 252 (400 * t + i)) ∧
  (am_gi h 249 t = 3 → ∃ n, n ≤ 24 ∧ am_gi h (196 + 3 * t) 6 = zI n ∧ am_gi h 251 t = zI n ∧ ∀ i, i < n → am_gl h (198 + 3 * t) i = am_gl h 252 (400 * t + i)) ∧
  (am_gi h 249 t = 4 → ∃ n, n ≤ 12 ∧ am_gi h (196 + 3 * t) 6 = zI n ∧ am_gi h 251 t = zI n ∧ ∀ i, i < n → (bq (am_gi h (196 + 3 * t) 5) i).toInt64 = am_gl h 252 (400 * t + i))
def ITr (h : AH) (nr : Nat) : Prop := ∀ t, t < 6 → ITy h nr t
theorem ITy.of {h h' : AH} {nr nr' t : Nat} (I : ITy h nr t) (ht : t < 6) (hn : nr ≤ nr') (A : Ag 11 h h') (B : Ag 6 h h') (K : ∀ r, r < nr → am_gi h' 228 r = am_gi h 228 r ∧ am_gi h' 229 r = am_gi h 229 r) (S1 : am_sz h ≤ am_sz h') (S2 : ∀ a, a < am_sz h → am_kd h' a = am_kd h a ∧ am_ln h' a = am_ln h a) (S3 : am_gr h' (196 + 3 * t) 3 = am_gr h (196 + 3 * t) 3) : ITy h' nr' t := by
  obtain ⟨a1, a2, a3, a4, a5, a6⟩ := I
  unfold ITy
  rw [(A 249 t rfl).1, (A _ 0 (tp_tray ht)).1, (A _ 1 (tp_tray ht)).1, (A _ 2 (tp_tray ht)).1, (A _ 5 (tp_tray ht)).1, (A _ 6 (tp_tray ht)).1, (A 250 t rfl).1, (A 251 t rfl).1, S3]
  refine ⟨a1, a2, fun z => ?_, fun z => ?_, fun z => ?_, fun z => ?_⟩
  · obtain ⟨r, r1, r2, r3, r4⟩ := a3 z
    exact ⟨r, by omega, r2, by rw [(K r r1).1]; exact r3, by rw [(K r r1).2]; exact r4⟩
  · obtain ⟨b, n, r1, r2, r3, r4, r5, r6, r7, r8, r9, r10⟩ := a4 z
    refine ⟨b, n, r1, r2, Nat.lt_of_lt_of_le r3 S1, r4, r5, by rw [(S2 b r3).1]; exact r6, r7, r8, by rw [(S2 b r3).2]; exact r9, fun i hi => ?_⟩
    rw [(B b i (tp6 r4 r5)).1, (A 252 _ rfl).2]; exact r10 i hi
  · obtain ⟨n, r1, r2, r3, r4⟩ := a5 z
    refine ⟨n, r1, r2, r3, fun i hi => ?_⟩
    rw [(A _ i (tp_debts ht)).2, (A 252 _ rfl).2]; exact r4 i hi
  · obtain ⟨n, r1, r2, r3, r4⟩ := a6 z
    refine ⟨n, r1, r2, r3, fun i hi => ?_⟩
    rw [(A 252 _ rfl).2]; exact r4 i hi
theorem ITr.of {h h' : AH} {nr : Nat} (I : ITr h nr) (S : Sm h h') (A : Ag 11 h h') (B : Ag 6 h h') (C : Ag 4 h h') : ITr h' nr := fun t ht =>
  (I t ht).of ht (Nat.le_refl _) A B (fun r _ => ⟨(C 228 r rfl).1, (C 229 r rfl).1⟩) (Nat.le_of_eq S.1.symm) (fun a _ => by rw [S.2.2.1, S.2.2.2.1]; exact ⟨rfl, rfl⟩) (by rw [S.2.2.2.2])
/-- the numbers of homes, members, rights, bytes on the tape, texts, costs -/
def InvN (L : Nat) (xs : Nat → Int32) (c : Nat) (h : AH) (nh nm nr na nt nc : Nat) : Prop := Lay h ∧ ICo L xs h ∧ (am_sz h ≤ 263 + 2 * c ∧ am_sn h ≤ 100000 + 800 * c) ∧ IDa h ∧ IFa h ∧ IFu h ∧ ISt h ∧ IHo h nh ∧ IMe h nm ∧ IRi h nr ∧ ITa h na ∧ ICs h nc ∧ IX1 h nm ∧ IX2 h nm ∧ IX3 h nh nm nr ∧ ITx h nt c ∧ ITr h nr ∧ IX4 h nr
def Inv (L : Nat) (xs : Nat → Int32) (c : Nat) (h : AH) : Prop := ∃ nh nm nr na nt nc, InvN L xs c h nh nm nr na nt nc
