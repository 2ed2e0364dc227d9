/-! COST 2: how coins are divided -/
def sI (f : Nat → Int) : Nat → Int
  | 0 => 0
  | n + 1 => sI f n + f n
theorem sI_congr {f g : Nat → Int} : ∀ {n : Nat}, (∀ j, j < n → f j = g j) → sI f n = sI g n
  | 0, _ => rfl
  | n + 1, h => by show sI f n + f n = sI g n + g n; rw [sI_congr (n := n) (fun j hj => h j (by omega)), h n (by omega)]
theorem sI_pos {f : Nat → Int} : ∀ {n : Nat}, 0 < sI f n → ∃ j, j < n ∧ 0 < f j
  | 0, h => absurd h (Int.lt_irrefl 0)
  | n + 1, h => by
    have h' : 0 < sI f n + f n := h
    by_cases z : 0 < f n
    · exact ⟨n, by omega, z⟩
    · obtain ⟨j, hj, p⟩ := sI_pos (f := f) (n := n) (by omega)
      exact ⟨j, by omega, p⟩
theorem sI_le {f g : Nat → Int} : ∀ {n : Nat}, (∀ j, j < n → f j ≤ g j) → sI f n ≤ sI g n
  | 0, _ => Int.le_refl _
  | n + 1, h => by show sI f n + f n ≤ sI g n + g n; have := sI_le (n := n) (fun j hj => h j (by omega)); have := h n (by omega); omega
theorem sI_upd {f g : Nat → Int} {x : Nat} : ∀ {n : Nat}, (∀ j, j < n → j ≠ x → g j = f j) → sI g n = sI f n + (if x < n then g x - f x else 0)
  | 0, _ => rfl
  | n + 1, h => by
    show sI g n + g n = sI f n + f n + _
    have ih := sI_upd (x := x) (n := n) (fun j hj => h j (by omega))
    by_cases z : n = x
    · subst z; rw [if_neg (by omega)] at ih; rw [if_pos (by omega)]; omega
    · have := h n (by omega) z
      by_cases w : x < n
      · rw [if_pos w] at ih; rw [if_pos (by omega)]; omega
      · rw [if_neg w] at ih; rw [if_neg (by omega)]; omega
theorem sI_lin (c t : Int) (w q : Nat → Int) : ∀ n, sI (fun j => c * w j - q j * t) n = c * sI w n - sI q n * t
  | 0 => by show (0 : Int) = c * 0 - 0 * t; rw [Int.mul_zero, Int.zero_mul]; rfl
  | n + 1 => by
    show sI (fun j => c * w j - q j * t) n + (c * w n - q n * t) = c * (sI w n + w n) - (sI q n + q n) * t
    rw [sI_lin c t w q n, Int.mul_add, Int.add_mul]; omega
theorem sI_const (t : Int) : ∀ n : Nat, sI (fun _ => t) n = n * t
  | 0 => by show (0 : Int) = ((0 : Nat) : Int) * t; rw [Int.ofNat_zero, Int.zero_mul]
  | n + 1 => by show sI (fun _ => t) n + t = ((n + 1 : Nat) : Int) * t; rw [sI_const t n, Int.natCast_add, Int.add_mul]; show _ = _ + 1 * t; rw [Int.one_mul]
/-- the first largest -/
def amx (R : Nat → Int64) (n : Nat) : Nat := fold (fun a j => if R j ≤ R a then a else j) 0 1 (n - 1)
theorem amx_spec (R : Nat → Int64) {n : Nat} (hn : 1 ≤ n) : amx R n < n ∧ (∀ j, j < n → (R j).toInt ≤ (R (amx R n)).toInt) ∧ ∀ j, j < amx R n → (R j).toInt < (R (amx R n)).toInt := by
  have := fold_inv (f := fun a j => if R j ≤ R a then a else j) (fun i a => a < i ∧ (∀ j, j < i → (R j).toInt ≤ (R a).toInt) ∧ ∀ j, j < a → (R j).toInt < (R a).toInt) (m := n - 1) (i := 1) (a := 0) ⟨by omega, fun j hj => by rw [show j = 0 by omega]; exact Int.le_refl _, fun j hj => absurd hj (by omega)⟩ (fun j a h1 h2 ha => by
    obtain ⟨a1, a2, a3⟩ := ha
    by_cases z : R j ≤ R a
    · rw [if_pos z]; rw [l_le] at z
      refine ⟨by omega, fun k hk => ?_, a3⟩
      by_cases e : k = j
      · rw [e]; exact z
      · exact a2 k (by omega)
    · rw [if_neg z]; rw [l_le] at z
      refine ⟨by omega, fun k hk => ?_, fun k hk => ?_⟩
      · by_cases e : k = j
        · rw [e]; exact Int.le_refl _
        · have := a2 k (by omega); omega
      · have := a2 k (by omega); omega)
  rw [show 1 + (n - 1) = n by omega] at this
  exact this
def wr {α : Type} (f : Nat → α) (x : Nat) (v : α) : Nat → α := fun j => if j = x then v else f j
theorem wr_eq {α : Type} {f : Nat → α} {x : Nat} {v : α} : wr f x v x = v := if_pos rfl
theorem wr_ne {α : Type} {f : Nat → α} {x j : Nat} {v : α} (h : j ≠ x) : wr f x v j = f j := if_neg h
/-- s coins more, each to the first largest of the first n, whose remainder becomes v -/
def giv (n : Nat) (v : Int64) : Nat → (Nat → Int32) → (Nat → Int64) → (Nat → Int32)
  | 0, Q, _ => Q
  | s + 1, Q, R => giv n v s (wr Q (amx R n) (Q (amx R n) + 1)) (wr R (amx R n) v)
theorem giv_eq {nh : Nat} (h1 : 1 ≤ nh) (h2 : nh ≤ 12) {T : Int} : ∀ (s : Nat) (Q : Nat → Int32) (Rc Rm : Nat → Int64), (∀ j, j < 12 → ((Rc j = Rm j ∧ 0 ≤ (Rm j).toInt) ∨ (Rc j = -1 ∧ Rm j = 0))) → (∀ j, nh ≤ j → j < 12 → Rm j = 0) → (∀ j, j < 12 → (Rm j).toInt < T) → (s : Int) * T ≤ sI (fun j => (Rm j).toInt) 12 → 0 < T → giv 12 (-1) s Q Rc = giv nh 0 s Q Rm
  | 0, _, _, _, _, _, _, _, _ => rfl
  | s + 1, Q, Rc, Rm, A, B, C, D, tp => by
    have m1 : (-1 : Int64).toInt = -1 := rfl
    have z0 : (0 : Int64).toInt = 0 := rfl
    have D' : (s : Int) * T + T ≤ sI (fun j => (Rm j).toInt) 12 := by
      rw [show ((s + 1 : Nat) : Int) = (s : Int) + 1 from rfl, Int.add_mul, Int.one_mul] at D; exact D
    have sp : 0 ≤ (s : Int) * T := Int.mul_nonneg (Int.natCast_nonneg s) (by omega)
    obtain ⟨k, hk, pk⟩ := sI_pos (f := fun j => (Rm j).toInt) (n := 12) (by omega)
    have kn : k < nh := by
      by_cases z : k < nh
      · exact z
      · have e := B k (by omega) hk
        have pk' : 0 < (Rm k).toInt := pk
        rw [e, z0] at pk'; omega
    obtain ⟨x1, x2, x3⟩ := amx_spec Rc (n := 12) (by decide)
    obtain ⟨y1, y2, y3⟩ := amx_spec Rm (n := nh) h1
    have py : 0 < (Rm (amx Rm nh)).toInt := by have := y2 k kn; have pk' : 0 < (Rm k).toInt := pk; omega
    have cy : Rc (amx Rm nh) = Rm (amx Rm nh) := by
      rcases A _ (show amx Rm nh < 12 by omega) with z | z
      · exact z.1
      · rw [z.2, z0] at py; omega
    have px : 0 < (Rc (amx Rc 12)).toInt := by have := x2 _ (show amx Rm nh < 12 by omega); rw [cy] at this; omega
    have cx : Rc (amx Rc 12) = Rm (amx Rc 12) := by
      rcases A _ x1 with z | z
      · exact z.1
      · rw [z.1, m1] at px; omega
    have xn : amx Rc 12 < nh := by
      by_cases z : amx Rc 12 < nh
      · exact z
      · have e := B _ (by omega) x1
        rw [cx, e, z0] at px; omega
    have exy : amx Rc 12 = amx Rm nh := by
      have a := x2 _ (show amx Rm nh < 12 by omega)
      have b := y2 _ xn
      rw [cy, cx] at a
      rcases Nat.lt_trichotomy (amx Rc 12) (amx Rm nh) with z | z | z
      · have := y3 _ z; omega
      · exact z
      · have := x3 _ z; rw [cy, cx] at this; omega
    show giv 12 (-1) s (wr Q (amx Rc 12) (Q (amx Rc 12) + 1)) (wr Rc (amx Rc 12) (-1)) = giv nh 0 s (wr Q (amx Rm nh) (Q (amx Rm nh) + 1)) (wr Rm (amx Rm nh) 0)
    rw [exy]
    generalize amx Rm nh = x at *
    refine giv_eq h1 h2 s _ _ _ (fun j hj => ?_) (fun j g1 g2 => ?_) (fun j hj => ?_) ?_ tp
    · by_cases e : j = x
      · subst e; rw [wr_eq, wr_eq]; exact Or.inr ⟨rfl, rfl⟩
      · rw [wr_ne e, wr_ne e]; exact A j hj
    · rw [wr_ne (by omega)]; exact B j g1 g2
    · by_cases e : j = x
      · subst e; rw [wr_eq, z0]; exact tp
      · rw [wr_ne e]; exact C j hj
    · have u := sI_upd (f := fun j => (Rm j).toInt) (g := fun j => (wr Rm x 0 j).toInt) (x := x) (n := 12) (fun j _ e => by show (wr Rm x 0 j).toInt = _; rw [wr_ne e])
      rw [if_pos (by omega)] at u
      have u2 : (wr Rm x 0 x).toInt = 0 := by rw [wr_eq]; rfl
      have u3 := C x (by omega)
      rw [u]
      show (s : Int) * T ≤ sI (fun j => (Rm j).toInt) 12 + ((wr Rm x 0 x).toInt - (Rm x).toInt)
      omega
theorem l_bm {x : Int} (h1 : -9223372036854775808 ≤ x) (h2 : x < 9223372036854775808) : x.bmod (2 ^ 64) = x := by
  rw [Int.bmod_eq_of_le] <;> omega
/-- one share: its quotient and what is left of it -/
theorem share1 {c : Int32} {w T : Int64} (c1 : 0 ≤ c.toInt) (c2 : c.toInt ≤ 1000000) (w1 : 0 ≤ w.toInt) (w2 : w.toInt ≤ 1000000) (t1 : 0 < T.toInt) (t2 : T.toInt ≤ 12000000) (wt : w.toInt ≤ T.toInt) :
    (Int64.toInt32 ((Int32.toInt64 c * w) / T)).toInt = c.toInt * w.toInt / T.toInt ∧ ((Int32.toInt64 c * w) - (Int32.toInt64 c * w) / T * T).toInt = c.toInt * w.toInt - c.toInt * w.toInt / T.toInt * T.toInt ∧ 0 ≤ c.toInt * w.toInt / T.toInt ∧ c.toInt * w.toInt / T.toInt ≤ c.toInt ∧ 0 ≤ c.toInt * w.toInt - c.toInt * w.toInt / T.toInt * T.toInt ∧ c.toInt * w.toInt - c.toInt * w.toInt / T.toInt * T.toInt < T.toInt := by
  have p0 : 0 ≤ c.toInt * w.toInt := Int.mul_nonneg c1 w1
  have p1 : c.toInt * w.toInt ≤ 1000000 * 1000000 := Int.mul_le_mul c2 w2 w1 (by decide)
  have p2 : c.toInt * w.toInt ≤ c.toInt * T.toInt := Int.mul_le_mul_of_nonneg_left wt c1
  have e1 : (Int32.toInt64 c * w).toInt = c.toInt * w.toInt := by
    rw [Int64.toInt_mul, Int32.toInt_toInt64]; exact l_bm (by omega) (by omega)
  have q0 : 0 ≤ c.toInt * w.toInt / T.toInt := Int.ediv_nonneg p0 (by omega)
  have q1 : c.toInt * w.toInt / T.toInt ≤ c.toInt := Int.ediv_le_of_le_mul t1 p2
  have e2 : ((Int32.toInt64 c * w) / T).toInt = c.toInt * w.toInt / T.toInt := by
    rw [Int64.toInt_div, e1, Int.tdiv_eq_ediv_of_nonneg p0]; exact l_bm (by omega) (by omega)
  have r0 : 0 ≤ c.toInt * w.toInt % T.toInt := Int.emod_nonneg _ (by omega)
  have r1 : c.toInt * w.toInt % T.toInt < T.toInt := Int.emod_lt_of_pos _ t1
  have rr : c.toInt * w.toInt - c.toInt * w.toInt / T.toInt * T.toInt = c.toInt * w.toInt % T.toInt := by
    have := Int.mul_ediv_add_emod (c.toInt * w.toInt) T.toInt
    rw [Int.mul_comm] at this; omega
  have q2 : c.toInt * w.toInt / T.toInt * T.toInt ≤ c.toInt * w.toInt := by omega
  have q3 : 0 ≤ c.toInt * w.toInt / T.toInt * T.toInt := Int.mul_nonneg q0 (by omega)
  have e3 : ((Int32.toInt64 c * w) / T * T).toInt = c.toInt * w.toInt / T.toInt * T.toInt := by
    rw [Int64.toInt_mul, e2]; exact l_bm (by omega) (by omega)
  refine ⟨?_, ?_, q0, q1, by rw [rr]; exact r0, by rw [rr]; exact r1⟩
  · rw [Int64.toInt_toInt32, e2]; exact i_bm (by omega) (by omega)
  · rw [Int64.toInt_sub, e1, e3]; exact l_bm (by omega) (by omega)
def qF (c : Int32) (w : Nat → Int64) (T : Int64) (j : Nat) : Int32 := Int64.toInt32 ((Int32.toInt64 c * w j) / T)
def rF (c : Int32) (w : Nat → Int64) (T : Int64) (j : Nat) : Int64 := (Int32.toInt64 c * w j) - (Int32.toInt64 c * w j) / T * T
def lF (c : Int32) (w : Nat → Int64) (T : Int64) (n : Nat) : Int32 := fold (fun a j => a - qF c w T j) c 0 n
theorem lF_s (c : Int32) (w : Nat → Int64) (T : Int64) (n : Nat) : lF c w T (n + 1) = lF c w T n - qF c w T n := by
  unfold lF; rw [fold_succ, Nat.zero_add]
/-- the coins left are fewer than 12, and the two ways of giving them are one -/
theorem give {c : Int32} {w : Nat → Int64} {T : Int64} {nh : Nat} (h1 : 1 ≤ nh) (h2 : nh ≤ 12) (c1 : 0 ≤ c.toInt) (c2 : c.toInt ≤ 1000000) (wb : ∀ j, j < 12 → 0 ≤ (w j).toInt ∧ (w j).toInt ≤ 1000000) (wz : ∀ j, nh ≤ j → j < 12 → w j = 0) (tt : T.toInt = sI (fun j => (w j).toInt) 12) (t1 : 0 < T.toInt) :
    ∃ s : Nat, s < 12 ∧ lF c w T 12 = zI s ∧ ∀ Q, giv 12 (-1) s Q (rF c w T) = giv nh 0 s Q (rF c w T) := by
  have t2 : T.toInt ≤ 12000000 := by
    rw [tt]; have := sI_le (f := fun j => (w j).toInt) (g := fun _ => 1000000) (n := 12) (fun j hj => (wb j hj).2); rw [sI_const] at this; omega
  have wt : ∀ j, j < 12 → (w j).toInt ≤ T.toInt := fun j hj => by
    rw [tt]
    have u := sI_upd (f := fun k => (w k).toInt) (g := fun k => if k = j then 0 else (w k).toInt) (x := j) (n := 12) (fun k _ e => by show (if k = j then (0 : Int) else (w k).toInt) = _; rw [if_neg e])
    rw [if_pos hj] at u
    have u2 : (if j = j then (0 : Int) else (w j).toInt) = 0 := if_pos rfl
    have nn := sI_le (f := fun _ => (0 : Int)) (g := fun k => if k = j then 0 else (w k).toInt) (n := 12) (fun k hk => by
      show (0 : Int) ≤ (if k = j then 0 else (w k).toInt)
      by_cases e : k = j
      · rw [if_pos e]; decide
      · rw [if_neg e]; exact (wb k hk).1)
    rw [sI_const, Int.mul_zero] at nn
    omega
  have S := fun j (hj : j < 12) => share1 (c := c) c1 c2 (wb j hj).1 (wb j hj).2 t1 t2 (wt j hj)
  have lb : ∀ n, n ≤ 12 → (lF c w T n).toInt = c.toInt - sI (fun j => c.toInt * (w j).toInt / T.toInt) n ∧ -12000000 ≤ (lF c w T n).toInt + 1000000 * n - 1000000 ∧ (lF c w T n).toInt ≤ 1000000 := by
    intro n
    induction n with
    | zero => intro _; exact ⟨by show c.toInt = c.toInt - 0; omega, by show _ ≤ c.toInt + _ - _; omega, by show c.toInt ≤ _; omega⟩
    | succ n ih =>
      intro hn
      obtain ⟨a, b, d⟩ := ih (by omega)
      obtain ⟨s1, -, s3, s4, -, -⟩ := S n (by omega)
      have e : (lF c w T (n + 1)).toInt = (lF c w T n).toInt - c.toInt * (w n).toInt / T.toInt := by
        rw [lF_s, i_sub (by show -2147483648 ≤ _ - (Int64.toInt32 ((Int32.toInt64 c * w n) / T)).toInt; rw [s1]; omega) (by show _ - (Int64.toInt32 ((Int32.toInt64 c * w n) / T)).toInt < _; rw [s1]; omega)]
        show _ - (Int64.toInt32 ((Int32.toInt64 c * w n) / T)).toInt = _
        rw [s1]
      refine ⟨?_, ?_, ?_⟩
      · rw [e, a]; show _ = c.toInt - (sI _ n + c.toInt * (w n).toInt / T.toInt); omega
      · rw [e]; omega
      · rw [e]; omega
  have L := (lb 12 (by decide)).1
  have R : sI (fun j => (rF c w T j).toInt) 12 = (lF c w T 12).toInt * T.toInt := by
    rw [sI_congr (f := fun j => (rF c w T j).toInt) (g := fun j => c.toInt * (w j).toInt - c.toInt * (w j).toInt / T.toInt * T.toInt) (fun j hj => (S j hj).2.1), sI_lin, ← tt, L, Int.sub_mul]
  have rn : 0 ≤ sI (fun j => (rF c w T j).toInt) 12 := by
    have := sI_le (f := fun _ => (0 : Int)) (g := fun j => (rF c w T j).toInt) (n := 12) (fun j hj => by have := (S j hj).2.2.2.2.1; rw [← (S j hj).2.1] at this; exact this)
    rw [sI_const, Int.mul_zero] at this; exact this
  have rl : sI (fun j => (rF c w T j).toInt) 12 ≤ 12 * (T.toInt - 1) := by
    have := sI_le (f := fun j => (rF c w T j).toInt) (g := fun _ => T.toInt - 1) (n := 12) (fun j hj => by have := (S j hj).2.2.2.2.2; rw [← (S j hj).2.1] at this; show (rF c w T j).toInt ≤ _; unfold rF; omega)
    rw [sI_const] at this; exact this
  have l0 : 0 ≤ (lF c w T 12).toInt := by
    rw [R] at rn
    exact Int.le_of_mul_le_mul_right (by rw [Int.zero_mul]; exact rn) t1
  have l12 : (lF c w T 12).toInt < 12 := by
    rw [R] at rl
    exact Int.lt_of_mul_lt_mul_right (a := T.toInt) (by omega) (by omega)
  refine ⟨(lF c w T 12).toInt.toNat, by omega, zI_of l0, fun Q => giv_eq h1 h2 (T := T.toInt) _ Q _ _ (fun j hj => Or.inl ⟨rfl, ?_⟩) (fun j g1 g2 => ?_) (fun j hj => ?_) ?_ t1⟩
  · have := (S j hj).2.2.2.2.1; rw [← (S j hj).2.1] at this; exact this
  · have e := S j g2
    have z0 : (0 : Int64).toInt = 0 := rfl
    have q := e.2.1
    rw [wz j g1 g2, z0, Int.mul_zero, Int.zero_ediv, Int.zero_mul] at q
    rw [← Int64.toInt_inj]; unfold rF; rw [wz j g1 g2, q]; rfl
  · have := (S j hj).2.2.2.2.2; rw [← (S j hj).2.1] at this; exact this
  · rw [R, show (((lF c w T 12).toInt.toNat : Nat) : Int) = (lF c w T 12).toInt by omega]; exact Int.le_refl _
