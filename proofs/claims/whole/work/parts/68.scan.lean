/-! PROPOSE 1: the scanner, without machines. B the bytes of a text (0 .. 255), n how many -/
def isBl (x : Int32) : Bool := decide (x = 32) || decide (x = 10)
def isLe (x : Int32) : Bool := decide (97 ≤ x) && decide (x ≤ 122)
def isDi (x : Int32) : Bool := decide (48 ≤ x) && decide (x ≤ 57)
def isSi (x : Int32) : Bool := decide (x = 40) || decide (x = 41) || decide (x = 59) || decide (x = 43) || decide (x = 45) || decide (x = 42) || decide (x = 60) || decide (x = 61)
def skp (q : Nat → Bool) : Nat → Nat → Nat
  | p, 0 => p
  | p, m + 1 => if q p then skp q (p + 1) m else p
theorem skp_spec (q : Nat → Bool) : ∀ m p, p ≤ skp q p m ∧ skp q p m ≤ p + m ∧ (∀ i, p ≤ i → i < skp q p m → q i = true) ∧ (skp q p m < p + m → q (skp q p m) = false)
  | 0, p => ⟨Nat.le_refl _, Nat.le_refl _, fun i h1 h2 => absurd h2 (by show ¬ i < p; omega), fun h => absurd h (by show ¬ p < p + 0; omega)⟩
  | m + 1, p => by
    unfold skp
    by_cases z : q p = true
    · rw [if_pos z]
      obtain ⟨a, b, c, d⟩ := skp_spec q m (p + 1)
      refine ⟨by omega, by omega, fun i h1 h2 => ?_, fun h => d (by omega)⟩
      by_cases y : i = p
      · rw [y]; exact z
      · exact c i (by omega) h2
    · rw [if_neg z]
      exact ⟨Nat.le_refl _, by omega, fun i h1 h2 => absurd h2 (by omega), fun _ => by simpa using z⟩
def bgn (B : Nat → Int32) (n p : Nat) : Nat := skp (fun i => isBl (B i)) p (n - p)
def eow (B : Nat → Int32) (n p : Nat) : Nat := skp (fun i => isLe (B i)) p (n - p)
def eod (B : Nat → Int32) (n p : Nat) : Nat := skp (fun i => isDi (B i)) p (n - p)
def wl (k : Nat) : Nat := [5, 6, 5, 6, 4, 5, 5, 7, 6, 3, 5, 5, 2, 3, 3].getD k 0
def wst (k : Nat) : Nat := [0, 6, 13, 19, 26, 31, 37, 43, 51, 58, 62, 68, 74, 77, 81, 85].getD k 0
def wB (x : Nat) : Int32 := am_at am_by1 x
theorem wB_f : ∀ k, k < 15 → (wst (k + 1) = wst k + wl k + 1 ∧ wst (k + 1) ≤ 85 ∧ wl k ≤ 7 ∧ wB (wst k + wl k) = 32 ∧ ∀ j, j < wl k → ¬ wB (wst k + j) = 32 ∧ ¬ wB (wst k + j) = 0 ∧ 97 ≤ wB (wst k + j) ∧ wB (wst k + j) ≤ 122) := by decide +kernel
theorem wB_255 : ∀ x, x < 85 → wB x &&& 255 = wB x := by decide +kernel
theorem wB_u : ∀ k, k < 15 → ∀ j, j < 15 → wl k = wl j → (∀ i, i < wl k → wB (wst k + i) = wB (wst j + i)) → k = j := by decide +kernel
def pr (B : Nat → Int32) (b e k : Nat) : Nat → Bool
  | 0 => true
  | j + 1 => pr B b e k j && (decide (b + j < e) && decide (B (b + j) = wB (wst k + j)))
theorem pr_s (B : Nat → Int32) (b e k j : Nat) : pr B b e k (j + 1) = true ↔ pr B b e k j = true ∧ b + j < e ∧ B (b + j) = wB (wst k + j) := by
  show (pr B b e k j && (decide (b + j < e) && decide (B (b + j) = wB (wst k + j)))) = true ↔ _
  rw [Bool.and_eq_true, Bool.and_eq_true, decide_eq_true_eq, decide_eq_true_eq]
theorem pr_spec (B : Nat → Int32) (b e k : Nat) : ∀ j, pr B b e k j = true → ∀ i, i < j → b + i < e ∧ B (b + i) = wB (wst k + i)
  | 0, _, i, hi => absurd hi (by omega)
  | j + 1, h, i, hi => by
    rw [pr_s] at h
    by_cases z : i = j
    · rw [z]; exact h.2
    · exact pr_spec B b e k j h.1 i (by omega)
def mtc (B : Nat → Int32) (b e k : Nat) : Bool := pr B b e k (wl k) && decide (b + wl k = e)
theorem mtc_i {B : Nat → Int32} {b e k : Nat} : mtc B b e k = true ↔ pr B b e k (wl k) = true ∧ b + wl k = e := by unfold mtc; rw [Bool.and_eq_true, decide_eq_true_eq]
theorem mtc_u {B : Nat → Int32} {b e k j : Nat} (hk : k < 15) (hj : j < 15) (h1 : mtc B b e k = true) (h2 : mtc B b e j = true) : k = j := by
  rw [mtc_i] at h1 h2
  have e1 : wl k = wl j := by omega
  refine wB_u k hk j hj e1 (fun i hi => ?_)
  rw [← (pr_spec B b e k _ h1.1 i hi).2, ← (pr_spec B b e j _ h2.1 i (by omega)).2]
def wrd (B : Nat → Int32) (b e : Nat) : Int32 := fst1 (mtc B b e) 0 15
theorem wrd_c (B : Nat → Int32) (b e : Nat) : (wrd B b e = -1 ∧ ∀ j, j < 15 → mtc B b e j = false) ∨ ∃ k, k < 15 ∧ wrd B b e = zI k ∧ mtc B b e k = true := by
  rcases fst1_spec (mtc B b e) 15 0 with ⟨a, c⟩ | ⟨k, _, k2, k3, k4, _⟩
  · exact Or.inl ⟨a, fun j hj => c j (by omega) (by omega)⟩
  · exact Or.inr ⟨k, by omega, k3, k4⟩
theorem wrd_k {B : Nat → Int32} {b e k : Nat} (hk : k < 15) (h : mtc B b e k = true) : wrd B b e = zI k := by
  rcases wrd_c B b e with ⟨_, c⟩ | ⟨j, hj, e1, m⟩
  · rw [c k hk] at h; exact absurd h (by decide)
  · rw [e1, mtc_u hj hk m h]
theorem wrd_l {B : Nat → Int32} {b e : Nat} (h : 8 < e - b) : wrd B b e = -1 := by
  rcases wrd_c B b e with ⟨a, _⟩ | ⟨k, hk, _, m⟩
  · exact a
  · have := (wB_f k hk).2.2.1; rw [mtc_i] at m; omega
/-- from the place b of a token: where it ends, what it is, what it is worth -/
def nxe (B : Nat → Int32) (n b : Nat) : Nat := if n ≤ b then b else if isLe (B b) then eow B n b else if isDi (B b) then eod B n b else b + 1
def wtk (k : Int32) : Int32 := if k = -1 then 2 else if 8 ≤ k then 300 + k - 8 else 3
def ntk (B : Nat → Int32) (n b : Nat) : Int32 := if n ≤ b then 0 else if isLe (B b) then wtk (wrd B b (eow B n b)) else if isDi (B b) then (if 6 < eod B n b - b then 2 else 1) else if isSi (B b) then B b else 2
def nva (B : Nat → Int32) (b m : Nat) : Int32 := fold (fun a i => 10 * a + B i - 48) 0 b m
def nvl (B : Nat → Int32) (n b : Nat) : Int32 := if isLe (B b) then wrd B b (eow B n b) else nva B b (eod B n b - b)
def en (B : Nat → Int32) (n p : Nat) : Nat := nxe B n (bgn B n p)
def tk (B : Nat → Int32) (n p : Nat) : Int32 := ntk B n (bgn B n p)
def vl (B : Nat → Int32) (n p : Nat) : Int32 := nvl B n (bgn B n p)
theorem bgn_b {B : Nat → Int32} {n p : Nat} (h : p ≤ n) : p ≤ bgn B n p ∧ bgn B n p ≤ n := by
  obtain ⟨a, b, _, _⟩ := skp_spec (fun i => isBl (B i)) (n - p) p
  exact ⟨a, by unfold bgn; omega⟩
theorem en_b {B : Nat → Int32} {n p : Nat} (h : p ≤ n) : bgn B n p ≤ en B n p ∧ en B n p ≤ n ∧ (¬ tk B n p = 0 → p < en B n p) := by
  have b := bgn_b (B := B) h
  unfold en tk nxe ntk
  by_cases z1 : n ≤ bgn B n p
  · rw [if_pos z1, if_pos z1]; exact ⟨Nat.le_refl _, by omega, fun z => absurd rfl z⟩
  · rw [if_neg z1, if_neg z1]
    by_cases z2 : isLe (B (bgn B n p)) = true
    · rw [if_pos z2, if_pos z2]
      obtain ⟨a1, a2, a3, a4⟩ := skp_spec (fun i => isLe (B i)) (n - bgn B n p) (bgn B n p)
      unfold eow
      refine ⟨a1, by omega, fun _ => ?_⟩
      by_cases y : skp (fun i => isLe (B i)) (bgn B n p) (n - bgn B n p) = bgn B n p
      · rw [y] at a4; have := a4 (by omega); rw [z2] at this; exact absurd this (by decide)
      · omega
    · rw [if_neg z2, if_neg z2]
      by_cases z3 : isDi (B (bgn B n p)) = true
      · rw [if_pos z3, if_pos z3]
        obtain ⟨a1, a2, a3, a4⟩ := skp_spec (fun i => isDi (B i)) (n - bgn B n p) (bgn B n p)
        unfold eod
        refine ⟨a1, by omega, fun _ => ?_⟩
        by_cases y : skp (fun i => isDi (B i)) (bgn B n p) (n - bgn B n p) = bgn B n p
        · rw [y] at a4; have := a4 (by omega); rw [z3] at this; exact absurd this (by decide)
        · omega
      · rw [if_neg z3, if_neg z3]; exact ⟨by omega, by omega, fun _ => by omega⟩
/-- the tokens -/
def toks : List Int32 := [0, 1, 2, 3, 40, 41, 59, 43, 45, 42, 60, 61, 300, 301, 302, 303, 304, 305, 306]
theorem isSi_t {x : Int32} (h : isSi x = true) : x ∈ toks ∧ x.toInt ≤ 127 ∧ 0 ≤ x.toInt := by
  unfold isSi at h
  simp only [Bool.or_eq_true, decide_eq_true_eq] at h
  rcases h with ((((((h | h) | h) | h) | h) | h) | h) | h <;> (subst h; decide)
theorem wtk_z : ∀ k, k < 15 → wtk (zI k) ∈ toks ∧ ¬ wtk (zI k) = 0 ∧ ¬ wtk (zI k) = 1 ∧ ¬ wtk (zI k) = 2 ∧ (wtk (zI k) = 3 ↔ k < 8) := by decide +kernel
theorem tk_t (B : Nat → Int32) (n p : Nat) : tk B n p ∈ toks := by
  unfold tk ntk
  by_cases z1 : n ≤ bgn B n p
  · rw [if_pos z1]; decide
  · rw [if_neg z1]
    by_cases z2 : isLe (B (bgn B n p)) = true
    · rw [if_pos z2]
      rcases wrd_c B (bgn B n p) (eow B n (bgn B n p)) with ⟨a, _⟩ | ⟨k, hk, a, _⟩
      · rw [a]; decide
      · rw [a]; exact (wtk_z k hk).1
    · rw [if_neg z2]
      by_cases z3 : isDi (B (bgn B n p)) = true
      · rw [if_pos z3]
        by_cases z4 : 6 < eod B n (bgn B n p) - bgn B n p
        · rw [if_pos z4]; decide
        · rw [if_neg z4]; decide
      · rw [if_neg z3]
        by_cases z4 : isSi (B (bgn B n p)) = true
        · rw [if_pos z4]; exact (isSi_t z4).1
        · rw [if_neg z4]; decide
theorem isBl_127 {x : Int32} (h : isBl x = true) : x.toInt ≤ 127 := by
  unfold isBl at h
  simp only [Bool.or_eq_true, decide_eq_true_eq] at h
  rcases h with h | h <;> (subst h; decide)
theorem isLe_127 {x : Int32} (h : isLe x = true) : x.toInt ≤ 127 := by
  unfold isLe at h
  simp only [Bool.and_eq_true, decide_eq_true_eq] at h
  have := i_le.mp h.2
  have e : (122 : Int32).toInt = 122 := rfl
  omega
theorem isDi_127 {x : Int32} (h : isDi x = true) : x.toInt ≤ 127 ∧ 48 ≤ x.toInt ∧ x.toInt ≤ 57 := by
  unfold isDi at h
  simp only [Bool.and_eq_true, decide_eq_true_eq] at h
  have a := i_le.mp h.2
  have b := i_le.mp h.1
  have e : (57 : Int32).toInt = 57 := rfl
  have f : (48 : Int32).toInt = 48 := rfl
  omega
/-- the bytes of a token that isn't odd -/
theorem tk_127 {B : Nat → Int32} {n p : Nat} (h : p ≤ n) (t : ¬ tk B n p = 2) : ∀ i, p ≤ i → i < en B n p → (B i).toInt ≤ 127 := by
  intro i h1 h2
  by_cases y : i < bgn B n p
  · obtain ⟨_, _, c, _⟩ := skp_spec (fun i => isBl (B i)) (n - p) p
    exact isBl_127 (c i h1 y)
  · unfold tk ntk at t
    unfold en nxe at h2
    by_cases z1 : n ≤ bgn B n p
    · rw [if_pos z1] at h2; omega
    · rw [if_neg z1] at h2 t
      by_cases z2 : isLe (B (bgn B n p)) = true
      · rw [if_pos z2] at h2
        obtain ⟨_, _, c, _⟩ := skp_spec (fun i => isLe (B i)) (n - bgn B n p) (bgn B n p)
        exact isLe_127 (c i (by omega) h2)
      · rw [if_neg z2] at h2 t
        by_cases z3 : isDi (B (bgn B n p)) = true
        · rw [if_pos z3] at h2
          obtain ⟨_, _, c, _⟩ := skp_spec (fun i => isDi (B i)) (n - bgn B n p) (bgn B n p)
          exact (isDi_127 (c i (by omega) h2)).1
        · rw [if_neg z3] at h2 t
          by_cases z4 : isSi (B (bgn B n p)) = true
          · rw [show i = bgn B n p by omega]; exact (isSi_t z4).2.1
          · rw [if_neg z4] at t; exact absurd rfl t
/-- what a number is worth -/
theorem nva_b {B : Nat → Int32} {b : Nat} : ∀ m, m ≤ 6 → (∀ i, b ≤ i → i < b + m → isDi (B i) = true) → 0 ≤ (nva B b m).toInt ∧ (nva B b m).toInt < 10 ^ m
  | 0, _, _ => by show 0 ≤ (0 : Int32).toInt ∧ (0 : Int32).toInt < 10 ^ 0; decide
  | m + 1, h, d => by
    obtain ⟨a, c⟩ := nva_b (B := B) (b := b) m (by omega) (fun i h1 h2 => d i h1 (by omega))
    have q := isDi_127 (d (b + m) (by omega) (by omega))
    have e : nva B b (m + 1) = 10 * nva B b m + B (b + m) - 48 := by unfold nva; rw [fold_succ]
    have p6 : (10 : Int) ^ m ≤ 100000 := by
      rcases (show m = 0 ∨ m = 1 ∨ m = 2 ∨ m = 3 ∨ m = 4 ∨ m = 5 by omega) with y | y | y | y | y | y <;> (rw [y]; decide)
    have e10 : (10 : Int32).toInt = 10 := rfl
    have e48 : (48 : Int32).toInt = 48 := rfl
    have s1 : (10 * nva B b m).toInt = 10 * (nva B b m).toInt := by rw [i_mul (by rw [e10]; omega) (by rw [e10]; omega), e10]
    have s2 : (10 * nva B b m + B (b + m)).toInt = 10 * (nva B b m).toInt + (B (b + m)).toInt := by rw [i_add (by rw [s1]; omega) (by rw [s1]; omega), s1]
    have s3 : (10 * nva B b m + B (b + m) - 48).toInt = 10 * (nva B b m).toInt + (B (b + m)).toInt - 48 := by rw [i_sub (by rw [s2, e48]; omega) (by rw [s2, e48]; omega), s2, e48]
    rw [e, s3, Int.pow_succ]
    omega
/-- a number or a name: its worth -/
theorem vl_b {B : Nat → Int32} {n p : Nat} (h : p ≤ n) : (tk B n p = 1 → 0 ≤ (vl B n p).toInt) ∧ (tk B n p = 3 → ∃ k, k < 8 ∧ vl B n p = zI k) := by
  unfold tk ntk vl nvl
  by_cases z1 : n ≤ bgn B n p
  · rw [if_pos z1]; exact ⟨fun z => absurd z (by decide), fun z => absurd z (by decide)⟩
  · rw [if_neg z1]
    by_cases z2 : isLe (B (bgn B n p)) = true
    · rw [if_pos z2, if_pos z2]
      rcases wrd_c B (bgn B n p) (eow B n (bgn B n p)) with ⟨a, _⟩ | ⟨k, hk, a, _⟩
      · rw [a]; exact ⟨fun z => absurd z (by decide), fun z => absurd z (by decide)⟩
      · rw [a]; exact ⟨fun z => absurd z (wtk_z k hk).2.2.1, fun z => ⟨k, (wtk_z k hk).2.2.2.2.mp z, rfl⟩⟩
    · rw [if_neg z2, if_neg z2]
      by_cases z3 : isDi (B (bgn B n p)) = true
      · rw [if_pos z3]
        by_cases z4 : 6 < eod B n (bgn B n p) - bgn B n p
        · rw [if_pos z4]; exact ⟨fun z => absurd z (by decide), fun z => absurd z (by decide)⟩
        · rw [if_neg z4]
          obtain ⟨c0, _, c, _⟩ := skp_spec (fun i => isDi (B i)) (n - bgn B n p) (bgn B n p)
          exact ⟨fun _ => (nva_b _ (by omega) (fun i h1 h2 => c i h1 (by unfold eod at h2; omega))).1, fun z => absurd z (by decide)⟩
      · rw [if_neg z3]
        by_cases z4 : isSi (B (bgn B n p)) = true
        · rw [if_pos z4]
          refine ⟨fun z => ?_, fun z => ?_⟩ <;> (rw [z] at z4; exact absurd z4 (by decide))
        · rw [if_neg z4]; exact ⟨fun z => absurd z (by decide), fun z => absurd z (by decide)⟩
/-- the other numbering of tokens -/
def tkc (t : Int32) : Int32 := if t = 2 then 1 else if t = 1 then 2 else if 300 ≤ t then t - 292 else t
theorem tkc_i : ∀ t ∈ toks, ∀ s ∈ toks, tkc t = tkc s → t = s := by decide +kernel
theorem tkc_w : ∀ k, k < 15 → tkc (wtk (zI k)) = if zI k < 8 then 3 else zI k := by decide +kernel
theorem tkc_s {x : Int32} (h : isSi x = true) : tkc x = x := by
  unfold isSi at h
  simp only [Bool.or_eq_true, decide_eq_true_eq] at h
  rcases h with ((((((h | h) | h) | h) | h) | h) | h) | h <;> (subst h; rfl)
theorem is_r {x : Int32} (h : isBl x = true ∨ isLe x = true ∨ isDi x = true ∨ isSi x = true) : 0 ≤ x.toInt ∧ x.toInt ≤ 127 := by
  rcases h with h | h | h | h
  · refine ⟨?_, isBl_127 h⟩
    unfold isBl at h
    simp only [Bool.or_eq_true, decide_eq_true_eq] at h
    rcases h with h | h <;> (subst h; decide)
  · refine ⟨?_, isLe_127 h⟩
    unfold isLe at h
    simp only [Bool.and_eq_true, decide_eq_true_eq] at h
    have := i_le.mp h.1
    have e : (97 : Int32).toInt = 97 := rfl
    omega
  · have := isDi_127 h; omega
  · exact ⟨(isSi_t h).2.2, (isSi_t h).2.1⟩
/-- a byte with its sign, and without -/
def by2 (c b : Int32) : Prop := (c = b ∧ 0 ≤ b.toInt ∧ b.toInt ≤ 127) ∨ (128 ≤ b.toInt ∧ c.toInt < 0)
theorem b_ff {x y : Bool} (h1 : ¬ x = true) (h2 : ¬ y = true) : x = y := by
  cases x <;> cases y <;> simp_all
theorem by2.bl {c b : Int32} (h : by2 c b) : isBl c = isBl b := by
  rcases h with h | h
  · rw [h.1]
  · exact b_ff (fun z => by have := is_r (Or.inl z); omega) (fun z => by have := is_r (Or.inl z); omega)
theorem by2.le {c b : Int32} (h : by2 c b) : isLe c = isLe b := by
  rcases h with h | h
  · rw [h.1]
  · exact b_ff (fun z => by have := is_r (Or.inr (Or.inl z)); omega) (fun z => by have := is_r (Or.inr (Or.inl z)); omega)
theorem by2.di {c b : Int32} (h : by2 c b) : isDi c = isDi b := by
  rcases h with h | h
  · rw [h.1]
  · exact b_ff (fun z => by have := is_r (Or.inr (Or.inr (Or.inl z))); omega) (fun z => by have := is_r (Or.inr (Or.inr (Or.inl z))); omega)
theorem by2.si {c b : Int32} (h : by2 c b) : isSi c = isSi b := by
  rcases h with h | h
  · rw [h.1]
  · exact b_ff (fun z => by have := is_r (Or.inr (Or.inr (Or.inr z))); omega) (fun z => by have := is_r (Or.inr (Or.inr (Or.inr z))); omega)
theorem by2.e {c b : Int32} (h : by2 c b) (x : b.toInt ≤ 127) : c = b := h.elim (fun z => z.1) (fun z => absurd z.1 (by omega))
theorem by2.q {c b x : Int32} (h : by2 c b) (h1 : 0 ≤ x.toInt) (h2 : x.toInt ≤ 127) : c = x ↔ b = x := by
  rcases h with h | h
  · rw [h.1]
  · exact ⟨fun z => by rw [z] at h; omega, fun z => by rw [z] at h; omega⟩
theorem bgn_e {B : Nat → Int32} {n p : Nat} (h : n ≤ p) : bgn B n p = p := by unfold bgn; rw [show n - p = 0 by omega]; rfl
theorem bgn_s {B : Nat → Int32} {n p : Nat} (h : p < n) : bgn B n p = if isBl (B p) then bgn B n (p + 1) else p := by
  unfold bgn; rw [show n - p = (n - (p + 1)) + 1 by omega]; rfl
theorem eow_e {B : Nat → Int32} {n p : Nat} (h : n ≤ p) : eow B n p = p := by unfold eow; rw [show n - p = 0 by omega]; rfl
theorem eow_s {B : Nat → Int32} {n p : Nat} (h : p < n) : eow B n p = if isLe (B p) then eow B n (p + 1) else p := by
  unfold eow; rw [show n - p = (n - (p + 1)) + 1 by omega]; rfl
theorem eod_e {B : Nat → Int32} {n p : Nat} (h : n ≤ p) : eod B n p = p := by unfold eod; rw [show n - p = 0 by omega]; rfl
theorem eod_s {B : Nat → Int32} {n p : Nat} (h : p < n) : eod B n p = if isDi (B p) then eod B n (p + 1) else p := by
  unfold eod; rw [show n - p = (n - (p + 1)) + 1 by omega]; rfl
theorem eow_b {B : Nat → Int32} {n p : Nat} (h : p ≤ n) : p ≤ eow B n p ∧ eow B n p ≤ n := by
  obtain ⟨a, b, _, _⟩ := skp_spec (fun i => isLe (B i)) (n - p) p
  exact ⟨a, by unfold eow; omega⟩
theorem eod_b {B : Nat → Int32} {n p : Nat} (h : p ≤ n) : p ≤ eod B n p ∧ eod B n p ≤ n := by
  obtain ⟨a, b, _, _⟩ := skp_spec (fun i => isDi (B i)) (n - p) p
  exact ⟨a, by unfold eod; omega⟩
