/-! BEST 8: the reference's table, without machines -/
def okb (own : Nat → Nat) (al : Nat → Nat → Bool) (k j : Nat) : Bool := decide (j = own k) || al k j
theorem okb_i {own : Nat → Nat} {al : Nat → Nat → Bool} {k j : Nat} : okb own al k j = true ↔ j = own k ∨ al k j = true := by unfold okb; rw [Bool.or_eq_true, decide_eq_true_eq]
/-- homes for those from k on, none of them in S -/
def CPL (K n : Nat) (own : Nat → Nat) (al : Nat → Nat → Bool) (k : Nat) (S : Int32) (g : Nat → Nat) : Prop := (∀ i, k ≤ i → i < K → g i < n ∧ okb own al i (g i) = true ∧ tb S (g i) = false) ∧ ∀ i j, k ≤ i → i < K → k ≤ j → j < K → g i = g j → i = j
def mvs (own g : Nat → Nat) (k K : Nat) : Int := sI (mvd own g) K - sI (mvd own g) k
theorem mvd_01 (own g : Nat → Nat) (k : Nat) : 0 ≤ mvd own g k ∧ mvd own g k ≤ 1 := by unfold mvd; split <;> decide
theorem mvs_b (own g : Nat → Nat) {k : Nat} : ∀ K, k ≤ K → 0 ≤ mvs own g k K ∧ mvs own g k K ≤ K - k
  | 0, h => by
    rw [show k = 0 by omega]; unfold mvs; constructor <;> (show _ ≤ _; omega)
  | K + 1, h => by
    by_cases z : k = K + 1
    · rw [z]; unfold mvs; constructor <;> omega
    · have ih := mvs_b own g (k := k) K (by omega)
      have a := mvd_01 own g K
      unfold mvs at ih ⊢
      show 0 ≤ sI (mvd own g) K + mvd own g K - _ ∧ sI (mvd own g) K + mvd own g K - _ ≤ _
      omega
theorem mvs_s (own g : Nat → Nat) {k K : Nat} : mvs own g k K = mvd own g k + mvs own g (k + 1) K := by
  unfold mvs
  show _ = mvd own g k + (_ - (sI (mvd own g) k + mvd own g k))
  omega
theorem mvs_c {own g f : Nat → Nat} {k : Nat} : ∀ K, k ≤ K → (∀ i, k ≤ i → i < K → g i = f i) → mvs own g k K = mvs own f k K
  | 0, h, _ => by rw [show k = 0 by omega]; rfl
  | K + 1, h, e => by
    by_cases z : k = K + 1
    · rw [z]; unfold mvs; omega
    · have ih := mvs_c (own := own) K (by omega) (fun i h1 h2 => e i h1 (by omega))
      have q : mvd own g K = mvd own f K := by unfold mvd; rw [e K (by omega) (by omega)]
      unfold mvs at ih ⊢
      show sI (mvd own g) K + mvd own g K - _ = sI (mvd own f) K + mvd own f K - _
      omega
/-- v is the most moves of those from k on, or -1 where they can't all have homes -/
def SPc (K n : Nat) (own : Nat → Nat) (al : Nat → Nat → Bool) (k : Nat) (S v : Int32) : Prop := (v = -1 ∨ (0 ≤ v.toInt ∧ v.toInt ≤ K - k)) ∧ (∀ g, CPL K n own al k S g → mvs own g k K ≤ v.toInt) ∧ (¬ v = -1 → ∃ g, CPL K n own al k S g ∧ mvs own g k K = v.toInt)
def orS (S j : Nat) : Nat := (zI S ||| ((1 : Int32) <<< (zI j &&& 31))).toBitVec.toNat
theorem tb_n (x : Int32) (j : Nat) : tb x j = x.toBitVec.toNat.testBit j := rfl
theorem zI_bv (n : Nat) (h : n < 4294967296) : (zI n).toBitVec.toNat = n := by
  show (BitVec.ofNat 32 n).toNat = n
  rw [BitVec.toNat_ofNat]; exact Nat.mod_eq_of_lt h
theorem zI_of_bv (x : Int32) : zI x.toBitVec.toNat = x := by
  apply Int32.toBitVec_inj.mp
  show BitVec.ofNat 32 x.toBitVec.toNat = x.toBitVec
  exact BitVec.ofNat_toNat .. |>.trans (by simp)
theorem orS_b {S j : Nat} (hS : S < 4096) (hj : j < 12) : orS S j < 4096 ∧ zI (orS S j) = zI S ||| ((1 : Int32) <<< (zI j &&& 31)) ∧ ∀ i, i < 32 → tb (zI (orS S j)) i = (tb (zI S) i || decide (i = j)) := by
  have e : zI (orS S j) = zI S ||| ((1 : Int32) <<< (zI j &&& 31)) := zI_of_bv _
  have b : ∀ i, i < 32 → tb (zI (orS S j)) i = (tb (zI S) i || decide (i = j)) := fun i hi => by rw [e]; exact tb_set (by omega) hi
  refine ⟨?_, e, b⟩
  refine Nat.lt_pow_two_of_testBit (n := 12) _ (fun i hi => ?_)
  by_cases z : i < 32
  · have q := b i z
    rw [e] at q
    show tb (zI S ||| ((1 : Int32) <<< (zI j &&& 31))) i = false
    rw [q, tb_n, zI_bv S (by omega), Nat.testBit_lt_two_pow (Nat.lt_of_lt_of_le hS (show (4096 : Nat) ≤ 2 ^ i from Nat.pow_le_pow_right (n := 2) (i := 12) (by decide) hi)), decide_eq_false (by omega)]
    rfl
  · exact Nat.testBit_lt_two_pow (Nat.lt_of_lt_of_le (zI S ||| ((1 : Int32) <<< (zI j &&& 31))).toBitVec.isLt (Nat.pow_le_pow_right (by decide) (by omega)))
/-- what home j is worth to k, where T is the table of the next -/
def CH (own : Nat → Nat) (al : Nat → Nat → Bool) (k j S : Nat) (T : Nat → Int32) : Int32 := if tb (zI S) j = false ∧ okb own al k j = true then (if T (orS S j) = -1 then -1 else if j = own k then T (orS S j) else T (orS S j) + 1) else -1
theorem CH_s {K n k j S : Nat} {own : Nat → Nat} {al : Nat → Nat → Bool} {T : Nat → Int32} (hn : n ≤ 12) (hK : K ≤ 12) (hk : k < K) (hj : j < n) (hS : S < 4096) (A : ∀ S, S < 4096 → SPc K n own al (k + 1) (zI S) (T S)) : (CH own al k j S T = -1 ∨ (0 ≤ (CH own al k j S T).toInt ∧ (CH own al k j S T).toInt ≤ K - k)) ∧ (∀ g, CPL K n own al k (zI S) g → g k = j → mvs own g k K ≤ (CH own al k j S T).toInt) ∧ (¬ CH own al k j S T = -1 → ∃ g, CPL K n own al k (zI S) g ∧ g k = j ∧ mvs own g k K = (CH own al k j S T).toInt) := by
  have m1 : (-1 : Int32).toInt = -1 := rfl
  have o1 : (1 : Int32).toInt = 1 := rfl
  obtain ⟨b1, b2, b3⟩ := orS_b hS (show j < 12 by omega)
  obtain ⟨p1, p2, p3⟩ := A (orS S j) b1
  -- a completion gives one for the next
  have dn : ∀ g, CPL K n own al k (zI S) g → g k = j → tb (zI S) j = false ∧ okb own al k j = true ∧ CPL K n own al (k + 1) (zI (orS S j)) g := fun g G e => by
    have q := G.1 k (Nat.le_refl _) hk
    rw [e] at q
    refine ⟨q.2.2, q.2.1, fun i h1 h2 => ?_, fun a b h1 h2 h3 h4 => G.2 a b (by omega) h2 (by omega) h4⟩
    have w := G.1 i (by omega) h2
    refine ⟨w.1, w.2.1, ?_⟩
    rw [b3 (g i) (by omega), w.2.2, decide_eq_false (fun y => by have := G.2 i k (by omega) h2 (Nat.le_refl _) hk (y.trans e.symm); omega)]; rfl
  have up : tb (zI S) j = false → okb own al k j = true → ∀ g, CPL K n own al (k + 1) (zI (orS S j)) g → CPL K n own al k (zI S) (wr g k j) := fun t1 t2 g G => by
    have ng : ∀ i, k + 1 ≤ i → i < K → g i ≠ j ∧ tb (zI S) (g i) = false := fun i h1 h2 => by
      have w := G.1 i h1 h2
      have q := w.2.2
      rw [b3 (g i) (by omega), Bool.or_eq_false_iff, decide_eq_false_iff_not] at q
      exact ⟨q.2, q.1⟩
    refine ⟨fun i h1 h2 => ?_, fun a b h1 h2 h3 h4 e => ?_⟩
    · by_cases y : i = k
      · rw [y, wr_eq]; exact ⟨hj, t2, t1⟩
      · rw [wr_ne y]
        have w := G.1 i (by omega) h2
        exact ⟨w.1, w.2.1, (ng i (by omega) h2).2⟩
    · by_cases ya : a = k
      · by_cases yb : b = k
        · rw [ya, yb]
        · rw [ya, wr_eq, wr_ne yb] at e
          exact absurd e.symm (ng b (by omega) h4).1
      · by_cases yb : b = k
        · rw [yb, wr_eq, wr_ne ya] at e
          exact absurd e (ng a (by omega) h2).1
        · rw [wr_ne ya, wr_ne yb] at e
          exact G.2 a b (by omega) h2 (by omega) h4 e
  have mw : ∀ g : Nat → Nat, mvs own (wr g k j) k K = (if j = own k then 0 else 1) + mvs own g (k + 1) K := fun g => by
    rw [mvs_s, mvs_c (g := wr g k j) (f := g) K (by omega) (fun i h1 _ => wr_ne (by omega))]
    congr 1
    unfold mvd; rw [wr_eq]
  have me : ∀ g : Nat → Nat, g k = j → mvs own g k K = (if j = own k then 0 else 1) + mvs own g (k + 1) K := fun g e => by
    rw [mvs_s]
    congr 1
    unfold mvd; rw [e]
  unfold CH
  by_cases c1 : tb (zI S) j = false ∧ okb own al k j = true
  · rw [if_pos c1]
    by_cases c2 : T (orS S j) = -1
    · rw [if_pos c2]
      refine ⟨Or.inl rfl, fun g G e => ?_, fun z => absurd rfl z⟩
      have := p2 g (dn g G e).2.2
      rw [c2, m1] at this
      have := (mvs_b own g (k := k + 1) K (by omega)).1
      omega
    · rw [if_neg c2]
      have pb := p1.resolve_left c2
      have ad : (T (orS S j) + 1).toInt = (T (orS S j)).toInt + 1 := by rw [i_add (by rw [o1]; omega) (by rw [o1]; omega), o1]
      obtain ⟨g0, G0, e0⟩ := p3 c2
      by_cases c3 : j = own k
      · rw [if_pos c3]
        refine ⟨Or.inr ⟨pb.1, by omega⟩, fun g G e => ?_, fun _ => ⟨wr g0 k j, up c1.1 c1.2 g0 G0, wr_eq, ?_⟩⟩
        · have := p2 g (dn g G e).2.2
          rw [me g e, if_pos c3]; omega
        · rw [mw, if_pos c3, e0]; omega
      · rw [if_neg c3]
        refine ⟨Or.inr (by rw [ad]; omega), fun g G e => ?_, fun _ => ⟨wr g0 k j, up c1.1 c1.2 g0 G0, wr_eq, ?_⟩⟩
        · have := p2 g (dn g G e).2.2
          rw [me g e, if_neg c3, ad]; omega
        · rw [mw, if_neg c3, e0, ad]; omega
  · rw [if_neg c1]
    refine ⟨Or.inl rfl, fun g G e => absurd ⟨(dn g G e).1, (dn g G e).2.1⟩ c1, fun z => absurd rfl z⟩
/-- the table's own row -/
theorem SPc_0 {K n : Nat} {own : Nat → Nat} {al : Nat → Nat → Bool} (S : Int32) : SPc K n own al K S 0 := by
  have z : (0 : Int32).toInt = 0 := rfl
  refine ⟨Or.inr (by rw [z]; omega), fun g _ => ?_, fun _ => ⟨fun _ => 0, ⟨fun i h1 h2 => absurd h2 (by omega), fun i j h1 h2 => absurd h2 (by omega)⟩, ?_⟩⟩
  · unfold mvs; rw [z]; omega
  · unfold mvs; rw [z]; omega
def bst (own : Nat → Nat) (al : Nat → Nat → Bool) (k S : Nat) (T : Nat → Int32) : Nat → Int32
  | 0 => -1
  | j + 1 => if CH own al k j S T ≤ bst own al k S T j then bst own al k S T j else CH own al k j S T
theorem bst_s {own : Nat → Nat} {al : Nat → Nat → Bool} {k S : Nat} {T : Nat → Int32} : ∀ n, (∀ j, j < n → CH own al k j S T ≤ bst own al k S T n) ∧ (bst own al k S T n = -1 ∨ ∃ j, j < n ∧ bst own al k S T n = CH own al k j S T)
  | 0 => ⟨fun j hj => absurd hj (by omega), Or.inl rfl⟩
  | n + 1 => by
    obtain ⟨a, b⟩ := bst_s (own := own) (al := al) (k := k) (S := S) (T := T) n
    unfold bst
    by_cases z : CH own al k n S T ≤ bst own al k S T n
    · rw [if_pos z]
      refine ⟨fun j hj => ?_, b.imp id (fun ⟨j, h1, h2⟩ => ⟨j, by omega, h2⟩)⟩
      by_cases y : j = n
      · rw [y]; exact z
      · exact a j (by omega)
    · rw [if_neg z]
      refine ⟨fun j hj => ?_, Or.inr ⟨n, by omega, rfl⟩⟩
      by_cases y : j = n
      · rw [y]; exact Int32.le_refl _
      · have := a j (by omega)
        rw [i_le] at z this ⊢; omega
theorem SPc_s {K n k S : Nat} {own : Nat → Nat} {al : Nat → Nat → Bool} {T : Nat → Int32} (hn : n ≤ 12) (hK : K ≤ 12) (hk : k < K) (hS : S < 4096) (A : ∀ S, S < 4096 → SPc K n own al (k + 1) (zI S) (T S)) : SPc K n own al k (zI S) (bst own al k S T n) := by
  obtain ⟨a, b⟩ := bst_s (own := own) (al := al) (k := k) (S := S) (T := T) n
  have m1 : (-1 : Int32).toInt = -1 := rfl
  refine ⟨?_, fun g G => ?_, fun z => ?_⟩
  · rcases b with b | ⟨j, hj, e⟩
    · exact Or.inl b
    · rw [e]; exact (CH_s hn hK hk hj hS A).1
  · have q := (G.1 k (Nat.le_refl _) hk).1
    have := (CH_s hn hK hk q hS A).2.1 g G rfl
    have l := a (g k) q
    rw [i_le] at l; omega
  · obtain ⟨j, hj, e⟩ := b.resolve_left z
    rw [e] at z ⊢
    obtain ⟨g, G, _, q⟩ := (CH_s hn hK hk hj hS A).2.2 z
    exact ⟨g, G, q⟩
/-! the choosing -/
/-- chosen for those before k -/
def PRE (K n : Nat) (own : Nat → Nat) (al : Nat → Nat → Bool) (V0 : Int) (k S : Nat) (b : Int32) (t : Nat → Nat) : Prop := (∀ i, i < k → t i < n ∧ okb own al i (t i) = true) ∧ (∀ i j, i < k → j < k → t i = t j → i = j) ∧ S < 4096 ∧ (∀ j, j < 12 → (tb (zI S) j = true ↔ ∃ i, i < k ∧ t i = j)) ∧ SPc K n own al k (zI S) b ∧ ¬ b = -1 ∧ sI (mvd own t) k + b.toInt = V0 ∧ ∀ g, inj K n g → alo K own al g → sI (mvd own g) K = V0 → (∀ i, i < k → t i = g i) ∨ ∃ i, i < k ∧ (∀ j, j < i → t j = g j) ∧ dgt own t i < dgt own g i
/-- the first home that is as good as any, or the own one -/
def TG (own : Nat → Nat) (al : Nat → Nat → Bool) (n k S : Nat) (b : Int32) (T : Nat → Int32) (x : Nat) : Prop := (x = own k ∧ ∀ j, j < n → ¬ j = own k → ¬ CH own al k j S T = b) ∨ (x < n ∧ ¬ x = own k ∧ CH own al k x S T = b ∧ ∀ j, j < x → ¬ j = own k → ¬ CH own al k j S T = b)
theorem PRE.st {K n k S x : Nat} {own : Nat → Nat} {al : Nat → Nat → Bool} {V0 : Int} {b : Int32} {t : Nat → Nat} {T : Nat → Int32} (hn : n ≤ 12) (hK : K ≤ 12) (hk : k < K) (P : PRE K n own al V0 k S b t) (A : ∀ S, S < 4096 → SPc K n own al (k + 1) (zI S) (T S)) (X : TG own al n k S b T x) : PRE K n own al V0 (k + 1) (orS S x) (T (orS S x)) (wr t k x) ∧ x < n := by
  obtain ⟨p1, p2, p3, p4, p5, p6, p7, p8⟩ := P
  have m1 : (-1 : Int32).toInt = -1 := rfl
  have o1 : (1 : Int32).toInt = 1 := rfl
  obtain ⟨s1, s2, s3⟩ := p5
  -- each as good as b is b
  have eq : ∀ j, j < n → ∀ g, CPL K n own al k (zI S) g → g k = j → mvs own g k K = b.toInt → CH own al k j S T = b := fun j hj g G e q => by
    obtain ⟨c1, c2, c3⟩ := CH_s hn hK hk hj p3 A
    have lo := c2 g G e
    have b0 := s1.resolve_left p6
    have nz : ¬ CH own al k j S T = -1 := fun y => by rw [y, m1] at lo; omega
    obtain ⟨g2, G2, _, q2⟩ := c3 nz
    have hi := s2 g2 G2
    rw [i_eq]; omega
  have good : x < n ∧ CH own al k x S T = b := by
    rcases X with ⟨x1, x2⟩ | ⟨x1, _, x3, _⟩
    · obtain ⟨g, G, q⟩ := s3 p6
      have gk := G.1 k (Nat.le_refl _) hk
      have := eq (g k) gk.1 g G rfl q
      by_cases y : g k = own k
      · rw [x1, ← y]; exact ⟨gk.1, this⟩
      · exact absurd this (x2 (g k) gk.1 y)
    · exact ⟨x1, x3⟩
  obtain ⟨xn, xb⟩ := good
  have nz : ¬ CH own al k x S T = -1 := by rw [xb]; exact p6
  obtain ⟨b1, b2, b3⟩ := orS_b p3 (show x < 12 by omega)
  have A1 := A (orS S x) b1
  have xx : (tb (zI S) x = false ∧ okb own al k x = true) ∧ ¬ T (orS S x) = -1 ∧ b = (if x = own k then T (orS S x) else T (orS S x) + 1) := by
    unfold CH at nz xb
    by_cases c1 : tb (zI S) x = false ∧ okb own al k x = true
    · rw [if_pos c1] at nz xb
      by_cases c2 : T (orS S x) = -1
      · rw [if_pos c2] at nz; exact absurd rfl nz
      · rw [if_neg c2] at xb; exact ⟨c1, c2, xb.symm⟩
    · rw [if_neg c1] at nz; exact absurd rfl nz
  obtain ⟨⟨x1, x2⟩, x3, x4⟩ := xx
  have nt : ∀ i, i < k → t i ≠ x := fun i hi y => by
    have := (p4 x (by omega)).mpr ⟨i, hi, y⟩
    rw [x1] at this; exact absurd this (by decide)
  have bt : b.toInt = (if x = own k then 0 else 1) + (T (orS S x)).toInt := by
    rw [x4]
    by_cases y : x = own k
    · rw [if_pos y, if_pos y]; omega
    · rw [if_neg y, if_neg y]
      have := A1.1.resolve_left x3
      rw [i_add (by rw [o1]; omega) (by rw [o1]; omega), o1]; omega
  refine ⟨⟨fun i hi => ?_, fun i j hi hj e => ?_, b1, fun j hj => ?_, A1, x3, ?_, fun g hg ag mg => ?_⟩, xn⟩
  · by_cases y : i = k
    · rw [y, wr_eq]; exact ⟨xn, x2⟩
    · rw [wr_ne y]; exact p1 i (by omega)
  · by_cases yi : i = k
    · by_cases yj : j = k
      · rw [yi, yj]
      · rw [yi, wr_eq, wr_ne yj] at e; exact absurd e.symm (nt j (by omega))
    · by_cases yj : j = k
      · rw [yj, wr_eq, wr_ne yi] at e; exact absurd e (nt i (by omega))
      · rw [wr_ne yi, wr_ne yj] at e; exact p2 i j (by omega) (by omega) e
  · rw [b3 j (by omega), Bool.or_eq_true, decide_eq_true_eq, p4 j hj]
    constructor
    · rintro (⟨i, h1, h2⟩ | h)
      · exact ⟨i, by omega, by rw [wr_ne (by omega)]; exact h2⟩
      · exact ⟨k, by omega, by rw [wr_eq]; exact h.symm⟩
    · rintro ⟨i, h1, h2⟩
      by_cases y : i = k
      · rw [y, wr_eq] at h2; exact Or.inr h2.symm
      · rw [wr_ne y] at h2; exact Or.inl ⟨i, by omega, h2⟩
  · show sI (mvd own (wr t k x)) k + mvd own (wr t k x) k + _ = _
    have e1 : sI (mvd own (wr t k x)) k = sI (mvd own t) k := sI_congr (fun i hi => by unfold mvd; rw [wr_ne (by omega)])
    have e2 : mvd own (wr t k x) k = if x = own k then 0 else 1 := by unfold mvd; rw [wr_eq]
    rw [e1, e2]; omega
  · rcases p8 g hg ag mg with q | ⟨i, hi, q1, q2⟩
    · -- the same so far
      have G : CPL K n own al k (zI S) g := by
        refine ⟨fun i h1 h2 => ⟨hg.1 i h2, okb_i.mpr (ag i h2), ?_⟩, fun i j _ h2 _ h4 e => hg.2 i j h2 h4 e⟩
        cases w : tb (zI S) (g i)
        · rfl
        · obtain ⟨a, ha, ea⟩ := (p4 (g i) (by have := hg.1 i h2; omega)).mp w
          rw [q a ha] at ea
          have := hg.2 a i (by omega) h2 ea
          omega
      have pf : sI (mvd own g) k = sI (mvd own t) k := sI_congr (fun i hi => by unfold mvd; rw [q i hi])
      have mv : mvs own g k K = b.toInt := by unfold mvs; omega
      have gk := hg.1 k hk
      have cb := eq (g k) gk g G rfl mv
      by_cases e : x = g k
      · left
        intro i hi
        by_cases y : i = k
        · rw [y, wr_eq]; exact e
        · rw [wr_ne y]; exact q i (by omega)
      · right
        refine ⟨k, by omega, fun j hj => by rw [wr_ne (by omega)]; exact q j hj, ?_⟩
        have d1 : dgt own (wr t k x) k = if x = own k then 12 else (x : Int) := by unfold dgt; rw [wr_eq]
        rw [d1]
        unfold dgt
        rcases X with ⟨y1, y2⟩ | ⟨y1, y2, y3, y4⟩
        · exfalso
          by_cases w : g k = own k
          · exact e (y1.trans w.symm)
          · exact y2 (g k) gk w cb
        · rw [if_neg y2]
          by_cases w : g k = own k
          · rw [if_pos w]; omega
          · rw [if_neg w]
            have : ¬ g k < x := fun l => y4 (g k) l w cb
            omega
    · right
      refine ⟨i, by omega, fun j hj => by rw [wr_ne (by omega)]; exact q1 j hj, ?_⟩
      have : dgt own (wr t k x) i = dgt own t i := by unfold dgt; rw [wr_ne (by omega)]
      rw [this]; exact q2
theorem PRE.fin {K n S : Nat} {own : Nat → Nat} {al : Nat → Nat → Bool} {V0 : Int} {b : Int32} {t : Nat → Nat} (hn : n ≤ 12) (hK : K ≤ 12) (P : PRE K n own al V0 K S b t) (M : ∀ g, inj K n g → alo K own al g → sI (mvd own g) K ≤ V0) : RS K n own al t ∧ sI (mvd own t) K = V0 := by
  obtain ⟨p1, p2, p3, p4, p5, p6, p7, p8⟩ := P
  have b0 := p5.1.resolve_left p6
  have e : sI (mvd own t) K = V0 := by omega
  have ti : inj K n t := ⟨fun k hk => (p1 k hk).1, p2⟩
  have ta : alo K own al t := fun k hk => okb_i.mp (p1 k hk).2
  refine ⟨⟨ti, ta, fun g hg ag => cst_l hK hn ti hg ta ag ?_⟩, e⟩
  have := M g hg ag
  by_cases y : sI (mvd own g) K = V0
  · exact Or.inr ⟨by omega, p8 g hg ag y⟩
  · exact Or.inl (by omega)
