/-! BEST 5: prices, all seated, the goals read -/
theorem tp_80 {a k : Nat} (h : 80 ≤ a ∧ a < 105) : tp a k = 0 := by unfold tp; (repeat' (first | rw [if_pos (by omega)] | rw [if_neg (by omega)]))
theorem FH.oc {h h' : AH} (F : FH h h') : OC [0] h h' := ⟨F.1, fun a k z => ⟨F.2.1 a k (fun y => by
  rcases z with z | z
  · omega
  · rw [tp_80 (by omega)] at z; exact z (List.mem_singleton.mpr rfl)), F.2.2 a k (fun y => by
  rcases z with z | z
  · omega
  · rw [tp_80 (by omega)] at z; exact z (List.mem_singleton.mpr rfl))⟩⟩
theorem pw_le {a b : Nat} (h : a ≤ b) : (13 : Int) ^ a ≤ 13 ^ b := by
  obtain ⟨c, rfl⟩ := Nat.le.dest h
  have p : (0 : Int) < 13 ^ a := Int.pow_pos (by decide)
  have q : (0 : Int) < 13 ^ c := Int.pow_pos (by decide)
  have := Int.mul_le_mul_of_nonneg_left (show (1 : Int) ≤ 13 ^ c by omega) (show (0 : Int) ≤ 13 ^ a by omega)
  rw [Int.mul_one] at this
  rw [Int.pow_add]; exact this
theorem l_div13 {x : Int64} {k : Nat} (h : k ≤ 10) (e : x.toInt = 13 ^ (k + 1)) : (x / 13).toInt = 13 ^ k := by
  have b : (13 : Int) ^ k ≤ 13 ^ 10 := pw_le h
  have b0 : (0 : Int) < 13 ^ k := Int.pow_pos (by decide)
  have M : (13 : Int) ^ 10 = 137858491849 := by decide
  rw [M] at b
  rw [Int64.toInt_div, e, show (13 : Int64).toInt = 13 from rfl, Int.pow_succ, Int.mul_tdiv_cancel _ (by decide)]
  exact l_bm (by omega) (by omega)
/-- the problem as it lies in the class's rows -/
def PD (n K : Nat) (own : Nat → Nat) (al : Nat → Nat → Bool) (h : AH) : Prop := Lay h ∧ n ≤ 12 ∧ K ≤ n ∧ am_gi h 80 11 = zI n ∧ am_gi h 80 12 = zI K ∧ (∀ k, k < K → own k < n ∧ am_gi h 83 (k + 1) = zI (own k)) ∧ ∀ k j, k < K → j < n → al k j = tb (am_gi h 84 (k + 1) &&& am_gi h 80 13) j
theorem bqx {x : Int32} {j : Nat} (hj : j < 32) : (x >>> (zI j &&& 31)) &&& 1 = 0 ↔ ¬ tb x j = true := by
  rw [show (x >>> (zI j &&& 31)) &&& 1 = bq x j from rfl, bq_0 hj]; simp
theorem l_mul {x y : Int64} (h1 : -9223372036854775808 ≤ x.toInt * y.toInt) (h2 : x.toInt * y.toInt < 9223372036854775808) : (x * y).toInt = x.toInt * y.toInt := by rw [Int64.toInt_mul, l_bm h1 h2]
theorem p5 {n K k j : Nat} {own : Nat → Nat} {al : Nat → Nat → Bool} {h : AH} {D : Int64} (P : PD n K own al h) (hk : k < K) (hj : j < n) (eD : D.toInt = 13 ^ (11 - k)) : ∃ y : Int64, y.toInt = pri own al k j ∧ PF 0 5 [.ref 80, .int (zI (k + 1)), .int (zI j), .long D] h (.long y) := by
  obtain ⟨Ly, hn, hK, e11, e12, po, pa⟩ := P
  have o := po k hk
  have a := pa k j hk hj
  have b : (13 : Int) ^ (11 - k) ≤ 13 ^ 11 := pw_le (by omega)
  have b0 : (0 : Int) < 13 ^ (11 - k) := Int.pow_pos (by decide)
  have M : (13 : Int) ^ 11 = 1792160394037 := by decide
  have M2 : (13 : Int) ^ 12 = 23298085122481 := by decide
  rw [M] at b
  unfold pri
  by_cases z1 : own k = j
  · refine ⟨12 * D, ?_, ws5 _ _ _ Ly ⟨zI13 (by omega), fun z => absurd ?_ z, fun _ => ⟨rfl, rfl⟩⟩⟩
    · rw [if_pos z1, l_mul (by rw [show (12 : Int64).toInt = 12 from rfl, eD]; omega) (by rw [show (12 : Int64).toInt = 12 from rfl, eD]; omega), show (12 : Int64).toInt = 12 from rfl, eD]
    · rw [zI_tn (by omega), o.2, z1]
  · rw [if_neg z1]
    have nz : ¬ am_gi h 83 (Int32.toNatClampNeg (zI (k + 1))) = zI j := by rw [zI_tn (by omega), o.2, zI_inj (by omega) (by omega)]; exact z1
    by_cases z2 : al k j = true
    · refine ⟨(Int32.toInt64 (zI j) * D) - 23298085122481, ?_, ws5 _ _ _ Ly ⟨zI13 (by omega), fun _ => ⟨zI13 (by omega), fun z => absurd z ?_, fun _ => ⟨fun y => absurd y (by decide), fun _ => ⟨rfl, rfl⟩⟩⟩, fun z => absurd (Decidable.not_not.mp z) nz⟩⟩
      · rw [if_pos z2]
        have ej : (Int32.toInt64 (zI j)).toInt = j := by rw [Int32.toInt_toInt64, zI_toInt (by omega)]
        have p0 : (0 : Int) ≤ (j : Int) * 13 ^ (11 - k) := Int.mul_nonneg (by omega) (by omega)
        have p1 : (j : Int) * 13 ^ (11 - k) ≤ 12 * 1792160394037 := Int.mul_le_mul (by omega) b (by omega) (by decide)
        have em : (Int32.toInt64 (zI j) * D).toInt = j * 13 ^ (11 - k) := by rw [l_mul (by rw [ej, eD]; omega) (by rw [ej, eD]; omega), ej, eD]
        rw [l_sub (by rw [em, show (23298085122481 : Int64).toInt = 23298085122481 from rfl]; omega) (by rw [em, show (23298085122481 : Int64).toInt = 23298085122481 from rfl]; omega), em, M2]; rfl
      · rw [zI_tn (by omega), bqx (by omega), ← a]; exact fun y => y z2
    · refine ⟨10000000000000000, by rw [if_neg z2]; rfl, ws5 _ _ _ Ly ⟨zI13 (by omega), fun _ => ⟨zI13 (by omega), fun _ => ⟨fun _ => ⟨rfl, rfl⟩, fun y => absurd rfl y⟩, fun z => absurd ?_ z⟩, fun z => absurd (Decidable.not_not.mp z) nz⟩⟩
      rw [zI_tn (by omega), bqx (by omega), ← a]; exact z2
/-- only the prices changed -/
def FP (h h' : AH) : Prop := Sm h h' ∧ (∀ a k, am_gi h' a k = am_gi h a k) ∧ ∀ a k, ¬ (86 ≤ a ∧ a < 99) → am_gl h' a k = am_gl h a k
theorem FP.rf (h : AH) : FP h h := ⟨Sm.rfl' _, fun _ _ => rfl, fun _ _ _ => rfl⟩
theorem FP.oc {h h' : AH} (F : FP h h') : OC [0] h h' := ⟨F.1, fun a k z => ⟨F.2.1 a k, F.2.2 a k (fun y => by
  rcases z with z | z
  · omega
  · rw [tp_80 (by omega)] at z; exact z (List.mem_singleton.mpr rfl))⟩⟩
theorem PD.fp {n K : Nat} {own : Nat → Nat} {al : Nat → Nat → Bool} {h h' : AH} (P : PD n K own al h) (F : FP h h') : PD n K own al h' := by
  obtain ⟨Ly, hn, hK, e11, e12, po, pa⟩ := P
  exact ⟨F.1.lay Ly, hn, hK, by rw [F.2.1]; exact e11, by rw [F.2.1]; exact e12, fun k hk => by rw [F.2.1]; exact po k hk, fun k j hk hj => by rw [F.2.1, F.2.1]; exact pa k j hk hj⟩
theorem l4b {n K k d : Nat} {own : Nat → Nat} {al : Nat → Nat → Bool} {h0 : AH} (P0 : PD n K own al h0) (hk : k < K) {D : Int64} (eD : D.toInt = 13 ^ (11 - k)) {Q : Option Value → AH → Prop} (K' : ∀ h, FP h0 h → (∀ b j, b ≤ k → j < n → (am_gl h (86 + (b + 1)) (j + 1)).toInt = pri own al b j) → Ev (d + 1) 4 6 [.ref 80, .long (D / 13), .null, .int (zI (k + 2)), .null] [] h Q) : ∀ m j h, j + m = n → FP h0 h → (∀ b j, b < k → j < n → (am_gl h (86 + (b + 1)) (j + 1)).toInt = pri own al b j) → (∀ i, i < j → (am_gl h (86 + (k + 1)) (i + 1)).toInt = pri own al k i) → Ev (d + 1) 4 17 [.ref 80, .long D, .null, .int (zI (k + 1)), .int (zI j)] [] h Q
  | 0, j, h, e, F, J, J2 => by
    have P := P0.fp F
    have hn := P.2.1
    refine ws4_17 _ _ _ P.1 ⟨fun _ => ⟨by decide, ?_⟩, fun z => absurd ?_ z⟩
    · rw [zI_succ]
      refine K' h F (fun b i hb hi => ?_)
      by_cases y : b = k
      · rw [y]; exact J2 i (by omega)
      · exact J b i (by omega) hi
    · rw [P.2.2.2.1]; exact (zI_le (by omega) (by omega)).mpr (by omega)
  | m + 1, j, h, e, F, J, J2 => by
    have P := P0.fp F
    have hn := P.2.1
    have hK := P.2.2.1
    obtain ⟨y, ey, Py⟩ := p5 P hk (show j < n by omega) eD
    refine ws4_17 _ _ _ P.1 ⟨fun z => absurd ?_ (show ¬ n ≤ j by omega), fun _ => ⟨zI13 (by omega), Cl.l Py (by omega) P.1 ?_⟩⟩
    · rw [P.2.2.2.1] at z; exact (zI_le (by omega) (by omega)).mp z
    rw [zI_succ, zI_tn (show k + 1 < 2147483648 by omega), zI_tn (show j + 1 < 2147483648 by omega)]
    refine ⟨zI13 (by omega), fun h7 e7 => ?_⟩
    have F7 : FP h0 h7 := by
      rw [e7]
      exact ⟨F.1.sl _ _ _, F.2.1, fun a i z => by rw [gl_ne (by omega)]; exact F.2.2 a i z⟩
    refine l4b P0 hk eD K' m (j + 1) h7 (by omega) F7 (fun b i hb hi => ?_) (fun i hi => ?_)
    · rw [e7, gl_ne (by omega)]; exact J b i hb hi
    · rw [e7]
      by_cases w : i = j
      · subst w; rw [gl_eq]; exact ey
      · rw [gl_ne (by omega)]; exact J2 i (by omega)
theorem l4 {n K d : Nat} {own : Nat → Nat} {al : Nat → Nat → Bool} {h0 : AH} (P0 : PD n K own al h0) : ∀ m k h (D : Int64), k + m = K → FP h0 h → (k < 12 → D.toInt = 13 ^ (11 - k)) → (∀ b j, b < k → j < n → (am_gl h (86 + (b + 1)) (j + 1)).toInt = pri own al b j) → Ev (d + 1) 4 6 [.ref 80, .long D, .null, .int (zI (k + 1)), .null] [] h (fun r h' => r = none ∧ FP h0 h' ∧ ∀ b j, b < K → j < n → (am_gl h' (86 + (b + 1)) (j + 1)).toInt = pri own al b j)
  | 0, k, h, D, e, F, eD, J => by
    have P := P0.fp F
    have hn := P.2.1
    have hK := P.2.2.1
    refine ws4_6 _ _ P.1 ⟨fun _ => ⟨rfl, F, by rw [show K = k by omega]; exact J⟩, fun z => absurd ?_ z⟩
    rw [P.2.2.2.2.1]; exact (zI_lt (by omega) (by omega)).mpr (by omega)
  | m + 1, k, h, D, e, F, eD, J => by
    have P := P0.fp F
    have hn := P.2.1
    have hK := P.2.2.1
    refine ws4_6 _ _ P.1 ⟨fun z => absurd ?_ (show ¬ K < k + 1 by omega), fun _ => ?_⟩
    · rw [P.2.2.2.2.1] at z; exact (zI_lt (by omega) (by omega)).mp z
    refine l4b P0 (k := k) (by omega) (eD (by omega)) (fun h1 F1 J1 => ?_) n 0 h (by omega) F J (fun i hi => absurd hi (by omega))
    refine l4 P0 m (k + 1) h1 (D / 13) (by omega) F1 (fun w => ?_) (fun b j hb hj => J1 b j (by omega) hj)
    exact l_div13 (by omega) (by rw [eD (by omega), show 11 - (k + 1) + 1 = 11 - k by omega])
/-- all are seated -/
theorem cB_p {n K : Nat} {own : Nat → Nat} {al : Nat → Nat → Bool} {c : Nat → Nat → Int} (hn : n ≤ 12) (hK : K ≤ n) (e : ∀ b j, b < K → j < n → c (b + 1) (j + 1) = pri own al b j) {i : Nat} (hi : i ≤ K) : cB n i c := fun a j a1 a2 j1 j2 => by
  have q := e (a - 1) (j - 1) (by omega) (by omega)
  rw [show a - 1 + 1 = a by omega, show j - 1 + 1 = j by omega] at q
  rw [q]
  have lo := pri_lo (own := own) (al := al) (a - 1) (j - 1)
  have b : (13 : Int) ^ (11 - (a - 1)) ≤ 13 ^ 11 := pw_le (by omega)
  have b0 : (0 : Int) < 13 ^ (11 - (a - 1)) := Int.pow_pos (by decide)
  have M : (13 : Int) ^ 11 = 1792160394037 := by decide
  have M2 : (13 : Int) ^ 12 = 23298085122481 := by decide
  rw [M] at b
  rw [M2] at lo
  refine ⟨lo, ?_⟩
  unfold pri
  by_cases z : own (a - 1) = j - 1
  · rw [if_pos z]; omega
  · rw [if_neg z]
    by_cases y : al (a - 1) (j - 1) = true
    · rw [if_pos y, M2]
      have p1 : ((j - 1 : Nat) : Int) * 13 ^ (11 - (a - 1)) ≤ 12 * 1792160394037 := Int.mul_le_mul (by omega) b (by omega) (by decide)
      omega
    · rw [if_neg y]; exact Int.le_refl _
/-- who gets what, by who -/
theorem IV.f {n K : Nat} {c : Nat → Nat → Int} {u v : Nat → Int} {G : Nat → Nat} (I : IV n (K + 1) c u v G) : ∃ f : Nat → Nat, inj K n f ∧ (∀ k, k < K → G (f k + 1) = k + 1) ∧ (∀ j, j < n → ¬ G (j + 1) = 0 → G (j + 1) ≤ K ∧ f (G (j + 1) - 1) = j) ∧ ∀ g, inj K n g → sI (fun k => c (k + 1) (f k + 1)) K ≤ sI (fun k => c (k + 1) (g k + 1)) K := by
  obtain ⟨v1, v2, v3, v4, v5, v6, v7⟩ := I
  have ex : ∀ k, ∃ j, k < K → j < n ∧ G (j + 1) = k + 1 := fun k => by
    by_cases z : k < K
    · obtain ⟨j, j1, j2, j3⟩ := v3 (k + 1) (by omega) (by omega)
      exact ⟨j - 1, fun _ => ⟨by omega, by rw [show j - 1 + 1 = j by omega]; exact j3⟩⟩
    · exact ⟨0, fun y => absurd y z⟩
  have hf : ∀ k, k < K → Classical.choose (ex k) < n ∧ G (Classical.choose (ex k) + 1) = k + 1 := fun k hk => Classical.choose_spec (ex k) hk
  generalize (fun k => Classical.choose (ex k)) = f0 at hf
  have ij : inj K n (fun k => Classical.choose (ex k)) := ⟨fun k hk => (hf k hk).1, fun i j hi hj e => by
    have a := (hf i hi).2
    have b := (hf j hj).2
    have e' : Classical.choose (ex i) = Classical.choose (ex j) := e
    rw [e', b] at a; omega⟩
  have bk : ∀ j, j < n → ¬ G (j + 1) = 0 → G (j + 1) ≤ K ∧ Classical.choose (ex (G (j + 1) - 1)) = j := fun j hj z => by
    have g := v1 (j + 1) (by omega) (by omega)
    have q := hf (G (j + 1) - 1) (by omega)
    refine ⟨by omega, ?_⟩
    have := v2 (Classical.choose (ex (G (j + 1) - 1)) + 1) (j + 1) (by omega) (by omega) (by omega) (by omega) (by rw [q.2]; omega) (by rw [q.2]; omega)
    omega
  refine ⟨fun k => Classical.choose (ex k), ij, fun k hk => (hf k hk).2, bk, fun g hg => ?_⟩
  refine dual (c := fun k j => c (k + 1) (j + 1)) (u := fun k => u (k + 1)) (v := fun j => v (j + 1)) ij (fun k hk j hj => v4 (k + 1) (j + 1) (by omega) (by omega) (by omega) (by omega)) (fun k hk => ?_) (fun j hj => (v6 (j + 1) (by omega) (by omega)).1) (fun j hj z => ?_) hg
  · have q := hf k hk
    have := v5 (Classical.choose (ex k) + 1) (by omega) (by omega) (by rw [q.2]; omega)
    rw [q.2] at this; exact this
  · refine (v6 (j + 1) (by omega) (by omega)).2.2 ?_
    by_cases y : G (j + 1) = 0
    · exact y
    · have b := bk j hj y
      exact absurd b.2 (z _ (by omega))
