/-! BITS of ints -/
def tb (x : Int32) (j : Nat) : Bool := x.toBitVec.getLsbD j
theorem tb_ext {x y : Int32} (h : ∀ j, j < 32 → tb x j = tb y j) : x = y := Int32.toBitVec_inj.mp (BitVec.eq_of_getLsbD_eq (fun i hi => h i hi))
theorem tb_and (x y : Int32) (j : Nat) : tb (x &&& y) j = (tb x j && tb y j) := BitVec.getLsbD_and (x := x.toBitVec) (y := y.toBitVec) (i := j)
theorem tb_or (x y : Int32) (j : Nat) : tb (x ||| y) j = (tb x j || tb y j) := BitVec.getLsbD_or (x := x.toBitVec) (y := y.toBitVec) (i := j)
theorem tb_xor (x y : Int32) (j : Nat) : tb (x ^^^ y) j = (tb x j ^^ tb y j) := BitVec.getLsbD_xor (x := x.toBitVec) (y := y.toBitVec) (i := j)
theorem tb_one : ∀ j, j < 32 → tb 1 j = decide (j = 0) := by decide +kernel
theorem tb_m1 : ∀ j, j < 32 → tb (-1) j = true := by decide +kernel
theorem tb_zero (j : Nat) : tb 0 j = false := by unfold tb; exact BitVec.getLsbD_zero
theorem tb_sh : ∀ m, m < 32 → ∀ j, j < 32 → tb ((1 : Int32) <<< (zI m &&& 31)) j = decide (j = m) := by decide +kernel
theorem sh_amt : ∀ m, m < 32 → ((zI m &&& 31).toBitVec.smod 32).toNat = m := by decide +kernel
theorem bq_tb {x : Int32} {j : Nat} (hj : j < 32) : bq x j = if tb x j then 1 else 0 := by
  refine tb_ext (fun i hi => ?_)
  unfold bq
  rw [tb_and, tb_one i hi]
  have e : tb (x >>> (zI j &&& 31)) i = if j + i < 32 then tb x (j + i) else x.toBitVec.msb := by
    show (x.toBitVec.sshiftRight' ((zI j &&& 31).toBitVec.smod 32)).getLsbD i = _
    rw [BitVec.getLsbD_sshiftRight', sh_amt j hj]
    have : decide (32 ≤ i) = false := by rw [decide_eq_false_iff_not]; omega
    rw [this]; rfl
  rw [e]
  by_cases h0 : i = 0
  · subst h0
    rw [if_pos (by omega)]
    cases tb x (j + 0) <;> rfl
  · have : decide (i = 0) = false := by rw [decide_eq_false_iff_not]; exact h0
    rw [this, Bool.and_false]
    split
    · rw [tb_one i hi, this]
    · rw [tb_zero]
theorem bq_0 {x : Int32} {j : Nat} (hj : j < 32) : bq x j = 0 ↔ tb x j = false := by
  rw [bq_tb hj]; cases tb x j <;> decide
theorem bq_1 {x : Int32} {j : Nat} (hj : j < 32) : bq x j = 1 ↔ tb x j = true := by
  rw [bq_tb hj]; cases tb x j <;> decide
theorem bq_n0 {x : Int32} {j : Nat} (hj : j < 32) : ¬ bq x j = 0 ↔ tb x j = true := by
  rw [bq_tb hj]; cases tb x j <;> decide
theorem tb_clr {x : Int32} {m j : Nat} (hm : m < 32) (hj : j < 32) : tb (x &&& (((1 : Int32) <<< (zI m &&& 31)) ^^^ (-1))) j = (tb x j && !decide (j = m)) := by
  rw [tb_and, tb_xor, tb_sh m hm j hj, tb_m1 j hj]; cases decide (j = m) <;> rfl
theorem tb_set {x : Int32} {m j : Nat} (hm : m < 32) (hj : j < 32) : tb (x ||| ((1 : Int32) <<< (zI m &&& 31))) j = (tb x j || decide (j = m)) := by
  rw [tb_or, tb_sh m hm j hj]
theorem tb_neg {x : Int32} : tb x 31 = decide (x.toInt < 0) := by
  unfold tb
  have : x.toBitVec.getLsbD 31 = x.toBitVec.msb := by rw [BitVec.msb_eq_getLsbD_last]
  rw [this, BitVec.msb_eq_toInt]; rfl
theorem bq_clr {x : Int32} {m j : Nat} (hm : m < 32) (hj : j < 32) (n : j ≠ m) : bq (x &&& (((1 : Int32) <<< (zI m &&& 31)) ^^^ (-1))) j = bq x j := by
  rw [bq_tb hj, bq_tb hj, tb_clr hm hj]
  have : decide (j = m) = false := by rw [decide_eq_false_iff_not]; exact n
  rw [this, Bool.not_false, Bool.and_true]
/-! RIGHTS that are added -/
theorem Cl.qi {d d' M : Nat} {vs : List Value} {h : AH} {v : Int32} {P : AH → Prop} {A : Int32 → AH → Prop} (H : Cl d M vs h (fun r h' => r = some (.int v) ∧ P h')) (hd : d ≤ d') (k : ∀ h', P h' → Lay h' ∧ A v h') : Cl d' M vs h (fun r h1 => ∃ x, r = some (.int x) ∧ Lay h1 ∧ A x h1) :=
  Cl.mono H hd (fun _ h' q => ⟨v, q.1, k h' q.2⟩)
theorem Cl.ql {d d' M : Nat} {vs : List Value} {h : AH} {v : Int64} {P : AH → Prop} {A : Int64 → AH → Prop} (H : Cl d M vs h (fun r h' => r = some (.long v) ∧ P h')) (hd : d ≤ d') (k : ∀ h', P h' → Lay h' ∧ A v h') : Cl d' M vs h (fun r h1 => ∃ x, r = some (.long x) ∧ Lay h1 ∧ A x h1) :=
  Cl.mono H hd (fun _ h' q => ⟨v, q.1, k h' q.2⟩)
theorem Cl.qv {d d' M : Nat} {vs : List Value} {h : AH} {P : AH → Prop} {A : AH → Prop} (H : Cl d M vs h (fun r h' => r = none ∧ P h')) (hd : d ≤ d') (k : ∀ h', P h' → Lay h' ∧ A h') : Cl d' M vs h (fun r h1 => r = none ∧ Lay h1 ∧ A h1) :=
  Cl.mono H hd (fun _ h' q => ⟨q.1, k h' q.2⟩)
def gRow (a b c d e f : Int32) (k : Nat) : Int32 := if k = 0 then a else if k = 1 then b else if k = 2 then c else if k = 3 then d else if k = 4 then e else f
def gAdd (g : Nat → Nat → Int32) (n : Nat) (a b c d e f : Int32) : Nat → Nat → Int32 := fun k i => if i = n then gRow a b c d e f k else g k i
theorem gAdd_n {g : Nat → Nat → Int32} {n : Nat} {a b c d e f : Int32} {k : Nat} : gAdd g n a b c d e f k n = gRow a b c d e f k := if_pos rfl
theorem gAdd_o {g : Nat → Nat → Int32} {n : Nat} {a b c d e f : Int32} {k i : Nat} (h : i ≠ n) : gAdd g n a b c d e f k i = g k i := if_neg h
theorem c55 {h : AH} (Ly : Lay h) {n : Nat} {g : Nat → Nat → Int32} (V : vCR h n g) (hn : n < 60) (a b c d e f : Int32) : Cl 1 55 [.ref 9, .int a, .int b, .int c, .int d, .int e, .int f] h (fun r h' => r = some (.int (zI n)) ∧ vCR h' (n + 1) (gAdd g n a b c d e f) ∧ OC [4] h h') := by
  have q1 : Int32.toNatClampNeg (am_gi h 9 1) = n := by rw [V.2.1, zI_tn (by omega)]
  refine ws55 _ _ _ _ _ _ Ly (Cl.i (p54 Ly V.1 V.2.1 1 (by decide)) (by decide) Ly ?_)
  refine ⟨fun _ => ⟨by rw [V.2.1]; exact in_zI hn (by decide), ?_⟩, fun z => absurd (bI_n0.mpr (by omega)) z⟩
  rw [q1]
  intro k1 e1; subst e1
  intro k2 e2; subst e2
  intro k3 e3; subst e3
  intro k4 e4; subst e4
  intro k5 e5; subst e5
  intro k6 e6; subst e6
  intro k7 e7; subst e7
  have e9 : am_gi (am_si (am_si (am_si (am_si (am_si (am_si h (11 + n) 0 a) (11 + n) 1 b) (11 + n) 2 c) (11 + n) 3 d) (11 + n) 4 e) (11 + n) 5 f) 9 1 = zI n := by
    rw [gi_ne (by omega), gi_ne (by omega), gi_ne (by omega), gi_ne (by omega), gi_ne (by omega), gi_ne (by omega)]; exact V.2.1
  refine ⟨by rw [gi_eq, e9, zI_succ, zI_pred], ⟨by omega, by rw [gi_eq, e9, zI_succ], fun i hi k hk => ?_⟩, ?_⟩
  · rw [gi_ne (by omega)]
    by_cases hin : i = n
    · subst hin
      rw [gAdd_n]
      rcases (show k = 0 ∨ k = 1 ∨ k = 2 ∨ k = 3 ∨ k = 4 ∨ k = 5 by omega) with rfl | rfl | rfl | rfl | rfl | rfl <;> (simp [am_si_gi]; rfl)
    · rw [gAdd_o hin, gi_ne (by omega), gi_ne (by omega), gi_ne (by omega), gi_ne (by omega), gi_ne (by omega), gi_ne (by omega)]
      exact V.2.2 i (by omega) k hk
  · have t : ∀ k, tp (11 + n) k ∈ [4] := fun k => tpm (tp_right hn) (by decide)
    exact ((((((((OC.rf [4] h).si (a := 11 + n) (k := 0) (by omega) (t _)).si (a := 11 + n) (k := 1) (by omega) (t _)).si (a := 11 + n) (k := 2) (by omega) (t _)).si (a := 11 + n) (k := 3) (by omega) (t _)).si (a := 11 + n) (k := 4) (by omega) (t _)).si (a := 11 + n) (k := 5) (by omega) (t _)).si (by omega) (by decide))
theorem m175 {h : AH} (Ly : Lay h) {n : Nat} {g : Nat → Nat → Int32} (V : vMR h n g) (hn : n < 60) (a b c d f : Int32) : Cl 0 175 [.ref 216, .int a, .int b, .int c, .int d, .int f] h (fun r h' => r = some (.int (zI n)) ∧ vMR h' (n + 1) (gAdd g n a b c d (am_gi h 216 0) f) ∧ OM [4] h h') := by
  have q1 : am_gi h 216 14 = zI n := V.2.1
  have qt : Int32.toNatClampNeg (zI n) = n := zI_tn (by omega)
  have qi : am_in (zI n) 60 := in_zI hn (by decide)
  refine ws175 _ _ _ _ _ Ly ⟨by rw [q1]; exact qi, fun k1 e1 => ?_⟩
  rw [q1, qt] at e1
  have p1 : am_gi k1 216 14 = zI n := by rw [e1, gi_ne (by omega)]; exact q1
  refine ⟨by rw [p1]; exact qi, fun k2 e2 => ?_⟩
  rw [p1, qt] at e2
  have p2 : am_gi k2 216 14 = zI n := by rw [e2, gi_ne (by omega)]; exact p1
  refine ⟨by rw [p2]; exact qi, fun k3 e3 => ?_⟩
  rw [p2, qt] at e3
  have p3 : am_gi k3 216 14 = zI n := by rw [e3, gi_ne (by omega)]; exact p2
  refine ⟨by rw [p3]; exact qi, fun k4 e4 => ?_⟩
  rw [p3, qt] at e4
  have p4 : am_gi k4 216 14 = zI n := by rw [e4, gi_ne (by omega)]; exact p3
  refine ⟨by rw [p4]; exact qi, fun k5 e5 => ?_⟩
  rw [p4, qt] at e5
  have t4 : am_gi k4 216 0 = am_gi h 216 0 := by rw [e4, gi_ne (by omega), e3, gi_ne (by omega), e2, gi_ne (by omega), e1, gi_ne (by omega)]
  rw [t4] at e5
  have p5 : am_gi k5 216 14 = zI n := by rw [e5, gi_ne (by omega)]; exact p4
  refine ⟨by rw [p5]; exact qi, fun k6 e6 => ?_⟩
  rw [p5, qt] at e6
  have p6 : am_gi k6 216 14 = zI n := by rw [e6, gi_ne (by omega)]; exact p5
  intro k7 e7; subst e7
  clear p1 p2 p3 p4 p5 p6 t4
  subst e6
  subst e5
  subst e4
  subst e3
  subst e2
  subst e1
  have e9 : am_gi (am_si (am_si (am_si (am_si (am_si (am_si h 228 n a) 229 n b) 230 n c) 231 n d) 232 n (am_gi h 216 0)) 233 n f) 216 14 = zI n := by
    rw [gi_ne (by omega), gi_ne (by omega), gi_ne (by omega), gi_ne (by omega), gi_ne (by omega), gi_ne (by omega)]; exact V.2.1
  refine ⟨by rw [gi_eq, e9, zI_succ, zI_pred], ⟨by omega, by rw [gi_eq, e9, zI_succ], fun i hi k hk => ?_⟩, ?_⟩
  · rw [gi_ne (by omega)]
    by_cases hin : i = n
    · subst hin
      rw [gAdd_n]
      rcases (show k = 0 ∨ k = 1 ∨ k = 2 ∨ k = 3 ∨ k = 4 ∨ k = 5 by omega) with rfl | rfl | rfl | rfl | rfl | rfl
      · show am_gi _ 228 i = a
        rw [gi_ne (by omega), gi_ne (by omega), gi_ne (by omega), gi_ne (by omega), gi_ne (by omega), gi_eq]
      · show am_gi _ 229 i = b
        rw [gi_ne (by omega), gi_ne (by omega), gi_ne (by omega), gi_ne (by omega), gi_eq]
      · show am_gi _ 230 i = c
        rw [gi_ne (by omega), gi_ne (by omega), gi_ne (by omega), gi_eq]
      · show am_gi _ 231 i = d
        rw [gi_ne (by omega), gi_ne (by omega), gi_eq]
      · show am_gi _ 232 i = am_gi h 216 0
        rw [gi_ne (by omega), gi_eq]
      · show am_gi _ 233 i = f
        rw [gi_eq]
    · rw [gAdd_o hin, gi_ne (by omega), gi_ne (by omega), gi_ne (by omega), gi_ne (by omega), gi_ne (by omega), gi_ne (by omega)]
      exact V.2.2 i (by omega) k hk
  · exact ((((((((OM.rf [4] h).si (a := 228) (k := n) (by omega) (List.mem_singleton.mpr rfl)).si (a := 229) (k := n) (by omega) (List.mem_singleton.mpr rfl)).si (a := 230) (k := n) (by omega) (List.mem_singleton.mpr rfl)).si (a := 231) (k := n) (by omega) (List.mem_singleton.mpr rfl)).si (a := 232) (k := n) (by omega) (List.mem_singleton.mpr rfl)).si (a := 233) (k := n) (by omega) (List.mem_singleton.mpr rfl)).si (by omega) (by decide))
theorem onR_congr2 {g g' : Nat → Nat → Int32} {i i' : Nat} {d : Int32} (h4 : g 4 i = g' 4 i') (h5 : g 5 i = g' 5 i') : onR g i d = onR g' i' d := by unfold onR; rw [h4, h5]
/-- one more right -/
theorem RW.add {g : Nat → Nat → Int32} {nh nm nr : Nat} {d : Int32} (W : RW g nh nm nr d) {a b c s f : Int32} (h0 : 0 ≤ a.toInt ∧ a.toInt ≤ 4) (h1 : inN b nh) (h2 : inN c nm) (h3 : (a ≠ 3 ∧ s = -1) ∨ (a = 3 ∧ 0 ≤ s.toInt ∧ s.toInt < nm ∧ s ≠ c)) (K : a ≠ 2 → ∀ i, i < nr → hoR g i d = true → g 1 i ≠ b ∧ ofR g i c = false ∧ (a = 3 → ofR g i s = false)) : RW (gAdd g nr a b c s d f) nh nm (nr + 1) d := by
  have o : ∀ k i, i < nr → gAdd g nr a b c s d f k i = g k i := fun k i hi => gAdd_o (by omega)
  have oh : ∀ i, i < nr → hoR (gAdd g nr a b c s d f) i d = hoR g i d := fun i hi => hoR_congr (o 0 i hi) (o 4 i hi) (o 5 i hi)
  have oo : ∀ i w, i < nr → ofR (gAdd g nr a b c s d f) i w = ofR g i w := fun i w hi => ofR_congr (o 0 i hi) (o 2 i hi) (o 3 i hi)
  have n2 : hoR (gAdd g nr a b c s d f) nr d = true → a ≠ 2 := fun z => by rw [hoR_e, gAdd_n] at z; exact z.1
  have nw : ∀ w, ofR (gAdd g nr a b c s d f) nr w = true → c = w ∨ (a = 3 ∧ s = w) := fun w z => by
    unfold ofR at z; rw [gAdd_n, gAdd_n, gAdd_n, Bool.or_eq_true, Bool.and_eq_true, decide_eq_true_eq, decide_eq_true_eq, decide_eq_true_eq] at z; exact z
  have cr : ∀ i w, i < nr → hoR g i d = true → hoR (gAdd g nr a b c s d f) nr d = true → ofR g i w = true → ofR (gAdd g nr a b c s d f) nr w = true → False := fun i w hi z1 z2 z3 z4 => by
    have q := K (n2 z2) i hi z1
    rcases nw w z4 with rfl | ⟨e, rfl⟩
    · rw [q.2.1] at z3; cases z3
    · rw [q.2.2 e] at z3; cases z3
  refine ⟨fun i hi => ?_, fun i j w hi hj z1 z2 z3 z4 => ?_, fun i j hi hj z1 z2 z3 => ?_⟩
  · by_cases hin : i = nr
    · subst hin
      rw [gAdd_n, gAdd_n, gAdd_n, gAdd_n, gAdd_n]
      exact ⟨h0, h1, h2, h3, Int32.le_refl d⟩
    · have hi' : i < nr := by omega
      rw [o 0 i hi', o 1 i hi', o 2 i hi', o 3 i hi', o 4 i hi']; exact W.1 i hi'
  · by_cases hin : i = nr <;> by_cases hjn : j = nr
    · omega
    · subst hin; rw [oh j (by omega)] at z2; rw [oo j w (by omega)] at z4; exact (cr j w (by omega) z2 z1 z4 z3).elim
    · subst hjn; rw [oh i (by omega)] at z1; rw [oo i w (by omega)] at z3; exact (cr i w (by omega) z1 z2 z3 z4).elim
    · rw [oh i (by omega)] at z1; rw [oh j (by omega)] at z2; rw [oo i w (by omega)] at z3; rw [oo j w (by omega)] at z4
      exact W.2.1 i j w (by omega) (by omega) z1 z2 z3 z4
  · by_cases hin : i = nr <;> by_cases hjn : j = nr
    · omega
    · subst hin; rw [oh j (by omega)] at z2; rw [gAdd_n, o 1 j (by omega)] at z3
      exact absurd z3.symm (K (n2 z1) j (by omega) z2).1
    · subst hjn; rw [oh i (by omega)] at z1; rw [gAdd_n, o 1 i (by omega)] at z3
      exact absurd z3 (K (n2 z2) i (by omega) z1).1
    · rw [oh i (by omega)] at z1; rw [oh j (by omega)] at z2; rw [o 1 i (by omega), o 1 j (by omega)] at z3
      exact W.2.2 i j (by omega) (by omega) z1 z2 z3
theorem RO.add {g : Nat → Nat → Int32} {nr : Nat} {d : Int32} {oo : Nat → Int32} (W : RO g nr d oo) {a b c s e f : Int32} (K : a ≠ 2 → oo b.toNatClampNeg = 0) : RO (gAdd g nr a b c s e f) (nr + 1) d oo := fun i hi z => by
  by_cases hin : i = nr
  · subst hin; rw [gAdd_n]; rw [hoR_e, gAdd_n] at z; exact K z.1
  · rw [gAdd_o hin]
    rw [hoR_congr (g' := g) (gAdd_o hin) (gAdd_o hin) (gAdd_o hin)] at z
    exact W i (by omega) z
theorem fHo_n {g : Nat → Nat → Int32} {n : Nat} {w d : Int32} (h : fHo g n w d = -1) (hn : n ≤ 60) : ∀ i, i < n → hoR g i d = true → g 1 i ≠ w := fun i hi z e => by
  rcases fst1_spec (fun i => decide (g 1 i = w) && hoR g i d) n 0 with ⟨_, a⟩ | ⟨k, _, h2, e2, _, _⟩
  · have := a i (by omega) (by omega)
    rw [z, e] at this; simp at this
  · unfold fHo at h; rw [e2] at h; exact zI_ne1 (by omega) h
theorem fMe_n {g : Nat → Nat → Int32} {n : Nat} {w d : Int32} (h : fMe g n w d = -1) (hn : n ≤ 60) : ∀ i, i < n → hoR g i d = true → ofR g i w = false := fun i hi z => by
  rcases fst1_spec (fun i => ofR g i w && hoR g i d) n 0 with ⟨_, a⟩ | ⟨k, _, h2, e2, _, _⟩
  · have := a i (by omega) (by omega)
    rw [z, Bool.and_true] at this; exact this
  · unfold fMe at h; rw [e2] at h; exact absurd h (zI_ne1 (by omega))
theorem fMe_s {g : Nat → Nat → Int32} {n : Nat} {w d : Int32} (h : ¬ fMe g n w d = -1) : ∃ j, j < n ∧ fMe g n w d = zI j ∧ ofR g j w = true ∧ hoR g j d = true := by
  rcases fst1_spec (fun i => ofR g i w && hoR g i d) n 0 with ⟨e, _⟩ | ⟨k, _, h2, e2, hk, _⟩
  · exact absurd e h
  · rw [Bool.and_eq_true] at hk; exact ⟨k, by omega, e2, hk.1, hk.2⟩
theorem fHo_s {g : Nat → Nat → Int32} {n : Nat} {w d : Int32} (h : ¬ fHo g n w d = -1) : ∃ j, j < n ∧ fHo g n w d = zI j ∧ g 1 j = w ∧ hoR g j d = true := by
  rcases fst1_spec (fun i => decide (g 1 i = w) && hoR g i d) n 0 with ⟨e, _⟩ | ⟨k, _, h2, e2, hk, _⟩
  · exact absurd e h
  · rw [Bool.and_eq_true, decide_eq_true_eq] at hk; exact ⟨k, by omega, e2, hk.1, hk.2⟩
