/-! HOW MANY BITS: Integer.bitCount and the reference's bits -/
def cnt (p : Nat → Bool) : Nat → Nat
  | 0 => 0
  | m + 1 => cnt p m + (if p m then 1 else 0)
theorem cnt_le (p : Nat → Bool) : ∀ m, cnt p m ≤ m
  | 0 => Nat.le_refl _
  | m + 1 => by have := cnt_le p m; unfold cnt; split <;> omega
theorem cnt_congr {p q : Nat → Bool} : ∀ {m : Nat}, (∀ j, j < m → p j = q j) → cnt p m = cnt q m
  | 0, _ => rfl
  | m + 1, h => by unfold cnt; rw [h m (by omega), cnt_congr (m := m) (fun j hj => h j (by omega))]
theorem and2 {k a b c d : Nat} (ha : a < 2 ^ k) (hc : c < 2 ^ k) : (2 ^ k * b + a) &&& (2 ^ k * d + c) = 2 ^ k * (b &&& d) + (a &&& c) := by
  apply Nat.eq_of_testBit_eq
  intro i
  have hac : a &&& c < 2 ^ k := Nat.and_lt_two_pow a hc
  rw [Nat.testBit_and, Nat.testBit_two_pow_mul_add b ha, Nat.testBit_two_pow_mul_add d hc, Nat.testBit_two_pow_mul_add (b &&& d) hac]
  split
  · rw [Nat.testBit_and]
  · rw [Nat.testBit_and]
theorem and4 {y0 y1 y2 y3 m : Nat} (h0 : y0 < 256) (h1 : y1 < 256) (h2 : y2 < 256) (hm : m < 256) : (y0 + 256 * y1 + 65536 * y2 + 16777216 * y3) &&& (m + 256 * m + 65536 * m + 16777216 * m) = (y0 &&& m) + 256 * (y1 &&& m) + 65536 * (y2 &&& m) + 16777216 * (y3 &&& m) := by
  have e1 : y0 + 256 * y1 + 65536 * y2 + 16777216 * y3 = 2 ^ 8 * (2 ^ 8 * (2 ^ 8 * y3 + y2) + y1) + y0 := by omega
  have e2 : m + 256 * m + 65536 * m + 16777216 * m = 2 ^ 8 * (2 ^ 8 * (2 ^ 8 * m + m) + m) + m := by omega
  rw [e1, e2, and2 h0 hm, and2 h1 hm, and2 h2 hm]
  omega
def jA (y : Nat) : Nat := y - ((y / 2) &&& 85)
def jB (y : Nat) : Nat := (y &&& 51) + ((y / 4) &&& 51)
def pc8 (y : Nat) : Nat := y % 2 + y / 2 % 2 + y / 4 % 2 + y / 8 % 2 + y / 16 % 2 + y / 32 % 2 + y / 64 % 2 + y / 128 % 2
theorem j_tab : ∀ y, y < 256 → ((y / 2) &&& 85 ≤ y ∧ ((y / 2 + 128) &&& 85) = ((y / 2) &&& 85) ∧ jA y < 256) ∧ (((jA y / 4 + 64) &&& 51) = ((jA y / 4) &&& 51) ∧ ((jA y / 4 + 128) &&& 51) = ((jA y / 4) &&& 51) ∧ ((jA y / 4 + 192) &&& 51) = ((jA y / 4) &&& 51)) ∧ (jB (jA y) % 16 ≤ 4 ∧ jB (jA y) / 16 ≤ 4) ∧ jB (jA y) % 16 + jB (jA y) / 16 = pc8 y := by decide +kernel
theorem and15 (x : Nat) : x &&& 15 = x % 16 := Nat.and_two_pow_sub_one_eq_mod x 4
theorem and63 (x : Nat) : x &&& 63 = x % 64 := Nat.and_two_pow_sub_one_eq_mod x 6
/-- on numbers below 2^32 -/
theorem j_all {n : Nat} (hn : n < 4294967296) {a b c : Nat} (ha : a = n - ((n / 2) &&& 1431655765)) (hb : b = (a &&& 858993459) + ((a / 4) &&& 858993459)) (hc : c = (b + b / 16) &&& 252645135) : (n / 2) &&& 1431655765 ≤ n ∧ b < 4294967296 ∧ b + b / 16 < 4294967296 ∧ c + c / 256 < 4294967296 ∧ (c + c / 256) + (c + c / 256) / 65536 < 4294967296 ∧ (((c + c / 256) + (c + c / 256) / 65536) &&& 63) = pc8 (n % 256) + pc8 (n / 256 % 256) + pc8 (n / 65536 % 256) + pc8 (n / 16777216) := by
  obtain ⟨y0, e0⟩ : ∃ y, y = n % 256 := ⟨_, rfl⟩
  obtain ⟨y1, e1⟩ : ∃ y, y = n / 256 % 256 := ⟨_, rfl⟩
  obtain ⟨y2, e2⟩ : ∃ y, y = n / 65536 % 256 := ⟨_, rfl⟩
  obtain ⟨y3, e3⟩ : ∃ y, y = n / 16777216 := ⟨_, rfl⟩
  have en : n = y0 + 256 * y1 + 65536 * y2 + 16777216 * y3 := by omega
  have h0 : y0 < 256 := by omega
  have h1 : y1 < 256 := by omega
  have h2 : y2 < 256 := by omega
  have h3 : y3 < 256 := by omega
  rw [← e0, ← e1, ← e2, ← e3]
  clear e0 e1 e2 e3
  obtain ⟨⟨p0, q0, r0⟩, ⟨s0, t0, u0⟩, ⟨v0, w0⟩, x0⟩ := j_tab y0 h0
  obtain ⟨⟨p1, q1, r1⟩, ⟨s1, t1, u1⟩, ⟨v1, w1⟩, x1⟩ := j_tab y1 h1
  obtain ⟨⟨p2, q2, r2⟩, ⟨s2, t2, u2⟩, ⟨v2, w2⟩, x2⟩ := j_tab y2 h2
  obtain ⟨⟨p3, q3, r3⟩, ⟨s3, t3, u3⟩, ⟨v3, w3⟩, x3⟩ := j_tab y3 h3
  have sh : ∀ y z, y < 256 → ((y / 2 + 128) &&& 85) = ((y / 2) &&& 85) → ((y / 2 + 128 * (z % 2)) &&& 85) = ((y / 2) &&& 85) := fun y z _ q => by
    rcases (show z % 2 = 0 ∨ z % 2 = 1 by omega) with e | e <;> rw [e]
    · rfl
    · exact q
  have A1 : (n / 2) &&& 1431655765 = ((y0 / 2) &&& 85) + 256 * ((y1 / 2) &&& 85) + 65536 * ((y2 / 2) &&& 85) + 16777216 * ((y3 / 2) &&& 85) := by
    have e : n / 2 = (y0 / 2 + 128 * (y1 % 2)) + 256 * (y1 / 2 + 128 * (y2 % 2)) + 65536 * (y2 / 2 + 128 * (y3 % 2)) + 16777216 * (y3 / 2) := by omega
    rw [e, show 1431655765 = 85 + 256 * 85 + 65536 * 85 + 16777216 * 85 from rfl, and4 (by omega) (by omega) (by omega) (by decide), sh y0 y1 h0 q0, sh y1 y2 h1 q1, sh y2 y3 h2 q2]
  have A2 : a = jA y0 + 256 * jA y1 + 65536 * jA y2 + 16777216 * jA y3 := by
    rw [ha, A1, en]; unfold jA; omega
  have B0 : a &&& 858993459 = (jA y0 &&& 51) + 256 * (jA y1 &&& 51) + 65536 * (jA y2 &&& 51) + 16777216 * (jA y3 &&& 51) := by
    rw [A2, show 858993459 = 51 + 256 * 51 + 65536 * 51 + 16777216 * 51 from rfl, and4 r0 r1 r2 (by decide)]
  have sh2 : ∀ y z, ((y / 4 + 64) &&& 51) = ((y / 4) &&& 51) → ((y / 4 + 128) &&& 51) = ((y / 4) &&& 51) → ((y / 4 + 192) &&& 51) = ((y / 4) &&& 51) → ((y / 4 + 64 * (z % 4)) &&& 51) = ((y / 4) &&& 51) := fun y z q1 q2 q3 => by
    rcases (show z % 4 = 0 ∨ z % 4 = 1 ∨ z % 4 = 2 ∨ z % 4 = 3 by omega) with e | e | e | e <;> rw [e]
    · rfl
    · exact q1
    · exact q2
    · exact q3
  have B1 : (a / 4) &&& 858993459 = ((jA y0 / 4) &&& 51) + 256 * ((jA y1 / 4) &&& 51) + 65536 * ((jA y2 / 4) &&& 51) + 16777216 * ((jA y3 / 4) &&& 51) := by
    have e : a / 4 = (jA y0 / 4 + 64 * (jA y1 % 4)) + 256 * (jA y1 / 4 + 64 * (jA y2 % 4)) + 65536 * (jA y2 / 4 + 64 * (jA y3 % 4)) + 16777216 * (jA y3 / 4) := by rw [A2]; omega
    rw [e, show 858993459 = 51 + 256 * 51 + 65536 * 51 + 16777216 * 51 from rfl, and4 (by omega) (by omega) (by omega) (by decide), sh2 _ _ s0 t0 u0, sh2 _ _ s1 t1 u1, sh2 _ _ s2 t2 u2]
  have B2 : b = jB (jA y0) + 256 * jB (jA y1) + 65536 * jB (jA y2) + 16777216 * jB (jA y3) := by
    rw [hb, B0, B1]; unfold jB; omega
  generalize jB (jA y0) = z0 at *
  generalize jB (jA y1) = z1 at *
  generalize jB (jA y2) = z2 at *
  generalize jB (jA y3) = z3 at *
  have C0 : c = (z0 + z0 / 16) % 16 + 256 * ((z1 + z1 / 16) % 16) + 65536 * ((z2 + z2 / 16) % 16) + 16777216 * ((z3 + z3 / 16) % 16) := by
    have e : b + b / 16 = (z0 + z0 / 16 + 16 * (z1 % 16)) + 256 * (z1 + z1 / 16 + 16 * (z2 % 16)) + 65536 * (z2 + z2 / 16 + 16 * (z3 % 16)) + 16777216 * (z3 + z3 / 16) := by rw [B2]; omega
    rw [hc, e, show 252645135 = 15 + 256 * 15 + 65536 * 15 + 16777216 * 15 from rfl, and4 (by omega) (by omega) (by omega) (by decide), and15, and15, and15, and15, Nat.add_mul_mod_self_left, Nat.add_mul_mod_self_left, Nat.add_mul_mod_self_left]
  have k0 : (z0 + z0 / 16) % 16 = z0 % 16 + z0 / 16 := by omega
  have k1 : (z1 + z1 / 16) % 16 = z1 % 16 + z1 / 16 := by omega
  have k2 : (z2 + z2 / 16) % 16 = z2 % 16 + z2 / 16 := by omega
  have k3 : (z3 + z3 / 16) % 16 = z3 % 16 + z3 / 16 := by omega
  rw [k0, k1, k2, k3, x0, x1, x2, x3] at C0
  have l0 : pc8 y0 ≤ 8 := by omega
  have l1 : pc8 y1 ≤ 8 := by omega
  have l2 : pc8 y2 ≤ 8 := by omega
  have l3 : pc8 y3 ≤ 8 := by omega
  have hb' : b < 4294967296 ∧ b + b / 16 < 4294967296 := by constructor <;> omega
  have hA : (n / 2) &&& 1431655765 ≤ n := by rw [A1]; omega
  clear A1 A2 B0 B1 B2 sh sh2 ha hb hc k0 k1 k2 k3 x0 x1 x2 x3 v0 v1 v2 v3 w0 w1 w2 w3
  generalize pc8 y0 = c0 at *
  generalize pc8 y1 = c1 at *
  generalize pc8 y2 = c2 at *
  generalize pc8 y3 = c3 at *
  have d1 : c / 256 = c1 + 256 * c2 + 65536 * c3 := by omega
  have d2 : c + c / 256 = (c0 + c1) + 256 * (c1 + c2) + 65536 * (c2 + c3) + 16777216 * c3 := by omega
  have d3 : (c + c / 256) / 65536 = (c2 + c3) + 256 * c3 := by omega
  rw [d3, d2, and63]
  exact ⟨hA, hb'.1, hb'.2, by omega, by omega, by omega⟩
theorem cnt_pc {n : Nat} (hn : n < 4294967296) : cnt (fun k => n.testBit k) 32 = pc8 (n % 256) + pc8 (n / 256 % 256) + pc8 (n / 65536 % 256) + pc8 (n / 16777216) := by
  have e : ∀ k, (if n.testBit k = true then 1 else 0) = n / 2 ^ k % 2 := fun k => by
    rw [Nat.testBit_eq_decide_div_mod_eq]
    by_cases z : n / 2 ^ k % 2 = 1
    · rw [z]; rfl
    · have : n / 2 ^ k % 2 = 0 := by omega
      rw [this]; rfl
  simp only [cnt, e]
  unfold pc8
  have f : ∀ k m, n / 2 ^ (k + m) % 2 = n / 2 ^ k / 2 ^ m % 2 := fun k m => by rw [Nat.pow_add, Nat.div_div_eq_div_mul]
  have g : ∀ x m, m < 8 → x % 256 / 2 ^ m % 2 = x / 2 ^ m % 2 := fun x m hm => by
    rcases (show m = 0 ∨ m = 1 ∨ m = 2 ∨ m = 3 ∨ m = 4 ∨ m = 5 ∨ m = 6 ∨ m = 7 by omega) with rfl | rfl | rfl | rfl | rfl | rfl | rfl | rfl <;> omega
  have a1 := f 8; have a2 := f 16; have a3 := f 24
  have g0 := g n; have g1 := g (n / 256); have g2 := g (n / 65536)
  have b1 : ∀ m, m < 8 → n / 2 ^ (8 + m) % 2 = n / 256 % 256 / 2 ^ m % 2 := fun m hm => by rw [a1, g1 m hm]
  have b2 : ∀ m, m < 8 → n / 2 ^ (16 + m) % 2 = n / 65536 % 256 / 2 ^ m % 2 := fun m hm => by rw [a2, g2 m hm]
  have b3 : ∀ m, n / 2 ^ (24 + m) % 2 = n / 16777216 / 2 ^ m % 2 := fun m => a3 m
  have c00 := g0 0 (by decide); have c01 := g0 1 (by decide); have c02 := g0 2 (by decide); have c03 := g0 3 (by decide); have c04 := g0 4 (by decide); have c05 := g0 5 (by decide); have c06 := g0 6 (by decide); have c07 := g0 7 (by decide)
  have c10 := b1 0 (by decide); have c11 := b1 1 (by decide); have c12 := b1 2 (by decide); have c13 := b1 3 (by decide); have c14 := b1 4 (by decide); have c15 := b1 5 (by decide); have c16 := b1 6 (by decide); have c17 := b1 7 (by decide)
  have c20 := b2 0 (by decide); have c21 := b2 1 (by decide); have c22 := b2 2 (by decide); have c23 := b2 3 (by decide); have c24 := b2 4 (by decide); have c25 := b2 5 (by decide); have c26 := b2 6 (by decide); have c27 := b2 7 (by decide)
  have c30 := b3 0; have c31 := b3 1; have c32 := b3 2; have c33 := b3 3; have c34 := b3 4; have c35 := b3 5; have c36 := b3 6; have c37 := b3 7
  simp only [Nat.pow_zero, Nat.div_one, Nat.reducePow, Nat.reduceAdd] at *
  omega
theorem ofN_tb {x : Int32} (k : Nat) : tb x k = x.toBitVec.toNat.testBit k := rfl
/-- Integer.bitCount -/
theorem bv_lt (v : BitVec 32) : v.toNat < 4294967296 := v.isLt
theorem bv_sub {v w : BitVec 32} (h : w.toNat ≤ v.toNat) : (v - w).toNat = v.toNat - w.toNat := by
  rw [BitVec.toNat_sub_of_le]; exact h
theorem bv_add {v w : BitVec 32} (h : v.toNat + w.toNat < 4294967296) : (v + w).toNat = v.toNat + w.toNat := by
  rw [BitVec.toNat_add, Nat.mod_eq_of_lt h]
theorem bv_sh (v : BitVec 32) (k : Nat) : (v >>> k).toNat = v.toNat / 2 ^ k := by rw [BitVec.toNat_ushiftRight, Nat.shiftRight_eq_div_pow]
def jbv (v : BitVec 32) : BitVec 32 :=
  let a := v - ((v >>> 1) &&& 1431655765#32)
  let b := (a &&& 858993459#32) + ((a >>> 2) &&& 858993459#32)
  let c := (b + (b >>> 4)) &&& 252645135#32
  let d := c + (c >>> 8)
  (d + (d >>> 16)) &&& 63#32
theorem jbv_e (v : BitVec 32) : (jbv v).toNat = cnt (fun k => v.toNat.testBit k) 32 := by
  obtain ⟨a, ea⟩ : ∃ a, a = v - ((v >>> 1) &&& 1431655765#32) := ⟨_, rfl⟩
  obtain ⟨b, eb⟩ : ∃ b, b = (a &&& 858993459#32) + ((a >>> 2) &&& 858993459#32) := ⟨_, rfl⟩
  obtain ⟨c, ec⟩ : ∃ c, c = (b + (b >>> 4)) &&& 252645135#32 := ⟨_, rfl⟩
  have ej : jbv v = ((c + (c >>> 8)) + ((c + (c >>> 8)) >>> 16)) &&& 63#32 := by rw [ec, eb, ea]; rfl
  have hn := bv_lt v
  have J := j_all hn rfl rfl rfl
  have ha : a.toNat = v.toNat - ((v.toNat / 2) &&& 1431655765) := by
    rw [ea, bv_sub, BitVec.toNat_and, bv_sh]
    · rfl
    · rw [BitVec.toNat_and, bv_sh]; exact J.1
  have hb : b.toNat = (a.toNat &&& 858993459) + ((a.toNat / 4) &&& 858993459) := by
    rw [eb, bv_add, BitVec.toNat_and, BitVec.toNat_and, bv_sh]
    · rfl
    · rw [BitVec.toNat_and, BitVec.toNat_and, bv_sh, ha]; exact J.2.1
  have hc : c.toNat = (b.toNat + b.toNat / 16) &&& 252645135 := by
    rw [ec, BitVec.toNat_and, bv_add, bv_sh]
    · rfl
    · rw [bv_sh, hb, ha]; exact J.2.2.1
  have hd : (c + (c >>> 8)).toNat = c.toNat + c.toNat / 256 := by
    rw [bv_add, bv_sh]
    rw [bv_sh, hc, hb, ha]; exact J.2.2.2.1
  rw [ej, BitVec.toNat_and, bv_add, bv_sh, hd]
  · show ((c.toNat + c.toNat / 256) + (c.toNat + c.toNat / 256) / 65536) &&& 63 = _
    rw [hc, hb, ha, cnt_pc hn]; exact J.2.2.2.2.2
  · rw [bv_sh, hd, hc, hb, ha]; exact J.2.2.2.2.1
