/-! CALLS 6: memberTold, textTold, vote, text -/
def jI (i0 : Int32) : Int32 := (((((((i0 - (((Int32.toUInt32 i0 >>> (Int32.toUInt32 (1 : Int32) &&& Int32.toUInt32 31)).toInt32) &&& (1431655765 : Int32))) &&& (858993459 : Int32)) + (((Int32.toUInt32 (i0 - (((Int32.toUInt32 i0 >>> (Int32.toUInt32 (1 : Int32) &&& Int32.toUInt32 31)).toInt32) &&& (1431655765 : Int32))) >>> (Int32.toUInt32 (2 : Int32) &&& Int32.toUInt32 31)).toInt32) &&& (858993459 : Int32))) + ((Int32.toUInt32 (((i0 - (((Int32.toUInt32 i0 >>> (Int32.toUInt32 (1 : Int32) &&& Int32.toUInt32 31)).toInt32) &&& (1431655765 : Int32))) &&& (858993459 : Int32)) + (((Int32.toUInt32 (i0 - (((Int32.toUInt32 i0 >>> (Int32.toUInt32 (1 : Int32) &&& Int32.toUInt32 31)).toInt32) &&& (1431655765 : Int32))) >>> (Int32.toUInt32 (2 : Int32) &&& Int32.toUInt32 31)).toInt32) &&& (858993459 : Int32))) >>> (Int32.toUInt32 (4 : Int32) &&& Int32.toUInt32 31)).toInt32)) &&& (252645135 : Int32)) + ((Int32.toUInt32 (((((i0 - (((Int32.toUInt32 i0 >>> (Int32.toUInt32 (1 : Int32) &&& Int32.toUInt32 31)).toInt32) &&& (1431655765 : Int32))) &&& (858993459 : Int32)) + (((Int32.toUInt32 (i0 - (((Int32.toUInt32 i0 >>> (Int32.toUInt32 (1 : Int32) &&& Int32.toUInt32 31)).toInt32) &&& (1431655765 : Int32))) >>> (Int32.toUInt32 (2 : Int32) &&& Int32.toUInt32 31)).toInt32) &&& (858993459 : Int32))) + ((Int32.toUInt32 (((i0 - (((Int32.toUInt32 i0 >>> (Int32.toUInt32 (1 : Int32) &&& Int32.toUInt32 31)).toInt32) &&& (1431655765 : Int32))) &&& (858993459 : Int32)) + (((Int32.toUInt32 (i0 - (((Int32.toUInt32 i0 >>> (Int32.toUInt32 (1 : Int32) &&& Int32.toUInt32 31)).toInt32) &&& (1431655765 : Int32))) >>> (Int32.toUInt32 (2 : Int32) &&& Int32.toUInt32 31)).toInt32) &&& (858993459 : Int32))) >>> (Int32.toUInt32 (4 : Int32) &&& Int32.toUInt32 31)).toInt32)) &&& (252645135 : Int32)) >>> (Int32.toUInt32 (8 : Int32) &&& Int32.toUInt32 31)).toInt32)) + ((Int32.toUInt32 ((((((i0 - (((Int32.toUInt32 i0 >>> (Int32.toUInt32 (1 : Int32) &&& Int32.toUInt32 31)).toInt32) &&& (1431655765 : Int32))) &&& (858993459 : Int32)) + (((Int32.toUInt32 (i0 - (((Int32.toUInt32 i0 >>> (Int32.toUInt32 (1 : Int32) &&& Int32.toUInt32 31)).toInt32) &&& (1431655765 : Int32))) >>> (Int32.toUInt32 (2 : Int32) &&& Int32.toUInt32 31)).toInt32) &&& (858993459 : Int32))) + ((Int32.toUInt32 (((i0 - (((Int32.toUInt32 i0 >>> (Int32.toUInt32 (1 : Int32) &&& Int32.toUInt32 31)).toInt32) &&& (1431655765 : Int32))) &&& (858993459 : Int32)) + (((Int32.toUInt32 (i0 - (((Int32.toUInt32 i0 >>> (Int32.toUInt32 (1 : Int32) &&& Int32.toUInt32 31)).toInt32) &&& (1431655765 : Int32))) >>> (Int32.toUInt32 (2 : Int32) &&& Int32.toUInt32 31)).toInt32) &&& (858993459 : Int32))) >>> (Int32.toUInt32 (4 : Int32) &&& Int32.toUInt32 31)).toInt32)) &&& (252645135 : Int32)) + ((Int32.toUInt32 (((((i0 - (((Int32.toUInt32 i0 >>> (Int32.toUInt32 (1 : Int32) &&& Int32.toUInt32 31)).toInt32) &&& (1431655765 : Int32))) &&& (858993459 : Int32)) + (((Int32.toUInt32 (i0 - (((Int32.toUInt32 i0 >>> (Int32.toUInt32 (1 : Int32) &&& Int32.toUInt32 31)).toInt32) &&& (1431655765 : Int32))) >>> (Int32.toUInt32 (2 : Int32) &&& Int32.toUInt32 31)).toInt32) &&& (858993459 : Int32))) + ((Int32.toUInt32 (((i0 - (((Int32.toUInt32 i0 >>> (Int32.toUInt32 (1 : Int32) &&& Int32.toUInt32 31)).toInt32) &&& (1431655765 : Int32))) &&& (858993459 : Int32)) + (((Int32.toUInt32 (i0 - (((Int32.toUInt32 i0 >>> (Int32.toUInt32 (1 : Int32) &&& Int32.toUInt32 31)).toInt32) &&& (1431655765 : Int32))) >>> (Int32.toUInt32 (2 : Int32) &&& Int32.toUInt32 31)).toInt32) &&& (858993459 : Int32))) >>> (Int32.toUInt32 (4 : Int32) &&& Int32.toUInt32 31)).toInt32)) &&& (252645135 : Int32)) >>> (Int32.toUInt32 (8 : Int32) &&& Int32.toUInt32 31)).toInt32)) >>> (Int32.toUInt32 (16 : Int32) &&& Int32.toUInt32 31)).toInt32)) &&& (63 : Int32)
theorem jI_e (x : Int32) : (jI x).toBitVec = jbv x.toBitVec := rfl
theorem p262 {h : AH} (x : Int32) : PF 0 262 [.int x] h (.int (zI (cnt (tb x) 32))) := by
  refine wp262 x ⟨?_, rfl⟩
  have e : jI x = zI (cnt (tb x) 32) := by
    apply Int32.toBitVec_inj.mp
    apply BitVec.eq_of_toNat_eq
    rw [jI_e, jbv_e]
    have hc : cnt (tb x) 32 ≤ 32 := cnt_le _ _
    show cnt (tb x) 32 = (BitVec.ofNat 32 (cnt (tb x) 32)).toNat
    rw [BitVec.toNat_ofNat, Nat.mod_eq_of_lt (by omega)]
  show some (Value.int (jI x)) = _
  rw [e]
theorem l190 {h : AH} (Ly : Lay h) (x : Int32) : ∀ m i, i + m = 31 → Ev 0 190 4 [.int x, .int (zI (cnt (tb x) i)), .int (zI i)] [] h (fun r h' => r = some (.int (zI (cnt (tb x) 31))) ∧ h' = h)
  | 0, i, e => by
    have e' : i = 31 := by omega
    subst e'
    exact ws190_4 _ _ _ Ly ⟨fun _ => ⟨rfl, rfl⟩, fun z => absurd (by decide) z⟩
  | m + 1, i, e => by
    have ih := l190 Ly x m (i + 1) (by omega)
    refine ws190_4 _ _ _ Ly ⟨fun z => absurd z (by rw [show (31 : Int32) = zI 31 from rfl, zI_le (by decide) (by omega)]; omega), fun _ => ?_⟩
    have eq : zI (cnt (tb x) i) + ((x >>> (zI i &&& 31)) &&& 1) = zI (cnt (tb x) (i + 1)) := by
      show zI (cnt (tb x) i) + bq x i = zI (cnt (tb x) i + if tb x i then 1 else 0)
      rw [bq_tb (by omega), ← zI_add]
      cases tb x i <;> rfl
    rw [eq, zI_succ]; exact ih
theorem p190 {h : AH} (Ly : Lay h) {x : Int32} (hx : 0 ≤ x.toInt) : PF 0 190 [.int x] h (.int (zI (cnt (tb x) 32))) := by
  have e : cnt (tb x) 32 = cnt (tb x) 31 := by
    show cnt (tb x) 31 + (if tb x 31 then 1 else 0) = _
    rw [tb_neg, decide_eq_false_iff_not.mpr (by omega)]; rfl
  rw [e]
  exact ws190 _ Ly (l190 Ly x 31 0 (by decide))
theorem p149t {h : AH} (Ly : Lay h) {n : Nat} {g : Nat → Nat → Int32} (V : vCR h n g) (R : RV n g) {w d : Int32} (hw : ¬ w = -1) (e : am_gi h 6 0 = d) : PF 3 149 [.ref 6, .int w] h (.int (hHm g n w d)) := by rw [← e]; exact p149 Ly V R hw
theorem op_memberTold {L : Nat} {xs : Nat → Int32} {c : Nat} {h : AH} {nh nm nr na nt nc : Nat} (I : InvN L xs c h nh nm nr na nt nc) (i1 : Int32) (i2 : Int32) : OPi 108 191 [.int i1, .int i2] L xs c h := by
  have Ly := I.lay
  have b1 := I.iho.1
  have b2 := I.ime.1
  have b3 := I.iri.1
  have b4 := I.itx.1
  have b5 := I.ics.1
  have b6 := I.ita.1
  refine ws108 _ _ Ly ?_
  refine Cl.i (p139 Ly (by omega) I.ime.2.1 _) (by decide) Ly ?_
  refine ⟨fun z1 => ?_, fun z1 => ?_⟩
  · replace z1 := bI_n0.mp (z1)
    refine ⟨(in_N z1 (by omega)), ?_⟩
    refine ⟨fun z2 => ?_, fun z2 => ?_, fun z2 => ?_, fun z2 => ?_, fun z2 => ?_, fun z2 => ?_, fun z2 => ?_, fun z2 => ?_⟩
    · subst z2
      refine ⟨_, rfl, Ly, I.ico, ?_⟩
      refine ws191 _ _ Ly ?_
      refine Cl.i (p169 Ly (n := nm) (by omega) (I.ime.2.2.1) _) (by decide) Ly ?_
      refine ⟨fun z => absurd z (bI_n0.mpr z1), fun _ => ?_⟩
      refine Cl.i (p167 Ly _ _ _) (by decide) Ly ?_
      refine ⟨fun _ => ?_, fun z => absurd (bI_n0.mpr (by decide)) z⟩
      refine ⟨fun _ => ?_, fun z => absurd z (by decide), fun z => absurd z (by decide), fun z => absurd z (by decide), fun z => absurd z (by decide), fun z => absurd z (by decide), fun z => absurd z (by decide)⟩
      refine ⟨(in_N z1 (by omega)), ?_⟩
      exact ⟨by rw [(I.ime.2.2.2.2.1 _ (inN_tn z1)).1], I.sc (Ex.rf _ _)⟩
    · subst z2
      refine ⟨_, rfl, Ly, I.ico, ?_⟩
      refine ws191 _ _ Ly ?_
      refine Cl.i (p169 Ly (n := nm) (by omega) (I.ime.2.2.1) _) (by decide) Ly ?_
      refine ⟨fun z => absurd z (bI_n0.mpr z1), fun _ => ?_⟩
      refine Cl.i (p167 Ly _ _ _) (by decide) Ly ?_
      refine ⟨fun _ => ?_, fun z => absurd (bI_n0.mpr (by decide)) z⟩
      refine ⟨fun z => absurd z (by decide), fun _ => ?_, fun z => absurd z (by decide), fun z => absurd z (by decide), fun z => absurd z (by decide), fun z => absurd z (by decide), fun z => absurd z (by decide)⟩
      refine ⟨(in_N z1 (by omega)), ?_⟩
      exact ⟨by rw [(I.ime.2.2.2.2.1 _ (inN_tn z1)).2.1], I.sc (Ex.rf _ _)⟩
    · subst z2
      refine ⟨_, rfl, Ly, I.ico, ?_⟩
      refine ws191 _ _ Ly ?_
      refine Cl.i (p169 Ly (n := nm) (by omega) (I.ime.2.2.1) _) (by decide) Ly ?_
      refine ⟨fun z => absurd z (bI_n0.mpr z1), fun _ => ?_⟩
      refine Cl.i (p167 Ly _ _ _) (by decide) Ly ?_
      refine ⟨fun _ => ?_, fun z => absurd (bI_n0.mpr (by decide)) z⟩
      refine ⟨fun z => absurd z (by decide), fun z => absurd z (by decide), fun _ => ?_, fun z => absurd z (by decide), fun z => absurd z (by decide), fun z => absurd z (by decide), fun z => absurd z (by decide)⟩
      refine ⟨(in_N z1 (by omega)), ?_⟩
      exact ⟨by rw [(I.ime.2.2.2.2.1 _ (inN_tn z1)).2.2.1], I.sc (Ex.rf _ _)⟩
    · subst z2
      refine ⟨_, rfl, Ly, I.ico, ?_⟩
      refine ws191 _ _ Ly ?_
      refine Cl.i (p169 Ly (n := nm) (by omega) (I.ime.2.2.1) _) (by decide) Ly ?_
      refine ⟨fun z => absurd z (bI_n0.mpr z1), fun _ => ?_⟩
      refine Cl.i (p167 Ly _ _ _) (by decide) Ly ?_
      refine ⟨fun _ => ?_, fun z => absurd (bI_n0.mpr (by decide)) z⟩
      refine ⟨fun z => absurd z (by decide), fun z => absurd z (by decide), fun z => absurd z (by decide), fun _ => ?_, fun z => absurd z (by decide), fun z => absurd z (by decide), fun z => absurd z (by decide)⟩
      refine ⟨(in_N z1 (by omega)), ?_⟩
      exact ⟨by rw [(I.ime.2.2.2.2.1 _ (inN_tn z1)).2.2.2], I.sc (Ex.rf _ _)⟩
    · subst z2
      refine Cl.i (p149t Ly (vCR.of I.iri) I.ix3.rv (inN_n1 z1) I.ida.1) (by decide) Ly ?_
      refine ⟨_, rfl, Ly, I.ico, ?_⟩
      refine ws191 _ _ Ly ?_
      refine Cl.i (p169 Ly (n := nm) (by omega) (I.ime.2.2.1) _) (by decide) Ly ?_
      refine ⟨fun z => absurd z (bI_n0.mpr z1), fun _ => ?_⟩
      refine Cl.i (p167 Ly _ _ _) (by decide) Ly ?_
      refine ⟨fun _ => ?_, fun z => absurd (bI_n0.mpr (by decide)) z⟩
      refine ⟨fun z => absurd z (by decide), fun z => absurd z (by decide), fun z => absurd z (by decide), fun z => absurd z (by decide), fun _ => ?_, fun z => absurd z (by decide), fun z => absurd z (by decide)⟩
      refine Cl.i (p174 Ly (vMR.of I.iri) _ _) (by decide) Ly ?_
      refine ⟨fun z103 => ?_, fun z103 => ?_⟩
      · skip
        refine ⟨(in_N (fMe_in I.iri.1 z103) I.iri.1), ?_⟩
        exact ⟨by unfold hHm; rw [if_neg z103]; rfl, I.sc (Ex.rf _ _)⟩
      · replace z103 := Decidable.not_not.mp z103
        exact ⟨by unfold hHm; rw [if_pos z103], I.sc (Ex.rf _ _)⟩
    · subst z2
      refine Cl.i (by rw [(I.ime.2.2.2.1 _ (by have := inN_tn z1; omega)).1]; exact p262 _) (by decide) Ly ?_
      refine ⟨_, rfl, Ly, I.ico, ?_⟩
      refine ws191 _ _ Ly ?_
      refine Cl.i (p169 Ly (n := nm) (by omega) (I.ime.2.2.1) _) (by decide) Ly ?_
      refine ⟨fun z => absurd z (bI_n0.mpr z1), fun _ => ?_⟩
      refine Cl.i (p167 Ly _ _ _) (by decide) Ly ?_
      refine ⟨fun _ => ?_, fun z => absurd (bI_n0.mpr (by decide)) z⟩
      refine ⟨fun z => absurd z (by decide), fun z => absurd z (by decide), fun z => absurd z (by decide), fun z => absurd z (by decide), fun z => absurd z (by decide), fun _ => ?_, fun z => absurd z (by decide)⟩
      refine ⟨(in_N z1 (by omega)), ?_⟩
      refine Cl.i (p190 Ly (I.ime.2.2.2.1 _ (by have := inN_tn z1; omega)).2.1) (by decide) Ly ?_
      exact ⟨rfl, I.sc (Ex.rf _ _)⟩
    · subst z2
      refine Cl.i (p146 I z1) (by decide) Ly ?_
      refine ⟨fun z3 => ?_, fun z3 => ?_⟩
      · replace z3 := bI_0.mp (z3)
        refine ⟨_, rfl, Ly, I.ico, ?_⟩
        refine ws191 _ _ Ly ?_
        refine Cl.i (p169 Ly (n := nm) (by omega) (I.ime.2.2.1) _) (by decide) Ly ?_
        refine ⟨fun z => absurd z (bI_n0.mpr z1), fun _ => ?_⟩
        refine Cl.i (p167 Ly _ _ _) (by decide) Ly ?_
        refine ⟨fun _ => ?_, fun z => absurd (bI_n0.mpr (by decide)) z⟩
        refine ⟨fun z => absurd z (by decide), fun z => absurd z (by decide), fun z => absurd z (by decide), fun z => absurd z (by decide), fun z => absurd z (by decide), fun z => absurd z (by decide), fun _ => ?_⟩
        refine Cl.i (p170 Ly (in_N z1 (by omega))) (by decide) Ly ?_
        refine ⟨fun _ => ?_, fun z => absurd (bI_0.mpr z3) z⟩
        exact ⟨rfl, I.sc (Ex.rf _ _)⟩
      · replace z3 := bI_n0.mp (z3)
        refine ⟨_, rfl, Ly, I.ico, ?_⟩
        refine ws191 _ _ Ly ?_
        refine Cl.i (p169 Ly (n := nm) (by omega) (I.ime.2.2.1) _) (by decide) Ly ?_
        refine ⟨fun z => absurd z (bI_n0.mpr z1), fun _ => ?_⟩
        refine Cl.i (p167 Ly _ _ _) (by decide) Ly ?_
        refine ⟨fun _ => ?_, fun z => absurd (bI_n0.mpr (by decide)) z⟩
        refine ⟨fun z => absurd z (by decide), fun z => absurd z (by decide), fun z => absurd z (by decide), fun z => absurd z (by decide), fun z => absurd z (by decide), fun z => absurd z (by decide), fun _ => ?_⟩
        refine Cl.i (p170 Ly (in_N z1 (by omega))) (by decide) Ly ?_
        refine ⟨fun z => absurd z (bI_n0.mpr z3), fun _ => ?_⟩
        exact ⟨rfl, I.sc (Ex.rf _ _)⟩
    · skip
      refine ⟨_, rfl, Ly, I.ico, ?_⟩
      refine ws191 _ _ Ly ?_
      refine Cl.i (p169 Ly (n := nm) (by omega) (I.ime.2.2.1) _) (by decide) Ly ?_
      refine ⟨fun z => absurd z (bI_n0.mpr z1), fun _ => ?_⟩
      refine Cl.i (p167 Ly _ _ _) (by decide) Ly ?_
      refine ⟨fun z => absurd z (not_not_intro (bI_0.mpr (in07 z2.1 z2.2.1 z2.2.2.1 z2.2.2.2.1 z2.2.2.2.2.1 z2.2.2.2.2.2.1 z2.2.2.2.2.2.2))), fun _ => ?_⟩
      exact ⟨rfl, I.sc (Ex.rf _ _)⟩
  · replace z1 := bI_0.mp (Decidable.not_not.mp z1)
    refine ⟨_, rfl, Ly, I.ico, ?_⟩
    refine ws191 _ _ Ly ?_
    refine Cl.i (p169 Ly (n := nm) (by omega) (I.ime.2.2.1) _) (by decide) Ly ?_
    refine ⟨fun _ => ?_, fun z => absurd (bI_0.mpr z1) z⟩
    exact ⟨rfl, I.sc (Ex.rf _ _)⟩
theorem p77 {h : AH} (Ly : Lay h) {j : Nat} (hj : j < 12) : PF 0 77 [.ref (148 + 4 * j)] h (.int (bI (¬ am_gi h (148 + 4 * j) 6 = -1))) := by
  refine ws77 hj Ly ⟨fun a => ⟨?_, rfl⟩, fun a => ⟨?_, rfl⟩⟩
  · rw [bI_f (not_not_intro a)]
  · rw [bI_t a]
theorem ITt.ca {h : AH} {nt t : Nat} (I : ITt h nt t) : (¬ am_gi h (148 + 4 * t) 6 = -1) ↔ ¬ am_gi h 240 t = 0 := by
  rcases I.2.2.2.1 with ⟨a, b, c⟩ | ⟨a, b⟩
  · refine ⟨fun _ z => (by rw [a] at z; cases z), fun _ z => ?_⟩
    rw [b] at z; rw [z] at c; exact absurd c (by decide)
  · exact ⟨fun z => absurd b z, fun z => absurd a z⟩
theorem p77x {L : Nat} {xs : Nat → Int32} {c : Nat} {h : AH} {nh nm nr na nt nc : Nat} (I : InvN L xs c h nh nm nr na nt nc) {x : Int32} (hx : inN x nt) : PF 0 77 [.ref (148 + 4 * Int32.toNatClampNeg x)] h (.int (bI (¬ am_gi h 240 (Int32.toNatClampNeg x) = (0 : Int32)))) :=
  (p77 I.lay (by have := inN_tn hx; have := I.itx.1; omega)).c (I.itx.2.2.2.2.1 _ (inN_tn hx)).1.ca
theorem op_textTold {L : Nat} {xs : Nat → Int32} {c : Nat} {h : AH} {nh nm nr na nt nc : Nat} (I : InvN L xs c h nh nm nr na nt nc) (i1 : Int32) (i2 : Int32) : OPi 115 223 [.int i1, .int i2] L xs c h := by
  have Ly := I.lay
  have b1 := I.iho.1
  have b2 := I.ime.1
  have b3 := I.iri.1
  have b4 := I.itx.1
  have b5 := I.ics.1
  have b6 := I.ita.1
  refine ws115 _ _ Ly ?_
  refine Cl.i (p140 Ly (by omega) I.itx.2.1 _) (by decide) Ly ?_
  refine ⟨fun z1 => ?_, fun z1 => ?_⟩
  · replace z1 := bI_n0.mp (z1)
    refine ⟨(in_N z1 (by omega)), ?_⟩
    refine ⟨fun z2 => ?_, fun z2 => ?_, fun z2 => ?_, fun z2 => ?_, fun z2 => ?_, fun z2 => ?_, fun z2 => ?_, fun z2 => ?_⟩
    · subst z2
      refine Cl.i (p77x I z1) (by decide) Ly ?_
      refine ⟨fun z3 => ?_, fun z3 => ?_⟩
      · replace z3 := bI_0.mp (z3)
        refine ⟨_, rfl, Ly, I.ico, ?_⟩
        refine ws223 _ _ Ly ?_
        refine Cl.i (p219 Ly (n := nt) (by omega) (I.itx.2.2.1) _) (by decide) Ly ?_
        refine ⟨fun z => absurd z (bI_n0.mpr z1), fun _ => ?_⟩
        refine Cl.i (p167 Ly _ _ _) (by decide) Ly ?_
        refine ⟨fun _ => ?_, fun z => absurd (bI_n0.mpr (by decide)) z⟩
        refine ⟨fun _ => ?_, fun z => absurd z (by decide), fun z => absurd z (by decide), fun z => absurd z (by decide), fun z => absurd z (by decide), fun z => absurd z (by decide), fun z => absurd z (by decide)⟩
        refine ⟨(in_N z1 (by omega)), ?_⟩
        refine ⟨fun _ => ?_, fun z => absurd (Decidable.not_not.mp z3) z⟩
        exact ⟨rfl, I.sc (Ex.rf _ _)⟩
      · replace z3 := bI_n0.mp (z3)
        refine ⟨_, rfl, Ly, I.ico, ?_⟩
        refine ws223 _ _ Ly ?_
        refine Cl.i (p219 Ly (n := nt) (by omega) (I.itx.2.2.1) _) (by decide) Ly ?_
        refine ⟨fun z => absurd z (bI_n0.mpr z1), fun _ => ?_⟩
        refine Cl.i (p167 Ly _ _ _) (by decide) Ly ?_
        refine ⟨fun _ => ?_, fun z => absurd (bI_n0.mpr (by decide)) z⟩
        refine ⟨fun _ => ?_, fun z => absurd z (by decide), fun z => absurd z (by decide), fun z => absurd z (by decide), fun z => absurd z (by decide), fun z => absurd z (by decide), fun z => absurd z (by decide)⟩
        refine ⟨(in_N z1 (by omega)), ?_⟩
        refine ⟨fun z => absurd z z3, fun _ => ?_⟩
        exact ⟨rfl, I.sc (Ex.rf _ _)⟩
    · subst z2
      refine ⟨fun z4 => ?_, fun z4 => ?_⟩
      · skip
        refine ⟨_, rfl, Ly, I.ico, ?_⟩
        refine ws223 _ _ Ly ?_
        refine Cl.i (p219 Ly (n := nt) (by omega) (I.itx.2.2.1) _) (by decide) Ly ?_
        refine ⟨fun z => absurd z (bI_n0.mpr z1), fun _ => ?_⟩
        refine Cl.i (p167 Ly _ _ _) (by decide) Ly ?_
        refine ⟨fun _ => ?_, fun z => absurd (bI_n0.mpr (by decide)) z⟩
        refine ⟨fun z => absurd z (by decide), fun _ => ?_, fun z => absurd z (by decide), fun z => absurd z (by decide), fun z => absurd z (by decide), fun z => absurd z (by decide), fun z => absurd z (by decide)⟩
        refine ⟨(in_N z1 (by omega)), ?_⟩
        refine ⟨fun _ => ?_, fun z => absurd (by rw [← (I.itx.2.2.2.2.1 _ (inN_tn z1)).1.2.2.1.1]; exact z4) z⟩
        exact ⟨rfl, I.sc (Ex.rf _ _)⟩
      · skip
        refine ⟨_, rfl, Ly, I.ico, ?_⟩
        refine ws223 _ _ Ly ?_
        refine Cl.i (p219 Ly (n := nt) (by omega) (I.itx.2.2.1) _) (by decide) Ly ?_
        refine ⟨fun z => absurd z (bI_n0.mpr z1), fun _ => ?_⟩
        refine Cl.i (p167 Ly _ _ _) (by decide) Ly ?_
        refine ⟨fun _ => ?_, fun z => absurd (bI_n0.mpr (by decide)) z⟩
        refine ⟨fun z => absurd z (by decide), fun _ => ?_, fun z => absurd z (by decide), fun z => absurd z (by decide), fun z => absurd z (by decide), fun z => absurd z (by decide), fun z => absurd z (by decide)⟩
        refine ⟨(in_N z1 (by omega)), ?_⟩
        refine ⟨fun z => absurd z (by rw [← (I.itx.2.2.2.2.1 _ (inN_tn z1)).1.2.2.1.1]; exact z4), fun _ => ?_⟩
        exact ⟨rfl, I.sc (Ex.rf _ _)⟩
    · subst z2
      refine ⟨_, rfl, Ly, I.ico, ?_⟩
      refine ws223 _ _ Ly ?_
      refine Cl.i (p219 Ly (n := nt) (by omega) (I.itx.2.2.1) _) (by decide) Ly ?_
      refine ⟨fun z => absurd z (bI_n0.mpr z1), fun _ => ?_⟩
      refine Cl.i (p167 Ly _ _ _) (by decide) Ly ?_
      refine ⟨fun _ => ?_, fun z => absurd (bI_n0.mpr (by decide)) z⟩
      refine ⟨fun z => absurd z (by decide), fun z => absurd z (by decide), fun _ => ?_, fun z => absurd z (by decide), fun z => absurd z (by decide), fun z => absurd z (by decide), fun z => absurd z (by decide)⟩
      refine ⟨(in_N z1 (by omega)), ?_⟩
      exact ⟨by rw [(I.itx.2.2.2.2.1 _ (inN_tn z1)).1.2.2.2.2.1], I.sc (Ex.rf _ _)⟩
    · subst z2
      refine Cl.i (by rw [(I.itx.2.2.2.2.1 _ (inN_tn z1)).1.1.1]; exact p262 _) (by decide) Ly ?_
      refine ⟨_, rfl, Ly, I.ico, ?_⟩
      refine ws223 _ _ Ly ?_
      refine Cl.i (p219 Ly (n := nt) (by omega) (I.itx.2.2.1) _) (by decide) Ly ?_
      refine ⟨fun z => absurd z (bI_n0.mpr z1), fun _ => ?_⟩
      refine Cl.i (p167 Ly _ _ _) (by decide) Ly ?_
      refine ⟨fun _ => ?_, fun z => absurd (bI_n0.mpr (by decide)) z⟩
      refine ⟨fun z => absurd z (by decide), fun z => absurd z (by decide), fun z => absurd z (by decide), fun _ => ?_, fun z => absurd z (by decide), fun z => absurd z (by decide), fun z => absurd z (by decide)⟩
      refine ⟨(in_N z1 (by omega)), ?_⟩
      refine Cl.i (p190 Ly (I.itx.2.2.2.2.1 _ (inN_tn z1)).1.1.2) (by decide) Ly ?_
      exact ⟨rfl, I.sc (Ex.rf _ _)⟩
    · subst z2
      refine Cl.i (by rw [(I.itx.2.2.2.2.1 _ (inN_tn z1)).1.2.1.1]; exact p262 _) (by decide) Ly ?_
      refine ⟨_, rfl, Ly, I.ico, ?_⟩
      refine ws223 _ _ Ly ?_
      refine Cl.i (p219 Ly (n := nt) (by omega) (I.itx.2.2.1) _) (by decide) Ly ?_
      refine ⟨fun z => absurd z (bI_n0.mpr z1), fun _ => ?_⟩
      refine Cl.i (p167 Ly _ _ _) (by decide) Ly ?_
      refine ⟨fun _ => ?_, fun z => absurd (bI_n0.mpr (by decide)) z⟩
      refine ⟨fun z => absurd z (by decide), fun z => absurd z (by decide), fun z => absurd z (by decide), fun z => absurd z (by decide), fun _ => ?_, fun z => absurd z (by decide), fun z => absurd z (by decide)⟩
      refine ⟨(in_N z1 (by omega)), ?_⟩
      refine Cl.i (p190 Ly (I.itx.2.2.2.2.1 _ (inN_tn z1)).1.2.1.2) (by decide) Ly ?_
      exact ⟨rfl, I.sc (Ex.rf _ _)⟩
    · subst z2
      refine ⟨_, rfl, Ly, I.ico, ?_⟩
      refine ws223 _ _ Ly ?_
      refine Cl.i (p219 Ly (n := nt) (by omega) (I.itx.2.2.1) _) (by decide) Ly ?_
      refine ⟨fun z => absurd z (bI_n0.mpr z1), fun _ => ?_⟩
      refine Cl.i (p167 Ly _ _ _) (by decide) Ly ?_
      refine ⟨fun _ => ?_, fun z => absurd (bI_n0.mpr (by decide)) z⟩
      refine ⟨fun z => absurd z (by decide), fun z => absurd z (by decide), fun z => absurd z (by decide), fun z => absurd z (by decide), fun z => absurd z (by decide), fun _ => ?_, fun z => absurd z (by decide)⟩
      refine ⟨(in_N z1 (by omega)), ?_⟩
      exact ⟨by rw [(I.itx.2.2.2.2.1 _ (inN_tn z1)).1.2.2.2.2.2.1], I.sc (Ex.rf _ _)⟩
    · subst z2
      obtain ⟨tbb, tn_, tb_r, tb_1, tb_2, tb_3, tb_k, tb_ln, tb_4, tb_e, tb_5⟩ := (I.itx.2.2.2.2.1 _ (inN_tn z1)).2.1
      refine ⟨_, tb_r, ?_⟩
      refine ⟨(by rw [tb_k]; decide), ?_⟩
      refine ⟨_, rfl, Ly, I.ico, ?_⟩
      refine ws223 _ _ Ly ?_
      refine Cl.i (p219 Ly (n := nt) (by omega) (I.itx.2.2.1) _) (by decide) Ly ?_
      refine ⟨fun z => absurd z (bI_n0.mpr z1), fun _ => ?_⟩
      refine Cl.i (p167 Ly _ _ _) (by decide) Ly ?_
      refine ⟨fun _ => ?_, fun z => absurd (bI_n0.mpr (by decide)) z⟩
      refine ⟨fun z => absurd z (by decide), fun z => absurd z (by decide), fun z => absurd z (by decide), fun z => absurd z (by decide), fun z => absurd z (by decide), fun z => absurd z (by decide), fun _ => ?_⟩
      refine ⟨(in_N z1 (by omega)), ?_⟩
      exact ⟨by rw [tb_ln, tb_e], I.sc (Ex.rf _ _)⟩
    · skip
      refine ⟨_, rfl, Ly, I.ico, ?_⟩
      refine ws223 _ _ Ly ?_
      refine Cl.i (p219 Ly (n := nt) (by omega) (I.itx.2.2.1) _) (by decide) Ly ?_
      refine ⟨fun z => absurd z (bI_n0.mpr z1), fun _ => ?_⟩
      refine Cl.i (p167 Ly _ _ _) (by decide) Ly ?_
      refine ⟨fun z => absurd z (not_not_intro (bI_0.mpr (in07 z2.1 z2.2.1 z2.2.2.1 z2.2.2.2.1 z2.2.2.2.2.1 z2.2.2.2.2.2.1 z2.2.2.2.2.2.2))), fun _ => ?_⟩
      exact ⟨rfl, I.sc (Ex.rf _ _)⟩
  · replace z1 := bI_0.mp (Decidable.not_not.mp z1)
    refine ⟨_, rfl, Ly, I.ico, ?_⟩
    refine ws223 _ _ Ly ?_
    refine Cl.i (p219 Ly (n := nt) (by omega) (I.itx.2.2.1) _) (by decide) Ly ?_
    refine ⟨fun _ => ?_, fun z => absurd (bI_0.mpr z1) z⟩
    exact ⟨rfl, I.sc (Ex.rf _ _)⟩
