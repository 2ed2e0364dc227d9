/-! CALLS 4: wish, parted, inForce -/
theorem bz_and {x y : Int32} (h : 0 ≤ x.toInt) : 0 ≤ (x &&& y).toInt := by
  have e : (x &&& y).toBitVec = x.toBitVec &&& y.toBitVec := rfl
  have h1 : x.toBitVec.msb = false := by rw [BitVec.msb_eq_toInt]; simpa using h
  have h2 : (x &&& y).toBitVec.msb = false := by rw [e, BitVec.msb_and, h1]; rfl
  rw [BitVec.msb_eq_toInt] at h2
  have : ¬ (x &&& y).toBitVec.toInt < 0 := by simpa using h2
  show 0 ≤ (x &&& y).toBitVec.toInt
  omega
theorem bz_or {x y : Int32} (h : 0 ≤ x.toInt) (h' : 0 ≤ y.toInt) : 0 ≤ (x ||| y).toInt := by
  have e : (x ||| y).toBitVec = x.toBitVec ||| y.toBitVec := rfl
  have h1 : x.toBitVec.msb = false := by rw [BitVec.msb_eq_toInt]; simpa using h
  have h3 : y.toBitVec.msb = false := by rw [BitVec.msb_eq_toInt]; simpa using h'
  have h2 : (x ||| y).toBitVec.msb = false := by rw [e, BitVec.msb_or, h1, h3]; rfl
  rw [BitVec.msb_eq_toInt] at h2
  have : ¬ (x ||| y).toBitVec.toInt < 0 := by simpa using h2
  show 0 ≤ (x ||| y).toBitVec.toInt
  omega
theorem sh_nn : ∀ i, i < 31 → 0 ≤ ((1 : Int32) <<< (zI i &&& 31)).toInt := by decide +kernel
theorem IMe.wsh {h h' : AH} {n : Nat} (I : IMe h n) {i : Nat} {v : Int32} (hi : i < 24) (hv : 0 ≤ v.toInt) (e : h' = am_si (am_si h (124 + i) 4 v) 226 i v) : IMe h' n := by
  have b := I.1
  subst e
  refine ⟨I.1, by (repeat (first | rw [gi_eq] | rw [gl_eq] | rw [gi_ne (by omega)] | rw [gl_ne (by omega)] | rw [gi_sl] | rw [gl_si])); exact I.2.1, by (repeat (first | rw [gi_eq] | rw [gl_eq] | rw [gi_ne (by omega)] | rw [gl_ne (by omega)] | rw [gi_sl] | rw [gl_si])); exact I.2.2.1, fun j hj => ?_, fun j hj => ?_, fun j h1 hj => ?_⟩
  · have q := I.2.2.2.1 j hj
    by_cases hij : j = i
    · subst hij; (repeat (first | rw [gi_eq] | rw [gl_eq] | rw [gi_ne (by omega)] | rw [gl_ne (by omega)] | rw [gi_sl] | rw [gl_si])); exact ⟨rfl, hv, q.2.2⟩
    · (repeat (first | rw [gi_eq] | rw [gl_eq] | rw [gi_ne (by omega)] | rw [gl_ne (by omega)] | rw [gi_sl] | rw [gl_si])); exact q
  · (repeat (first | rw [gi_eq] | rw [gl_eq] | rw [gi_ne (by omega)] | rw [gl_ne (by omega)] | rw [gi_sl] | rw [gl_si])); exact I.2.2.2.2.1 j hj
  · (repeat (first | rw [gi_eq] | rw [gl_eq] | rw [gi_ne (by omega)] | rw [gl_ne (by omega)] | rw [gi_sl] | rw [gl_si])); exact I.2.2.2.2.2 j h1 hj
theorem op_wish {L : Nat} {xs : Nat → Int32} {c : Nat} {h : AH} {nh nm nr na nt nc : Nat} (I : InvN L xs c h nh nm nr na nt nc) (i1 : Int32) (i2 : Int32) (i3 : Int32) : OPi 123 235 [.int i1, .int i2, .int i3] L xs c h := by
  have Ly := I.lay
  have b1 := I.iho.1
  have b2 := I.ime.1
  have b3 := I.iri.1
  have b4 := I.itx.1
  have b5 := I.ics.1
  have b6 := I.ita.1
  refine ws123 _ _ _ Ly ?_
  refine Cl.i (p139 Ly (by omega) I.ime.2.1 _) (by decide) Ly ?_
  refine ⟨fun z1 => ?_, fun z1 => ?_⟩
  · replace z1 := bI_0.mp (z1)
    refine ⟨_, rfl, Ly, I.ico, ?_⟩
    refine ws235 _ _ _ Ly ?_
    refine Cl.i (p169 Ly (n := nm) (by omega) (I.ime.2.2.1) _) (by decide) Ly ?_
    refine ⟨fun _ => ?_, fun z => absurd (bI_0.mpr z1) z⟩
    exact ⟨rfl, I.sc (Ex.rf _ _)⟩
  · replace z1 := bI_n0.mp (z1)
    refine Cl.i (p138 Ly (by omega) I.iho.2.1 _) (by decide) Ly ?_
    refine ⟨fun z2 => ?_, fun z2 => ?_⟩
    · replace z2 := bI_n0.mp (z2)
      refine Cl.i (p146 I z1) (by decide) Ly ?_
      refine ⟨fun z3 => ?_, fun z3 => ?_⟩
      · replace z3 := bI_n0.mp (z3)
        refine ⟨(in_N z1 (by omega)), ?_⟩
        refine ⟨fun z4 => ?_, fun z4 => ?_⟩
        · skip
          refine ws123_62 _ _ _ Ly ?_
          refine ⟨(in_N z1 (by omega)), ?_⟩
          intro k5 ek5; subst ek5
          refine ⟨fun z6 => ?_, fun z6 => ?_⟩
          · skip
            have t3 := inN_tn z1
            have t4 := inN_tn z2
            refine OPi.wr (h1 := am_si h (124 + (Int32.toNatClampNeg i1)) 4 ((am_gi h (124 + (Int32.toNatClampNeg i1)) 4) &&& (((1 : Int32) <<< (i2 &&& 31)) ^^^ (-1 : Int32)))) (((OC.rf [3] h).si (a := (124 + (Int32.toNatClampNeg i1))) (k := 4) (by omega) (tpm (tp_member (by omega)) (by decide)))) Ly I.ico (by decide) (fun h1 eh Ly1 hM => ?_)
            refine ws235 _ _ _ Ly1 ?_
            have mi226 : ∀ k, am_gi h1 226 k = am_gi h 226 k := fun k => (hM 226 k (by decide) (by decide)).1
            try simp only [mi226]
            refine Cl.i (p169 Ly1 (n := nm) (by omega) (by rw [(hM 216 7 (by decide) (by decide)).1]; exact I.ime.2.2.1) _) (by decide) Ly1 ?_
            try simp only [mi226]
            refine ⟨fun z => absurd z (bI_n0.mpr z1), fun _ => ?_⟩
            refine Cl.i (p168 Ly1 (n := nh) (by omega) (by rw [(hM 216 1 (by decide) (by decide)).1]; exact I.iho.2.2.1) _) (by decide) Ly1 ?_
            try simp only [mi226]
            refine ⟨fun _ => ?_, fun z => absurd (bI_n0.mpr z2) z⟩
            refine Cl.i ((p170 Ly1 (in_N z1 (by omega))).c (q := am_gi h 224 (Int32.toNatClampNeg i1) = (-1 : Int32)) (by rw [(hM 224 _ (by decide) (by decide)).1])) (by decide) Ly1 ?_
            try simp only [mi226]
            refine ⟨fun _ => ?_, fun z => absurd (bI_n0.mpr z3) z⟩
            refine ⟨(in_N z1 (by omega)), ?_⟩
            refine ⟨fun _ => ?_, fun z => absurd z4 z⟩
            refine ⟨(in_N z1 (by omega)), ?_⟩
            intro k107 ek107; subst ek107
            refine ⟨(in_N z1 (by omega)), ?_⟩
            refine ⟨fun _ => ?_, fun z => absurd (by have q5 := I.ime.2.2.2.1 (Int32.toNatClampNeg i1) (by omega); rw [gi_eq, eq_comm, ← q5.1]; exact z6) z⟩
            have q4 := I.ime.2.2.2.1 (Int32.toNatClampNeg i1) (by omega)
            subst eh
            have E : Ex [3] h (am_si (am_si h (124 + (Int32.toNatClampNeg i1)) 4 ((am_gi h (124 + (Int32.toNatClampNeg i1)) 4) &&& (((1 : Int32) <<< (i2 &&& 31)) ^^^ (-1 : Int32)))) 226 (Int32.toNatClampNeg i1) ((am_gi h 226 (Int32.toNatClampNeg i1)) &&& (((1 : Int32) <<< (i2 &&& 31)) ^^^ (-1 : Int32)))) := (((OC.rf [3] h).si (a := (124 + (Int32.toNatClampNeg i1))) (k := 4) (by omega) (tpm (tp_member (by omega)) (by decide))).ex.tr ((OM.rf [3] _).si (a := 226) (k := (Int32.toNatClampNeg i1)) (by omega) (tpm (t := tp 226 0) rfl (by simp [tp]))).ex)
            refine ⟨by trivial, nh, nm, nr, na, nt, nc, I.up E (g3 := Or.inr ?_) (gx1 := Or.inr ?_) (gx2 := Or.inr ?_)⟩
            · refine I.ime.wsh (i := Int32.toNatClampNeg i1) (v := ((am_gi h 226 (Int32.toNatClampNeg i1)) &&& (((1 : Int32) <<< (i2 &&& 31)) ^^^ (-1 : Int32)))) (by omega) ?_ ?_
              · exact bz_and q4.2.1
              · rw [q4.1]
            · intro j hj; (repeat (first | rw [gi_eq] | rw [gl_eq] | rw [gi_ne (by omega)] | rw [gl_ne (by omega)] | rw [gi_sl] | rw [gl_si])); exact I.ix1 j hj
            · intro i hi j hj; (repeat (first | rw [gi_eq] | rw [gl_eq] | rw [gi_ne (by omega)] | rw [gl_ne (by omega)] | rw [gi_sl] | rw [gl_si])); exact I.ix2 i hi j hj
          · replace z6 := Decidable.not_not.mp z6
            have t3 := inN_tn z1
            have t4 := inN_tn z2
            refine OPi.wr (h1 := am_si h (124 + (Int32.toNatClampNeg i1)) 4 ((am_gi h (124 + (Int32.toNatClampNeg i1)) 4) &&& (((1 : Int32) <<< (i2 &&& 31)) ^^^ (-1 : Int32)))) (((OC.rf [3] h).si (a := (124 + (Int32.toNatClampNeg i1))) (k := 4) (by omega) (tpm (tp_member (by omega)) (by decide)))) Ly I.ico (by decide) (fun h1 eh Ly1 hM => ?_)
            refine ws235 _ _ _ Ly1 ?_
            have mi226 : ∀ k, am_gi h1 226 k = am_gi h 226 k := fun k => (hM 226 k (by decide) (by decide)).1
            try simp only [mi226]
            refine Cl.i (p169 Ly1 (n := nm) (by omega) (by rw [(hM 216 7 (by decide) (by decide)).1]; exact I.ime.2.2.1) _) (by decide) Ly1 ?_
            try simp only [mi226]
            refine ⟨fun z => absurd z (bI_n0.mpr z1), fun _ => ?_⟩
            refine Cl.i (p168 Ly1 (n := nh) (by omega) (by rw [(hM 216 1 (by decide) (by decide)).1]; exact I.iho.2.2.1) _) (by decide) Ly1 ?_
            try simp only [mi226]
            refine ⟨fun _ => ?_, fun z => absurd (bI_n0.mpr z2) z⟩
            refine Cl.i ((p170 Ly1 (in_N z1 (by omega))).c (q := am_gi h 224 (Int32.toNatClampNeg i1) = (-1 : Int32)) (by rw [(hM 224 _ (by decide) (by decide)).1])) (by decide) Ly1 ?_
            try simp only [mi226]
            refine ⟨fun _ => ?_, fun z => absurd (bI_n0.mpr z3) z⟩
            refine ⟨(in_N z1 (by omega)), ?_⟩
            refine ⟨fun _ => ?_, fun z => absurd z4 z⟩
            refine ⟨(in_N z1 (by omega)), ?_⟩
            intro k107 ek107; subst ek107
            refine ⟨(in_N z1 (by omega)), ?_⟩
            refine ⟨fun z => absurd z (not_not_intro (by have q5 := I.ime.2.2.2.1 (Int32.toNatClampNeg i1) (by omega); rw [gi_eq, eq_comm, ← q5.1]; exact z6)), fun _ => ?_⟩
            have q4 := I.ime.2.2.2.1 (Int32.toNatClampNeg i1) (by omega)
            subst eh
            have E : Ex [3] h (am_si (am_si h (124 + (Int32.toNatClampNeg i1)) 4 ((am_gi h (124 + (Int32.toNatClampNeg i1)) 4) &&& (((1 : Int32) <<< (i2 &&& 31)) ^^^ (-1 : Int32)))) 226 (Int32.toNatClampNeg i1) ((am_gi h 226 (Int32.toNatClampNeg i1)) &&& (((1 : Int32) <<< (i2 &&& 31)) ^^^ (-1 : Int32)))) := (((OC.rf [3] h).si (a := (124 + (Int32.toNatClampNeg i1))) (k := 4) (by omega) (tpm (tp_member (by omega)) (by decide))).ex.tr ((OM.rf [3] _).si (a := 226) (k := (Int32.toNatClampNeg i1)) (by omega) (tpm (t := tp 226 0) rfl (by simp [tp]))).ex)
            refine ⟨by trivial, nh, nm, nr, na, nt, nc, I.up E (g3 := Or.inr ?_) (gx1 := Or.inr ?_) (gx2 := Or.inr ?_)⟩
            · refine I.ime.wsh (i := Int32.toNatClampNeg i1) (v := ((am_gi h 226 (Int32.toNatClampNeg i1)) &&& (((1 : Int32) <<< (i2 &&& 31)) ^^^ (-1 : Int32)))) (by omega) ?_ ?_
              · exact bz_and q4.2.1
              · rw [q4.1]
            · intro j hj; (repeat (first | rw [gi_eq] | rw [gl_eq] | rw [gi_ne (by omega)] | rw [gl_ne (by omega)] | rw [gi_sl] | rw [gl_si])); exact I.ix1 j hj
            · intro i hi j hj; (repeat (first | rw [gi_eq] | rw [gl_eq] | rw [gi_ne (by omega)] | rw [gl_ne (by omega)] | rw [gi_sl] | rw [gl_si])); exact I.ix2 i hi j hj
        · skip
          refine ws123_62 _ _ _ Ly ?_
          refine ⟨(in_N z1 (by omega)), ?_⟩
          intro k7 ek7; subst ek7
          refine ⟨fun z8 => ?_, fun z8 => ?_⟩
          · skip
            have t3 := inN_tn z1
            have t4 := inN_tn z2
            refine OPi.wr (h1 := am_si h (124 + (Int32.toNatClampNeg i1)) 4 ((am_gi h (124 + (Int32.toNatClampNeg i1)) 4) ||| ((1 : Int32) <<< (i2 &&& 31)))) (((OC.rf [3] h).si (a := (124 + (Int32.toNatClampNeg i1))) (k := 4) (by omega) (tpm (tp_member (by omega)) (by decide)))) Ly I.ico (by decide) (fun h1 eh Ly1 hM => ?_)
            refine ws235 _ _ _ Ly1 ?_
            have mi226 : ∀ k, am_gi h1 226 k = am_gi h 226 k := fun k => (hM 226 k (by decide) (by decide)).1
            try simp only [mi226]
            refine Cl.i (p169 Ly1 (n := nm) (by omega) (by rw [(hM 216 7 (by decide) (by decide)).1]; exact I.ime.2.2.1) _) (by decide) Ly1 ?_
            try simp only [mi226]
            refine ⟨fun z => absurd z (bI_n0.mpr z1), fun _ => ?_⟩
            refine Cl.i (p168 Ly1 (n := nh) (by omega) (by rw [(hM 216 1 (by decide) (by decide)).1]; exact I.iho.2.2.1) _) (by decide) Ly1 ?_
            try simp only [mi226]
            refine ⟨fun _ => ?_, fun z => absurd (bI_n0.mpr z2) z⟩
            refine Cl.i ((p170 Ly1 (in_N z1 (by omega))).c (q := am_gi h 224 (Int32.toNatClampNeg i1) = (-1 : Int32)) (by rw [(hM 224 _ (by decide) (by decide)).1])) (by decide) Ly1 ?_
            try simp only [mi226]
            refine ⟨fun _ => ?_, fun z => absurd (bI_n0.mpr z3) z⟩
            refine ⟨(in_N z1 (by omega)), ?_⟩
            refine ⟨fun z => absurd z z4, fun _ => ?_⟩
            refine ⟨(in_N z1 (by omega)), ?_⟩
            intro k109 ek109; subst ek109
            refine ⟨(in_N z1 (by omega)), ?_⟩
            refine ⟨fun _ => ?_, fun z => absurd (by have q5 := I.ime.2.2.2.1 (Int32.toNatClampNeg i1) (by omega); rw [gi_eq, eq_comm, ← q5.1]; exact z8) z⟩
            have q4 := I.ime.2.2.2.1 (Int32.toNatClampNeg i1) (by omega)
            subst eh
            have E : Ex [3] h (am_si (am_si h (124 + (Int32.toNatClampNeg i1)) 4 ((am_gi h (124 + (Int32.toNatClampNeg i1)) 4) ||| ((1 : Int32) <<< (i2 &&& 31)))) 226 (Int32.toNatClampNeg i1) ((am_gi h 226 (Int32.toNatClampNeg i1)) ||| ((1 : Int32) <<< (i2 &&& 31)))) := (((OC.rf [3] h).si (a := (124 + (Int32.toNatClampNeg i1))) (k := 4) (by omega) (tpm (tp_member (by omega)) (by decide))).ex.tr ((OM.rf [3] _).si (a := 226) (k := (Int32.toNatClampNeg i1)) (by omega) (tpm (t := tp 226 0) rfl (by simp [tp]))).ex)
            refine ⟨by trivial, nh, nm, nr, na, nt, nc, I.up E (g3 := Or.inr ?_) (gx1 := Or.inr ?_) (gx2 := Or.inr ?_)⟩
            · refine I.ime.wsh (i := Int32.toNatClampNeg i1) (v := ((am_gi h 226 (Int32.toNatClampNeg i1)) ||| ((1 : Int32) <<< (i2 &&& 31)))) (by omega) ?_ ?_
              · obtain ⟨q, hq, rfl⟩ := (z2).ex; exact bz_or q4.2.1 (sh_nn q (by omega))
              · rw [q4.1]
            · intro j hj; (repeat (first | rw [gi_eq] | rw [gl_eq] | rw [gi_ne (by omega)] | rw [gl_ne (by omega)] | rw [gi_sl] | rw [gl_si])); exact I.ix1 j hj
            · intro i hi j hj; (repeat (first | rw [gi_eq] | rw [gl_eq] | rw [gi_ne (by omega)] | rw [gl_ne (by omega)] | rw [gi_sl] | rw [gl_si])); exact I.ix2 i hi j hj
          · replace z8 := Decidable.not_not.mp z8
            have t3 := inN_tn z1
            have t4 := inN_tn z2
            refine OPi.wr (h1 := am_si h (124 + (Int32.toNatClampNeg i1)) 4 ((am_gi h (124 + (Int32.toNatClampNeg i1)) 4) ||| ((1 : Int32) <<< (i2 &&& 31)))) (((OC.rf [3] h).si (a := (124 + (Int32.toNatClampNeg i1))) (k := 4) (by omega) (tpm (tp_member (by omega)) (by decide)))) Ly I.ico (by decide) (fun h1 eh Ly1 hM => ?_)
            refine ws235 _ _ _ Ly1 ?_
            have mi226 : ∀ k, am_gi h1 226 k = am_gi h 226 k := fun k => (hM 226 k (by decide) (by decide)).1
            try simp only [mi226]
            refine Cl.i (p169 Ly1 (n := nm) (by omega) (by rw [(hM 216 7 (by decide) (by decide)).1]; exact I.ime.2.2.1) _) (by decide) Ly1 ?_
            try simp only [mi226]
            refine ⟨fun z => absurd z (bI_n0.mpr z1), fun _ => ?_⟩
            refine Cl.i (p168 Ly1 (n := nh) (by omega) (by rw [(hM 216 1 (by decide) (by decide)).1]; exact I.iho.2.2.1) _) (by decide) Ly1 ?_
            try simp only [mi226]
            refine ⟨fun _ => ?_, fun z => absurd (bI_n0.mpr z2) z⟩
            refine Cl.i ((p170 Ly1 (in_N z1 (by omega))).c (q := am_gi h 224 (Int32.toNatClampNeg i1) = (-1 : Int32)) (by rw [(hM 224 _ (by decide) (by decide)).1])) (by decide) Ly1 ?_
            try simp only [mi226]
            refine ⟨fun _ => ?_, fun z => absurd (bI_n0.mpr z3) z⟩
            refine ⟨(in_N z1 (by omega)), ?_⟩
            refine ⟨fun z => absurd z z4, fun _ => ?_⟩
            refine ⟨(in_N z1 (by omega)), ?_⟩
            intro k109 ek109; subst ek109
            refine ⟨(in_N z1 (by omega)), ?_⟩
            refine ⟨fun z => absurd z (not_not_intro (by have q5 := I.ime.2.2.2.1 (Int32.toNatClampNeg i1) (by omega); rw [gi_eq, eq_comm, ← q5.1]; exact z8)), fun _ => ?_⟩
            have q4 := I.ime.2.2.2.1 (Int32.toNatClampNeg i1) (by omega)
            subst eh
            have E : Ex [3] h (am_si (am_si h (124 + (Int32.toNatClampNeg i1)) 4 ((am_gi h (124 + (Int32.toNatClampNeg i1)) 4) ||| ((1 : Int32) <<< (i2 &&& 31)))) 226 (Int32.toNatClampNeg i1) ((am_gi h 226 (Int32.toNatClampNeg i1)) ||| ((1 : Int32) <<< (i2 &&& 31)))) := (((OC.rf [3] h).si (a := (124 + (Int32.toNatClampNeg i1))) (k := 4) (by omega) (tpm (tp_member (by omega)) (by decide))).ex.tr ((OM.rf [3] _).si (a := 226) (k := (Int32.toNatClampNeg i1)) (by omega) (tpm (t := tp 226 0) rfl (by simp [tp]))).ex)
            refine ⟨by trivial, nh, nm, nr, na, nt, nc, I.up E (g3 := Or.inr ?_) (gx1 := Or.inr ?_) (gx2 := Or.inr ?_)⟩
            · refine I.ime.wsh (i := Int32.toNatClampNeg i1) (v := ((am_gi h 226 (Int32.toNatClampNeg i1)) ||| ((1 : Int32) <<< (i2 &&& 31)))) (by omega) ?_ ?_
              · obtain ⟨q, hq, rfl⟩ := (z2).ex; exact bz_or q4.2.1 (sh_nn q (by omega))
              · rw [q4.1]
            · intro j hj; (repeat (first | rw [gi_eq] | rw [gl_eq] | rw [gi_ne (by omega)] | rw [gl_ne (by omega)] | rw [gi_sl] | rw [gl_si])); exact I.ix1 j hj
            · intro i hi j hj; (repeat (first | rw [gi_eq] | rw [gl_eq] | rw [gi_ne (by omega)] | rw [gl_ne (by omega)] | rw [gi_sl] | rw [gl_si])); exact I.ix2 i hi j hj
      · replace z3 := bI_0.mp (Decidable.not_not.mp z3)
        refine ⟨_, rfl, Ly, I.ico, ?_⟩
        refine ws235 _ _ _ Ly ?_
        refine Cl.i (p169 Ly (n := nm) (by omega) (I.ime.2.2.1) _) (by decide) Ly ?_
        refine ⟨fun z => absurd z (bI_n0.mpr z1), fun _ => ?_⟩
        refine Cl.i (p168 Ly (n := nh) (by omega) (I.iho.2.2.1) _) (by decide) Ly ?_
        refine ⟨fun _ => ?_, fun z => absurd (bI_n0.mpr z2) z⟩
        refine Cl.i (p170 Ly (in_N z1 (by omega))) (by decide) Ly ?_
        refine ⟨fun z => absurd z (not_not_intro (bI_0.mpr z3)), fun _ => ?_⟩
        exact ⟨rfl, I.sc (Ex.rf _ _)⟩
    · replace z2 := bI_0.mp (Decidable.not_not.mp z2)
      refine ⟨_, rfl, Ly, I.ico, ?_⟩
      refine ws235 _ _ _ Ly ?_
      refine Cl.i (p169 Ly (n := nm) (by omega) (I.ime.2.2.1) _) (by decide) Ly ?_
      refine ⟨fun z => absurd z (bI_n0.mpr z1), fun _ => ?_⟩
      refine Cl.i (p168 Ly (n := nh) (by omega) (I.iho.2.2.1) _) (by decide) Ly ?_
      refine ⟨fun z => absurd z (not_not_intro (bI_0.mpr z2)), fun _ => ?_⟩
      exact ⟨rfl, I.sc (Ex.rf _ _)⟩
theorem zI_mul (m n : Nat) : zI m * zI n = zI (m * n) := (Int32.ofNat_mul m n).symm
theorem p29 {h : AH} (Ly : Lay h) {n i j : Nat} (hn : n ≤ 30) (e : am_gi h 105 1 = zI n) (hi : i < n) (hj : j < 12) : PF 0 29 [.ref 105, .int (zI i), .int (zI j)] h (.int (am_gi h 106 (i * 12 + j))) := by
  have q : zI i * (12 : Int32) + zI j = zI (i * 12 + j) := by rw [show (12 : Int32) = zI 12 from rfl, zI_mul, zI_add]
  refine ws29 _ _ Ly ⟨fun z => absurd z (zI_nonneg (by omega)), fun _ => ⟨fun _ => ?_, fun z => absurd (by rw [e]; exact (zI_lt (by omega) (by omega)).mpr hi) z⟩⟩
  rw [q, zI_tn (by omega)]
  exact ⟨in_zI (by omega) (by omega), rfl, rfl⟩
theorem op_parted {L : Nat} {xs : Nat → Int32} {c : Nat} {h : AH} {nh nm nr na nt nc : Nat} (I : InvN L xs c h nh nm nr na nt nc) (x y : Int32) : OPi 128 245 [.int x, .int y] L xs c h := by
  have Ly := I.lay
  have b1 := I.iho.1
  have b5 := I.ics.1
  have e1 := I.ics.2.1
  have e2 := I.ics.2.2.1
  by_cases hx : inN x nc
  · have hx1 := (inN_c (by omega)).mpr hx
    have hx2 := (inN_m (by omega)).mpr hx
    by_cases hy : inN y nh
    · obtain ⟨i, hi, rfl⟩ := hx.ex
      obtain ⟨j, hj, rfl⟩ := hy.ex
      have q : (12 : Int32) * zI i + zI j = zI (12 * i + j) := by rw [show (12 : Int32) = zI 12 from rfl, zI_mul, zI_add]
      refine OPi.pf I (x := am_gi h 106 (i * 12 + j)) (d := 5) (d' := 5) ?_ ?_
      · skip
        refine ws128 _ _ Ly ?_
        refine ⟨fun z => absurd z (hx1.1), fun _ => ?_⟩
        refine ⟨fun z => absurd z ((by rw [e1]; exact hx1.2)), fun _ => ?_⟩
        refine Cl.i (p138 Ly (by omega) I.iho.2.1 _) (by decide) Ly ?_
        refine ⟨fun _ => ?_, fun z => absurd ((bI_n0.mpr hy)) z⟩
        refine Cl.i (p29 Ly b5 e1 hi (by omega)) (by decide) Ly ?_
        exact ⟨rfl, rfl⟩
      · skip
        refine ws245 _ _ Ly ?_
        refine Cl.i (p167 Ly _ _ _) (by decide) Ly ?_
        refine ⟨fun z => absurd z ((bI_n0.mpr (by rw [e2]; exact hx2))), fun _ => ?_⟩
        refine Cl.i (p168 Ly (by omega) I.iho.2.2.1 _) (by decide) Ly ?_
        refine ⟨fun z => absurd z ((bI_n0.mpr hy)), fun _ => ?_⟩
        refine ⟨(by rw [q]; exact in_zI (by omega) (by omega)), ?_⟩
        rw [q, zI_tn (by omega)]; exact ⟨by rw [← I.ics.2.2.2 _ (by omega), Nat.mul_comm], rfl⟩
    · refine OPi.pf I (x := -2) (d := 5) (d' := 5) ?_ ?_
      · skip
        refine ws128 _ _ Ly ?_
        refine ⟨fun z => absurd z (hx1.1), fun _ => ?_⟩
        refine ⟨fun z => absurd z ((by rw [e1]; exact hx1.2)), fun _ => ?_⟩
        refine Cl.i (p138 Ly (by omega) I.iho.2.1 _) (by decide) Ly ?_
        refine ⟨fun z => absurd z ((not_not_intro (bI_0.mpr hy))), fun _ => ?_⟩
        exact ⟨rfl, rfl⟩
      · skip
        refine ws245 _ _ Ly ?_
        refine Cl.i (p167 Ly _ _ _) (by decide) Ly ?_
        refine ⟨fun z => absurd z ((bI_n0.mpr (by rw [e2]; exact hx2))), fun _ => ?_⟩
        refine Cl.i (p168 Ly (by omega) I.iho.2.2.1 _) (by decide) Ly ?_
        refine ⟨fun _ => ?_, fun z => absurd ((bI_0.mpr hy)) z⟩
        exact ⟨rfl, rfl⟩
  · refine OPi.pf I (x := -2) (d := 5) (d' := 5) ?_ ?_
    · refine ws128 _ _ Ly ⟨fun _ => ⟨rfl, rfl⟩, fun a => ⟨fun _ => ⟨rfl, rfl⟩, fun b => absurd ((inN_c (by omega)).mp ⟨a, by rw [← e1]; exact b⟩) hx⟩⟩
    · skip
      refine ws245 _ _ Ly ?_
      refine Cl.i (p167 Ly _ _ _) (by decide) Ly ?_
      refine ⟨fun _ => ?_, fun z => absurd ((bI_0.mpr (by rw [e2]; exact fun z => hx ((inN_m (by omega)).mp z)))) z⟩
      exact ⟨rfl, rfl⟩
theorem inN_n1 {x : Int32} {n : Nat} (h : inN x n) : ¬ x = -1 := fun z => by
  have := h.1; rw [z] at this; exact absurd this (by decide)
theorem op_inForce {L : Nat} {xs : Nat → Int32} {c : Nat} {h : AH} {nh nm nr na nt nc : Nat} (I : InvN L xs c h nh nm nr na nt nc) (i1 : Int32) (i2 : Int32) (i3 : Int32) : OPi 106 188 [.int i1, .int i2, .int i3] L xs c h := by
  have Ly := I.lay
  have b1 := I.iho.1
  have b2 := I.ime.1
  have b3 := I.iri.1
  have b4 := I.itx.1
  have b5 := I.ics.1
  have b6 := I.ita.1
  refine ws106 _ _ _ Ly ?_
  refine Cl.i (p143 Ly _) (by decide) Ly ?_
  refine ⟨fun z1 => ?_, fun z1 => ?_⟩
  · replace z1 := bI_n0.mp (z1)
    refine ⟨fun z2 => ?_, fun z2 => ?_⟩
    · skip
      refine ws106_32 _ _ _ Ly ?_
      refine ⟨fun z3 => ?_, fun z3 => ?_⟩
      · skip
        refine ⟨_, rfl, Ly, I.ico, ?_⟩
        refine ws188 _ _ _ Ly ?_
        refine ⟨fun _ => ?_, fun z => absurd z2 z⟩
        refine ⟨fun _ => ?_, fun z => absurd z3 z⟩
        refine ws188_30 _ _ _ _ Ly ?_
        refine ⟨fun _ => ?_, fun z => absurd (by decide) z⟩
        exact ⟨rfl, I.sc (Ex.rf _ _)⟩
      · replace z3 := Decidable.not_not.mp z3
        refine Cl.i (p139 Ly (by omega) I.ime.2.1 _) (by decide) Ly ?_
        refine ⟨fun z4 => ?_, fun z4 => ?_⟩
        · replace z4 := bI_0.mp (z4)
          refine ⟨_, rfl, Ly, I.ico, ?_⟩
          refine ws188 _ _ _ Ly ?_
          refine ⟨fun _ => ?_, fun z => absurd z2 z⟩
          refine ⟨fun z => absurd z (not_not_intro z3), fun _ => ?_⟩
          refine Cl.i (p169 Ly (n := nm) (by omega) (I.ime.2.2.1) _) (by decide) Ly ?_
          refine ⟨fun _ => ?_, fun z => absurd (bI_0.mpr z4) z⟩
          refine ws188_30 _ _ _ _ Ly ?_
          refine ⟨fun _ => ?_, fun z => absurd (by decide) z⟩
          exact ⟨rfl, I.sc (Ex.rf _ _)⟩
        · replace z4 := bI_n0.mp (z4)
          refine Cl.i (p57 Ly (vCR.of I.iri) I.ix3.rv (inN_n1 z4) _) (by decide) Ly ?_
          refine ⟨_, rfl, Ly, I.ico, ?_⟩
          refine ws188 _ _ _ Ly ?_
          refine ⟨fun _ => ?_, fun z => absurd z2 z⟩
          refine ⟨fun z => absurd z (not_not_intro z3), fun _ => ?_⟩
          refine Cl.i (p169 Ly (n := nm) (by omega) (I.ime.2.2.1) _) (by decide) Ly ?_
          refine ⟨fun z => absurd z (bI_n0.mpr z4), fun _ => ?_⟩
          refine ws188_30 _ _ _ _ Ly ?_
          refine ⟨fun z => absurd z (by decide), fun _ => ?_⟩
          refine Cl.i (p167 Ly _ _ _) (by decide) Ly ?_
          refine ⟨fun _ => ?_, fun z => absurd (bI_n0.mpr z1) z⟩
          refine ⟨fun _ => ?_, fun z => absurd z2 z⟩
          refine Cl.i (p174 Ly (vMR.of I.iri) _ _) (by decide) Ly ?_
          exact ⟨rfl, I.sc (Ex.rf _ _)⟩
    · replace z2 := Decidable.not_not.mp z2
      refine Cl.i (p138 Ly (by omega) I.iho.2.1 _) (by decide) Ly ?_
      refine ⟨fun z5 => ?_, fun z5 => ?_⟩
      · replace z5 := bI_0.mp (z5)
        refine ws106_32 _ _ _ Ly ?_
        refine ⟨fun z6 => ?_, fun z6 => ?_⟩
        · skip
          refine ⟨_, rfl, Ly, I.ico, ?_⟩
          refine ws188 _ _ _ Ly ?_
          refine ⟨fun z => absurd z (not_not_intro z2), fun _ => ?_⟩
          refine Cl.i (p168 Ly (n := nh) (by omega) (I.iho.2.2.1) _) (by decide) Ly ?_
          refine ⟨fun z => absurd z (not_not_intro (bI_0.mpr z5)), fun _ => ?_⟩
          refine ⟨fun _ => ?_, fun z => absurd z6 z⟩
          refine ws188_30 _ _ _ _ Ly ?_
          refine ⟨fun _ => ?_, fun z => absurd (by decide) z⟩
          exact ⟨rfl, I.sc (Ex.rf _ _)⟩
        · replace z6 := Decidable.not_not.mp z6
          refine Cl.i (p139 Ly (by omega) I.ime.2.1 _) (by decide) Ly ?_
          refine ⟨fun z7 => ?_, fun z7 => ?_⟩
          · replace z7 := bI_0.mp (z7)
            refine ⟨_, rfl, Ly, I.ico, ?_⟩
            refine ws188 _ _ _ Ly ?_
            refine ⟨fun z => absurd z (not_not_intro z2), fun _ => ?_⟩
            refine Cl.i (p168 Ly (n := nh) (by omega) (I.iho.2.2.1) _) (by decide) Ly ?_
            refine ⟨fun z => absurd z (not_not_intro (bI_0.mpr z5)), fun _ => ?_⟩
            refine ⟨fun z => absurd z (not_not_intro z6), fun _ => ?_⟩
            refine Cl.i (p169 Ly (n := nm) (by omega) (I.ime.2.2.1) _) (by decide) Ly ?_
            refine ⟨fun _ => ?_, fun z => absurd (bI_0.mpr z7) z⟩
            refine ws188_30 _ _ _ _ Ly ?_
            refine ⟨fun _ => ?_, fun z => absurd (by decide) z⟩
            exact ⟨rfl, I.sc (Ex.rf _ _)⟩
          · replace z7 := bI_n0.mp (z7)
            refine Cl.i (p57 Ly (vCR.of I.iri) I.ix3.rv (inN_n1 z7) _) (by decide) Ly ?_
            refine ⟨_, rfl, Ly, I.ico, ?_⟩
            refine ws188 _ _ _ Ly ?_
            refine ⟨fun z => absurd z (not_not_intro z2), fun _ => ?_⟩
            refine Cl.i (p168 Ly (n := nh) (by omega) (I.iho.2.2.1) _) (by decide) Ly ?_
            refine ⟨fun z => absurd z (not_not_intro (bI_0.mpr z5)), fun _ => ?_⟩
            refine ⟨fun z => absurd z (not_not_intro z6), fun _ => ?_⟩
            refine Cl.i (p169 Ly (n := nm) (by omega) (I.ime.2.2.1) _) (by decide) Ly ?_
            refine ⟨fun z => absurd z (bI_n0.mpr z7), fun _ => ?_⟩
            refine ws188_30 _ _ _ _ Ly ?_
            refine ⟨fun z => absurd z (by decide), fun _ => ?_⟩
            refine Cl.i (p167 Ly _ _ _) (by decide) Ly ?_
            refine ⟨fun _ => ?_, fun z => absurd (bI_n0.mpr z1) z⟩
            refine ⟨fun z => absurd z (not_not_intro z2), fun _ => ?_⟩
            refine Cl.i (p173 Ly (vMR.of I.iri) _ _) (by decide) Ly ?_
            exact absurd ‹_› (by simp_all)
      · replace z5 := bI_n0.mp (z5)
        refine Cl.i (p56 Ly (vCR.of I.iri) _ _) (by decide) Ly ?_
        refine ⟨_, rfl, Ly, I.ico, ?_⟩
        refine ws188 _ _ _ Ly ?_
        refine ⟨fun z => absurd z (not_not_intro z2), fun _ => ?_⟩
        refine Cl.i (p168 Ly (n := nh) (by omega) (I.iho.2.2.1) _) (by decide) Ly ?_
        refine ⟨fun _ => ?_, fun z => absurd (bI_n0.mpr z5) z⟩
        refine ws188_30 _ _ _ _ Ly ?_
        refine ⟨fun z => absurd z (by decide), fun _ => ?_⟩
        refine Cl.i (p167 Ly _ _ _) (by decide) Ly ?_
        refine ⟨fun _ => ?_, fun z => absurd (bI_n0.mpr z1) z⟩
        refine ⟨fun z => absurd z (not_not_intro z2), fun _ => ?_⟩
        refine Cl.i (p173 Ly (vMR.of I.iri) _ _) (by decide) Ly ?_
        exact ⟨rfl, I.sc (Ex.rf _ _)⟩
  · replace z1 := bI_0.mp (Decidable.not_not.mp z1)
    refine ⟨_, rfl, Ly, I.ico, ?_⟩
    refine ws188 _ _ _ Ly ?_
    refine ⟨fun z108 => ?_, fun z108 => ?_⟩
    · skip
      refine ⟨fun z109 => ?_, fun z109 => ?_⟩
      · skip
        refine ws188_30 _ _ _ _ Ly ?_
        refine ⟨fun _ => ?_, fun z => absurd (by decide) z⟩
        exact ⟨rfl, I.sc (Ex.rf _ _)⟩
      · replace z109 := Decidable.not_not.mp z109
        refine Cl.i (p169 Ly (n := nm) (by omega) (I.ime.2.2.1) _) (by decide) Ly ?_
        refine ⟨fun z110 => ?_, fun z110 => ?_⟩
        · replace z110 := bI_0.mp (z110)
          refine ws188_30 _ _ _ _ Ly ?_
          refine ⟨fun _ => ?_, fun z => absurd (by decide) z⟩
          exact ⟨rfl, I.sc (Ex.rf _ _)⟩
        · replace z110 := bI_n0.mp (z110)
          refine ws188_30 _ _ _ _ Ly ?_
          refine ⟨fun z => absurd z (by decide), fun _ => ?_⟩
          refine Cl.i (p167 Ly _ _ _) (by decide) Ly ?_
          refine ⟨fun z => absurd z (not_not_intro (bI_0.mpr z1)), fun _ => ?_⟩
          exact ⟨rfl, I.sc (Ex.rf _ _)⟩
    · replace z108 := Decidable.not_not.mp z108
      refine Cl.i (p168 Ly (n := nh) (by omega) (I.iho.2.2.1) _) (by decide) Ly ?_
      refine ⟨fun z111 => ?_, fun z111 => ?_⟩
      · replace z111 := bI_n0.mp (z111)
        refine ws188_30 _ _ _ _ Ly ?_
        refine ⟨fun z => absurd z (by decide), fun _ => ?_⟩
        refine Cl.i (p167 Ly _ _ _) (by decide) Ly ?_
        refine ⟨fun z => absurd z (not_not_intro (bI_0.mpr z1)), fun _ => ?_⟩
        exact ⟨rfl, I.sc (Ex.rf _ _)⟩
      · replace z111 := bI_0.mp (Decidable.not_not.mp z111)
        refine ⟨fun z112 => ?_, fun z112 => ?_⟩
        · skip
          refine ws188_30 _ _ _ _ Ly ?_
          refine ⟨fun _ => ?_, fun z => absurd (by decide) z⟩
          exact ⟨rfl, I.sc (Ex.rf _ _)⟩
        · replace z112 := Decidable.not_not.mp z112
          refine Cl.i (p169 Ly (n := nm) (by omega) (I.ime.2.2.1) _) (by decide) Ly ?_
          refine ⟨fun z113 => ?_, fun z113 => ?_⟩
          · replace z113 := bI_0.mp (z113)
            refine ws188_30 _ _ _ _ Ly ?_
            refine ⟨fun _ => ?_, fun z => absurd (by decide) z⟩
            exact ⟨rfl, I.sc (Ex.rf _ _)⟩
          · replace z113 := bI_n0.mp (z113)
            refine ws188_30 _ _ _ _ Ly ?_
            refine ⟨fun z => absurd z (by decide), fun _ => ?_⟩
            refine Cl.i (p167 Ly _ _ _) (by decide) Ly ?_
            refine ⟨fun z => absurd z (not_not_intro (bI_0.mpr z1)), fun _ => ?_⟩
            exact ⟨rfl, I.sc (Ex.rf _ _)⟩
