/-! feed -/
abbrev CB0 (l : Int64) (i : Nat) : Int32 := Int64.toInt32 ((Int64.toUInt64 l >>> ((Int32.toInt64 ((8 : Int32) * zI i)).toUInt64 &&& Int64.toUInt64 63)).toInt64)
abbrev CB (l : Int64) (i : Nat) : Int32 := (Int32.toInt8 ((Int32.toInt8 (CB0 l i)).toInt32)).toInt32
abbrev MB (l : Int64) (i : Nat) : Int32 := Int64.toInt32 ((l >>> (Int32.toInt64 ((8 : Int32) * zI i) &&& 63)) &&& (255 : Int64))
theorem fd_a1 : ∀ i, i < 8 → ((((Int32.toInt64 ((8 : Int32) * zI i)).toUInt64 &&& Int64.toUInt64 63) % 64).toBitVec).toNat = 8 * i := by decide +kernel
theorem fd_a2 : ∀ i, i < 8 → ((Int32.toInt64 ((8 : Int32) * zI i) &&& 63).toBitVec.smod 64).toNat = 8 * i := by decide +kernel
theorem fd_255 : ∀ j, j < 64 → (255 : Int64).toBitVec.getLsbD j = decide (j < 8) := by decide +kernel
theorem fd_c (l : Int64) {i j : Nat} (hi : i < 8) (hj : j < 8) : (CB0 l i).toInt8.toBitVec.getLsbD j = l.toBitVec.getLsbD (8 * i + j) := by
  show (BitVec.signExtend 8 (BitVec.signExtend 32 (l.toBitVec >>> (((Int32.toInt64 ((8 : Int32) * zI i)).toUInt64 &&& Int64.toUInt64 63) % 64).toBitVec))).getLsbD j = _
  rw [BitVec.getLsbD_signExtend, BitVec.getLsbD_signExtend]
  rw [if_pos (show j < 32 by omega), if_pos (show j < 64 by omega)]
  show (decide (j < 8) && (decide (j < 32) && (l.toBitVec >>> ((((Int32.toInt64 ((8 : Int32) * zI i)).toUInt64 &&& Int64.toUInt64 63) % 64).toBitVec).toNat).getLsbD j)) = _
  rw [fd_a1 i hi, BitVec.getLsbD_ushiftRight, decide_eq_true_iff.mpr hj, decide_eq_true_iff.mpr (show j < 32 by omega), Bool.true_and, Bool.true_and]
theorem fd_m (l : Int64) {i j : Nat} (hi : i < 8) (hj : j < 32) : (MB l i).toBitVec.getLsbD j = (decide (j < 8) && l.toBitVec.getLsbD (8 * i + j)) := by
  show (BitVec.signExtend 32 ((l.toBitVec.sshiftRight' ((Int32.toInt64 ((8 : Int32) * zI i) &&& 63).toBitVec.smod 64)) &&& (255 : Int64).toBitVec)).getLsbD j = _
  rw [BitVec.getLsbD_signExtend, if_pos (show j < 64 by omega), BitVec.getLsbD_and, fd_255 j (by omega), decide_eq_true_iff.mpr hj, Bool.true_and, BitVec.getLsbD_sshiftRight', fd_a2 i hi]
  by_cases h8 : j < 8
  · rw [decide_eq_true_iff.mpr h8, Bool.and_true, Bool.true_and, if_pos (by omega), decide_eq_false_iff_not.mpr (show ¬ 64 ≤ j by omega)]; rfl
  · rw [decide_eq_false_iff_not.mpr h8, Bool.and_false, Bool.false_and]
theorem i8_i32 (x : Int8) : x.toInt32.toInt8 = x := by
  apply Int8.toInt_inj.mp; simp
theorem fd_r (l : Int64) {i : Nat} (hi : i < 8) : CB l i = (MB l i).toInt8.toInt32 ∧ 0 ≤ (MB l i).toInt ∧ (MB l i).toInt ≤ 255 ∧ -128 ≤ (CB l i).toInt ∧ (CB l i).toInt ≤ 127 := by
  have e : (CB0 l i).toInt8 = (MB l i).toInt8 := by
    apply Int8.toBitVec_inj.mp
    apply BitVec.eq_of_getLsbD_eq
    intro j hj
    rw [fd_c l hi hj]
    show _ = (BitVec.signExtend 8 (MB l i).toBitVec).getLsbD j
    rw [BitVec.getLsbD_signExtend, if_pos (by omega), fd_m l hi (by omega), decide_eq_true_iff.mpr hj, Bool.true_and, Bool.true_and]
  have hb : (MB l i).toBitVec.toNat < 2 ^ 8 := by
    apply Nat.lt_pow_two_of_testBit
    intro k hk
    by_cases h32 : k < 32
    · show (MB l i).toBitVec.getLsbD k = false
      rw [fd_m l hi h32, decide_eq_false_iff_not.mpr (by omega), Bool.false_and]
    · exact BitVec.getLsbD_of_ge _ _ (by omega)
  have ht : (MB l i).toInt = (MB l i).toBitVec.toNat := by
    show (MB l i).toBitVec.toInt = _
    rw [BitVec.toInt_eq_toNat_of_lt]
    omega
  refine ⟨?_, by omega, by omega, ?_, ?_⟩
  · show (((CB0 l i).toInt8).toInt32.toInt8).toInt32 = _
    rw [i8_i32, e]
  · show -128 ≤ (((CB0 l i).toInt8.toInt32).toInt8.toInt32).toInt
    rw [Int8.toInt_toInt32]; exact Int8.le_toInt _
  · show (((CB0 l i).toInt8.toInt32).toInt8.toInt32).toInt ≤ 127
    rw [Int8.toInt_toInt32]
    have := Int8.toInt_lt ((CB0 l i).toInt8.toInt32).toInt8
    omega
theorem l109 {na n : Nat} (hn : n ≤ 8) (hb : na + n ≤ 400) (l : Int64) : ∀ m i, i + m = n → ∀ h, Lay h → am_gi h 71 1 = zI (na + i) → Ev 3 109 35 [.ref 6, .int (zI n), .long l, .null, .int (zI i)] [] h (fun r h' => r = some (.int (zI (na + n))) ∧ (am_gi h' 71 1 = zI (na + n) ∧ (∀ j, j < na + i ∨ na + n ≤ j → am_gi h' 72 j = am_gi h 72 j) ∧ ∀ k, i ≤ k → k < n → am_gi h' 72 (na + k) = CB l k) ∧ OC [5] h h')
  | 0, i, e, h, Ly, e1 => by
    have e' : i = n := by omega
    subst e'
    exact ws109_35 _ _ _ Ly ⟨fun _ => ⟨by rw [e1], ⟨e1, fun _ _ => rfl, fun k h1 h2 => by omega⟩, OC.rf _ _⟩, fun z => absurd (Int32.le_refl _) z⟩
  | m + 1, i, e, h, Ly, e1 => by
    refine ws109_35 _ _ _ Ly ⟨fun z => absurd ((zI_le (by omega) (by omega)).mp z) (by omega), fun _ => ?_⟩
    refine Cl.qv (P := fun h' => h' = am_si (am_si h 72 (na + i) (CB l i)) 71 1 (zI (na + (i + 1)))) (d := 0) (ws31 _ Ly ⟨fun z => absurd ((zI_le (m := 400) (n := na + i) (by decide) (by omega)).mp (by rw [← e1]; exact z)) (by omega), fun _ => ⟨by rw [e1]; exact in_zI (by omega) (by decide), ?_⟩⟩) (by decide) (fun h' q => ?_)
    · rw [e1, zI_tn (by omega)]
      intro k1 ek1; subst ek1
      intro k2 ek2; subst ek2
      refine ⟨rfl, ?_⟩
      rw [gi_ne (by omega), e1, zI_succ]; rfl
    · subst q
      refine ⟨(Ly.si _ _ _).si _ _ _, ?_⟩
      rw [zI_succ]
      refine Ev.mono (l109 hn hb l m (i + 1) (by omega) _ ((Ly.si _ _ _).si _ _ _) (by rw [gi_eq])) (Nat.le_refl _) (fun r h' q => ⟨q.1, ⟨q.2.1.1, fun j hj => ?_, fun k h1 h2 => ?_⟩, ?_⟩)
      · rw [q.2.1.2.1 j (by omega), gi_ne (by omega), gi_ne (by omega)]
      · by_cases hk : k = i
        · subst hk
          rw [q.2.1.2.1 _ (by omega), gi_ne (by omega), gi_eq]
        · exact q.2.1.2.2 k (by omega) h2
      · exact OC.tr (((OC.rf [5] h).si (a := 72) (k := na + i) (by omega) (List.mem_singleton.mpr rfl)).si (by omega) (by decide)) q.2.2
theorem l216 {na n : Nat} (hn : n ≤ 8) (hb : na + n ≤ 400) (l : Int64) : ∀ m i, i + m = n → ∀ h, Lay h → am_gi h 216 22 = zI (na + i) → Ev 3 216 31 [.ref 216, .int (zI n), .long l, .null, .int (zI i)] [] h (fun r h' => r = some (.int (zI (na + n))) ∧ (am_gi h' 216 22 = zI (na + n) ∧ (∀ j, j < na + i ∨ na + n ≤ j → am_gi h' 234 j = am_gi h 234 j) ∧ ∀ k, i ≤ k → k < n → am_gi h' 234 (na + k) = MB l k) ∧ OM [5] h h')
  | 0, i, e, h, Ly, e1 => by
    have e' : i = n := by omega
    subst e'
    exact ws216_31 _ _ _ Ly ⟨fun _ => ⟨by rw [e1], ⟨e1, fun _ _ => rfl, fun k h1 h2 => by omega⟩, OM.rf _ _⟩, fun z => absurd (Int32.le_refl _) z⟩
  | m + 1, i, e, h, Ly, e1 => by
    refine ws216_31 _ _ _ Ly ⟨fun z => absurd ((zI_le (by omega) (by omega)).mp z) (by omega), fun _ => ⟨by rw [e1]; exact in_zI (by omega) (by decide), ?_⟩⟩
    rw [e1, zI_tn (by omega), zI_succ]
    intro k1 ek1; subst ek1
    rw [gi_ne (by omega), e1, zI_succ]
    intro k2 ek2; subst ek2
    refine Ev.mono (l216 hn hb l m (i + 1) (by omega) _ ((Ly.si _ _ _).si _ _ _) (by rw [gi_eq]; rfl)) (Nat.le_refl _) (fun r h' q => ⟨q.1, ⟨q.2.1.1, fun j hj => ?_, fun k h1 h2 => ?_⟩, ?_⟩)
    · rw [q.2.1.2.1 j (by omega), gi_ne (by omega), gi_ne (by omega)]
    · by_cases hk : k = i
      · subst hk
        rw [q.2.1.2.1 _ (by omega), gi_ne (by omega), gi_eq]
      · exact q.2.1.2.2 k (by omega) h2
    · exact OM.tr (((OM.rf [5] h).si (a := 234) (k := na + i) (by omega) (List.mem_singleton.mpr rfl)).si (by omega) (by decide)) q.2.2
theorem op_feed {L : Nat} {xs : Nat → Int32} {c : Nat} {h : AH} {nh nm nr na nt nc : Nat} (I : InvN L xs c h nh nm nr na nt nc) (x : Int32) (l : Int64) : OPi 109 216 [.int x, .long l] L xs c h := by
  have Ly := I.lay
  have b := I.ita.1
  have e1 := I.ita.2.1
  have e2 := I.ita.2.2.1
  by_cases hr : inR x 1 8
  · have hi := inR_i hr
    have z1 : (1 : Int32).toInt = 1 := rfl
    have z8 : (8 : Int32).toInt = 8 := rfl
    obtain ⟨n, hn, rfl⟩ : ∃ n, n ≤ 8 ∧ x = zI n := ⟨x.toInt.toNat, by omega, zI_of (by omega)⟩
    by_cases hf : na + n ≤ 400
    · have f1 : am_gi h 71 1 + zI n ≤ 400 := by rw [e1, zI_add]; exact (zI_le (n := 400) (by omega) (by decide)).mpr hf
      have f2 : am_gi h 216 22 + zI n ≤ 400 := by rw [e2, zI_add]; exact (zI_le (n := 400) (by omega) (by decide)).mpr hf
      refine OPi.cm (d := 3) (d' := 3) (ts := [5]) (v := zI (na + n)) (P1 := fun h' => am_gi h' 71 1 = zI (na + n) ∧ (∀ j, j < na + 0 ∨ na + n ≤ j → am_gi h' 72 j = am_gi h 72 j) ∧ ∀ k, 0 ≤ k → k < n → am_gi h' 72 (na + k) = CB l k) (P2 := fun h' => ∃ h1, OC [5] h h1 ∧ am_gi h' 216 22 = zI (na + n) ∧ (∀ j, j < na + 0 ∨ na + n ≤ j → am_gi h' 234 j = am_gi h1 234 j) ∧ ∀ k, 0 ≤ k → k < n → am_gi h' 234 (na + k) = MB l k) I ?_ ?_ ?_
      · exact ws109 _ _ Ly ⟨fun z => absurd z hr.1, fun _ => ⟨fun _ => ⟨fun _ => l109 hn hf l n 0 (by omega) h Ly e1, fun z => absurd f1 z⟩, fun z => absurd (i_ge.mp hr.2) z⟩⟩
      · intro h1 _ E1 Ly1
        have e3 : am_gi h1 216 22 = am_gi h 216 22 := E1.gi (by omega)
        refine ws216 _ _ Ly1 (Cl.i (p167 Ly1 _ _ _) (by decide) Ly1 ⟨fun _ => ⟨fun _ => Ev.mono (l216 hn hf l n 0 (by omega) h1 Ly1 (by rw [e3]; exact e2)) (Nat.le_refl _) (fun r h' q => ⟨q.1, ⟨h1, E1, q.2.1⟩, q.2.2⟩), fun z => absurd (by rw [e3]; exact f2) z⟩, fun z => absurd (bI_n0.mpr hr) z⟩)
      · rintro h1 h2 ⟨p1, p2, p3⟩ E1 ⟨h1', E1', q1, q2, q3⟩ E2
        have E := E1.ex.tr E2.ex
        have c72 : ∀ j, am_gi h2 72 j = am_gi h1 72 j := fun j => E2.gi (by omega)
        refine ⟨nh, nm, nr, na + n, nt, nc, I.up E (g5 := Or.inr ⟨hf, by rw [E2.gi (by omega)]; exact p1, q1, fun i hi => ?_, fun i hi => ?_⟩)⟩
        · rw [c72]
          by_cases h1 : i < na
          · rw [p2 i (by omega)]; exact I.ita.2.2.2.1 i hi
          · by_cases h2 : na + n ≤ i
            · rw [p2 i (by omega)]; exact I.ita.2.2.2.1 i hi
            · have := p3 (i - na) (by omega) (by omega)
              rw [show na + (i - na) = i by omega] at this
              rw [this]
              exact ⟨(fd_r l (by omega)).2.2.2.1, (fd_r l (by omega)).2.2.2.2⟩
        · rw [c72]
          by_cases h1 : i < na
          · rw [p2 i (by omega), q2 i (by omega), E1'.gi (by omega)]; exact I.ita.2.2.2.2 i h1
          · have t1 := p3 (i - na) (by omega) (by omega)
            have t2 := q3 (i - na) (by omega) (by omega)
            rw [show na + (i - na) = i by omega] at t1 t2
            rw [t1, t2]
            have f := fd_r l (i := i - na) (by omega)
            exact ⟨f.1, f.2.1, f.2.2.1⟩
    · have f1 : ¬ am_gi h 71 1 + zI n ≤ 400 := by rw [e1, zI_add]; exact fun z => hf ((zI_le (n := 400) (by omega) (by decide)).mp z)
      have f2 : ¬ am_gi h 216 22 + zI n ≤ 400 := by rw [e2, zI_add]; exact fun z => hf ((zI_le (n := 400) (by omega) (by decide)).mp z)
      refine OPi.pf I (x := -4) (d := 3) (d' := 3) ?_ ?_
      · exact ws109 _ _ Ly ⟨fun z => absurd z hr.1, fun _ => ⟨fun _ => ⟨fun z => absurd z f1, fun _ => ⟨rfl, rfl⟩⟩, fun z => absurd (i_ge.mp hr.2) z⟩⟩
      · exact ws216 _ _ Ly (Cl.i (p167 Ly _ _ _) (by decide) Ly ⟨fun _ => ⟨fun z => absurd z f2, fun _ => ⟨rfl, rfl⟩⟩, fun z => absurd (bI_n0.mpr hr) z⟩)
  · refine OPi.pf I (x := -2) (d := 3) (d' := 3) ?_ ?_
    · exact ws109 _ _ Ly ⟨fun _ => ⟨rfl, rfl⟩, fun a => ⟨fun z => absurd ⟨a, i_ge.mpr z⟩ hr, fun _ => ⟨rfl, rfl⟩⟩⟩
    · exact ws216 _ _ Ly (Cl.i (p167 Ly _ _ _) (by decide) Ly ⟨fun z => absurd (bI_n0.mp z) hr, fun _ => ⟨rfl, rfl⟩⟩)
