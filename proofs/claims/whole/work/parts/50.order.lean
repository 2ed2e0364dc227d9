/-! the reference's order; order, offers -/
def isq (h : AH) (nt nm hm : Nat) (j : Nat) : Bool := waitP h j && !decide (PT h nt nm j hm 1 = 0)
theorem isq_ex {h h' : AH} (E : Ex [0] h h') (nt nm hm : Nat) : isq h' nt nm hm = isq h nt nm hm := funext fun j => by
  unfold isq waitP; rw [PT_ex E, (E.ag (t := 3) (by decide) 225 j rfl).1]
theorem ahd_ex {h h' : AH} (E : Ex [0] h h') (nt nm hm : Nat) : ahd h' nt nm hm = ahd h nt nm hm := by
  have A := E.ag (t := 3) (by decide)
  show kO (fun m => PT h' nt nm m hm 0) (fun m => am_gi h' 225 m) = kO (fun m => PT h nt nm m hm 0) (fun m => am_gi h 225 m)
  rw [show (fun m => PT h' nt nm m hm 0) = (fun m => PT h nt nm m hm 0) from funext fun m => PT_ex E .., show (fun m => am_gi h' 225 m) = (fun m => am_gi h 225 m) from funext fun m => (A 225 m rfl).1]
theorem m227 {L : Nat} {xs : Nat → Int32} {c : Nat} {h : AH} {nh nm nr na nt nc : Nat} (I : InvN L xs c h nh nm nr na nt nc) {m hm : Nat} (h1 : m < 24) (h2 : hm < 12) : Cl 4 227 [.ref 216, .int (zI m), .int (zI hm)] h (fun r h' => r = some (.int (bI (isq h nt nm hm m = true))) ∧ SM h h') := by
  refine ws227 _ _ I.lay ⟨in_zI h1 (by decide), ?_⟩
  rw [zI_tn (by omega)]
  refine ⟨fun z => ⟨?_, SM.rf h⟩, fun z => Cl.ql (m213n I (k := 1) (by decide) h1 h2) (by decide) (fun g q => ⟨q.lay I.lay, fun w => ⟨?_, q⟩, fun w => ⟨?_, q⟩⟩)⟩
  · rw [bI_f]; unfold isq waitP; rw [decide_eq_true_iff.mpr z]; simp
  · rw [lg0] at w; rw [bI_f]; unfold isq; rw [decide_eq_true_iff.mpr w]; simp
  · rw [lg0] at w; rw [bI_t]; unfold isq waitP; rw [decide_eq_false_iff_not.mpr w, decide_eq_false_iff_not.mpr z]; rfl
theorem m228 {L : Nat} {xs : Nat → Int32} {c : Nat} {h : AH} {nh nm nr na nt nc : Nat} (I : InvN L xs c h nh nm nr na nt nc) {x y hm : Nat} (h1 : x < 24) (h2 : y < 24) (h3 : hm < 12) : Cl 4 228 [.ref 216, .int (zI x), .int (zI y), .int (zI hm)] h (fun r h' => r = some (.int (bI (ahd h nt nm hm x y = true))) ∧ SM h h') := by
  have ix : am_in (zI x) 24 := in_zI h1 (by decide)
  have iy : am_in (zI y) 24 := in_zI h2 (by decide)
  refine ws228 _ _ _ I.lay (Cl.ql (m213n I (k := 0) (by decide) h1 h3) (by decide) (fun g q => ⟨q.lay I.lay, ?_⟩))
  have I1 := I.keep q.ex
  refine Cl.ql (m213n I1 (k := 0) (by decide) h2 h3) (by decide) (fun g2 q2 => ⟨q2.lay I1.lay, ?_⟩)
  have S := q.tr q2
  rw [PT_ex q.ex, zI_tn (by omega), zI_tn (by omega), (S.2 225 x (by decide)).1, (S.2 225 y (by decide)).1, lg0, lg_cmp_le]
  refine ⟨fun e => ⟨ix, iy, fun w => ⟨fun z => ⟨?_, S⟩, fun z => ⟨?_, S⟩⟩, fun w => ⟨ix, iy, fun z => ⟨?_, S⟩, fun z => ⟨?_, S⟩⟩⟩, fun e => ⟨fun z => ⟨?_, S⟩, fun z => ⟨?_, S⟩⟩⟩
  · rw [zI_le (by omega) (by omega)] at z
    rw [bI_f]; unfold ahd kO; dsimp only; rw [if_pos e, if_pos w, decide_eq_true_eq]; omega
  · rw [zI_le (by omega) (by omega)] at z
    rw [bI_t]; unfold ahd kO; dsimp only; rw [if_pos e, if_pos w, decide_eq_true_eq]; omega
  · rw [bI_f]; unfold ahd kO; dsimp only; rw [if_pos e, if_neg w, decide_eq_true_eq, i_lt]; rw [i_le] at z; omega
  · rw [bI_t]; unfold ahd kO; dsimp only; rw [if_pos e, if_neg w, decide_eq_true_eq, ← i_gt]; exact z
  · rw [bI_f]; unfold ahd kO; dsimp only; rw [if_neg e, decide_eq_true_eq, Int64.lt_iff_toInt_lt]; rw [Int64.le_iff_toInt_le] at z; omega
  · rw [bI_t]; unfold ahd kO; dsimp only; rw [if_neg e, decide_eq_true_eq, ← Int64.not_le]; exact z
theorem l229 {L : Nat} {xs : Nat → Int32} {c : Nat} {h : AH} {nh nm nr na nt nc : Nat} (I : InvN L xs c h nh nm nr na nt nc) {x hm : Nat} (hx : x < nm) (hh : hm < 12) : ∀ m i h1, i + m = nm → SM h h1 → Ev 5 229 5 [.ref 216, .int (zI x), .int (zI hm), .int (zI (cnt (fun k => !decide (k = x) && isq h nt nm hm k && ahd h nt nm hm k x) i)), .int (zI i)] [] h1 (fun r h' => r = some (.int (zI (rnk (ahd h nt nm hm) (isq h nt nm hm) nm x))) ∧ SM h h')
  | 0, i, h1, e, S => by
    have e' : i = nm := by omega
    subst e'
    have I1 := I.keep S.ex
    exact ws229_5 _ _ _ _ I1.lay ⟨fun _ => ⟨rfl, S⟩, fun z => absurd (by rw [I1.ime.2.2.1]; exact Int32.le_refl _) z⟩
  | m + 1, i, h1, e, S => by
    have b2 := I.ime.1
    have I1 := I.keep S.ex
    have ih := fun h2 S2 => l229 I hx hh m (i + 1) h2 (by omega) S2
    refine ws229_5 _ _ _ _ I1.lay ⟨fun z => absurd z (by rw [I1.ime.2.2.1, zI_le (by omega) (by omega)]; omega), fun _ => ?_⟩
    rw [zI_succ, zI_succ, zI_a0]
    refine ⟨fun z => ?_, fun z => Cl.qi (m227 I1 (by omega) hh) (by decide) (fun g q => ⟨q.lay I1.lay, fun w => ?_, fun w => ?_⟩)⟩
    · have z' := (zI_inj (by omega) (by omega)).mp z
      have := ih h1 S
      rw [cnt_s0 (by rw [decide_eq_true_iff.mpr z']; rfl)] at this; exact this
    · rw [bI_0, isq_ex S.ex] at w
      have := ih g (S.tr q)
      rw [cnt_s0 (by have : isq h nt nm hm i = false := by simpa using w
                     rw [this]; simp)] at this; exact this
    · rw [bI_n0, isq_ex S.ex] at w
      have z' : ¬ i = x := fun e => z (by rw [e])
      have I2 := I.keep (S.tr q).ex
      refine Cl.qi (m228 I2 (by omega) (by omega) hh) (by decide) (fun g2 q2 => ⟨q2.lay I2.lay, fun v => ?_, fun v => ?_⟩)
      · rw [bI_0, ahd_ex (S.tr q).ex] at v
        have := ih g2 ((S.tr q).tr q2)
        rw [cnt_s0 (by have : ahd h nt nm hm i x = false := by simpa using v
                       rw [this]; simp)] at this; exact this
      · rw [bI_n0, ahd_ex (S.tr q).ex] at v
        have := ih g2 ((S.tr q).tr q2)
        rw [cnt_s1 (by rw [w, v, decide_eq_false_iff_not.mpr z']; rfl)] at this; exact this
theorem m229 {L : Nat} {xs : Nat → Int32} {c : Nat} {h h1 : AH} {nh nm nr na nt nc : Nat} (I : InvN L xs c h nh nm nr na nt nc) (S : SM h h1) {x hm : Nat} (hx : x < nm) (hh : hm < 12) : Cl 5 229 [.ref 216, .int (zI x), .int (zI hm)] h1 (fun r h' => r = some (.int (zI (rnk (ahd h nt nm hm) (isq h nt nm hm) nm x))) ∧ SM h h') := ws229 _ _ (I.keep S.ex).lay (l229 I hx hh nm 0 h1 (by omega) S)
theorem l230 {L : Nat} {xs : Nat → Int32} {c : Nat} {h : AH} {nh nm nr na nt nc : Nat} (I : InvN L xs c h nh nm nr na nt nc) {hm : Nat} (hh : hm < 12) (k : Int32) : ∀ m i h1, i + m = nm → SM h h1 → Ev 6 230 13 [.ref 216, .int (zI hm), .int k, .int (zI i)] [] h1 (fun r h' => r = some (.int (fst1 (fun x => isq h nt nm hm x && decide (zI (rnk (ahd h nt nm hm) (isq h nt nm hm) nm x) = k)) i m)) ∧ SM h h')
  | 0, i, h1, e, S => by
    have I1 := I.keep S.ex
    exact ws230_13 _ _ _ I1.lay ⟨fun _ => ⟨rfl, S⟩, fun z => absurd (by rw [I1.ime.2.2.1, ← e]; exact Int32.le_refl _) z⟩
  | m + 1, i, h1, e, S => by
    have b2 := I.ime.1
    have I1 := I.keep S.ex
    have ih := fun h2 S2 => l230 I hh k m (i + 1) h2 (by omega) S2
    refine ws230_13 _ _ _ I1.lay ⟨fun z => absurd z (by rw [I1.ime.2.2.1, zI_le (by omega) (by omega)]; omega), fun _ => Cl.qi (m227 I1 (by omega) hh) (by decide) (fun g q => ⟨q.lay I1.lay, fun w => ?_, fun w => ?_⟩)⟩
    · rw [bI_0, isq_ex S.ex] at w
      unfold fst1
      rw [if_neg (by rw [Bool.and_eq_true]; exact fun v => w v.1), zI_succ]; exact ih g (S.tr q)
    · rw [bI_n0, isq_ex S.ex] at w
      refine Cl.qi (m229 I (S.tr q) (by omega) hh) (by decide) (fun g2 q2 => ⟨q2.lay I.lay, fun v => ?_, fun v => ⟨?_, q2⟩⟩)
      · unfold fst1
        rw [if_neg (by rw [Bool.and_eq_true, decide_eq_true_eq]; exact fun u => v u.2), zI_succ]; exact ih g2 q2
      · unfold fst1
        rw [if_pos (by rw [Bool.and_eq_true, decide_eq_true_eq]; exact ⟨w, Decidable.not_not.mp v⟩)]
theorem qL0 (h : AH) (nt nm hm : Nat) : qL h nt nm hm 0 = isq h nt nm hm := funext fun j => by unfold qL isq; rw [tb_zero]; rfl
theorem op_order {L : Nat} {xs : Nat → Int32} {c : Nat} {h : AH} {nh nm nr na nt nc : Nat} (I : InvN L xs c h nh nm nr na nt nc) (x y : Int32) : OPi 119 230 [.int x, .int y] L xs c h := by
  have Ly := I.lay
  have b1 := I.iho.1
  have b2 := I.ime.1
  by_cases hx : inN x nh
  · obtain ⟨j, hj, rfl⟩ := hx.ex
    refine OPi.rd I (x := plc h nt nm j 0 y) (d := 9) (d' := 9) ?_ (fun h1 E => ?_)
    · exact ws119 _ _ Ly (Cl.i (p138 Ly (by omega) I.iho.2.1 _) (by decide) Ly ⟨fun _ => Cl.qi (c160 I hj y 0) (by decide) (fun g q => ⟨q.lay Ly, rfl, q⟩), fun z => absurd (bI_n0.mpr hx) z⟩)
    · have I1 := I.keep E
      have ep : plc h nt nm j 0 y = fst1 (fun x => isq h1 nt nm j x && decide (zI (rnk (ahd h1 nt nm j) (isq h1 nt nm j) nm x) = y)) 0 nm := by
        rw [isq_ex E, ahd_ex E]
        unfold plc
        rw [qL0]
        have rl : ∀ x, rnk (ahd h nt nm j) (isq h nt nm j) nm x ≤ 24 := fun x => Nat.le_trans (cnt_le _ _) b2
        by_cases y0 : y < 0
        · rw [if_pos y0]
          rw [fst1_congr (q := fun _ => false) (fun k _ hk => ?_)]
          · rcases fst1_spec (fun _ => false) nm 0 with ⟨e, _⟩ | ⟨k, _, _, _, e, _⟩
            · rw [e]
            · cases e
          · rw [decide_eq_false_iff_not.mpr, Bool.and_false]
            intro e; rw [← e] at y0; exact zI_nonneg (by have := rl k; omega) y0
        · rw [if_neg y0]
          have y0' : 0 ≤ y.toInt := by rw [i_lt] at y0; have : ¬ y.toInt < 0 := y0; omega
          have ey : y = zI y.toNatClampNeg := by rw [tn_of y0']; exact zI_of y0'
          have hy := i_hi y
          rw [← ord_spec (kO_sto _ _) (by omega) (isq h nt nm j) y.toNatClampNeg]
          refine fst1_congr (fun k _ hk => ?_)
          congr 1
          rw [decide_eq_decide]
          constructor
          · intro e; rw [e]; exact ey.symm
          · intro e; rw [ey] at e; exact (zI_inj (m := rnk (ahd h nt nm j) (isq h nt nm j) nm k) (n := y.toNatClampNeg) (by have := rl k; omega) (by rw [tn_of y0']; omega)).mp e
      refine ws230 _ _ I1.lay (Cl.i (p168 I1.lay (n := nh) (by omega) I1.iho.2.2.1 _) (by decide) I1.lay ⟨fun _ => Ev.mono (l230 I1 (by omega) y nm 0 h1 (by omega) (SM.rf _)) (by decide) (fun r h' q => ⟨by rw [ep]; exact q.1, q.2.ex⟩), fun z => absurd (bI_n0.mpr hx) z⟩)
  · refine OPi.pf I (x := -2) (d := 9) (d' := 9) ?_ ?_
    · exact ws119 _ _ Ly (Cl.i (p138 Ly (by omega) I.iho.2.1 _) (by decide) Ly ⟨fun z => absurd (bI_n0.mp z) hx, fun _ => ⟨rfl, rfl⟩⟩)
    · exact ws230 _ _ Ly (Cl.i (p168 Ly (n := nh) (by omega) I.iho.2.2.1 _) (by decide) Ly ⟨fun z => absurd (bI_n0.mp z) hx, fun _ => ⟨rfl, rfl⟩⟩)
/-! offers -/
/-- to whom a home is on offer -/
def oTo (h : AH) (nt nm hm : Nat) : Int32 := if am_gi h 220 hm = 0 then -1 else enc (fO (ahd h nt nm hm) (fun m => !tb (am_gi h 221 hm) m && isq h nt nm hm m) nm)
theorem oTo_ex {h h' : AH} (E : Ex [0] h h') (nt nm hm : Nat) : oTo h' nt nm hm = oTo h nt nm hm := by
  have A := E.ag (t := 2) (by decide)
  unfold oTo
  rw [(A 220 hm rfl).1, (A 221 hm rfl).1, isq_ex E, ahd_ex E]
theorem plc0 {h : AH} {nt nm hm : Nat} {lo : Int32} : plc h nt nm hm lo 0 = enc (fO (ahd h nt nm hm) (qL h nt nm hm lo) nm) := by
  unfold plc
  rw [if_neg (by decide)]
  have t0 : Int32.toNatClampNeg 0 = 0 := by decide
  rw [t0]
  split
  · rfl
  · rename_i z
    have c0 : cnt (qL h nt nm hm lo) nm = 0 := by omega
    rcases fO_spec (kO_sto _ _) (qL h nt nm hm lo) nm with ⟨e, _⟩ | ⟨f, e, hf, q, _⟩
    · rw [show fO (ahd h nt nm hm) (qL h nt nm hm lo) nm = none from e]; rfl
    · rw [cnt_0 c0 f hf] at q; cases q
theorem c159 {L : Nat} {xs : Nat → Int32} {c : Nat} {h : AH} {nh nm nr na nt nc : Nat} (I : InvN L xs c h nh nm nr na nt nc) {hm : Nat} (hh : hm < nh) : Cl 8 159 [.ref 6, .int (zI hm)] h (fun r h' => r = some (.int (oTo h nt nm hm)) ∧ Ex [0] h h') := by
  have b1 := I.iho.1
  have b2 := I.ime.1
  have i12 : am_in (zI hm) 12 := in_zI (by omega) (by decide)
  refine ws159 _ I.lay ⟨i12, ?_⟩
  rw [zI_tn (by omega), (I.iho.2.2.2.1 hm (by omega)).1]
  refine ⟨fun z => ⟨?_, Ex.rf _ _⟩, fun z => ⟨i12, Cl.qi (c160 I hh 0 _) (by decide) (fun g q => ⟨q.lay I.lay, ?_, q⟩)⟩⟩
  · unfold oTo; rw [if_pos z]
  · unfold oTo; rw [if_neg z, plc0]
    have : ∀ j, j < nm → qL h nt nm hm (am_gi h (112 + hm) 4) j = (!tb (am_gi h 221 hm) j && isq h nt nm hm j) := fun j hj => by
      unfold qL isq
      cases w : waitP h j with
      | false => simp
      | true =>
        have wt : ¬ am_gi h 225 j = -1 := by unfold waitP at w; simpa using w
        have e : tb (am_gi h (112 + hm) 4) j = tb (am_gi h 221 hm) j := by
          rcases I.ix2 hm (by omega) j (by omega) with ⟨_, q⟩ | q
          · exact absurd ((I.ix1 j hj).2.2.elim (fun z => absurd z q) id) wt
          · have e1 := bq_tb (x := am_gi h (112 + hm) 4) (j := j) (by omega)
            have e2 := bq_tb (x := am_gi h 221 hm) (j := j) (by omega)
            rw [q, e2] at e1
            revert e1
            cases tb (am_gi h (112 + hm) 4) j <;> cases tb (am_gi h 221 hm) j <;> first | (intro _; rfl) | (intro z; exact absurd z (by decide))
        rw [e]; simp
    rw [(fO_cg (a := ahd h nt nm hm) (a' := ahd h nt nm hm) this (fun _ _ _ _ _ _ => rfl)).1]
theorem l231 {L : Nat} {xs : Nat → Int32} {c : Nat} {h : AH} {nh nm nr na nt nc : Nat} (I : InvN L xs c h nh nm nr na nt nc) {hm : Nat} (hh : hm < 12) (on : ¬ am_gi h 220 hm = 0) : ∀ m i h1, i + m = nm → SM h h1 → Ev 5 231 4 [.ref 216, .int (zI hm), .int (enc (fO (ahd h nt nm hm) (fun m => !tb (am_gi h 221 hm) m && isq h nt nm hm m) i)), .int (zI i), .null] [] h1 (fun r h' => r = some (.int (enc (fO (ahd h nt nm hm) (fun m => !tb (am_gi h 221 hm) m && isq h nt nm hm m) nm))) ∧ SM h h')
  | 0, i, h1, e, S => by
    have e' : i = nm := by omega
    subst e'
    have I1 := I.keep S.ex
    exact ws231_4 _ _ _ I1.lay ⟨fun _ => ⟨rfl, S⟩, fun z => absurd (by rw [I1.ime.2.2.1]; exact Int32.le_refl _) z⟩
  | m + 1, i, h1, e, S => by
    have b2 := I.ime.1
    have I1 := I.keep S.ex
    have i12 : am_in (zI hm) 12 := in_zI hh (by decide)
    have ih := fun h2 S2 => l231 I hh on m (i + 1) h2 (by omega) S2
    obtain ⟨q, hq⟩ : ∃ q : Nat → Bool, q = fun m => !tb (am_gi h 221 hm) m && isq h nt nm hm m := ⟨_, rfl⟩
    rw [← hq] at ih ⊢
    have ef : fO (ahd h nt nm hm) q (i + 1) = if q i then (match fO (ahd h nt nm hm) q i with | none => some i | some f => if ahd h nt nm hm i f then some i else some f) else fO (ahd h nt nm hm) q i := rfl
    have no : ∀ h2, SM h h2 → q i = false → Ev 5 231 48 [.ref 216, .int (zI hm), .int (enc (fO (ahd h nt nm hm) q i)), .int (zI i), .null] [.int 0] h2 (fun r h' => r = some (.int (enc (fO (ahd h nt nm hm) q nm))) ∧ SM h h') := fun h2 S2 z => by
      have R := ih h2 S2
      rw [ef, if_neg (by rw [z]; decide)] at R
      refine ws231_48 _ _ _ _ (S2.lay I.lay) ⟨fun _ => ?_, fun w => absurd rfl w⟩
      rw [zI_succ]; exact R
    refine ws231_4 _ _ _ I1.lay ⟨fun z => absurd z (by rw [I1.ime.2.2.1, zI_le (by omega) (by omega)]; omega), fun _ => ⟨i12, ?_⟩⟩
    rw [zI_tn (by omega), (S.2 220 hm (by decide)).1, (S.2 221 hm (by decide)).1]
    refine ⟨fun z => absurd z on, fun _ => ⟨i12, fun z => ?_, fun z => Cl.qi (m227 I1 (by omega) hh) (by decide) (fun g p => ⟨p.lay I1.lay, fun w => ?_, fun w => ?_⟩)⟩⟩
    · exact no h1 S (by rw [hq]; have := (bq_n0 (x := am_gi h 221 hm) (j := i) (by omega)).mp z; simp [this])
    · rw [bI_0, isq_ex S.ex] at w
      exact no g (S.tr p) (by rw [hq]; have : isq h nt nm hm i = false := by simpa using w
                              simp [this])
    · rw [bI_n0, isq_ex S.ex] at w
      have z' : tb (am_gi h 221 hm) i = false := (bq_0 (by omega)).mp (Decidable.not_not.mp z)
      have qi : q i = true := by rw [hq]; simp [z', w]
      have S2 := S.tr p
      have I2 := I.keep S2.ex
      refine ws231_48 _ _ _ _ I2.lay ⟨fun v => absurd v (by decide), fun _ => ?_⟩
      rw [zI_succ]
      cases eo : fO (ahd h nt nm hm) q i with
      | none =>
        refine ⟨fun _ => ?_, fun v => absurd rfl v⟩
        have R := ih g S2
        rw [ef, if_pos qi, eo] at R; exact R
      | some f =>
        have f2 := (fO_cg (a := ahd h nt nm hm) (a' := ahd h nt nm hm) (q := q) (q' := q) (n := i) (fun _ _ => rfl) (fun _ _ _ _ _ _ => rfl)).2 f eo
        refine ⟨fun v => absurd v (zI_ne1 (by omega)), fun _ => Cl.qi (m228 I2 (by omega) (by omega) hh) (by decide) (fun g2 p2 => ⟨p2.lay I2.lay, fun v => ?_, fun v => ?_⟩)⟩
        · rw [bI_0, ahd_ex S2.ex] at v
          have R := ih g2 (S2.tr p2)
          rw [ef, if_pos qi, eo] at R
          have R' : Ev 5 231 4 [.ref 216, .int (zI hm), .int (enc (if ahd h nt nm hm i f then some i else some f)), .int (zI (i + 1)), .null] [] g2 _ := R
          rw [if_neg v] at R'; exact R'
        · rw [bI_n0, ahd_ex S2.ex] at v
          have R := ih g2 (S2.tr p2)
          rw [ef, if_pos qi, eo] at R
          have R' : Ev 5 231 4 [.ref 216, .int (zI hm), .int (enc (if ahd h nt nm hm i f then some i else some f)), .int (zI (i + 1)), .null] [] g2 _ := R
          rw [if_pos v] at R'; exact R'
theorem m231 {L : Nat} {xs : Nat → Int32} {c : Nat} {h : AH} {nh nm nr na nt nc : Nat} (I : InvN L xs c h nh nm nr na nt nc) {hm : Nat} (hh : hm < 12) : Cl 5 231 [.ref 216, .int (zI hm)] h (fun r h' => r = some (.int (oTo h nt nm hm)) ∧ SM h h') := by
  by_cases on : am_gi h 220 hm = 0
  · have i12 : am_in (zI hm) 12 := in_zI hh (by decide)
    refine ws231 _ I.lay (ws231_4 _ _ _ I.lay ⟨fun _ => ⟨?_, SM.rf h⟩, fun _ => ⟨i12, ?_⟩⟩)
    · unfold oTo; rw [if_pos on]
    · rw [zI_tn (by omega)]
      refine ⟨fun _ => ⟨?_, SM.rf h⟩, fun z => absurd on z⟩
      unfold oTo; rw [if_pos on]
  · unfold oTo; rw [if_neg on]
    exact ws231 _ I.lay (l231 I hh on nm 0 h (by omega) (SM.rf h))
