/-! THE REFERENCE'S OWN HALF of the invariant: it holds while the class's cells are ahead -/
def ITcM (h : AH) (t : Nat) : Prop := ∃ (b : Nat → Int32) (p : Nat → Nat), True ∧ True ∧ True ∧ True ∧ True ∧ True ∧ (∀ k, k < 5 → True ∧ am_gi h 239 (5 * t + k) = zI (p k)) ∧ ICd (fun i => am_gi h 237 (400 * t + i)) (fun i => am_gi h 238 (400 * t + i)) b p
def InvM (_L : Nat) (_xs : Nat → Int32) (_c : Nat) (h : AH) (_nh nm _nr _na nt _nc : Nat) : Prop := Lay h ∧ (nm ≤ 24 ∧ True ∧ am_gi h 216 7 = zI nm ∧ True) ∧ ((1 ≤ nt ∧ nt ≤ 12) ∧ True ∧ am_gi h 216 23 = zI nt ∧ True ∧ (∀ t, t < nt → True ∧ True ∧ ITcM h t) ∧ True)
theorem InvM.lay {L : Nat} {xs : Nat → Int32} {c : Nat} {h : AH} {nh nm nr na nt nc : Nat} (I : InvM L xs c h nh nm nr na nt nc) : Lay h := I.1
theorem InvM.ime {L : Nat} {xs : Nat → Int32} {c : Nat} {h : AH} {nh nm nr na nt nc : Nat} (I : InvM L xs c h nh nm nr na nt nc) : nm ≤ 24 ∧ True ∧ am_gi h 216 7 = zI nm ∧ True := I.2.1
theorem InvM.itx {L : Nat} {xs : Nat → Int32} {c : Nat} {h : AH} {nh nm nr na nt nc : Nat} (I : InvM L xs c h nh nm nr na nt nc) : (1 ≤ nt ∧ nt ≤ 12) ∧ True ∧ am_gi h 216 23 = zI nt ∧ True ∧ (∀ t, t < nt → True ∧ True ∧ ITcM h t) ∧ True := I.2.2
theorem InvN.m {L : Nat} {xs : Nat → Int32} {c : Nat} {h : AH} {nh nm nr na nt nc : Nat} (I : InvN L xs c h nh nm nr na nt nc) : InvM L xs c h nh nm nr na nt nc := ⟨I.lay, ⟨I.ime.1, trivial, I.ime.2.2.1, trivial⟩, I.itx.1, trivial, I.itx.2.2.1, trivial, fun t ht => by
  obtain ⟨b, p, a1, a2, a3, a4, a5, a6, a8, a9⟩ := (I.itx.2.2.2.2.1 t ht).2.2
  exact ⟨trivial, trivial, am_gi h b, p, trivial, trivial, trivial, trivial, trivial, trivial, fun k hk => ⟨trivial, (a8 k hk).2⟩, a9⟩, trivial⟩
/-- only the reference's cells of members' count and of texts matter -/
theorem InvM.mv {L : Nat} {xs : Nat → Int32} {c : Nat} {h h' : AH} {nh nm nr na nt nc : Nat} (I : InvM L xs c h nh nm nr na nt nc) (Ly : Lay h') (e7 : am_gi h' 216 7 = am_gi h 216 7) (e23 : am_gi h' 216 23 = am_gi h 216 23) (e : ∀ a k, 237 ≤ a → a ≤ 239 → am_gi h' a k = am_gi h a k) : InvM L xs c h' nh nm nr na nt nc := by
  refine ⟨Ly, ⟨I.2.1.1, trivial, by rw [e7]; exact I.2.1.2.2.1, trivial⟩, I.2.2.1, trivial, by rw [e23]; exact I.2.2.2.2.1, trivial, fun t ht => ?_, trivial⟩
  obtain ⟨b, p, a1, a2, a3, a4, a5, a6, a8, a9⟩ := (I.2.2.2.2.2.2.1 t ht).2.2
  refine ⟨trivial, trivial, b, p, trivial, trivial, trivial, trivial, trivial, trivial, fun k hk => ⟨trivial, by rw [e 239 _ (by decide) (by decide)]; exact (a8 k hk).2⟩, ?_⟩
  rw [show (fun i => am_gi h' 237 (400 * t + i)) = (fun i => am_gi h 237 (400 * t + i)) from funext fun i => e 237 _ (by decide) (by decide), show (fun i => am_gi h' 238 (400 * t + i)) = (fun i => am_gi h 238 (400 * t + i)) from funext fun i => e 238 _ (by decide) (by decide)]
  exact a9
theorem InvM.keep {L : Nat} {xs : Nat → Int32} {c : Nat} {h h' : AH} {nh nm nr na nt nc : Nat} (I : InvM L xs c h nh nm nr na nt nc) (E : Ex [0] h h') : InvM L xs c h' nh nm nr na nt nc := by
  refine I.mv (E.lay I.lay) ((E.ag (t := 3) (by decide) 216 7 rfl).1) ((E.ag (t := 6) (by decide) 216 23 rfl).1) (fun a k h1 h2 => (E.ag (t := 6) (by decide) a k ?_).1)
  rcases (show a = 237 ∨ a = 238 ∨ a = 239 by omega) with rfl | rfl | rfl <;> rfl
theorem InvM.oc {ts : List Nat} {L : Nat} {xs : Nat → Int32} {c : Nat} {h h' : AH} {nh nm nr na nt nc : Nat} (I : InvM L xs c h nh nm nr na nt nc) (E : OC ts h h') : InvM L xs c h' nh nm nr na nt nc :=
  I.mv (E.lay I.lay) (E.gi (by omega)) (E.gi (by omega)) (fun a k h1 h2 => E.gi (by omega))
theorem m213_m {L : Nat} {xs : Nat → Int32} {c : Nat} {h : AH} {nh nm nr na nt nc : Nat} (I : InvM L xs c h nh nm nr na nt nc) {k : Nat} (hk : k < 4) {a b : Int32} {nmf : Nat → Int64} (PN : ∀ (w : Int32) h2, 0 ≤ w.toInt → w.toInt < 8 → alw k w → SM h h2 → Lay h2 → PF 2 211 [.ref 216, .int w, .int a, .int b] h2 (.long (nmf w.toNatClampNeg))) : Cl 3 213 [.ref 216, .int (zI k), .int a, .int b] h (fun r h' => r = some (.long (wth h (tOn h nt (am_gi h 216 0)) k nmf)) ∧ SM h h') := by
  have Ly := I.lay
  have bt := I.itx.1
  have ht := tOn_lt (h := h) (d := am_gi h 216 0) bt.1
  obtain ⟨bb, p, a1, a2, a3, a4, a5, a6, a8, a9⟩ := (I.itx.2.2.2.2.1 _ ht).2.2
  have M := a9.mono hk
  have ek : am_gi h 239 (5 * tOn h nt (am_gi h 216 0) + k) = zI (p k) := (a8 k (by omega)).2
  have ek1 : am_gi h 239 (5 * tOn h nt (am_gi h 216 0) + k + 1) = zI (p (k + 1)) := (a8 (k + 1) (by omega)).2
  have ei : (5 : Int32) * zI (tOn h nt (am_gi h 216 0)) + zI k = zI (5 * tOn h nt (am_gi h 216 0) + k) := by rw [show (5 : Int32) = zI 5 from rfl, zI_mul, zI_add]
  refine ws213 _ _ _ Ly (Cl.i (p215 Ly bt.2 I.itx.2.2.1 _) (by decide) Ly ?_)
  rw [ei, zI_tn (by omega), ek]
  refine ⟨in_zI (by omega) (by decide), ?_⟩
  have ev : wth h (tOn h nt (am_gi h 216 0)) k nmf = hd0 (evs nmf (fun i => am_gi h 237 (400 * tOn h nt (am_gi h 216 0) + i)) (fun i => am_gi h 238 (400 * tOn h nt (am_gi h 216 0) + i)) [] (p k) (p (k + 1) - p k)) := by
    unfold wth; rw [ek, ek1, zI_tn (by omega), zI_tn (by omega)]
  rw [ev]
  refine l213 (by omega) hk (fun _ => rfl) (fun _ => rfl) M.2.2 M.2.1 ek1 a9.2.1 (p (k + 1) - p k) (p k) [] h (by omega) Ly (SM.rf h) (fun j h2 g1 g2 g3 g4 g5 => ?_) trivial (by decide) (a9.2.2 k hk).1
  have al := (a9.2.2 k hk).2 j g1 g2 g3
  have g3' : am_gi h 237 (400 * tOn h nt (am_gi h 216 0) + j) = 1 := g3
  rcases a9.2.1 j (by omega) with y | y | y
  · exact absurd (y.1.symm.trans g3') (by decide)
  · exact PN _ h2 y.2.1 y.2.2.1 al g4 g5
  · have y1 : 2 ≤ (am_gi h 237 (400 * tOn h nt (am_gi h 216 0) + j)).toInt := y.1
    have : (am_gi h 237 (400 * tOn h nt (am_gi h 216 0) + j)).toInt = 1 := by rw [g3']; rfl
    exact absurd y1 (by omega)
theorem m213n_m {L : Nat} {xs : Nat → Int32} {c : Nat} {h : AH} {nh nm nr na nt nc : Nat} (I : InvM L xs c h nh nm nr na nt nc) {m hm k : Nat} (hk : k < 2) (h1 : m < 24) (h2 : hm < 12) : Cl 3 213 [.ref 216, .int (zI k), .int (zI m), .int (zI hm)] h (fun r h' => r = some (.long (PT h nt nm m hm k)) ∧ SM h h') :=
  m213_m I (by omega) (fun w g h0 h8 al S Lg => by
    have : w.toInt < 7 := by unfold alw at al; rw [if_pos hk] at al; exact al
    rw [← nmF_ex S.ex]
    exact p211a Lg nm h1 h2 h0 this)
theorem m227_m {L : Nat} {xs : Nat → Int32} {c : Nat} {h : AH} {nh nm nr na nt nc : Nat} (I : InvM L xs c h nh nm nr na nt nc) {m hm : Nat} (h1 : m < 24) (h2 : hm < 12) : Cl 4 227 [.ref 216, .int (zI m), .int (zI hm)] h (fun r h' => r = some (.int (bI (isq h nt nm hm m = true))) ∧ SM h h') := by
  refine ws227 _ _ I.lay ⟨in_zI h1 (by decide), ?_⟩
  rw [zI_tn (by omega)]
  refine ⟨fun z => ⟨?_, SM.rf h⟩, fun z => Cl.ql (m213n_m I (k := 1) (by decide) h1 h2) (by decide) (fun g q => ⟨q.lay I.lay, fun w => ⟨?_, q⟩, fun w => ⟨?_, q⟩⟩)⟩
  · rw [bI_f]; unfold isq waitP; rw [decide_eq_true_iff.mpr z]; simp
  · rw [lg0] at w; rw [bI_f]; unfold isq; rw [decide_eq_true_iff.mpr w]; simp
  · rw [lg0] at w; rw [bI_t]; unfold isq waitP; rw [decide_eq_false_iff_not.mpr w, decide_eq_false_iff_not.mpr z]; rfl
theorem m228_m {L : Nat} {xs : Nat → Int32} {c : Nat} {h : AH} {nh nm nr na nt nc : Nat} (I : InvM L xs c h nh nm nr na nt nc) {x y hm : Nat} (h1 : x < 24) (h2 : y < 24) (h3 : hm < 12) : Cl 4 228 [.ref 216, .int (zI x), .int (zI y), .int (zI hm)] h (fun r h' => r = some (.int (bI (ahd h nt nm hm x y = true))) ∧ SM h h') := by
  have ix : am_in (zI x) 24 := in_zI h1 (by decide)
  have iy : am_in (zI y) 24 := in_zI h2 (by decide)
  refine ws228 _ _ _ I.lay (Cl.ql (m213n_m I (k := 0) (by decide) h1 h3) (by decide) (fun g q => ⟨q.lay I.lay, ?_⟩))
  have I1 := I.keep q.ex
  refine Cl.ql (m213n_m I1 (k := 0) (by decide) h2 h3) (by decide) (fun g2 q2 => ⟨q2.lay I1.lay, ?_⟩)
  have S := q.tr q2
  rw [PT_ex q.ex, zI_tn (by omega), zI_tn (by omega), (S.2 225 x (by decide)).1, (S.2 225 y (by decide)).1, lg0, lg_cmp_le]
  refine ⟨fun e => ⟨ix, iy, fun w => ⟨fun z => ⟨?_, S⟩, fun z => ⟨?_, S⟩⟩, fun w => ⟨ix, iy, fun z => ⟨?_, S⟩, fun z => ⟨?_, S⟩⟩⟩, fun e => ⟨fun z => ⟨?_, S⟩, fun z => ⟨?_, S⟩⟩⟩
  · rw [zI_le (by omega) (by omega)] at z
    rw [bI_f]; unfold ahd kO; dsimp only; rw [if_pos e, if_pos w, decide_eq_true_eq]; omega
  · rw [zI_le (by omega) (by omega)] at z
    rw [bI_t]; unfold ahd kO; dsimp only; rw [if_pos e, if_pos w, decide_eq_true_eq]; omega
  · rw [bI_f]; unfold ahd kO; dsimp only; rw [if_pos e, if_neg w, decide_eq_true_eq, i_lt]; rw [i_le] at z; omega
  · rw [bI_t]; unfold ahd kO; dsimp only; rw [if_pos e, if_neg w, decide_eq_true_eq, ← i_gt]; exact z
  · rw [bI_f]; unfold ahd kO; dsimp only; rw [if_neg e, decide_eq_true_eq, Int64.lt_iff_toInt_lt]; rw [Int64.le_iff_toInt_le] at z; omega
  · rw [bI_t]; unfold ahd kO; dsimp only; rw [if_neg e, decide_eq_true_eq, ← Int64.not_le]; exact z
theorem l231_m {L : Nat} {xs : Nat → Int32} {c : Nat} {h : AH} {nh nm nr na nt nc : Nat} (I : InvM L xs c h nh nm nr na nt nc) {hm : Nat} (hh : hm < 12) (on : ¬ am_gi h 220 hm = 0) : ∀ m i h1, i + m = nm → SM h h1 → Ev 5 231 4 [.ref 216, .int (zI hm), .int (enc (fO (ahd h nt nm hm) (fun m => !tb (am_gi h 221 hm) m && isq h nt nm hm m) i)), .int (zI i), .null] [] h1 (fun r h' => r = some (.int (enc (fO (ahd h nt nm hm) (fun m => !tb (am_gi h 221 hm) m && isq h nt nm hm m) nm))) ∧ SM h h')
  | 0, i, h1, e, S => by
    have e' : i = nm := by omega
    subst e'
    have I1 := I.keep S.ex
    exact ws231_4 _ _ _ I1.lay ⟨fun _ => ⟨rfl, S⟩, fun z => absurd (by rw [I1.ime.2.2.1]; exact Int32.le_refl _) z⟩
  | m + 1, i, h1, e, S => by
    have b2 := I.ime.1
    have I1 := I.keep S.ex
    have i12 : am_in (zI hm) 12 := in_zI hh (by decide)
    have ih := fun h2 S2 => l231_m I hh on m (i + 1) h2 (by omega) S2
    obtain ⟨q, hq⟩ : ∃ q : Nat → Bool, q = fun m => !tb (am_gi h 221 hm) m && isq h nt nm hm m := ⟨_, rfl⟩
    rw [← hq] at ih ⊢
    have ef : fO (ahd h nt nm hm) q (i + 1) = if q i then (match fO (ahd h nt nm hm) q i with | none => some i | some f => if ahd h nt nm hm i f then some i else some f) else fO (ahd h nt nm hm) q i := rfl
    have no : ∀ h2, SM h h2 → q i = false → Ev 5 231 48 [.ref 216, .int (zI hm), .int (enc (fO (ahd h nt nm hm) q i)), .int (zI i), .null] [.int 0] h2 (fun r h' => r = some (.int (enc (fO (ahd h nt nm hm) q nm))) ∧ SM h h') := fun h2 S2 z => by
      have R := ih h2 S2
      rw [ef, if_neg (by rw [z]; decide)] at R
      refine ws231_48 _ _ _ _ (S2.lay I.lay) ⟨fun _ => ?_, fun w => absurd rfl w⟩
      rw [zI_succ]; exact R
    refine ws231_4 _ _ _ I1.lay ⟨fun z => absurd z (by rw [I1.ime.2.2.1, zI_le (by omega) (by omega)]; omega), fun _ => ⟨i12, ?_⟩⟩
    rw [zI_tn (by omega), (S.2 220 hm (by decide)).1, (S.2 221 hm (by decide)).1]
    refine ⟨fun z => absurd z on, fun _ => ⟨i12, fun z => ?_, fun z => Cl.qi (m227_m I1 (by omega) hh) (by decide) (fun g p => ⟨p.lay I1.lay, fun w => ?_, fun w => ?_⟩)⟩⟩
    · exact no h1 S (by rw [hq]; have := (bq_n0 (x := am_gi h 221 hm) (j := i) (by omega)).mp z; simp [this])
    · rw [bI_0, isq_ex S.ex] at w
      exact no g (S.tr p) (by rw [hq]; have : isq h nt nm hm i = false := by simpa using w
                              simp [this])
    · rw [bI_n0, isq_ex S.ex] at w
      have z' : tb (am_gi h 221 hm) i = false := (bq_0 (by omega)).mp (Decidable.not_not.mp z)
      have qi : q i = true := by rw [hq]; simp [z', w]
      have S2 := S.tr p
      have I2 := I.keep S2.ex
      refine ws231_48 _ _ _ _ I2.lay ⟨fun v => absurd v (by decide), fun _ => ?_⟩
      rw [zI_succ]
      cases eo : fO (ahd h nt nm hm) q i with
      | none =>
        refine ⟨fun _ => ?_, fun v => absurd rfl v⟩
        have R := ih g S2
        rw [ef, if_pos qi, eo] at R; exact R
      | some f =>
        have f2 := (fO_cg (a := ahd h nt nm hm) (a' := ahd h nt nm hm) (q := q) (q' := q) (n := i) (fun _ _ => rfl) (fun _ _ _ _ _ _ => rfl)).2 f eo
        refine ⟨fun v => absurd v (zI_ne1 (by omega)), fun _ => Cl.qi (m228_m I2 (by omega) (by omega) hh) (by decide) (fun g2 p2 => ⟨p2.lay I2.lay, fun v => ?_, fun v => ?_⟩)⟩
        · rw [bI_0, ahd_ex S2.ex] at v
          have R := ih g2 (S2.tr p2)
          rw [ef, if_pos qi, eo] at R
          have R' : Ev 5 231 4 [.ref 216, .int (zI hm), .int (enc (if ahd h nt nm hm i f then some i else some f)), .int (zI (i + 1)), .null] [] g2 _ := R
          rw [if_neg v] at R'; exact R'
        · rw [bI_n0, ahd_ex S2.ex] at v
          have R := ih g2 (S2.tr p2)
          rw [ef, if_pos qi, eo] at R
          have R' : Ev 5 231 4 [.ref 216, .int (zI hm), .int (enc (if ahd h nt nm hm i f then some i else some f)), .int (zI (i + 1)), .null] [] g2 _ := R
          rw [if_pos v] at R'; exact R'
theorem m231_m {L : Nat} {xs : Nat → Int32} {c : Nat} {h : AH} {nh nm nr na nt nc : Nat} (I : InvM L xs c h nh nm nr na nt nc) {hm : Nat} (hh : hm < 12) : Cl 5 231 [.ref 216, .int (zI hm)] h (fun r h' => r = some (.int (oTo h nt nm hm)) ∧ SM h h') := by
  by_cases on : am_gi h 220 hm = 0
  · have i12 : am_in (zI hm) 12 := in_zI hh (by decide)
    refine ws231 _ I.lay (ws231_4 _ _ _ I.lay ⟨fun _ => ⟨?_, SM.rf h⟩, fun _ => ⟨i12, ?_⟩⟩)
    · unfold oTo; rw [if_pos on]
    · rw [zI_tn (by omega)]
      refine ⟨fun _ => ⟨?_, SM.rf h⟩, fun z => absurd on z⟩
      unfold oTo; rw [if_pos on]
  · unfold oTo; rw [if_neg on]
    exact ws231 _ I.lay (l231_m I hh on nm 0 h (by omega) (SM.rf h))
theorem oTo_pc {h h' : AH} (E : PC h h') (nt nm hm : Nat) (e0 : am_gi h' 220 hm = am_gi h 220 hm) (e1 : am_gi h' 221 hm = am_gi h 221 hm) : oTo h' nt nm hm = oTo h nt nm hm := by
  unfold oTo
  rw [e0, e1, ahd_pc E]
  have ei : (fun m => !tb (am_gi h 221 hm) m && isq h' nt nm hm m) = (fun m => !tb (am_gi h 221 hm) m && isq h nt nm hm m) := funext fun m => by
    unfold isq waitP; rw [PT_pc E, (E 225 m (by omega)).1]
  rw [ei]
theorem p54c {h : AH} (Ly : Lay h) {n : Nat} (hn : n ≤ 60) (e : am_gi h 9 1 = zI n) (p : Prop) [Decidable p] : PF 0 54 [.ref 9, .int ((1 : Int32) + bI p)] h (.int (bI (n + (if p then 2 else 1) ≤ 60))) := by
  by_cases z : p
  · rw [bI_t z]
    exact (p54 Ly hn e 2 (by decide)).c (by rw [if_pos z])
  · rw [bI_f z]
    exact (p54 Ly hn e 1 (by decide)).c (by rw [if_neg z])
