/-! THE ORDER of a home, in both programs -/
def kO (p : Nat → Int64) (s : Nat → Int32) (x y : Nat) : Bool := if p x = p y then (if s x = s y then decide (x < y) else decide (s x < s y)) else decide (p y < p x)
theorem kO_sto (p : Nat → Int64) (s : Nat → Int32) : STO (kO p s) := by
  have L : ∀ x y, kO p s x y = true ↔ ((p y).toInt < (p x).toInt ∨ ((p x).toInt = (p y).toInt ∧ ((s x).toInt < (s y).toInt ∨ ((s x).toInt = (s y).toInt ∧ x < y)))) := fun x y => by
    unfold kO
    by_cases e1 : p x = p y
    · rw [if_pos e1]
      have e1' : (p x).toInt = (p y).toInt := by rw [e1]
      by_cases e2 : s x = s y
      · rw [if_pos e2, decide_eq_true_eq]
        have e2' : (s x).toInt = (s y).toInt := by rw [e2]
        omega
      · rw [if_neg e2, decide_eq_true_eq, i_lt]
        rw [i_eq] at e2; omega
    · rw [if_neg e1, decide_eq_true_eq, Int64.lt_iff_toInt_lt]
      rw [← Int64.toInt_inj] at e1; omega
  refine ⟨fun x => ?_, fun x y z h1 h2 => ?_, fun x y hxy => ?_⟩
  · cases e : kO p s x x with
    | false => rfl
    | true => rw [L] at e; omega
  · rw [L] at h1 h2 ⊢; omega
  · rw [L, L]; omega
abbrev ahd (h : AH) (nt nm hm : Nat) : Nat → Nat → Bool := kO (fun m => PT h nt nm m hm 0) (fun m => am_gi h 225 m)
def qL (h : AH) (nt nm hm : Nat) (lo : Int32) (j : Nat) : Bool := waitP h j && (!tb lo j && !decide (PT h nt nm j hm 1 = 0))
theorem tOn12 {L : Nat} {xs : Nat → Int32} {c : Nat} {h : AH} {nh nm nr na nt nc : Nat} (I : InvN L xs c h nh nm nr na nt nc) : tOn h nt (am_gi h 216 0) < 12 := by
  have := tOn_lt (h := h) (d := am_gi h 216 0) I.itx.1.1; have := I.itx.1; omega
theorem bset_s1 {p : Nat → Bool} {i : Nat} (h : p i = true) : bset p (i + 1) = bset p i ||| ((1 : Int32) <<< (zI i &&& 31)) := by show (if _ then _ else _) = _; rw [if_pos h]
theorem bset_s0 {p : Nat → Bool} {i : Nat} (h : p i = false) : bset p (i + 1) = bset p i := by show (if _ then _ else _) = _; rw [h]; rfl
def S79 (h h' : AH) : Prop := Sm h h' ∧ ∀ a k, a ≠ 79 → am_gi h' a k = am_gi h a k ∧ am_gl h' a k = am_gl h a k
theorem ex79 {h : AH} {k : Nat} {v : Int64} : Ex [0] h (am_sl h 79 k v) := ((OC.rf [0] h).sl (a := 79) (k := k) (by omega) (List.mem_singleton.mpr rfl)).ex
theorem l161 {L : Nat} {xs : Nat → Int32} {c : Nat} {h : AH} {nh nm nr na nt nc : Nat} (I : InvN L xs c h nh nm nr na nt nc) {hm : Nat} (lo : Int32) : ∀ m i h1, i + m = nm → Ex [0] h h1 → (am_gl h1 76 2 = nmF h nm 0 hm 2 ∧ am_gl h1 76 5 = nmF h nm 0 hm 5 ∧ am_gl h1 76 6 = nmF h nm 0 hm 6) → (∀ j, j < i → qL h nt nm hm lo j = true → am_gl h1 79 j = PT h nt nm j hm 0) → Ev 6 161 25 [.ref 6, .null, .int lo, .ref (148 + 4 * tOn h nt (am_gi h 216 0)), .int (bset (qL h nt nm hm lo) i), .int (zI i)] [] h1 (fun r h' => r = some (.int (bset (qL h nt nm hm lo) nm)) ∧ Ex [0] h h' ∧ ∀ j, j < nm → qL h nt nm hm lo j = true → am_gl h' 79 j = PT h nt nm j hm 0)
  | 0, i, h1, e, E, N, P => by
    have e' : i = nm := by omega
    subst e'
    have I1 := I.keep E
    exact ws161_25 (tOn12 I) _ _ _ I1.lay ⟨fun _ => ⟨rfl, E, P⟩, fun z => absurd (by rw [I1.ime.2.1]; exact Int32.le_refl _) z⟩
  | m + 1, i, h1, e, E, N, P => by
    have b2 := I.ime.1
    have hi : i < nm := by omega
    have I1 := I.keep E
    have A3 := E.ag (t := 3) (by decide)
    have q3 : am_gi h1 (124 + i) 3 = am_gi h 225 i := by rw [(I1.ime.2.2.2.2.1 i hi).2.2.2, (A3 225 i rfl).1]
    have i24 : am_in (zI i) 24 := in_zI (by omega) (by decide)
    have skip : ∀ h2, Ex [0] h h2 → (am_gl h2 76 2 = nmF h nm 0 hm 2 ∧ am_gl h2 76 5 = nmF h nm 0 hm 5 ∧ am_gl h2 76 6 = nmF h nm 0 hm 6) → (∀ j, am_gl h2 79 j = am_gl h1 79 j) → qL h nt nm hm lo i = false → Ev 6 161 25 [.ref 6, .null, .int lo, .ref (148 + 4 * tOn h nt (am_gi h 216 0)), .int (bset (qL h nt nm hm lo) i), .int (zI (i + 1))] [] h2 (fun r h' => r = some (.int (bset (qL h nt nm hm lo) nm)) ∧ Ex [0] h h' ∧ ∀ j, j < nm → qL h nt nm hm lo j = true → am_gl h' 79 j = PT h nt nm j hm 0) := fun h2 E2 N2 P2 z => by
      rw [← bset_s0 z]
      exact l161 I lo m (i + 1) h2 (by omega) E2 N2 (fun j hj qj => by
        by_cases ej : j = i
        · rw [ej, z] at qj; cases qj
        · rw [P2]; exact P j (by omega) qj)
    refine ws161_25 (tOn12 I) _ _ _ I1.lay ⟨fun z => absurd z (by rw [I1.ime.2.1, zI_le (by omega) (by omega)]; omega), fun _ => ⟨i24, ?_⟩⟩
    rw [zI_tn (by omega), zI_succ]
    refine Cl.i (p23 I1.lay (by omega)) (by decide) I1.lay ⟨fun z => ?_, fun z => ⟨fun y => ?_, fun y => ?_⟩⟩
    · rw [bI_0, q3] at z
      exact skip h1 E N (fun _ => rfl) (by unfold qL waitP; rw [decide_eq_true_iff.mpr (Decidable.not_not.mp z)]; rfl)
    · rw [bI_n0, q3] at z
      have y' : tb lo i = false := (bq_0 (by omega)).mp y
      have wt : waitP h i = true := by unfold waitP; rw [decide_eq_false_iff_not.mpr z]; rfl
      refine Cl.qv (c157 I1 hi hm) (by decide) (fun g1 p1 => ⟨p1.2.ex.lay I1.lay, ?_⟩)
      have E1 := E.tr p1.2.ex
      have J1 := I.keep E1
      have n1 := nmF_ex E nm i hm
      have pq := p1.1
      rw [n1] at pq
      have nn : ∀ w, w = 2 ∨ w = 5 ∨ w = 6 → nmF h nm 0 hm w = nmF h nm i hm w := fun w hw => by
        rcases hw with rfl | rfl | rfl <;> (unfold nmF; simp)
      have N1 : ∀ w, w < 7 → am_gl g1 76 w = nmF g1 nm i hm w := by
        rw [nmF_ex E1]
        exact N7 pq.1 pq.2.1 (by rw [pq.2.2.2.2.1, N.1, nn 2 (Or.inl rfl)]) pq.2.2.1 pq.2.2.2.1 (by rw [pq.2.2.2.2.2.1, N.2.1, nn 5 (Or.inr (Or.inl rfl))]) (by rw [pq.2.2.2.2.2.2, N.2.2, nn 6 (Or.inr (Or.inr rfl))])
      have et : tOn g1 nt (am_gi g1 216 0) = tOn h nt (am_gi h 216 0) := by rw [(E1.ag (t := 1) (by decide) 216 0 rfl).1, tOn_ag (E1.ag (by decide))]
      rw [← et]
      refine Cl.ql (c70n J1 (k := 1) (by decide) N1) (by decide) (fun g2 p2 => ⟨p2.lay J1.lay, ?_⟩)
      have E2 := E1.tr p2.ex
      have J2 := I.keep E2
      have eP : PT g1 nt nm i hm 1 = PT h nt nm i hm 1 := PT_ex E1 ..
      rw [eP, et]
      have N2 : ∀ w, am_gl g2 76 w = am_gl g1 76 w := fun w => (p2.2 76 w (by decide) (by decide)).2
      have N2' : am_gl g2 76 2 = nmF h nm 0 hm 2 ∧ am_gl g2 76 5 = nmF h nm 0 hm 5 ∧ am_gl g2 76 6 = nmF h nm 0 hm 6 := by
        rw [N2, N2, N2, pq.2.2.2.2.1, pq.2.2.2.2.2.1, pq.2.2.2.2.2.2]; exact N
      have P79 : ∀ j, am_gl g2 79 j = am_gl h1 79 j := fun j => by rw [(p2.2 79 j (by decide) (by decide)).2, (p1.2.2 79 j (by decide)).2]
      refine ⟨fun x => ?_, fun x => ?_⟩
      · rw [lg0] at x
        exact skip g2 E2 N2' P79 (by unfold qL; rw [decide_eq_true_iff.mpr x, wt, y']; rfl)
      · rw [lg0] at x
        have qi : qL h nt nm hm lo i = true := by unfold qL; rw [decide_eq_false_iff_not.mpr x, wt, y']; rfl
        have et2 : tOn g2 nt (am_gi g2 216 0) = tOn h nt (am_gi h 216 0) := by rw [(E2.ag (t := 1) (by decide) 216 0 rfl).1, tOn_ag (E2.ag (by decide))]
        rw [← et2]
        refine Cl.ql (c70n J2 (k := 0) (by decide) (fun w hw => by rw [N2, N1 w hw, nmF_ex E1, nmF_ex E2])) (by decide) (fun g3 p3 => ⟨p3.lay J2.lay, i24, ?_⟩)
        have E3 := E2.tr p3.ex
        have eP0 : PT g2 nt nm i hm 0 = PT h nt nm i hm 0 := PT_ex E2 ..
        rw [eP0, et2, ← bset_s1 qi]
        intro g4 e4; subst e4
        refine l161 I lo m (i + 1) _ (by omega) (E3.tr ex79) ?_ (fun j hj qj => ?_)
        · rw [gl_ne (by omega), gl_ne (by omega), gl_ne (by omega), (p3.2 76 _ (by decide) (by decide)).2, (p3.2 76 _ (by decide) (by decide)).2, (p3.2 76 _ (by decide) (by decide)).2]; exact N2'
        · by_cases ej : j = i
          · subst ej; rw [gl_eq]
          · rw [gl_ne (by omega), (p3.2 79 j (by decide) (by decide)).2, P79]; exact P j (by omega) qj
    · rw [bI_n0, q3] at z
      have y' : tb lo i = true := by
        have := (bq_n0 (x := lo) (j := i) (by omega)).mp y; exact this
      exact skip h1 E N (fun _ => rfl) (by unfold qL; rw [y']; simp)
theorem c161 {L : Nat} {xs : Nat → Int32} {c : Nat} {h : AH} {nh nm nr na nt nc : Nat} (I : InvN L xs c h nh nm nr na nt nc) {hm : Nat} (hh : hm < nh) (lo : Int32) : Cl 6 161 [.ref 6, .int (zI hm), .int lo] h (fun r h' => r = some (.int (bset (qL h nt nm hm lo) nm)) ∧ Ex [0] h h' ∧ ∀ j, j < nm → qL h nt nm hm lo j = true → am_gl h' 79 j = PT h nt nm j hm 0) := by
  refine ws161 _ _ I.lay ?_
  rw [I.ida.1]
  refine Cl.i (p154 I _) (by decide) I.lay ⟨in_zI (tOn12 I) (by decide), ?_⟩
  rw [zI_tn (by have := tOn12 I; omega)]
  refine Cl.qv (c158 I hh 0) (by decide) (fun g1 p1 => ⟨p1.2.ex.lay I.lay, ?_⟩)
  exact Ev.mono (l161 I lo nm 0 g1 (by omega) p1.2.ex ⟨p1.1.1, p1.1.2.1, p1.1.2.2.1⟩ (fun j hj => by omega)) (Nat.le_refl _) (fun r h' q => q)
theorem p163 {L : Nat} {xs : Nat → Int32} {c : Nat} {h h1 : AH} {nh nm nr na nt nc : Nat} (I : InvN L xs c h nh nm nr na nt nc) (E : Ex [0] h h1) {hm x y : Nat} (hx : x < nm) (hy : y < x) (px : am_gl h1 79 x = PT h nt nm x hm 0) (py : am_gl h1 79 y = PT h nt nm y hm 0) : PF 0 163 [.ref 6, .int (zI x), .int (zI y)] h1 (.int (bI (ahd h nt nm hm x y = true))) := by
  have b2 := I.ime.1
  have I1 := I.keep E
  have A3 := E.ag (t := 3) (by decide)
  have s3 : ∀ i, i < nm → am_gi h1 (124 + i) 3 = am_gi h 225 i := fun i hi => by rw [(I1.ime.2.2.2.2.1 i hi).2.2.2, (A3 225 i rfl).1]
  have ix : am_in (zI x) 24 := in_zI (by omega) (by decide)
  have iy : am_in (zI y) 24 := in_zI (by omega) (by decide)
  refine ws163 _ _ I1.lay ?_
  rw [zI_tn (by omega), zI_tn (by omega), px, py, s3 x hx, s3 y (by omega), lg0, lg_cmp_le]
  refine ⟨ix, iy, fun e => ⟨ix, iy, fun z => ⟨?_, rfl⟩, fun z => ⟨?_, rfl⟩⟩, fun e => ⟨ix, iy, fun z => ⟨?_, rfl⟩, fun z => ⟨?_, rfl⟩⟩⟩
  · rw [bI_f]
    unfold ahd kO; dsimp only; rw [if_pos e]
    by_cases w : am_gi h 225 x = am_gi h 225 y
    · rw [if_pos w, decide_eq_true_eq]; omega
    · rw [if_neg w, decide_eq_true_eq, i_lt]; rw [i_le] at z; omega
  · rw [bI_t]
    unfold ahd kO; dsimp only; rw [if_pos e, if_neg, decide_eq_true_eq]
    · rw [i_gt] at z; exact z
    · intro w; exact z (by rw [w]; exact Int32.le_refl _)
  · rw [bI_f]
    unfold ahd kO; dsimp only; rw [if_neg e, decide_eq_true_eq]
    rw [Int64.lt_iff_toInt_lt]; rw [Int64.le_iff_toInt_le] at z; omega
  · rw [bI_t]
    unfold ahd kO; dsimp only; rw [if_neg e, decide_eq_true_eq]
    rw [← Int64.not_le]; exact z
theorem l162 {L : Nat} {xs : Nat → Int32} {c : Nat} {h h1 : AH} {nh nm nr na nt nc : Nat} (I : InvN L xs c h nh nm nr na nt nc) (E : Ex [0] h h1) {hm : Nat} {B : Int32} {q : Nat → Bool} (hB : ∀ j, j < nm → tb B j = q j) (P : ∀ j, j < nm → q j = true → am_gl h1 79 j = PT h nt nm j hm 0) : ∀ m i, i + m = nm → Ev 1 162 4 [.ref 6, .int B, .int (enc (fO (ahd h nt nm hm) q i)), .int (zI i)] [] h1 (fun r h' => r = some (.int (enc (fO (ahd h nt nm hm) q nm))) ∧ h' = h1)
  | 0, i, e => by
    have e' : i = nm := by omega
    subst e'
    have I1 := I.keep E
    exact ws162_4 _ _ _ I1.lay ⟨fun _ => ⟨rfl, rfl⟩, fun z => absurd (by rw [I1.ime.2.1]; exact Int32.le_refl _) z⟩
  | m + 1, i, e => by
    have b2 := I.ime.1
    have I1 := I.keep E
    have ih := l162 I E (hm := hm) hB P m (i + 1) (by omega)
    have ef : fO (ahd h nt nm hm) q (i + 1) = if q i then (match fO (ahd h nt nm hm) q i with | none => some i | some f => if ahd h nt nm hm i f then some i else some f) else fO (ahd h nt nm hm) q i := rfl
    refine ws162_4 _ _ _ I1.lay ⟨fun z => absurd z (by rw [I1.ime.2.1, zI_le (by omega) (by omega)]; omega), fun _ => ?_⟩
    rw [zI_succ]
    have bz : ((B >>> (zI i &&& 31)) &&& (1 : Int32)) = 0 ↔ q i = false := by rw [← hB i (by omega)]; exact bq_0 (by omega)
    refine ⟨fun z => ?_, fun z => ?_⟩
    · rw [bz] at z
      rw [ef, if_neg (by rw [z]; decide)] at ih; exact ih
    · have z' : q i = true := by
        rw [bz] at z; simpa using z
      rw [ef, if_pos z'] at ih
      cases eo : fO (ahd h nt nm hm) q i with
      | none =>
        rw [eo] at ih
        exact ⟨fun _ => ih, fun w => absurd rfl w⟩
      | some f =>
        rw [eo] at ih
        have f2 := (fO_cg (a := ahd h nt nm hm) (a' := ahd h nt nm hm) (q := q) (q' := q) (n := i) (fun _ _ => rfl) (fun _ _ _ _ _ _ => rfl)).2 f eo
        refine ⟨fun w => absurd w (zI_ne1 (by omega)), fun _ => ?_⟩
        refine Cl.i (p163 I E (by omega) f2.1 (P i (by omega) z') (P f (by omega) f2.2)) (by decide) I1.lay ⟨fun w => ?_, fun w => ?_⟩
        · rw [bI_0] at w
          have ih' : Ev 1 162 4 [.ref 6, .int B, .int (enc (if ahd h nt nm hm i f then some i else some f)), .int (zI (i + 1))] [] h1 _ := ih
          rw [if_neg w] at ih'; exact ih'
        · rw [bI_n0] at w
          have ih' : Ev 1 162 4 [.ref 6, .int B, .int (enc (if ahd h nt nm hm i f then some i else some f)), .int (zI (i + 1))] [] h1 _ := ih
          rw [if_pos w] at ih'; exact ih'
theorem p162 {L : Nat} {xs : Nat → Int32} {c : Nat} {h h1 : AH} {nh nm nr na nt nc : Nat} (I : InvN L xs c h nh nm nr na nt nc) (E : Ex [0] h h1) {hm : Nat} {B : Int32} {q : Nat → Bool} (hB : ∀ j, j < nm → tb B j = q j) (P : ∀ j, j < nm → q j = true → am_gl h1 79 j = PT h nt nm j hm 0) : PF 1 162 [.ref 6, .int B] h1 (.int (enc (fO (ahd h nt nm hm) q nm))) := ws162 _ (I.keep E).lay (l162 I E hB P nm 0 (by omega))
theorem l160 {L : Nat} {xs : Nat → Int32} {c : Nat} {h h1 : AH} {nh nm nr na nt nc : Nat} (I : InvN L xs c h nh nm nr na nt nc) (E : Ex [0] h h1) {hm k : Nat} (hk : k < 100) : ∀ m i B q, i + m = k → (∀ j, j < nm → tb B j = q j) → (∀ j, j < nm → q j = true → am_gl h1 79 j = PT h nt nm j hm 0) → Ev 2 160 26 [.ref 6, .null, .int (zI k), .null, .int B, .int (zI i)] [] h1 (fun r h' => r = some (.int (enc (fO (ahd h nt nm hm) (rmK (ahd h nt nm hm) nm m q) nm))) ∧ h' = h1)
  | 0, i, B, q, e, hB, P => by
    have I1 := I.keep E
    exact ws160_26 _ _ _ I1.lay ⟨fun _ => Cl.i (p162 I E hB P) (by decide) I1.lay ⟨rfl, rfl⟩, fun z => absurd ((zI_le (by omega) (by omega)).mpr (by omega)) z⟩
  | m + 1, i, B, q, e, hB, P => by
    have b2 := I.ime.1
    have I1 := I.keep E
    refine ws160_26 _ _ _ I1.lay ⟨fun z => absurd ((zI_le (by omega) (by omega)).mp z) (by omega), fun _ => Cl.i (p162 I E hB P) (by decide) I1.lay ?_⟩
    rw [zI_succ]
    have er : rmK (ahd h nt nm hm) nm (m + 1) q = rmK (ahd h nt nm hm) nm m (match fO (ahd h nt nm hm) q nm with | none => q | some f => rmv q f) := rfl
    rw [er]
    cases eo : fO (ahd h nt nm hm) q nm with
    | none =>
      refine l160 I E hk m (i + 1) _ q (by omega) (fun j hj => ?_) P
      rw [← hB j hj]
      have : tb (B &&& (((1 : Int32) <<< ((-1 : Int32) &&& 31)) ^^^ (-1))) j = (tb B j && !decide (j = 31)) := tb_clr (m := 31) (by decide) (by omega)
      show tb (B &&& (((1 : Int32) <<< ((-1 : Int32) &&& 31)) ^^^ (-1))) j = _
      rw [this, decide_eq_false_iff_not.mpr (by omega), Bool.not_false, Bool.and_true]
    | some f =>
      have f2 := (fO_cg (a := ahd h nt nm hm) (a' := ahd h nt nm hm) (q := q) (q' := q) (n := nm) (fun _ _ => rfl) (fun _ _ _ _ _ _ => rfl)).2 f eo
      refine l160 I E hk m (i + 1) _ (rmv q f) (by omega) (fun j hj => ?_) (fun j hj qj => P j hj (by unfold rmv at qj; simp at qj; exact qj.1))
      show tb (B &&& (((1 : Int32) <<< (zI f &&& 31)) ^^^ (-1))) j = _
      rw [tb_clr (by omega) (by omega), hB j hj]; rfl
/-- the i-th of the order, but for those in lo -/
def plc (h : AH) (nt nm hm : Nat) (lo x : Int32) : Int32 := if x < 0 then -1 else if x.toNatClampNeg < cnt (qL h nt nm hm lo) nm then enc (fO (ahd h nt nm hm) (rmK (ahd h nt nm hm) nm x.toNatClampNeg (qL h nt nm hm lo)) nm) else -1
theorem c160 {L : Nat} {xs : Nat → Int32} {c : Nat} {h : AH} {nh nm nr na nt nc : Nat} (I : InvN L xs c h nh nm nr na nt nc) {hm : Nat} (hh : hm < nh) (x lo : Int32) : Cl 7 160 [.ref 6, .int (zI hm), .int x, .int lo] h (fun r h' => r = some (.int (plc h nt nm hm lo x)) ∧ Ex [0] h h') := by
  have b2 := I.ime.1
  have hc := cnt_le (qL h nt nm hm lo) nm
  refine ws160 _ _ _ I.lay (Cl.qi (c161 I hh lo) (by decide) (fun g1 q => ⟨q.1.lay I.lay, fun z => ⟨?_, q.1⟩, fun z => ?_⟩))
  · unfold plc; rw [if_pos z]
  · have L1 := q.1.lay I.lay
    have x0 : 0 ≤ x.toInt := by rw [i_lt] at z; have : ¬ x.toInt < 0 := z; omega
    have ex : x = zI x.toNatClampNeg := by rw [tn_of x0]; exact zI_of x0
    refine Cl.i (p262 _) (by decide) L1 ?_
    rw [bset_cnt _ _ (by omega)]
    have lt : x < zI (cnt (qL h nt nm hm lo) nm) ↔ x.toNatClampNeg < cnt (qL h nt nm hm lo) nm := by
      rw [i_lt, zI_toInt (by omega), tn_of x0]; omega
    refine ⟨fun w => ?_, fun w => ⟨?_, q.1⟩⟩
    · rw [lt] at w
      have ep : plc h nt nm hm lo x = enc (fO (ahd h nt nm hm) (rmK (ahd h nt nm hm) nm x.toNatClampNeg (qL h nt nm hm lo)) nm) := by unfold plc; rw [if_neg z, if_pos w]
      have R := l160 I q.1 (hm := hm) (k := x.toNatClampNeg) (by omega) x.toNatClampNeg 0 (bset (qL h nt nm hm lo) nm) (qL h nt nm hm lo) (by omega) (fun j hj => by rw [bset_tb _ _ (by omega) j (by omega), decide_eq_true_iff.mpr hj, Bool.true_and]) q.2
      rw [← ex] at R
      exact Ev.mono R (by decide) (fun r h' p => ⟨by rw [ep]; exact p.1, by rw [p.2]; exact q.1⟩)
    · rw [lt] at w
      unfold plc; rw [if_neg z, if_neg w]
