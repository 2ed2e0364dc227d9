/-! THE TEXT IN FORCE -/
def tStep (h : AH) (d : Int32) (last i : Nat) : Nat := if (¬ am_gi h 240 i = 0) ∧ am_gi h 241 i = 0 ∧ (¬ d < am_gi h 242 i) ∧ ¬ am_gi h 243 i ≤ am_gi h 243 last then i else last
def tOn (h : AH) (nt : Nat) (d : Int32) : Nat := fold (tStep h d) 0 0 nt
theorem tStep_ag {h h' : AH} (A : Ag 6 h h') (d : Int32) : tStep h' d = tStep h d := funext fun a => funext fun i => by
  unfold tStep; rw [(A 240 i rfl).1, (A 241 i rfl).1, (A 242 i rfl).1, (A 243 i rfl).1, (A 243 a rfl).1]
theorem tOn_ag {h h' : AH} (A : Ag 6 h h') (nt : Nat) (d : Int32) : tOn h' nt d = tOn h nt d := by unfold tOn; rw [tStep_ag A]
theorem tStep0 (h : AH) (d : Int32) : tStep h d 0 0 = 0 := by unfold tStep; split <;> rfl
theorem tOn_lt {h : AH} {nt : Nat} {d : Int32} (hn : 1 ≤ nt) : tOn h nt d < nt := by
  have := fold_inv (f := tStep h d) (fun i a => a < nt) (m := nt) (i := 0) (a := 0) (by omega) (fun j a _ h2 ha => by unfold tStep; split <;> omega)
  exact this
theorem p78 {L : Nat} {xs : Nat → Int32} {c : Nat} {h : AH} {nh nm nr na nt nc : Nat} (I : InvN L xs c h nh nm nr na nt nc) {t : Nat} (ht : t < nt) (d : Int32) : PF 1 78 [.ref (148 + 4 * t), .int d] h (.int (bI ((¬ am_gi h 240 t = 0) ∧ am_gi h 241 t = 0 ∧ ¬ d < am_gi h 242 t))) := by
  have b := I.itx.1
  have T := (I.itx.2.2.2.2.1 t ht).1
  refine ws78 (by omega) _ I.lay (Cl.i ((p77 I.lay (by omega)).c T.ca) (by decide) I.lay ⟨fun z => ⟨?_, rfl⟩, fun z => ⟨fun y => ⟨?_, rfl⟩, fun y => ⟨fun x => ⟨?_, rfl⟩, fun x => ⟨?_, rfl⟩⟩⟩⟩)
  · rw [bI_f]; exact fun w => bI_0.mp z w.1
  · rw [T.2.2.1.1] at y; rw [bI_f]; exact fun w => y w.2.1
  · rw [T.2.2.2.2.1] at x; rw [bI_f]; exact fun w => w.2.2 x
  · rw [T.2.2.1.1] at y; rw [T.2.2.2.2.1] at x; rw [bI_t]; exact ⟨bI_n0.mp z, Decidable.not_not.mp y, x⟩
theorem l154 {L : Nat} {xs : Nat → Int32} {c : Nat} {h : AH} {nh nm nr na nt nc : Nat} (I : InvN L xs c h nh nm nr na nt nc) (d : Int32) : ∀ m i a, i + m = nt → a < nt → (¬ am_gi h 240 a = 0) → Ev 2 154 4 [.ref 6, .int d, .int (zI a), .int (zI i)] [] h (fun r h' => r = some (.int (zI (fold (tStep h d) a i m))) ∧ h' = h)
  | 0, i, a, e, ha, hc => ws154_4 _ _ _ I.lay ⟨fun _ => ⟨rfl, rfl⟩, fun z => absurd (by rw [I.itx.2.1, ← e]; exact Int32.le_refl _) z⟩
  | m + 1, i, a, e, ha, hc => by
    have b := I.itx.1
    have hi : i < nt := by omega
    have cr : ∀ t, t < nt → (¬ am_gi h 240 t = 0) → am_gi h (148 + 4 * t) 6 = am_gi h 243 t := fun t ht q => (I.itx.2.2.2.2.1 t ht).1.2.2.2.1.elim (fun z => z.2.1) (fun z => absurd z.1 q)
    have i12 : am_in (zI i) 12 := in_zI (by omega) (by decide)
    refine ws154_4 _ _ _ I.lay ⟨fun z => absurd z (by rw [I.itx.2.1, zI_le (by omega) (by omega)]; omega), fun _ => ⟨i12, ?_⟩⟩
    rw [zI_tn (by omega), zI_tn (by omega), zI_succ]
    show Cl _ _ _ _ _
    have ef : fold (tStep h d) a i (m + 1) = fold (tStep h d) (tStep h d a i) (i + 1) m := rfl
    rw [ef]
    refine Cl.i (p78 I hi d) (by decide) I.lay ⟨fun z => ?_, fun z => ⟨i12, in_zI (by omega) (by decide), ?_⟩⟩
    · have : tStep h d a i = a := by unfold tStep; rw [if_neg (fun w => bI_0.mp z ⟨w.1, w.2.1, w.2.2.1⟩)]
      rw [this]; exact l154 I d m (i + 1) a (by omega) ha hc
    · have q := bI_n0.mp z
      rw [cr i hi q.1, cr a ha hc]
      refine ⟨fun y => ?_, fun y => ?_⟩
      · have : tStep h d a i = a := by unfold tStep; rw [if_neg (fun w => w.2.2.2 y)]
        rw [this]; exact l154 I d m (i + 1) a (by omega) ha hc
      · have : tStep h d a i = i := by unfold tStep; rw [if_pos ⟨q.1, q.2.1, q.2.2, y⟩]
        rw [this]; exact l154 I d m (i + 1) i (by omega) hi q.1
theorem p154 {L : Nat} {xs : Nat → Int32} {c : Nat} {h : AH} {nh nm nr na nt nc : Nat} (I : InvN L xs c h nh nm nr na nt nc) (d : Int32) : PF 2 154 [.ref 6, .int d] h (.int (zI (tOn h nt d))) := by
  have b := I.itx.1
  have e : tOn h nt d = fold (tStep h d) 0 1 (nt - 1) := by
    unfold tOn
    obtain ⟨k, rfl⟩ : ∃ k, nt = k + 1 := ⟨nt - 1, by omega⟩
    show fold (tStep h d) (tStep h d 0 0) (0 + 1) k = _
    rw [tStep0]; rfl
  rw [e]
  exact ws154 _ I.lay (l154 I d (nt - 1) 1 0 (by omega) (by omega) (by rw [I.itx.2.2.2.2.2.1.1]; decide))
theorem l215 {h : AH} (Ly : Lay h) {nt : Nat} (b : nt ≤ 12) (en : am_gi h 216 23 = zI nt) (d : Int32) : ∀ m i a, i + m = nt → a < 13 → Ev 0 215 4 [.ref 216, .int d, .int (zI a), .int (zI i)] [] h (fun r h' => r = some (.int (zI (fold (tStep h d) a i m))) ∧ h' = h)
  | 0, i, a, e, ha => ws215_4 _ _ _ Ly ⟨fun _ => ⟨rfl, rfl⟩, fun z => absurd (by rw [en, ← e]; exact Int32.le_refl _) z⟩
  | m + 1, i, a, e, ha => by
    have i13 : am_in (zI i) 13 := in_zI (by omega) (by decide)
    have a13 : am_in (zI a) 13 := in_zI (by omega) (by decide)
    refine ws215_4 _ _ _ Ly ⟨fun z => absurd z (by rw [en, zI_le (by omega) (by omega)]; omega), fun _ => ⟨i13, ?_⟩⟩
    rw [zI_tn (show i < 2147483648 by omega), zI_tn (show a < 2147483648 by omega), zI_succ]
    have ef : fold (tStep h d) a i (m + 1) = fold (tStep h d) (tStep h d a i) (i + 1) m := rfl
    rw [ef]
    have no : (¬ ((¬ am_gi h 240 i = 0) ∧ am_gi h 241 i = 0 ∧ (¬ d < am_gi h 242 i) ∧ ¬ am_gi h 243 i ≤ am_gi h 243 a)) → tStep h d a i = a := fun q => by unfold tStep; rw [if_neg q]
    refine ⟨fun z => ?_, fun z => ⟨i13, fun y => ?_, fun y => ⟨i13, fun x => ?_, fun x => ⟨i13, a13, fun w => ?_, fun w => ?_⟩⟩⟩⟩
    · rw [no (fun q => q.1 z)]; exact l215 Ly b en d m (i + 1) a (by omega) ha
    · rw [no (fun q => y q.2.1)]; exact l215 Ly b en d m (i + 1) a (by omega) ha
    · rw [no (fun q => q.2.2.1 x)]; exact l215 Ly b en d m (i + 1) a (by omega) ha
    · rw [no (fun q => q.2.2.2 w)]; exact l215 Ly b en d m (i + 1) a (by omega) ha
    · have : tStep h d a i = i := by unfold tStep; rw [if_pos ⟨z, Decidable.not_not.mp y, x, w⟩]
      rw [this]; exact l215 Ly b en d m (i + 1) i (by omega) (by omega)
theorem p215 {h : AH} (Ly : Lay h) {nt : Nat} (b : nt ≤ 12) (en : am_gi h 216 23 = zI nt) (d : Int32) : PF 0 215 [.ref 216, .int d] h (.int (zI (tOn h nt d))) := ws215 _ Ly (l215 Ly b en d nt 0 0 (by omega) (by omega))
theorem op_text {L : Nat} {xs : Nat → Int32} {c : Nat} {h : AH} {nh nm nr na nt nc : Nat} (I : InvN L xs c h nh nm nr na nt nc) (x : Int32) : OPi 116 224 [.int x] L xs c h := by
  have Ly := I.lay
  by_cases hx : inR x 0 2000000
  · refine OPi.pf I (x := zI (tOn h nt x)) (d := 5) (d' := 5) ?_ ?_
    · exact ws116 _ Ly (Cl.i (p143 Ly _) (by decide) Ly ⟨fun z => absurd hx (bI_0.mp z), fun _ => Cl.i (p154 I x) (by decide) Ly ⟨rfl, rfl⟩⟩)
    · exact ws224 _ Ly (Cl.i (p167 Ly _ _ _) (by decide) Ly ⟨fun z => absurd hx (bI_0.mp z), fun _ => Cl.i (p215 Ly I.itx.1.2 I.itx.2.2.1 x) (by decide) Ly ⟨rfl, rfl⟩⟩)
  · refine OPi.pf I (x := -2) (d := 5) (d' := 5) ?_ ?_
    · exact ws116 _ Ly (Cl.i (p143 Ly _) (by decide) Ly ⟨fun _ => ⟨rfl, rfl⟩, fun z => absurd (bI_n0.mp z) hx⟩)
    · exact ws224 _ Ly (Cl.i (p167 Ly _ _ _) (by decide) Ly ⟨fun _ => ⟨rfl, rfl⟩, fun z => absurd (bI_n0.mp z) hx⟩)
/-! WHAT A PART OF A TEXT IS WORTH -/
def two (o : Int32) (x y : Int64) : Int64 := if o = 2 then (if x = 0 ∧ y = 0 then 0 else 1) else if o = 3 then (if x = 0 ∨ y = 0 then 0 else 1) else if o = 5 then (if x < y then 1 else 0) else if o = 6 then (if x = y then 1 else 0) else if o = 7 then x + y else if o = 8 then x - y else x * y
def st1 (nm : Nat → Int64) (o w : Int32) (s : List Int64) : List Int64 := if o = 0 then w.toInt64 :: s else if o = 1 then nm w.toNatClampNeg :: s else if o = 4 then (match s with | a :: r => (if a = 0 then 1 else 0) :: r | [] => []) else if o = 10 then (match s with | a :: r => (-a) :: r | [] => []) else (match s with | b :: a :: r => two o a b :: r | s => s)
def evs (nm : Nat → Int64) (op w : Nat → Int32) : List Int64 → Nat → Nat → List Int64 := fold (fun s i => st1 nm (op i) (w i) s)
def hd0 (s : List Int64) : Int64 := match s with | a :: _ => a | [] => 0
def repS (f : Nat → Int64) : List Int64 → Prop
  | [] => True
  | a :: r => f r.length = a ∧ repS f r
theorem repS_cg {f g : Nat → Int64} : ∀ {s : List Int64}, repS f s → (∀ j, j < s.length → g j = f j) → repS g s
  | [], _, _ => trivial
  | a :: r, h, e => ⟨(e r.length (by simp)).trans h.1, repS_cg h.2 (fun j hj => e j (by simp; omega))⟩
theorem repS_push {f g : Nat → Int64} {s : List Int64} {a : Int64} (h : repS f s) (e1 : g s.length = a) (e2 : ∀ j, j < s.length → g j = f j) : repS g (a :: s) := ⟨e1, repS_cg h e2⟩
/-- only the cells of the reckoning have changed: the class's, the reference's -/
def SW (h h' : AH) : Prop := Sm h h' ∧ ∀ a k, a ≠ 75 → a ≠ 77 → am_gi h' a k = am_gi h a k ∧ am_gl h' a k = am_gl h a k
def SM (h h' : AH) : Prop := Sm h h' ∧ ∀ a k, a ≠ 255 → am_gi h' a k = am_gi h a k ∧ am_gl h' a k = am_gl h a k
theorem SW.rf (h : AH) : SW h h := ⟨Sm.rfl' h, fun _ _ _ _ => ⟨rfl, rfl⟩⟩
theorem SM.rf (h : AH) : SM h h := ⟨Sm.rfl' h, fun _ _ _ => ⟨rfl, rfl⟩⟩
theorem SW.tr {h h1 h2 : AH} (A : SW h h1) (B : SW h1 h2) : SW h h2 := ⟨A.1.trans B.1, fun a k e f => ⟨(B.2 a k e f).1.trans (A.2 a k e f).1, (B.2 a k e f).2.trans (A.2 a k e f).2⟩⟩
theorem SM.tr {h h1 h2 : AH} (A : SM h h1) (B : SM h1 h2) : SM h h2 := ⟨A.1.trans B.1, fun a k e => ⟨(B.2 a k e).1.trans (A.2 a k e).1, (B.2 a k e).2.trans (A.2 a k e).2⟩⟩
theorem SW.si {h h1 : AH} (A : SW h h1) {k : Nat} {v : Int32} : SW h (am_si h1 75 k v) := ⟨A.1, fun a j e f => ⟨by rw [gi_ne (by omega)]; exact (A.2 a j e f).1, (A.2 a j e f).2⟩⟩
theorem SW.sl {h h1 : AH} (A : SW h h1) {k : Nat} {v : Int64} : SW h (am_sl h1 77 k v) := ⟨A.1, fun a j e f => ⟨(A.2 a j e f).1, by rw [gl_ne (by omega)]; exact (A.2 a j e f).2⟩⟩
theorem SM.sl {h h1 : AH} (A : SM h h1) {k : Nat} {v : Int64} : SM h (am_sl h1 255 k v) := ⟨A.1, fun a j e => ⟨(A.2 a j e).1, by rw [gl_ne (by omega)]; exact (A.2 a j e).2⟩⟩
theorem SW.oc {h h' : AH} (A : SW h h') : OC [0] h h' := ⟨A.1, fun a k e => A.2 a k (fun z => e.elim (fun w => by omega) (fun w => w (by rw [z]; exact List.mem_singleton.mpr rfl))) (fun z => e.elim (fun w => by omega) (fun w => w (by rw [z]; exact List.mem_singleton.mpr rfl)))⟩
theorem SM.om {h h' : AH} (A : SM h h') : OM [0] h h' := ⟨A.1, fun a k e => A.2 a k (fun z => e.elim (fun w => by omega) (fun w => w (by rw [z]; exact List.mem_singleton.mpr rfl)))⟩
theorem SW.lay {h h' : AH} (A : SW h h') (L : Lay h) : Lay h' := A.1.lay L
theorem SM.lay {h h' : AH} (A : SM h h') (L : Lay h) : Lay h' := A.1.lay L
/-- the class's pile -/
def stC (h : AH) (s : List Int64) : Prop := am_gi h 75 2 = zI s.length ∧ repS (am_gl h 77) s
theorem c73 {h : AH} (Ly : Lay h) {s : List Int64} (S : stC h s) (hs : s.length < 64) (v : Int64) : Cl 0 73 [.ref 75, .long v] h (fun r h' => r = none ∧ stC h' (v :: s) ∧ SW h h') := by
  refine ws73 _ Ly ⟨fun z => absurd ((zI_le (m := 64) (n := s.length) (by decide) (by omega)).mp (by rw [← S.1]; exact z)) (by omega), fun _ => ⟨by rw [S.1]; exact in_zI hs (by decide), ?_⟩⟩
  rw [S.1, zI_tn (by omega)]
  intro k1 e1; subst e1
  rw [gi_sl, S.1, zI_succ]
  intro k2 e2; subst e2
  refine ⟨rfl, ⟨by rw [gi_eq]; rfl, repS_push S.2 (by rw [gl_si, gl_eq]) (fun j hj => by rw [gl_si, gl_ne (by omega)])⟩, ((SW.rf h).sl).si⟩
theorem c74 {h : AH} (Ly : Lay h) {s : List Int64} {v : Int64} (S : stC h (v :: s)) (hs : s.length < 64) : Cl 0 74 [.ref 75] h (fun r h' => r = some (.long v) ∧ stC h' s ∧ SW h h') := by
  have e : am_gi h 75 2 = zI (s.length + 1) := S.1
  refine ws74 Ly ⟨fun _ => ?_, fun z => absurd (by rw [e]; exact (zI_le (m := 1) (n := s.length + 1) (by decide) (by omega)).mpr (by omega)) z⟩
  rw [e, zI_pred]
  intro k1 e1; subst e1
  rw [gi_eq, zI_tn (by omega)]
  exact ⟨in_zI hs (by decide), by rw [gl_si, S.2.1], ⟨by rw [gi_eq], repS_cg S.2.2 (fun j _ => gl_si)⟩, (SW.rf h).si⟩
theorem lg0 {x y : Int64} : lg_cmp x y = 0 ↔ x = y := lg_cmp_eq x y
theorem two2 (x y : Int64) : two 2 x y = if x = 0 ∧ y = 0 then 0 else 1 := rfl
theorem two3 (x y : Int64) : two 3 x y = if x = 0 ∨ y = 0 then 0 else 1 := rfl
theorem two5 (x y : Int64) : two 5 x y = if x < y then 1 else 0 := rfl
theorem two6 (x y : Int64) : two 6 x y = if x = y then 1 else 0 := rfl
theorem p72 {h : AH} (Ly : Lay h) (o : Int32) (x y : Int64) (ho : 2 ≤ o.toInt ∧ o.toInt ≤ 10) (n4 : ¬ o = 4) (n10 : ¬ o = 10) : PF 0 72 [.int (-19 - o), .long x, .long y] h (.long (two o x y)) := by
  have ho' : o = 2 ∨ o = 3 ∨ o = 5 ∨ o = 6 ∨ o = 7 ∨ o = 8 ∨ o = 9 := by
    simp only [i_eq] at n4 n10 ⊢
    have e2 : (2 : Int32).toInt = 2 := rfl
    have e3 : (3 : Int32).toInt = 3 := rfl
    have e4 : (4 : Int32).toInt = 4 := rfl
    have e5 : (5 : Int32).toInt = 5 := rfl
    have e6 : (6 : Int32).toInt = 6 := rfl
    have e7 : (7 : Int32).toInt = 7 := rfl
    have e8 : (8 : Int32).toInt = 8 := rfl
    have e9 : (9 : Int32).toInt = 9 := rfl
    have e10 : (10 : Int32).toInt = 10 := rfl
    omega
  rcases ho' with rfl | rfl | rfl | rfl | rfl | rfl | rfl
  · refine ws72 _ _ _ Ly ⟨fun z => absurd z (by decide), fun z => absurd z (by decide), fun z => absurd z (by decide), fun z => absurd z (by decide), fun z => absurd z (by decide), fun z => absurd z (by decide), fun _ => ⟨fun z => ⟨?_, rfl⟩, fun z => ⟨fun q => ⟨?_, rfl⟩, fun q => ⟨?_, rfl⟩⟩⟩, fun z => absurd z (by decide)⟩
    · rw [lg0] at z; rw [two2, if_neg (fun w => z w.1)]
    · rw [lg0] at z q; rw [two2, if_pos ⟨Decidable.not_not.mp z, q⟩]
    · rw [lg0] at z q; rw [two2, if_neg (fun w => q w.2)]
  · refine ws72 _ _ _ Ly ⟨fun z => absurd z (by decide), fun z => absurd z (by decide), fun z => absurd z (by decide), fun z => absurd z (by decide), fun z => absurd z (by decide), fun _ => ⟨fun z => ⟨?_, rfl⟩, fun z => ⟨fun q => ⟨?_, rfl⟩, fun q => ⟨?_, rfl⟩⟩⟩, fun z => absurd z (by decide), fun z => absurd z (by decide)⟩
    · rw [lg0] at z; rw [two3, if_pos (Or.inl z)]
    · rw [lg0] at z q; rw [two3, if_pos (Or.inr q)]
    · rw [lg0] at z q; rw [two3, if_neg (fun w => w.elim z q)]
  · refine ws72 _ _ _ Ly ⟨fun z => absurd z (by decide), fun z => absurd z (by decide), fun z => absurd z (by decide), fun _ => ⟨fun z => ⟨?_, rfl⟩, fun z => ⟨?_, rfl⟩⟩, fun z => absurd z (by decide), fun z => absurd z (by decide), fun z => absurd z (by decide), fun z => absurd z (by decide)⟩
    · rw [lg_cmp_ge] at z; rw [two5, if_neg (by rw [Int64.not_lt]; exact z)]
    · rw [lg_cmp_ge, Int64.not_le] at z; rw [two5, if_pos z]
  · refine ws72 _ _ _ Ly ⟨fun z => absurd z (by decide), fun z => absurd z (by decide), fun _ => ⟨fun z => ⟨?_, rfl⟩, fun z => ⟨?_, rfl⟩⟩, fun z => absurd z (by decide), fun z => absurd z (by decide), fun z => absurd z (by decide), fun z => absurd z (by decide), fun z => absurd z (by decide)⟩
    · rw [lg0] at z; rw [two6, if_neg z]
    · rw [lg0] at z; rw [two6, if_pos (Decidable.not_not.mp z)]
  · exact ws72 _ _ _ Ly ⟨fun z => absurd z (by decide), fun _ => ⟨rfl, rfl⟩, fun z => absurd z (by decide), fun z => absurd z (by decide), fun z => absurd z (by decide), fun z => absurd z (by decide), fun z => absurd z (by decide), fun z => absurd z (by decide)⟩
  · exact ws72 _ _ _ Ly ⟨fun _ => ⟨rfl, rfl⟩, fun z => absurd z (by decide), fun z => absurd z (by decide), fun z => absurd z (by decide), fun z => absurd z (by decide), fun z => absurd z (by decide), fun z => absurd z (by decide), fun z => absurd z (by decide)⟩
  · exact ws72 _ _ _ Ly ⟨fun z => absurd z (by decide), fun z => absurd z (by decide), fun z => absurd z (by decide), fun z => absurd z (by decide), fun z => absurd z (by decide), fun z => absurd z (by decide), fun z => absurd z (by decide), fun _ => ⟨rfl, rfl⟩⟩
theorem p212 {h : AH} (Ly : Lay h) (o : Int32) (x y : Int64) (ho : 2 ≤ o.toInt ∧ o.toInt ≤ 10) (n4 : ¬ o = 4) (n10 : ¬ o = 10) : PF 0 212 [.int o, .long x, .long y] h (.long (two o x y)) := by
  have ho' : o = 2 ∨ o = 3 ∨ o = 5 ∨ o = 6 ∨ o = 7 ∨ o = 8 ∨ o = 9 := by
    simp only [i_eq] at n4 n10 ⊢
    have e2 : (2 : Int32).toInt = 2 := rfl
    have e3 : (3 : Int32).toInt = 3 := rfl
    have e4 : (4 : Int32).toInt = 4 := rfl
    have e5 : (5 : Int32).toInt = 5 := rfl
    have e6 : (6 : Int32).toInt = 6 := rfl
    have e7 : (7 : Int32).toInt = 7 := rfl
    have e8 : (8 : Int32).toInt = 8 := rfl
    have e9 : (9 : Int32).toInt = 9 := rfl
    have e10 : (10 : Int32).toInt = 10 := rfl
    omega
  rcases ho' with rfl | rfl | rfl | rfl | rfl | rfl | rfl
  · refine ws212 _ _ _ Ly ⟨fun _ => ⟨fun z => ⟨?_, rfl⟩, fun z => ⟨fun q => ⟨?_, rfl⟩, fun q => ⟨?_, rfl⟩⟩⟩, fun z => absurd z (by decide), fun z => absurd z (by decide), fun z => absurd z (by decide), fun z => absurd z (by decide), fun z => absurd z (by decide), fun z => absurd z (by decide), fun z => absurd z (by decide)⟩
    · rw [lg0] at z; rw [two2, if_neg (fun w => z w.1)]
    · rw [lg0] at z q; rw [two2, if_pos ⟨Decidable.not_not.mp z, q⟩]
    · rw [lg0] at z q; rw [two2, if_neg (fun w => q w.2)]
  · refine ws212 _ _ _ Ly ⟨fun z => absurd z (by decide), fun _ => ⟨fun z => ⟨?_, rfl⟩, fun z => ⟨fun q => ⟨?_, rfl⟩, fun q => ⟨?_, rfl⟩⟩⟩, fun z => absurd z (by decide), fun z => absurd z (by decide), fun z => absurd z (by decide), fun z => absurd z (by decide), fun z => absurd z (by decide), fun z => absurd z (by decide)⟩
    · rw [lg0] at z; rw [two3, if_pos (Or.inl z)]
    · rw [lg0] at z q; rw [two3, if_pos (Or.inr q)]
    · rw [lg0] at z q; rw [two3, if_neg (fun w => w.elim z q)]
  · refine ws212 _ _ _ Ly ⟨fun z => absurd z (by decide), fun z => absurd z (by decide), fun z => absurd z (by decide), fun _ => ⟨fun z => ⟨?_, rfl⟩, fun z => ⟨?_, rfl⟩⟩, fun z => absurd z (by decide), fun z => absurd z (by decide), fun z => absurd z (by decide), fun z => absurd z (by decide)⟩
    · rw [lg_cmp_ge] at z; rw [two5, if_neg (by rw [Int64.not_lt]; exact z)]
    · rw [lg_cmp_ge, Int64.not_le] at z; rw [two5, if_pos z]
  · refine ws212 _ _ _ Ly ⟨fun z => absurd z (by decide), fun z => absurd z (by decide), fun z => absurd z (by decide), fun z => absurd z (by decide), fun _ => ⟨fun z => ⟨?_, rfl⟩, fun z => ⟨?_, rfl⟩⟩, fun z => absurd z (by decide), fun z => absurd z (by decide), fun z => absurd z (by decide)⟩
    · rw [lg0] at z; rw [two6, if_neg z]
    · rw [lg0] at z; rw [two6, if_pos (Decidable.not_not.mp z)]
  · exact ws212 _ _ _ Ly ⟨fun z => absurd z (by decide), fun z => absurd z (by decide), fun z => absurd z (by decide), fun z => absurd z (by decide), fun z => absurd z (by decide), fun _ => ⟨rfl, rfl⟩, fun z => absurd z (by decide), fun z => absurd z (by decide)⟩
  · exact ws212 _ _ _ Ly ⟨fun z => absurd z (by decide), fun z => absurd z (by decide), fun z => absurd z (by decide), fun z => absurd z (by decide), fun z => absurd z (by decide), fun z => absurd z (by decide), fun _ => ⟨rfl, rfl⟩, fun z => absurd z (by decide)⟩
  · exact ws212 _ _ _ Ly ⟨fun z => absurd z (by decide), fun z => absurd z (by decide), fun z => absurd z (by decide), fun z => absurd z (by decide), fun z => absurd z (by decide), fun z => absurd z (by decide), fun z => absurd z (by decide), fun _ => ⟨rfl, rfl⟩⟩
