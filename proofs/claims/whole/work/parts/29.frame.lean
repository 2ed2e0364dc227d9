/-! FRAMES: only the topics ts have changed; in the class's cells alone (OC), in the reference's alone (OM) -/
def Ex (ts : List Nat) (h h' : AH) : Prop := Sm h h' ∧ ∀ a k, tp a k ∉ ts → am_gi h' a k = am_gi h a k ∧ am_gl h' a k = am_gl h a k
def OC (ts : List Nat) (h h' : AH) : Prop := Sm h h' ∧ ∀ a k, ((216 ≤ a ∧ a < 263) ∨ tp a k ∉ ts) → am_gi h' a k = am_gi h a k ∧ am_gl h' a k = am_gl h a k
def OM (ts : List Nat) (h h' : AH) : Prop := Sm h h' ∧ ∀ a k, ((a < 216 ∨ 263 ≤ a) ∨ tp a k ∉ ts) → am_gi h' a k = am_gi h a k ∧ am_gl h' a k = am_gl h a k
theorem Ex.rf (ts : List Nat) (h : AH) : Ex ts h h := ⟨Sm.rfl' h, fun _ _ _ => ⟨rfl, rfl⟩⟩
theorem OC.rf (ts : List Nat) (h : AH) : OC ts h h := ⟨Sm.rfl' h, fun _ _ _ => ⟨rfl, rfl⟩⟩
theorem OM.rf (ts : List Nat) (h : AH) : OM ts h h := ⟨Sm.rfl' h, fun _ _ _ => ⟨rfl, rfl⟩⟩
theorem Ex.tr {ts : List Nat} {h h1 h2 : AH} (A : Ex ts h h1) (B : Ex ts h1 h2) : Ex ts h h2 := ⟨A.1.trans B.1, fun a k e => ⟨(B.2 a k e).1.trans (A.2 a k e).1, (B.2 a k e).2.trans (A.2 a k e).2⟩⟩
theorem OC.tr {ts : List Nat} {h h1 h2 : AH} (A : OC ts h h1) (B : OC ts h1 h2) : OC ts h h2 := ⟨A.1.trans B.1, fun a k e => ⟨(B.2 a k e).1.trans (A.2 a k e).1, (B.2 a k e).2.trans (A.2 a k e).2⟩⟩
theorem OM.tr {ts : List Nat} {h h1 h2 : AH} (A : OM ts h h1) (B : OM ts h1 h2) : OM ts h h2 := ⟨A.1.trans B.1, fun a k e => ⟨(B.2 a k e).1.trans (A.2 a k e).1, (B.2 a k e).2.trans (A.2 a k e).2⟩⟩
theorem Ex.wk {ts ts' : List Nat} {h h' : AH} (A : Ex ts h h') (s : ∀ t ∈ ts, t ∈ ts') : Ex ts' h h' := ⟨A.1, fun a k e => A.2 a k (fun z => e (s _ z))⟩
theorem OC.wk {ts ts' : List Nat} {h h' : AH} (A : OC ts h h') (s : ∀ t ∈ ts, t ∈ ts') : OC ts' h h' := ⟨A.1, fun a k e => A.2 a k (e.imp id (fun w z => w (s _ z)))⟩
theorem OM.wk {ts ts' : List Nat} {h h' : AH} (A : OM ts h h') (s : ∀ t ∈ ts, t ∈ ts') : OM ts' h h' := ⟨A.1, fun a k e => A.2 a k (e.imp id (fun w z => w (s _ z)))⟩
theorem OC.ex {ts : List Nat} {h h' : AH} (A : OC ts h h') : Ex ts h h' := ⟨A.1, fun a k e => A.2 a k (Or.inr e)⟩
theorem OM.ex {ts : List Nat} {h h' : AH} (A : OM ts h h') : Ex ts h h' := ⟨A.1, fun a k e => A.2 a k (Or.inr e)⟩
theorem Ex.ag {ts : List Nat} {h h' : AH} (A : Ex ts h h') {t : Nat} (n : t ∉ ts) : Ag t h h' := fun a k e => A.2 a k (by rw [e]; exact n)
theorem Ex.lay {ts : List Nat} {h h' : AH} (A : Ex ts h h') (L : Lay h) : Lay h' := A.1.lay L
theorem OC.lay {ts : List Nat} {h h' : AH} (A : OC ts h h') (L : Lay h) : Lay h' := A.1.lay L
theorem OM.lay {ts : List Nat} {h h' : AH} (A : OM ts h h') (L : Lay h) : Lay h' := A.1.lay L
theorem OC.si {ts : List Nat} {h h1 : AH} (A : OC ts h h1) {a k : Nat} {v : Int32} (n : a < 216 ∨ 263 ≤ a) (m : tp a k ∈ ts) : OC ts h (am_si h1 a k v) := ⟨A.1, fun b j e => by
  refine ⟨?_, (A.2 b j e).2⟩
  rw [am_si_gi, if_neg]
  · exact (A.2 b j e).1
  · rintro ⟨rfl, rfl⟩
    rcases e with e | e
    · omega
    · exact e m⟩
theorem OC.sl {ts : List Nat} {h h1 : AH} (A : OC ts h h1) {a k : Nat} {v : Int64} (n : a < 216 ∨ 263 ≤ a) (m : tp a k ∈ ts) : OC ts h (am_sl h1 a k v) := ⟨A.1, fun b j e => by
  refine ⟨(A.2 b j e).1, ?_⟩
  rw [am_sl_gl, if_neg]
  · exact (A.2 b j e).2
  · rintro ⟨rfl, rfl⟩
    rcases e with e | e
    · omega
    · exact e m⟩
theorem OM.si {ts : List Nat} {h h1 : AH} (A : OM ts h h1) {a k : Nat} {v : Int32} (n : 216 ≤ a ∧ a < 263) (m : tp a k ∈ ts) : OM ts h (am_si h1 a k v) := ⟨A.1, fun b j e => by
  refine ⟨?_, (A.2 b j e).2⟩
  rw [am_si_gi, if_neg]
  · exact (A.2 b j e).1
  · rintro ⟨rfl, rfl⟩
    rcases e with e | e
    · omega
    · exact e m⟩
theorem OM.sl {ts : List Nat} {h h1 : AH} (A : OM ts h h1) {a k : Nat} {v : Int64} (n : 216 ≤ a ∧ a < 263) (m : tp a k ∈ ts) : OM ts h (am_sl h1 a k v) := ⟨A.1, fun b j e => by
  refine ⟨(A.2 b j e).1, ?_⟩
  rw [am_sl_gl, if_neg]
  · exact (A.2 b j e).2
  · rintro ⟨rfl, rfl⟩
    rcases e with e | e
    · omega
    · exact e m⟩
theorem OM.gi {ts : List Nat} {h h' : AH} (A : OM ts h h') {a k : Nat} (n : a < 216 ∨ 263 ≤ a) : am_gi h' a k = am_gi h a k := (A.2 a k (Or.inl n)).1
theorem OM.gl {ts : List Nat} {h h' : AH} (A : OM ts h h') {a k : Nat} (n : a < 216 ∨ 263 ≤ a) : am_gl h' a k = am_gl h a k := (A.2 a k (Or.inl n)).2
theorem OC.gi {ts : List Nat} {h h' : AH} (A : OC ts h h') {a k : Nat} (n : 216 ≤ a ∧ a < 263) : am_gi h' a k = am_gi h a k := (A.2 a k (Or.inl n)).1
theorem OC.gl {ts : List Nat} {h h' : AH} (A : OC ts h h') {a k : Nat} (n : 216 ≤ a ∧ a < 263) : am_gl h' a k = am_gl h a k := (A.2 a k (Or.inl n)).2
theorem ICo.ex {L : Nat} {xs : Nat → Int32} {ts : List Nat} {h h' : AH} (I : ICo L xs h) (A : Ex ts h h') (n : 12 ∉ ts) : ICo L xs h' := I.of A.1 (A.ag n)
/-! the invariant's pieces -/
theorem InvN.lay {L : Nat} {xs : Nat → Int32} {c : Nat} {h : AH} {nh nm nr na nt nc : Nat} (I : InvN L xs c h nh nm nr na nt nc) : Lay h := I.1
theorem InvN.ico {L : Nat} {xs : Nat → Int32} {c : Nat} {h : AH} {nh nm nr na nt nc : Nat} (I : InvN L xs c h nh nm nr na nt nc) : ICo L xs h := I.2.1
theorem InvN.ida {L : Nat} {xs : Nat → Int32} {c : Nat} {h : AH} {nh nm nr na nt nc : Nat} (I : InvN L xs c h nh nm nr na nt nc) : IDa h := I.2.2.2.1
theorem InvN.ifa {L : Nat} {xs : Nat → Int32} {c : Nat} {h : AH} {nh nm nr na nt nc : Nat} (I : InvN L xs c h nh nm nr na nt nc) : IFa h := I.2.2.2.2.1
theorem InvN.ifu {L : Nat} {xs : Nat → Int32} {c : Nat} {h : AH} {nh nm nr na nt nc : Nat} (I : InvN L xs c h nh nm nr na nt nc) : IFu h := I.2.2.2.2.2.1
theorem InvN.ist {L : Nat} {xs : Nat → Int32} {c : Nat} {h : AH} {nh nm nr na nt nc : Nat} (I : InvN L xs c h nh nm nr na nt nc) : ISt h := I.2.2.2.2.2.2.1
theorem InvN.iho {L : Nat} {xs : Nat → Int32} {c : Nat} {h : AH} {nh nm nr na nt nc : Nat} (I : InvN L xs c h nh nm nr na nt nc) : IHo h nh := I.2.2.2.2.2.2.2.1
theorem InvN.ime {L : Nat} {xs : Nat → Int32} {c : Nat} {h : AH} {nh nm nr na nt nc : Nat} (I : InvN L xs c h nh nm nr na nt nc) : IMe h nm := I.2.2.2.2.2.2.2.2.1
theorem InvN.iri {L : Nat} {xs : Nat → Int32} {c : Nat} {h : AH} {nh nm nr na nt nc : Nat} (I : InvN L xs c h nh nm nr na nt nc) : IRi h nr := I.2.2.2.2.2.2.2.2.2.1
theorem InvN.ita {L : Nat} {xs : Nat → Int32} {c : Nat} {h : AH} {nh nm nr na nt nc : Nat} (I : InvN L xs c h nh nm nr na nt nc) : ITa h na := I.2.2.2.2.2.2.2.2.2.2.1
theorem InvN.ics {L : Nat} {xs : Nat → Int32} {c : Nat} {h : AH} {nh nm nr na nt nc : Nat} (I : InvN L xs c h nh nm nr na nt nc) : ICs h nc := I.2.2.2.2.2.2.2.2.2.2.2.1
theorem InvN.ix1 {L : Nat} {xs : Nat → Int32} {c : Nat} {h : AH} {nh nm nr na nt nc : Nat} (I : InvN L xs c h nh nm nr na nt nc) : IX1 h nm := I.2.2.2.2.2.2.2.2.2.2.2.2.1
theorem InvN.ix2 {L : Nat} {xs : Nat → Int32} {c : Nat} {h : AH} {nh nm nr na nt nc : Nat} (I : InvN L xs c h nh nm nr na nt nc) : IX2 h nm := I.2.2.2.2.2.2.2.2.2.2.2.2.2.1
theorem InvN.ix3 {L : Nat} {xs : Nat → Int32} {c : Nat} {h : AH} {nh nm nr na nt nc : Nat} (I : InvN L xs c h nh nm nr na nt nc) : IX3 h nh nm nr := I.2.2.2.2.2.2.2.2.2.2.2.2.2.2.1
theorem InvN.itx {L : Nat} {xs : Nat → Int32} {c : Nat} {h : AH} {nh nm nr na nt nc : Nat} (I : InvN L xs c h nh nm nr na nt nc) : ITx h nt c := I.2.2.2.2.2.2.2.2.2.2.2.2.2.2.2.1
theorem InvN.itr {L : Nat} {xs : Nat → Int32} {c : Nat} {h : AH} {nh nm nr na nt nc : Nat} (I : InvN L xs c h nh nm nr na nt nc) : ITr h nr := I.2.2.2.2.2.2.2.2.2.2.2.2.2.2.2.2.1
theorem InvN.ix4 {L : Nat} {xs : Nat → Int32} {c : Nat} {h : AH} {nh nm nr na nt nc : Nat} (I : InvN L xs c h nh nm nr na nt nc) : IX4 h nr := I.2.2.2.2.2.2.2.2.2.2.2.2.2.2.2.2.2
theorem IX3.more {h : AH} {nh nm nr nh' nm' : Nat} (I : IX3 h nh nm nr) (h1 : nh ≤ nh') (h2 : nm ≤ nm') : IX3 h nh' nm' nr := by
  obtain ⟨a, b, c⟩ := I
  refine ⟨fun i hi => ?_, b, c⟩
  obtain ⟨a1, a2, a3, a4, a5⟩ := a i hi
  refine ⟨a1, ⟨a2.1, by have := a2.2; omega⟩, ⟨a3.1, by have := a3.2; omega⟩, a4.imp id (fun z => ⟨z.1, z.2.1, by have := z.2.2.1; omega, z.2.2.2⟩), a5⟩
/-- the invariant behind a call: what has changed is shown anew -/
theorem InvN.up {L : Nat} {xs : Nat → Int32} {c : Nat} {h h' : AH} {nh nm nr na nt nc nh' nm' nr' na' nt' nc' : Nat} {ts : List Nat} (I : InvN L xs c h nh nm nr na nt nc) (E : Ex ts h h')
    (g12 : 12 ∉ ts := by decide)
    (g1 : 1 ∉ ts ∨ IDa h' := by exact Or.inl (by decide))
    (g7 : 7 ∉ ts ∨ IFa h' := by exact Or.inl (by decide))
    (g9 : 9 ∉ ts ∨ IFu h' := by exact Or.inl (by decide))
    (g10 : 10 ∉ ts ∨ ISt h' := by exact Or.inl (by decide))
    (g2 : (2 ∉ ts ∧ nh' = nh) ∨ IHo h' nh' := by exact Or.inl ⟨by decide, rfl⟩)
    (g3 : (3 ∉ ts ∧ nm' = nm) ∨ IMe h' nm' := by exact Or.inl ⟨by decide, rfl⟩)
    (g4 : (4 ∉ ts ∧ nr' = nr) ∨ IRi h' nr' := by exact Or.inl ⟨by decide, rfl⟩)
    (g5 : (5 ∉ ts ∧ na' = na) ∨ ITa h' na' := by exact Or.inl ⟨by decide, rfl⟩)
    (g8 : (8 ∉ ts ∧ nc' = nc) ∨ ICs h' nc' := by exact Or.inl ⟨by decide, rfl⟩)
    (gx1 : (1 ∉ ts ∧ 3 ∉ ts ∧ nm' = nm) ∨ IX1 h' nm' := by exact Or.inl ⟨by decide, by decide, rfl⟩)
    (gx2 : (2 ∉ ts ∧ 3 ∉ ts ∧ nm' = nm) ∨ IX2 h' nm' := by exact Or.inl ⟨by decide, by decide, rfl⟩)
    (gx3 : (1 ∉ ts ∧ 4 ∉ ts ∧ nh ≤ nh' ∧ nm ≤ nm' ∧ nr' = nr) ∨ IX3 h' nh' nm' nr' := by exact Or.inl ⟨by decide, by decide, by omega, by omega, rfl⟩)
    (g6 : (6 ∉ ts ∧ nt' = nt) ∨ ITx h' nt' (c + 1) := by exact Or.inl ⟨by decide, rfl⟩)
    (g11 : (4 ∉ ts ∧ 6 ∉ ts ∧ 11 ∉ ts ∧ nr' = nr) ∨ ITr h' nr' := by exact Or.inl ⟨by decide, by decide, by decide, rfl⟩)
    (gx4 : (1 ∉ ts ∧ 2 ∉ ts ∧ 4 ∉ ts ∧ nr' = nr) ∨ IX4 h' nr' := by exact Or.inl ⟨by decide, by decide, by decide, rfl⟩) :
    InvN L xs (c + 1) h' nh' nm' nr' na' nt' nc' := by
  obtain ⟨i1, i2, ⟨i3, i4⟩, i5, i6, i7, i8, i9, i10, i11, i12, i13, i14, i15, i16, i17, i18, i19⟩ := I
  refine ⟨E.lay i1, i2.ex E g12, ⟨by rw [E.1.1]; omega, by rw [E.1.2.1]; omega⟩, ?_, ?_, ?_, ?_, ?_, ?_, ?_, ?_, ?_, ?_, ?_, ?_, ?_, ?_, ?_⟩
  · exact g1.elim (fun z => i5.of (E.ag z)) id
  · exact g7.elim (fun z => i6.of (E.ag z)) id
  · exact g9.elim (fun z => i7.of (E.ag z)) id
  · exact g10.elim (fun z => i8.of (E.ag z)) id
  · exact g2.elim (fun z => by rw [z.2]; exact i9.of (E.ag z.1)) id
  · exact g3.elim (fun z => by rw [z.2]; exact i10.of (E.ag z.1)) id
  · exact g4.elim (fun z => by rw [z.2]; exact i11.of (E.ag z.1)) id
  · exact g5.elim (fun z => by rw [z.2]; exact i12.of (E.ag z.1)) id
  · exact g8.elim (fun z => by rw [z.2]; exact i13.of (E.ag z.1)) id
  · exact gx1.elim (fun z => by rw [z.2.2]; exact i14.of (E.ag z.1) (E.ag z.2.1)) id
  · exact gx2.elim (fun z => by rw [z.2.2]; exact i15.of (E.ag z.1) (E.ag z.2.1)) id
  · exact gx3.elim (fun z => by rw [z.2.2.2.2]; exact (i16.of (E.ag z.1) (E.ag z.2.1)).more z.2.2.1 z.2.2.2.1) id
  · exact g6.elim (fun z => by rw [z.2]; exact (i17.of E.1.t (E.ag z.1)).more (Nat.le_succ _)) id
  · exact g11.elim (fun z => by rw [z.2.2.2]; exact i18.of E.1 (E.ag z.2.2.1) (E.ag z.2.1) (E.ag z.1)) id
  · exact gx4.elim (fun z => by rw [z.2.2.2]; exact i19.of (E.ag z.1) (E.ag z.2.1) (E.ag z.2.2.1)) id
theorem InvN.sc {L : Nat} {xs : Nat → Int32} {c : Nat} {h h' : AH} {nh nm nr na nt nc : Nat} (I : InvN L xs c h nh nm nr na nt nc) (E : Ex [0] h h') : Inv L xs (c + 1) h' := ⟨nh, nm, nr, na, nt, nc, I.up E⟩
/-- a call's two runs: the class's, then the reference's; the answers are the same and the invariant holds -/
def OPi (Mc Mr : Nat) (as : List Value) (L : Nat) (xs : Nat → Int32) (c : Nat) (h : AH) : Prop := Cl 700 Mc (.ref 6 :: as) h (fun r h1 => ∃ x : Int32, r = some (.int x) ∧ Lay h1 ∧ ICo L xs h1 ∧ Cl 700 Mr (.ref 216 :: as) h1 (fun r2 h2 => r2 = some (.int x) ∧ Inv L xs (c + 1) h2))
def OPl (Mc Mr : Nat) (as : List Value) (L : Nat) (xs : Nat → Int32) (c : Nat) (h : AH) : Prop := Cl 700 Mc (.ref 6 :: as) h (fun r h1 => ∃ x : Int64, r = some (.long x) ∧ Lay h1 ∧ ICo L xs h1 ∧ Cl 700 Mr (.ref 216 :: as) h1 (fun r2 h2 => r2 = some (.long x) ∧ Inv L xs (c + 1) h2))
/-- both only answer, or leave behind what none reads -/
theorem OPi.rd {Mc Mr : Nat} {as : List Value} {L : Nat} {xs : Nat → Int32} {c : Nat} {h : AH} {nh nm nr na nt nc : Nat} (I : InvN L xs c h nh nm nr na nt nc) {x : Int32} {d d' : Nat} (H1 : Cl d Mc (.ref 6 :: as) h (fun r h1 => r = some (.int x) ∧ Ex [0] h h1)) (H2 : ∀ h1, Ex [0] h h1 → Cl d' Mr (.ref 216 :: as) h1 (fun r h2 => r = some (.int x) ∧ Ex [0] h1 h2)) (hd : d ≤ 700 := by decide) (hd' : d' ≤ 700 := by decide) : OPi Mc Mr as L xs c h :=
  Cl.mono H1 hd (fun _ h1 q => ⟨x, q.1, q.2.lay I.lay, I.ico.ex q.2 (by decide), Cl.mono (H2 h1 q.2) hd' (fun _ _ q2 => ⟨q2.1, I.sc (q.2.tr q2.2)⟩)⟩)
theorem OPl.rd {Mc Mr : Nat} {as : List Value} {L : Nat} {xs : Nat → Int32} {c : Nat} {h : AH} {nh nm nr na nt nc : Nat} (I : InvN L xs c h nh nm nr na nt nc) {x : Int64} {d d' : Nat} (H1 : Cl d Mc (.ref 6 :: as) h (fun r h1 => r = some (.long x) ∧ Ex [0] h h1)) (H2 : ∀ h1, Ex [0] h h1 → Cl d' Mr (.ref 216 :: as) h1 (fun r h2 => r = some (.long x) ∧ Ex [0] h1 h2)) (hd : d ≤ 700 := by decide) (hd' : d' ≤ 700 := by decide) : OPl Mc Mr as L xs c h :=
  Cl.mono H1 hd (fun _ h1 q => ⟨x, q.1, q.2.lay I.lay, I.ico.ex q.2 (by decide), Cl.mono (H2 h1 q.2) hd' (fun _ _ q2 => ⟨q2.1, I.sc (q.2.tr q2.2)⟩)⟩)
/-- both only answer -/
theorem OPi.pf {Mc Mr : Nat} {as : List Value} {L : Nat} {xs : Nat → Int32} {c : Nat} {h : AH} {nh nm nr na nt nc : Nat} (I : InvN L xs c h nh nm nr na nt nc) {x : Int32} {d d' : Nat} (H1 : PF d Mc (.ref 6 :: as) h (.int x)) (H2 : PF d' Mr (.ref 216 :: as) h (.int x)) (hd : d ≤ 700 := by decide) (hd' : d' ≤ 700 := by decide) : OPi Mc Mr as L xs c h :=
  Cl.mono H1 hd (fun r h1 q => by
    obtain ⟨q1, rfl⟩ := q
    exact ⟨x, q1, I.lay, I.ico, Cl.mono H2 hd' (fun _ _ q2 => ⟨q2.1, by rw [q2.2]; exact I.sc (Ex.rf _ _)⟩)⟩)
theorem OPl.pf {Mc Mr : Nat} {as : List Value} {L : Nat} {xs : Nat → Int32} {c : Nat} {h : AH} {nh nm nr na nt nc : Nat} (I : InvN L xs c h nh nm nr na nt nc) {x : Int64} {d d' : Nat} (H1 : PF d Mc (.ref 6 :: as) h (.long x)) (H2 : PF d' Mr (.ref 216 :: as) h (.long x)) (hd : d ≤ 700 := by decide) (hd' : d' ≤ 700 := by decide) : OPl Mc Mr as L xs c h :=
  Cl.mono H1 hd (fun r h1 q => by
    obtain ⟨q1, rfl⟩ := q
    exact ⟨x, q1, I.lay, I.ico, Cl.mono H2 hd' (fun _ _ q2 => ⟨q2.1, by rw [q2.2]; exact I.sc (Ex.rf _ _)⟩)⟩)
/-- both change the heap, each in a way that is written out -/
theorem OPi.gf {Mc Mr : Nat} {as : List Value} {L : Nat} {xs : Nat → Int32} {c : Nat} {h h1 h2 : AH} {x : Int32} {ts : List Nat} {d d' : Nat} (Ly : Lay h) (Ic : ICo L xs h) (H1 : GF d Mc (.ref 6 :: as) h (some (.int x)) h1) (E : Ex ts h h1) (H2 : GF d' Mr (.ref 216 :: as) h1 (some (.int x)) h2) (J : Inv L xs (c + 1) h2) (n : 12 ∉ ts := by decide) (hd : d ≤ 700 := by decide) (hd' : d' ≤ 700 := by decide) : OPi Mc Mr as L xs c h :=
  Cl.mono H1 hd (fun r h1' q => by
    obtain ⟨q1, rfl⟩ := q
    exact ⟨x, q1, E.lay Ly, Ic.ex E n, Cl.mono H2 hd' (fun _ _ q2 => ⟨q2.1, by rw [q2.2]; exact J⟩)⟩)
theorem OPl.gf {Mc Mr : Nat} {as : List Value} {L : Nat} {xs : Nat → Int32} {c : Nat} {h h1 h2 : AH} {x : Int64} {ts : List Nat} {d d' : Nat} (Ly : Lay h) (Ic : ICo L xs h) (H1 : GF d Mc (.ref 6 :: as) h (some (.long x)) h1) (E : Ex ts h h1) (H2 : GF d' Mr (.ref 216 :: as) h1 (some (.long x)) h2) (J : Inv L xs (c + 1) h2) (n : 12 ∉ ts := by decide) (hd : d ≤ 700 := by decide) (hd' : d' ≤ 700 := by decide) : OPl Mc Mr as L xs c h :=
  Cl.mono H1 hd (fun r h1' q => by
    obtain ⟨q1, rfl⟩ := q
    exact ⟨x, q1, E.lay Ly, Ic.ex E n, Cl.mono H2 hd' (fun _ _ q2 => ⟨q2.1, by rw [q2.2]; exact J⟩)⟩)
/-! reading what was written -/
theorem gi_ne {h : AH} {a k b j : Nat} {v : Int32} (n : b ≠ a ∨ j ≠ k) : am_gi (am_si h a k v) b j = am_gi h b j := by rw [am_si_gi, if_neg (fun z => n.elim (fun w => w z.1) (fun w => w z.2))]
theorem gi_eq {h : AH} {a k : Nat} {v : Int32} : am_gi (am_si h a k v) a k = v := by rw [am_si_gi, if_pos ⟨rfl, rfl⟩]
theorem gl_ne {h : AH} {a k b j : Nat} {v : Int64} (n : b ≠ a ∨ j ≠ k) : am_gl (am_sl h a k v) b j = am_gl h b j := by rw [am_sl_gl, if_neg (fun z => n.elim (fun w => w z.1) (fun w => w z.2))]
theorem gl_eq {h : AH} {a k : Nat} {v : Int64} : am_gl (am_sl h a k v) a k = v := by rw [am_sl_gl, if_pos ⟨rfl, rfl⟩]
theorem gi_sl {h : AH} {a k b j : Nat} {v : Int64} : am_gi (am_sl h a k v) b j = am_gi h b j := rfl
theorem gl_si {h : AH} {a k b j : Nat} {v : Int32} : am_gl (am_si h a k v) b j = am_gl h b j := rfl
theorem n10 : ((1 : Int32) = 0) = False := by decide
