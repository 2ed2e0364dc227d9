/-! THE CLASS'S ORDER once more, over an invariant that says nothing of what is on offer and of refusals (so that it holds while an offer is being made) -/
def IHoK (h : AH) (n : Nat) : Prop := n ≤ 12 ∧ am_gi h 6 2 = zI n ∧ am_gi h 216 1 = zI n ∧ True ∧ (∀ i, i < n → am_gi h (112 + i) 0 = am_gi h 217 i ∧ am_gi h (112 + i) 1 = am_gi h 218 i ∧ am_gi h (112 + i) 2 = am_gi h 219 i)
def InvK (L : Nat) (xs : Nat → Int32) (c : Nat) (h : AH) (nh nm nr na nt nc : Nat) : Prop := Lay h ∧ ICo L xs h ∧ (am_sz h ≤ 263 + 2 * c ∧ am_sn h ≤ 100000 + 800 * c) ∧ IDa h ∧ IHoK h nh ∧ IMe h nm ∧ ITx h nt c
theorem InvN.k {L : Nat} {xs : Nat → Int32} {c : Nat} {h : AH} {nh nm nr na nt nc : Nat} (I : InvN L xs c h nh nm nr na nt nc) : InvK L xs c h nh nm nr na nt nc := ⟨I.lay, I.ico, I.2.2.1, I.ida, ⟨I.iho.1, I.iho.2.1, I.iho.2.2.1, trivial, I.iho.2.2.2.2⟩, I.ime, I.itx⟩
theorem InvK.lay {L : Nat} {xs : Nat → Int32} {c : Nat} {h : AH} {nh nm nr na nt nc : Nat} (I : InvK L xs c h nh nm nr na nt nc) : Lay h := I.1
theorem InvK.ico {L : Nat} {xs : Nat → Int32} {c : Nat} {h : AH} {nh nm nr na nt nc : Nat} (I : InvK L xs c h nh nm nr na nt nc) : ICo L xs h := I.2.1
theorem InvK.ida {L : Nat} {xs : Nat → Int32} {c : Nat} {h : AH} {nh nm nr na nt nc : Nat} (I : InvK L xs c h nh nm nr na nt nc) : IDa h := I.2.2.2.1
theorem InvK.iho {L : Nat} {xs : Nat → Int32} {c : Nat} {h : AH} {nh nm nr na nt nc : Nat} (I : InvK L xs c h nh nm nr na nt nc) : IHoK h nh := I.2.2.2.2.1
theorem InvK.ime {L : Nat} {xs : Nat → Int32} {c : Nat} {h : AH} {nh nm nr na nt nc : Nat} (I : InvK L xs c h nh nm nr na nt nc) : IMe h nm := I.2.2.2.2.2.1
theorem InvK.itx {L : Nat} {xs : Nat → Int32} {c : Nat} {h : AH} {nh nm nr na nt nc : Nat} (I : InvK L xs c h nh nm nr na nt nc) : ITx h nt c := I.2.2.2.2.2.2
theorem IHoK.of {h h' : AH} {n : Nat} (I : IHoK h n) (A : Ag 2 h h') : IHoK h' n := by
  obtain ⟨a, b, c, e, f⟩ := I
  refine ⟨a, by rw [(A 6 2 rfl).1]; exact b, by rw [(A 216 1 rfl).1]; exact c, e, fun i hi => ?_⟩
  have hi' : i < 12 := by omega
  rw [(A (112 + i) 0 (tp_home hi')).1, (A (112 + i) 1 (tp_home hi')).1, (A (112 + i) 2 (tp_home hi')).1, (A 217 i rfl).1, (A 218 i rfl).1, (A 219 i rfl).1]; exact f i hi
theorem InvK.keep {L : Nat} {xs : Nat → Int32} {c : Nat} {h h' : AH} {nh nm nr na nt nc : Nat} (I : InvK L xs c h nh nm nr na nt nc) (E : Ex [0] h h') : InvK L xs c h' nh nm nr na nt nc := by
  have A : ∀ t, t ≠ 0 → Ag t h h' := fun t ht => E.ag (fun z => ht (List.mem_singleton.mp z))
  obtain ⟨i1, i2, ⟨i3, i4⟩, i5, i9, i10, i17⟩ := I
  exact ⟨E.lay i1, i2.ex E (by decide), ⟨by rw [E.1.1]; exact i3, by rw [E.1.2.1]; exact i4⟩, i5.of (A 1 (by decide)), i9.of (A 2 (by decide)), i10.of (A 3 (by decide)), i17.of E.1.t (A 6 (by decide))⟩
theorem p77x_k {L : Nat} {xs : Nat → Int32} {c : Nat} {h : AH} {nh nm nr na nt nc : Nat} (I : InvK L xs c h nh nm nr na nt nc) {x : Int32} (hx : inN x nt) : PF 0 77 [.ref (148 + 4 * Int32.toNatClampNeg x)] h (.int (bI (¬ am_gi h 240 (Int32.toNatClampNeg x) = (0 : Int32)))) :=
  (p77 I.lay (by have := inN_tn hx; have := I.itx.1; omega)).c (I.itx.2.2.2.2.1 _ (inN_tn hx)).1.ca
theorem p78_k {L : Nat} {xs : Nat → Int32} {c : Nat} {h : AH} {nh nm nr na nt nc : Nat} (I : InvK L xs c h nh nm nr na nt nc) {t : Nat} (ht : t < nt) (d : Int32) : PF 1 78 [.ref (148 + 4 * t), .int d] h (.int (bI ((¬ am_gi h 240 t = 0) ∧ am_gi h 241 t = 0 ∧ ¬ d < am_gi h 242 t))) := by
  have b := I.itx.1
  have T := (I.itx.2.2.2.2.1 t ht).1
  refine ws78 (by omega) _ I.lay (Cl.i ((p77 I.lay (by omega)).c T.ca) (by decide) I.lay ⟨fun z => ⟨?_, rfl⟩, fun z => ⟨fun y => ⟨?_, rfl⟩, fun y => ⟨fun x => ⟨?_, rfl⟩, fun x => ⟨?_, rfl⟩⟩⟩⟩)
  · rw [bI_f]; exact fun w => bI_0.mp z w.1
  · rw [T.2.2.1.1] at y; rw [bI_f]; exact fun w => y w.2.1
  · rw [T.2.2.2.2.1] at x; rw [bI_f]; exact fun w => w.2.2 x
  · rw [T.2.2.1.1] at y; rw [T.2.2.2.2.1] at x; rw [bI_t]; exact ⟨bI_n0.mp z, Decidable.not_not.mp y, x⟩
theorem l154_k {L : Nat} {xs : Nat → Int32} {c : Nat} {h : AH} {nh nm nr na nt nc : Nat} (I : InvK L xs c h nh nm nr na nt nc) (d : Int32) : ∀ m i a, i + m = nt → a < nt → (¬ am_gi h 240 a = 0) → Ev 2 154 4 [.ref 6, .int d, .int (zI a), .int (zI i)] [] h (fun r h' => r = some (.int (zI (fold (tStep h d) a i m))) ∧ h' = h)
  | 0, i, a, e, ha, hc => ws154_4 _ _ _ I.lay ⟨fun _ => ⟨rfl, rfl⟩, fun z => absurd (by rw [I.itx.2.1, ← e]; exact Int32.le_refl _) z⟩
  | m + 1, i, a, e, ha, hc => by
    have b := I.itx.1
    have hi : i < nt := by omega
    have cr : ∀ t, t < nt → (¬ am_gi h 240 t = 0) → am_gi h (148 + 4 * t) 6 = am_gi h 243 t := fun t ht q => (I.itx.2.2.2.2.1 t ht).1.2.2.2.1.elim (fun z => z.2.1) (fun z => absurd z.1 q)
    have i12 : am_in (zI i) 12 := in_zI (by omega) (by decide)
    refine ws154_4 _ _ _ I.lay ⟨fun z => absurd z (by rw [I.itx.2.1, zI_le (by omega) (by omega)]; omega), fun _ => ⟨i12, ?_⟩⟩
    rw [zI_tn (by omega), zI_tn (by omega), zI_succ]
    show Cl _ _ _ _ _
    have ef : fold (tStep h d) a i (m + 1) = fold (tStep h d) (tStep h d a i) (i + 1) m := rfl
    rw [ef]
    refine Cl.i (p78_k I hi d) (by decide) I.lay ⟨fun z => ?_, fun z => ⟨i12, in_zI (by omega) (by decide), ?_⟩⟩
    · have : tStep h d a i = a := by unfold tStep; rw [if_neg (fun w => bI_0.mp z ⟨w.1, w.2.1, w.2.2.1⟩)]
      rw [this]; exact l154_k I d m (i + 1) a (by omega) ha hc
    · have q := bI_n0.mp z
      rw [cr i hi q.1, cr a ha hc]
      refine ⟨fun y => ?_, fun y => ?_⟩
      · have : tStep h d a i = a := by unfold tStep; rw [if_neg (fun w => w.2.2.2 y)]
        rw [this]; exact l154_k I d m (i + 1) a (by omega) ha hc
      · have : tStep h d a i = i := by unfold tStep; rw [if_pos ⟨q.1, q.2.1, q.2.2, y⟩]
        rw [this]; exact l154_k I d m (i + 1) i (by omega) hi q.1
theorem p154_k {L : Nat} {xs : Nat → Int32} {c : Nat} {h : AH} {nh nm nr na nt nc : Nat} (I : InvK L xs c h nh nm nr na nt nc) (d : Int32) : PF 2 154 [.ref 6, .int d] h (.int (zI (tOn h nt d))) := by
  have b := I.itx.1
  have e : tOn h nt d = fold (tStep h d) 0 1 (nt - 1) := by
    unfold tOn
    obtain ⟨k, rfl⟩ : ∃ k, nt = k + 1 := ⟨nt - 1, by omega⟩
    show fold (tStep h d) (tStep h d 0 0) (0 + 1) k = _
    rw [tStep0]; rfl
  rw [e]
  exact ws154 _ I.lay (l154_k I d (nt - 1) 1 0 (by omega) (by omega) (by rw [I.itx.2.2.2.2.2.1.1]; decide))
theorem c70_k {L : Nat} {xs : Nat → Int32} {c : Nat} {h : AH} {nh nm nr na nt nc : Nat} (I : InvK L xs c h nh nm nr na nt nc) {t k : Nat} (ht : t < nt) (hk : k < 4) {nmf : Nat → Int64} (NM : ∀ w : Int32, 0 ≤ w.toInt → w.toInt < 8 → alw k w → am_gl h 76 w.toNatClampNeg = nmf w.toNatClampNeg) : Cl 3 70 [.ref 75, .ref (148 + 4 * t), .int (zI k)] h (fun r h' => r = some (.long (wth h t k nmf)) ∧ SW h h') := by
  have Ly := I.lay
  have b := I.itx.1
  obtain ⟨bb, p, a1, a2, a3, a4, a5, a6, a8, a9⟩ := (I.itx.2.2.2.2.1 t ht).2.2
  have M := a9.mono hk
  have ek : am_gi h 239 (5 * t + k) = zI (p k) := (a8 k (by omega)).2
  have ek1 : am_gi h 239 (5 * t + k + 1) = zI (p (k + 1)) := (a8 (k + 1) (by omega)).2
  refine ws70 (by omega) _ Ly (fun h0 e0 => ?_)
  subst e0
  rw [zI_succ, zI_tn (by omega), zI_tn (by omega)]
  refine ⟨in_zI (by omega) (by decide), bb, a1, by show 100 ≤ am_kd h bb ∧ am_kd h bb ≤ 109; rw [a5]; decide, ?_⟩
  rw [gi_ne (by omega), (a8 (k + 1) (by omega)).1]
  show Cl 2 265 [.int (zI (p (k + 1))), .int (Int32.ofNat (am_ln h bb))] _ _
  rw [a6]
  refine Cl.i (p265 M.2.1 (by omega)) (by decide) (Ly.si _ _ _) ⟨in_zI (by omega) (by decide), ?_⟩
  rw [gi_ne (by omega), (a8 k (by omega)).1]
  have ev : wth h t k nmf = hd0 (evs nmf (fun i => am_gi h 237 (400 * t + i)) (fun i => am_gi h 238 (400 * t + i)) [] (p k) (p (k + 1) - p k)) := by
    unfold wth; rw [ek, ek1, zI_tn (by omega), zI_tn (by omega)]
  rw [ev]
  have q := l70 (t := t) (nm := nmf) (by omega) a3 M.2.2 a9.2.1 (p (k + 1) - p k) (p k) [] (am_si h 75 2 0) (by omega) (Ly.si _ _ _) a1 a5 a6 (fun j _ => gi_ne (by omega)) (fun j g1 g2 g3 => ?_) ⟨by rw [gi_eq]; rfl, trivial⟩ (by decide) (a9.2.2 k hk).1
  · rw [show p k + (p (k + 1) - p k) = p (k + 1) by omega] at q
    exact Ev.mono q (Nat.le_refl _) (fun r h' z => ⟨z.1, ((SW.rf h).si).tr z.2⟩)
  · have al := (a9.2.2 k hk).2 j g1 (by omega) g3
    have cr := a9.2.1 j (by omega)
    have g3' : am_gi h 237 (400 * t + j) = 1 := g3
    rcases cr with y | y | y
    · exact absurd (y.1.symm.trans g3') (by decide)
    · exact NM _ y.2.1 y.2.2.1 al
    · have y1 : 2 ≤ (am_gi h 237 (400 * t + j)).toInt := y.1
      have : (am_gi h 237 (400 * t + j)).toInt = 1 := by rw [g3']; rfl
      exact absurd y1 (by omega)
theorem c158_k {L : Nat} {xs : Nat → Int32} {c : Nat} {h : AH} {nh nm nr na nt nc : Nat} (I : InvK L xs c h nh nm nr na nt nc) {hm : Nat} (hh : hm < nh) (m : Nat) : Cl 0 158 [.ref 6, .int (zI hm)] h (fun r h' => r = none ∧ (am_gl h' 76 2 = nmF h nm m hm 2 ∧ am_gl h' 76 5 = nmF h nm m hm 5 ∧ am_gl h' 76 6 = nmF h nm m hm 6 ∧ am_gl h' 76 0 = am_gl h 76 0 ∧ am_gl h' 76 1 = am_gl h 76 1 ∧ am_gl h' 76 3 = am_gl h 76 3 ∧ am_gl h' 76 4 = am_gl h 76 4) ∧ S76 h h') := by
  have b := I.iho.1
  have q := I.iho.2.2.2.2 hm hh
  refine ws158 _ I.lay ⟨in_zI (by omega) (by decide), in8 2 (by decide), ?_⟩
  rw [zI_tn (by omega), tn_lit.2.2.1, tn_lit.2.2.2.2.2.1, tn_lit.2.2.2.2.2.2.1]
  intro k1 e1; subst e1
  refine ⟨in8 5 (by decide), ?_⟩
  intro k2 e2; subst e2
  refine ⟨in8 6 (by decide), ?_⟩
  intro k3 e3; subst e3
  refine ⟨rfl, ⟨?_, ?_, ?_, ?_, ?_, ?_, ?_⟩, ((S76.rf h).sl.sl).sl⟩
  · rw [gl_ne (by omega), gl_ne (by omega), gl_eq, q.2.1]
    unfold nmF; rw [if_neg (by decide), if_neg (by decide), if_pos rfl]
  · rw [gl_ne (by omega), gl_eq, gi_sl, q.1]
    unfold nmF; rw [if_neg (by decide), if_neg (by decide), if_neg (by decide), if_neg (by decide), if_neg (by decide), if_pos rfl]
  · rw [gl_eq, gi_sl, gi_sl, q.2.2]
    unfold nmF; rw [if_neg (by decide), if_neg (by decide), if_neg (by decide), if_neg (by decide), if_neg (by decide), if_neg (by decide), if_pos rfl]
  · rw [gl_ne (by omega), gl_ne (by omega), gl_ne (by omega)]
  · rw [gl_ne (by omega), gl_ne (by omega), gl_ne (by omega)]
  · rw [gl_ne (by omega), gl_ne (by omega), gl_ne (by omega)]
  · rw [gl_ne (by omega), gl_ne (by omega), gl_ne (by omega)]
theorem c157_k {L : Nat} {xs : Nat → Int32} {c : Nat} {h : AH} {nh nm nr na nt nc : Nat} (I : InvK L xs c h nh nm nr na nt nc) {m : Nat} (hm' : m < nm) (hm : Nat) : Cl 2 157 [.ref 6, .int (zI m)] h (fun r h' => r = none ∧ (am_gl h' 76 0 = nmF h nm m hm 0 ∧ am_gl h' 76 1 = nmF h nm m hm 1 ∧ am_gl h' 76 3 = nmF h nm m hm 3 ∧ am_gl h' 76 4 = nmF h nm m hm 4 ∧ am_gl h' 76 2 = am_gl h 76 2 ∧ am_gl h' 76 5 = am_gl h 76 5 ∧ am_gl h' 76 6 = am_gl h 76 6) ∧ S76 h h') := by
  have b := I.ime.1
  have q := I.ime.2.2.2.2.1 m hm'
  have q2 := I.ime.2.2.2.1 m (by omega)
  have main : ∀ v : Int64, v = nmF h nm m hm 0 → Ev 2 157 36 [.ref 6, .null, .ref (124 + m)] [.long v, .int 0, .ref 76] h (fun r h' => r = none ∧ (am_gl h' 76 0 = nmF h nm m hm 0 ∧ am_gl h' 76 1 = nmF h nm m hm 1 ∧ am_gl h' 76 3 = nmF h nm m hm 3 ∧ am_gl h' 76 4 = nmF h nm m hm 4 ∧ am_gl h' 76 2 = am_gl h 76 2 ∧ am_gl h' 76 5 = am_gl h 76 5 ∧ am_gl h' 76 6 = am_gl h 76 6) ∧ S76 h h') := fun v ev => by
    refine ws157_36 (by omega) _ _ I.lay ⟨in8 0 (by decide), ?_⟩
    rw [tn_lit.1, tn_lit.2.1, tn_lit.2.2.2.1, tn_lit.2.2.2.2.1]
    intro k1 e1; subst e1
    refine ⟨in8 1 (by decide), ?_⟩
    intro k2 e2; subst e2
    refine ⟨in8 3 (by decide), ?_⟩
    intro k3 e3; subst e3
    refine ⟨in8 4 (by decide), ?_⟩
    intro k4 e4; subst e4
    refine ⟨rfl, ⟨?_, ?_, ?_, ?_, ?_, ?_, ?_⟩, ((S76.rf h).sl.sl.sl).sl⟩
    · rw [gl_ne (by omega), gl_ne (by omega), gl_ne (by omega), gl_eq]; exact ev
    · rw [gl_ne (by omega), gl_ne (by omega), gl_eq, gi_sl, q.1]
      unfold nmF; rw [if_neg (by decide), if_pos rfl]
    · rw [gl_ne (by omega), gl_eq, gi_sl, gi_sl, gi_sl, gi_sl, q.2.1, I.ida.1]
      unfold nmF; rw [if_neg (by decide), if_neg (by decide), if_neg (by decide), if_pos rfl]
    · rw [gl_eq, gl_ne (by omega), gl_ne (by omega), gl_ne (by omega), q2.2.2]
      unfold nmF; rw [if_neg (by decide), if_neg (by decide), if_neg (by decide), if_neg (by decide), if_pos rfl]
    · rw [gl_ne (by omega), gl_ne (by omega), gl_ne (by omega), gl_ne (by omega)]
    · rw [gl_ne (by omega), gl_ne (by omega), gl_ne (by omega), gl_ne (by omega)]
    · rw [gl_ne (by omega), gl_ne (by omega), gl_ne (by omega), gl_ne (by omega)]
  refine ws157 _ I.lay ⟨in_zI (by omega) (by decide), ?_⟩
  rw [zI_tn (by omega)]
  refine Cl.i (p23 I.lay (by omega)) (by decide) I.lay ⟨fun z => main _ ?_, fun z => main _ ?_⟩
  · rw [bI_0, q.2.2.2] at z
    unfold nmF; rw [if_pos rfl, if_pos (Decidable.not_not.mp z)]
  · rw [bI_n0, q.2.2.2] at z
    unfold nmF; rw [if_pos rfl, if_neg z, q.2.2.2, I.ida.1]
theorem c70n_k {L : Nat} {xs : Nat → Int32} {c : Nat} {h : AH} {nh nm nr na nt nc : Nat} (I : InvK L xs c h nh nm nr na nt nc) {m hm k : Nat} (hk : k < 2) (N : ∀ w, w < 7 → am_gl h 76 w = nmF h nm m hm w) : Cl 3 70 [.ref 75, .ref (148 + 4 * tOn h nt (am_gi h 216 0)), .int (zI k)] h (fun r h' => r = some (.long (PT h nt nm m hm k)) ∧ SW h h') :=
  c70_k I (tOn_lt I.itx.1.1) (by omega) (fun w h0 h8 al => by
    have : w.toInt < 7 := by unfold alw at al; rw [if_pos hk] at al; exact al
    exact N _ (by rw [tn_of h0]; omega))
theorem tOn12_k {L : Nat} {xs : Nat → Int32} {c : Nat} {h : AH} {nh nm nr na nt nc : Nat} (I : InvK L xs c h nh nm nr na nt nc) : tOn h nt (am_gi h 216 0) < 12 := by
  have := tOn_lt (h := h) (d := am_gi h 216 0) I.itx.1.1; have := I.itx.1; omega
theorem l161_k {L : Nat} {xs : Nat → Int32} {c : Nat} {h : AH} {nh nm nr na nt nc : Nat} (I : InvK L xs c h nh nm nr na nt nc) {hm : Nat} (lo : Int32) : ∀ m i h1, i + m = nm → Ex [0] h h1 → (am_gl h1 76 2 = nmF h nm 0 hm 2 ∧ am_gl h1 76 5 = nmF h nm 0 hm 5 ∧ am_gl h1 76 6 = nmF h nm 0 hm 6) → (∀ j, j < i → qL h nt nm hm lo j = true → am_gl h1 79 j = PT h nt nm j hm 0) → Ev 6 161 25 [.ref 6, .null, .int lo, .ref (148 + 4 * tOn h nt (am_gi h 216 0)), .int (bset (qL h nt nm hm lo) i), .int (zI i)] [] h1 (fun r h' => r = some (.int (bset (qL h nt nm hm lo) nm)) ∧ Ex [0] h h' ∧ ∀ j, j < nm → qL h nt nm hm lo j = true → am_gl h' 79 j = PT h nt nm j hm 0)
  | 0, i, h1, e, E, N, P => by
    have e' : i = nm := by omega
    subst e'
    have I1 := I.keep E
    exact ws161_25 (tOn12_k I) _ _ _ I1.lay ⟨fun _ => ⟨rfl, E, P⟩, fun z => absurd (by rw [I1.ime.2.1]; exact Int32.le_refl _) z⟩
  | m + 1, i, h1, e, E, N, P => by
    have b2 := I.ime.1
    have hi : i < nm := by omega
    have I1 := I.keep E
    have A3 := E.ag (t := 3) (by decide)
    have q3 : am_gi h1 (124 + i) 3 = am_gi h 225 i := by rw [(I1.ime.2.2.2.2.1 i hi).2.2.2, (A3 225 i rfl).1]
    have i24 : am_in (zI i) 24 := in_zI (by omega) (by decide)
    have skip : ∀ h2, Ex [0] h h2 → (am_gl h2 76 2 = nmF h nm 0 hm 2 ∧ am_gl h2 76 5 = nmF h nm 0 hm 5 ∧ am_gl h2 76 6 = nmF h nm 0 hm 6) → (∀ j, am_gl h2 79 j = am_gl h1 79 j) → qL h nt nm hm lo i = false → Ev 6 161 25 [.ref 6, .null, .int lo, .ref (148 + 4 * tOn h nt (am_gi h 216 0)), .int (bset (qL h nt nm hm lo) i), .int (zI (i + 1))] [] h2 (fun r h' => r = some (.int (bset (qL h nt nm hm lo) nm)) ∧ Ex [0] h h' ∧ ∀ j, j < nm → qL h nt nm hm lo j = true → am_gl h' 79 j = PT h nt nm j hm 0) := fun h2 E2 N2 P2 z => by
      rw [← bset_s0 z]
      exact l161_k I lo m (i + 1) h2 (by omega) E2 N2 (fun j hj qj => by
        by_cases ej : j = i
        · rw [ej, z] at qj; cases qj
        · rw [P2]; exact P j (by omega) qj)
    refine ws161_25 (tOn12_k I) _ _ _ I1.lay ⟨fun z => absurd z (by rw [I1.ime.2.1, zI_le (by omega) (by omega)]; omega), fun _ => ⟨i24, ?_⟩⟩
    rw [zI_tn (by omega), zI_succ]
    refine Cl.i (p23 I1.lay (by omega)) (by decide) I1.lay ⟨fun z => ?_, fun z => ⟨fun y => ?_, fun y => ?_⟩⟩
    · rw [bI_0, q3] at z
      exact skip h1 E N (fun _ => rfl) (by unfold qL waitP; rw [decide_eq_true_iff.mpr (Decidable.not_not.mp z)]; rfl)
    · rw [bI_n0, q3] at z
      have y' : tb lo i = false := (bq_0 (by omega)).mp y
      have wt : waitP h i = true := by unfold waitP; rw [decide_eq_false_iff_not.mpr z]; rfl
      refine Cl.qv (c157_k I1 hi hm) (by decide) (fun g1 p1 => ⟨p1.2.ex.lay I1.lay, ?_⟩)
      have E1 := E.tr p1.2.ex
      have J1 := I.keep E1
      have n1 := nmF_ex E nm i hm
      have pq := p1.1
      rw [n1] at pq
      have nn : ∀ w, w = 2 ∨ w = 5 ∨ w = 6 → nmF h nm 0 hm w = nmF h nm i hm w := fun w hw => by
        rcases hw with rfl | rfl | rfl <;> (unfold nmF; simp)
      have N1 : ∀ w, w < 7 → am_gl g1 76 w = nmF g1 nm i hm w := by
        rw [nmF_ex E1]
        exact N7 pq.1 pq.2.1 (by rw [pq.2.2.2.2.1, N.1, nn 2 (Or.inl rfl)]) pq.2.2.1 pq.2.2.2.1 (by rw [pq.2.2.2.2.2.1, N.2.1, nn 5 (Or.inr (Or.inl rfl))]) (by rw [pq.2.2.2.2.2.2, N.2.2, nn 6 (Or.inr (Or.inr rfl))])
      have et : tOn g1 nt (am_gi g1 216 0) = tOn h nt (am_gi h 216 0) := by rw [(E1.ag (t := 1) (by decide) 216 0 rfl).1, tOn_ag (E1.ag (by decide))]
      rw [← et]
      refine Cl.ql (c70n_k J1 (k := 1) (by decide) N1) (by decide) (fun g2 p2 => ⟨p2.lay J1.lay, ?_⟩)
      have E2 := E1.tr p2.ex
      have J2 := I.keep E2
      have eP : PT g1 nt nm i hm 1 = PT h nt nm i hm 1 := PT_ex E1 ..
      rw [eP, et]
      have N2 : ∀ w, am_gl g2 76 w = am_gl g1 76 w := fun w => (p2.2 76 w (by decide) (by decide)).2
      have N2' : am_gl g2 76 2 = nmF h nm 0 hm 2 ∧ am_gl g2 76 5 = nmF h nm 0 hm 5 ∧ am_gl g2 76 6 = nmF h nm 0 hm 6 := by
        rw [N2, N2, N2, pq.2.2.2.2.1, pq.2.2.2.2.2.1, pq.2.2.2.2.2.2]; exact N
      have P79 : ∀ j, am_gl g2 79 j = am_gl h1 79 j := fun j => by rw [(p2.2 79 j (by decide) (by decide)).2, (p1.2.2 79 j (by decide)).2]
      refine ⟨fun x => ?_, fun x => ?_⟩
      · rw [lg0] at x
        exact skip g2 E2 N2' P79 (by unfold qL; rw [decide_eq_true_iff.mpr x, wt, y']; rfl)
      · rw [lg0] at x
        have qi : qL h nt nm hm lo i = true := by unfold qL; rw [decide_eq_false_iff_not.mpr x, wt, y']; rfl
        have et2 : tOn g2 nt (am_gi g2 216 0) = tOn h nt (am_gi h 216 0) := by rw [(E2.ag (t := 1) (by decide) 216 0 rfl).1, tOn_ag (E2.ag (by decide))]
        rw [← et2]
        refine Cl.ql (c70n_k J2 (k := 0) (by decide) (fun w hw => by rw [N2, N1 w hw, nmF_ex E1, nmF_ex E2])) (by decide) (fun g3 p3 => ⟨p3.lay J2.lay, i24, ?_⟩)
        have E3 := E2.tr p3.ex
        have eP0 : PT g2 nt nm i hm 0 = PT h nt nm i hm 0 := PT_ex E2 ..
        rw [eP0, et2, ← bset_s1 qi]
        intro g4 e4; subst e4
        refine l161_k I lo m (i + 1) _ (by omega) (E3.tr ex79) ?_ (fun j hj qj => ?_)
        · rw [gl_ne (by omega), gl_ne (by omega), gl_ne (by omega), (p3.2 76 _ (by decide) (by decide)).2, (p3.2 76 _ (by decide) (by decide)).2, (p3.2 76 _ (by decide) (by decide)).2]; exact N2'
        · by_cases ej : j = i
          · subst ej; rw [gl_eq]
          · rw [gl_ne (by omega), (p3.2 79 j (by decide) (by decide)).2, P79]; exact P j (by omega) qj
    · rw [bI_n0, q3] at z
      have y' : tb lo i = true := by
        have := (bq_n0 (x := lo) (j := i) (by omega)).mp y; exact this
      exact skip h1 E N (fun _ => rfl) (by unfold qL; rw [y']; simp)
theorem c161_k {L : Nat} {xs : Nat → Int32} {c : Nat} {h : AH} {nh nm nr na nt nc : Nat} (I : InvK L xs c h nh nm nr na nt nc) {hm : Nat} (hh : hm < nh) (lo : Int32) : Cl 6 161 [.ref 6, .int (zI hm), .int lo] h (fun r h' => r = some (.int (bset (qL h nt nm hm lo) nm)) ∧ Ex [0] h h' ∧ ∀ j, j < nm → qL h nt nm hm lo j = true → am_gl h' 79 j = PT h nt nm j hm 0) := by
  refine ws161 _ _ I.lay ?_
  rw [I.ida.1]
  refine Cl.i (p154_k I _) (by decide) I.lay ⟨in_zI (tOn12_k I) (by decide), ?_⟩
  rw [zI_tn (by have := tOn12_k I; omega)]
  refine Cl.qv (c158_k I hh 0) (by decide) (fun g1 p1 => ⟨p1.2.ex.lay I.lay, ?_⟩)
  exact Ev.mono (l161_k I lo nm 0 g1 (by omega) p1.2.ex ⟨p1.1.1, p1.1.2.1, p1.1.2.2.1⟩ (fun j hj => by omega)) (Nat.le_refl _) (fun r h' q => q)
theorem p163_k {L : Nat} {xs : Nat → Int32} {c : Nat} {h h1 : AH} {nh nm nr na nt nc : Nat} (I : InvK L xs c h nh nm nr na nt nc) (E : Ex [0] h h1) {hm x y : Nat} (hx : x < nm) (hy : y < x) (px : am_gl h1 79 x = PT h nt nm x hm 0) (py : am_gl h1 79 y = PT h nt nm y hm 0) : PF 0 163 [.ref 6, .int (zI x), .int (zI y)] h1 (.int (bI (ahd h nt nm hm x y = true))) := by
  have b2 := I.ime.1
  have I1 := I.keep E
  have A3 := E.ag (t := 3) (by decide)
  have s3 : ∀ i, i < nm → am_gi h1 (124 + i) 3 = am_gi h 225 i := fun i hi => by rw [(I1.ime.2.2.2.2.1 i hi).2.2.2, (A3 225 i rfl).1]
  have ix : am_in (zI x) 24 := in_zI (by omega) (by decide)
  have iy : am_in (zI y) 24 := in_zI (by omega) (by decide)
  refine ws163 _ _ I1.lay ?_
  rw [zI_tn (by omega), zI_tn (by omega), px, py, s3 x hx, s3 y (by omega), lg0, lg_cmp_le]
  refine ⟨ix, iy, fun e => ⟨ix, iy, fun z => ⟨?_, rfl⟩, fun z => ⟨?_, rfl⟩⟩, fun e => ⟨ix, iy, fun z => ⟨?_, rfl⟩, fun z => ⟨?_, rfl⟩⟩⟩
  · rw [bI_f]
    unfold ahd kO; dsimp only; rw [if_pos e]
    by_cases w : am_gi h 225 x = am_gi h 225 y
    · rw [if_pos w, decide_eq_true_eq]; omega
    · rw [if_neg w, decide_eq_true_eq, i_lt]; rw [i_le] at z; omega
  · rw [bI_t]
    unfold ahd kO; dsimp only; rw [if_pos e, if_neg, decide_eq_true_eq]
    · rw [i_gt] at z; exact z
    · intro w; exact z (by rw [w]; exact Int32.le_refl _)
  · rw [bI_f]
    unfold ahd kO; dsimp only; rw [if_neg e, decide_eq_true_eq]
    rw [Int64.lt_iff_toInt_lt]; rw [Int64.le_iff_toInt_le] at z; omega
  · rw [bI_t]
    unfold ahd kO; dsimp only; rw [if_neg e, decide_eq_true_eq]
    rw [← Int64.not_le]; exact z
theorem l162_k {L : Nat} {xs : Nat → Int32} {c : Nat} {h h1 : AH} {nh nm nr na nt nc : Nat} (I : InvK L xs c h nh nm nr na nt nc) (E : Ex [0] h h1) {hm : Nat} {B : Int32} {q : Nat → Bool} (hB : ∀ j, j < nm → tb B j = q j) (P : ∀ j, j < nm → q j = true → am_gl h1 79 j = PT h nt nm j hm 0) : ∀ m i, i + m = nm → Ev 1 162 4 [.ref 6, .int B, .int (enc (fO (ahd h nt nm hm) q i)), .int (zI i)] [] h1 (fun r h' => r = some (.int (enc (fO (ahd h nt nm hm) q nm))) ∧ h' = h1)
  | 0, i, e => by
    have e' : i = nm := by omega
    subst e'
    have I1 := I.keep E
    exact ws162_4 _ _ _ I1.lay ⟨fun _ => ⟨rfl, rfl⟩, fun z => absurd (by rw [I1.ime.2.1]; exact Int32.le_refl _) z⟩
  | m + 1, i, e => by
    have b2 := I.ime.1
    have I1 := I.keep E
    have ih := l162_k I E (hm := hm) hB P m (i + 1) (by omega)
    have ef : fO (ahd h nt nm hm) q (i + 1) = if q i then (match fO (ahd h nt nm hm) q i with | none => some i | some f => if ahd h nt nm hm i f then some i else some f) else fO (ahd h nt nm hm) q i := rfl
    refine ws162_4 _ _ _ I1.lay ⟨fun z => absurd z (by rw [I1.ime.2.1, zI_le (by omega) (by omega)]; omega), fun _ => ?_⟩
    rw [zI_succ]
    have bz : ((B >>> (zI i &&& 31)) &&& (1 : Int32)) = 0 ↔ q i = false := by rw [← hB i (by omega)]; exact bq_0 (by omega)
    refine ⟨fun z => ?_, fun z => ?_⟩
    · rw [bz] at z
      rw [ef, if_neg (by rw [z]; decide)] at ih; exact ih
    · have z' : q i = true := by
        rw [bz] at z; simpa using z
      rw [ef, if_pos z'] at ih
      cases eo : fO (ahd h nt nm hm) q i with
      | none =>
        rw [eo] at ih
        exact ⟨fun _ => ih, fun w => absurd rfl w⟩
      | some f =>
        rw [eo] at ih
        have f2 := (fO_cg (a := ahd h nt nm hm) (a' := ahd h nt nm hm) (q := q) (q' := q) (n := i) (fun _ _ => rfl) (fun _ _ _ _ _ _ => rfl)).2 f eo
        refine ⟨fun w => absurd w (zI_ne1 (by omega)), fun _ => ?_⟩
        refine Cl.i (p163_k I E (by omega) f2.1 (P i (by omega) z') (P f (by omega) f2.2)) (by decide) I1.lay ⟨fun w => ?_, fun w => ?_⟩
        · rw [bI_0] at w
          have ih' : Ev 1 162 4 [.ref 6, .int B, .int (enc (if ahd h nt nm hm i f then some i else some f)), .int (zI (i + 1))] [] h1 _ := ih
          rw [if_neg w] at ih'; exact ih'
        · rw [bI_n0] at w
          have ih' : Ev 1 162 4 [.ref 6, .int B, .int (enc (if ahd h nt nm hm i f then some i else some f)), .int (zI (i + 1))] [] h1 _ := ih
          rw [if_pos w] at ih'; exact ih'
theorem p162_k {L : Nat} {xs : Nat → Int32} {c : Nat} {h h1 : AH} {nh nm nr na nt nc : Nat} (I : InvK L xs c h nh nm nr na nt nc) (E : Ex [0] h h1) {hm : Nat} {B : Int32} {q : Nat → Bool} (hB : ∀ j, j < nm → tb B j = q j) (P : ∀ j, j < nm → q j = true → am_gl h1 79 j = PT h nt nm j hm 0) : PF 1 162 [.ref 6, .int B] h1 (.int (enc (fO (ahd h nt nm hm) q nm))) := ws162 _ (I.keep E).lay (l162_k I E hB P nm 0 (by omega))
theorem l160_k {L : Nat} {xs : Nat → Int32} {c : Nat} {h h1 : AH} {nh nm nr na nt nc : Nat} (I : InvK L xs c h nh nm nr na nt nc) (E : Ex [0] h h1) {hm k : Nat} (hk : k < 100) : ∀ m i B q, i + m = k → (∀ j, j < nm → tb B j = q j) → (∀ j, j < nm → q j = true → am_gl h1 79 j = PT h nt nm j hm 0) → Ev 2 160 26 [.ref 6, .null, .int (zI k), .null, .int B, .int (zI i)] [] h1 (fun r h' => r = some (.int (enc (fO (ahd h nt nm hm) (rmK (ahd h nt nm hm) nm m q) nm))) ∧ h' = h1)
  | 0, i, B, q, e, hB, P => by
    have I1 := I.keep E
    exact ws160_26 _ _ _ I1.lay ⟨fun _ => Cl.i (p162_k I E hB P) (by decide) I1.lay ⟨rfl, rfl⟩, fun z => absurd ((zI_le (by omega) (by omega)).mpr (by omega)) z⟩
  | m + 1, i, B, q, e, hB, P => by
    have b2 := I.ime.1
    have I1 := I.keep E
    refine ws160_26 _ _ _ I1.lay ⟨fun z => absurd ((zI_le (by omega) (by omega)).mp z) (by omega), fun _ => Cl.i (p162_k I E hB P) (by decide) I1.lay ?_⟩
    rw [zI_succ]
    have er : rmK (ahd h nt nm hm) nm (m + 1) q = rmK (ahd h nt nm hm) nm m (match fO (ahd h nt nm hm) q nm with | none => q | some f => rmv q f) := rfl
    rw [er]
    cases eo : fO (ahd h nt nm hm) q nm with
    | none =>
      refine l160_k I E hk m (i + 1) _ q (by omega) (fun j hj => ?_) P
      rw [← hB j hj]
      have : tb (B &&& (((1 : Int32) <<< ((-1 : Int32) &&& 31)) ^^^ (-1))) j = (tb B j && !decide (j = 31)) := tb_clr (m := 31) (by decide) (by omega)
      show tb (B &&& (((1 : Int32) <<< ((-1 : Int32) &&& 31)) ^^^ (-1))) j = _
      rw [this, decide_eq_false_iff_not.mpr (by omega), Bool.not_false, Bool.and_true]
    | some f =>
      have f2 := (fO_cg (a := ahd h nt nm hm) (a' := ahd h nt nm hm) (q := q) (q' := q) (n := nm) (fun _ _ => rfl) (fun _ _ _ _ _ _ => rfl)).2 f eo
      refine l160_k I E hk m (i + 1) _ (rmv q f) (by omega) (fun j hj => ?_) (fun j hj qj => P j hj (by unfold rmv at qj; simp at qj; exact qj.1))
      show tb (B &&& (((1 : Int32) <<< (zI f &&& 31)) ^^^ (-1))) j = _
      rw [tb_clr (by omega) (by omega), hB j hj]; rfl
theorem c160_k {L : Nat} {xs : Nat → Int32} {c : Nat} {h : AH} {nh nm nr na nt nc : Nat} (I : InvK L xs c h nh nm nr na nt nc) {hm : Nat} (hh : hm < nh) (x lo : Int32) : Cl 7 160 [.ref 6, .int (zI hm), .int x, .int lo] h (fun r h' => r = some (.int (plc h nt nm hm lo x)) ∧ Ex [0] h h') := by
  have b2 := I.ime.1
  have hc := cnt_le (qL h nt nm hm lo) nm
  refine ws160 _ _ _ I.lay (Cl.qi (c161_k I hh lo) (by decide) (fun g1 q => ⟨q.1.lay I.lay, fun z => ⟨?_, q.1⟩, fun z => ?_⟩))
  · unfold plc; rw [if_pos z]
  · have L1 := q.1.lay I.lay
    have x0 : 0 ≤ x.toInt := by rw [i_lt] at z; have : ¬ x.toInt < 0 := z; omega
    have ex : x = zI x.toNatClampNeg := by rw [tn_of x0]; exact zI_of x0
    refine Cl.i (p262 _) (by decide) L1 ?_
    rw [bset_cnt _ _ (by omega)]
    have lt : x < zI (cnt (qL h nt nm hm lo) nm) ↔ x.toNatClampNeg < cnt (qL h nt nm hm lo) nm := by
      rw [i_lt, zI_toInt (by omega), tn_of x0]; omega
    refine ⟨fun w => ?_, fun w => ⟨?_, q.1⟩⟩
    · rw [lt] at w
      have ep : plc h nt nm hm lo x = enc (fO (ahd h nt nm hm) (rmK (ahd h nt nm hm) nm x.toNatClampNeg (qL h nt nm hm lo)) nm) := by unfold plc; rw [if_neg z, if_pos w]
      have R := l160_k I q.1 (hm := hm) (k := x.toNatClampNeg) (by omega) x.toNatClampNeg 0 (bset (qL h nt nm hm lo) nm) (qL h nt nm hm lo) (by omega) (fun j hj => by rw [bset_tb _ _ (by omega) j (by omega), decide_eq_true_iff.mpr hj, Bool.true_and]) q.2
      rw [← ex] at R
      exact Ev.mono R (by decide) (fun r h' p => ⟨by rw [ep]; exact p.1, by rw [p.2]; exact q.1⟩)
    · rw [lt] at w
      unfold plc; rw [if_neg z, if_neg w]
theorem c159k {L : Nat} {xs : Nat → Int32} {c : Nat} {h : AH} {nh nm nr na nt nc : Nat} (I : InvK L xs c h nh nm nr na nt nc) {hm : Nat} (hh : hm < nh) (on : ¬ am_gi h (112 + hm) 3 = 0) : Cl 8 159 [.ref 6, .int (zI hm)] h (fun r h' => r = some (.int (plc h nt nm hm (am_gi h (112 + hm) 4) 0)) ∧ Ex [0] h h') := by
  have b1 := I.iho.1
  have i12 : am_in (zI hm) 12 := in_zI (by omega) (by decide)
  refine ws159 _ I.lay ⟨i12, ?_⟩
  rw [zI_tn (by omega)]
  exact ⟨fun z => absurd z on, fun z => ⟨i12, Cl.qi (c160_k I hh 0 _) (by decide) (fun g q => ⟨q.lay I.lay, rfl, q⟩)⟩⟩
/-- the reference's cells that the order reads -/
def PC (h h' : AH) : Prop := ∀ a k, (a = 216 ∧ k = 0) ∨ (217 ≤ a ∧ a ≤ 219) ∨ (222 ≤ a ∧ a ≤ 227) ∨ (237 ≤ a ∧ a ≤ 243) → am_gi h' a k = am_gi h a k ∧ am_gl h' a k = am_gl h a k
theorem PT_pc {h h' : AH} (E : PC h h') (nt nm m hm k : Nat) : PT h' nt nm m hm k = PT h nt nm m hm k := by
  have eh : hereP h' = hereP h := funext fun i => by unfold hereP; rw [(E 224 i (by omega)).1]
  have en : nmF h' nm m hm = nmF h nm m hm := funext fun w => by
    unfold nmF
    rw [(E 225 m (by omega)).1, (E 222 m (by omega)).1, (E 223 m (by omega)).1, (E 227 m (by omega)).2, (E 217 hm (by omega)).1, (E 218 hm (by omega)).1, (E 219 hm (by omega)).1, (E 216 0 (by omega)).1, eh]
  have et : tStep h' (am_gi h 216 0) = tStep h (am_gi h 216 0) := funext fun a => funext fun i => by
    unfold tStep; rw [(E 240 i (by omega)).1, (E 241 i (by omega)).1, (E 242 i (by omega)).1, (E 243 i (by omega)).1, (E 243 a (by omega)).1]
  unfold PT tOn
  rw [en, (E 216 0 (by omega)).1, et]
  unfold wth
  rw [(E 239 _ (by omega)).1, (E 239 _ (by omega)).1, show (fun i => am_gi h' 237 (400 * fold (tStep h (am_gi h 216 0)) 0 0 nt + i)) = (fun i => am_gi h 237 (400 * fold (tStep h (am_gi h 216 0)) 0 0 nt + i)) from funext fun i => (E 237 _ (by omega)).1, show (fun i => am_gi h' 238 (400 * fold (tStep h (am_gi h 216 0)) 0 0 nt + i)) = (fun i => am_gi h 238 (400 * fold (tStep h (am_gi h 216 0)) 0 0 nt + i)) from funext fun i => (E 238 _ (by omega)).1]
theorem ahd_pc {h h' : AH} (E : PC h h') (nt nm hm : Nat) : ahd h' nt nm hm = ahd h nt nm hm := by
  show kO (fun m => PT h' nt nm m hm 0) (fun m => am_gi h' 225 m) = kO (fun m => PT h nt nm m hm 0) (fun m => am_gi h 225 m)
  rw [show (fun m => PT h' nt nm m hm 0) = (fun m => PT h nt nm m hm 0) from funext fun m => PT_pc E .., show (fun m => am_gi h' 225 m) = (fun m => am_gi h 225 m) from funext fun m => (E 225 m (by omega)).1]
theorem qL_pc {h h' : AH} (E : PC h h') (nt nm hm : Nat) (lo : Int32) : qL h' nt nm hm lo = qL h nt nm hm lo := funext fun j => by
  unfold qL waitP; rw [PT_pc E, (E 225 j (by omega)).1]
theorem plc_pc {h h' : AH} (E : PC h h') (nt nm hm : Nat) (lo x : Int32) : plc h' nt nm hm lo x = plc h nt nm hm lo x := by
  unfold plc; rw [qL_pc E, ahd_pc E]
theorem OC.pc {ts : List Nat} {h h' : AH} (E : OC ts h h') : PC h h' := fun a k z => E.2 a k (Or.inl (by omega))
theorem plc_oTo {L : Nat} {xs : Nat → Int32} {c : Nat} {h : AH} {nh nm nr na nt nc : Nat} (I : InvN L xs c h nh nm nr na nt nc) {hm : Nat} (hh : hm < nh) (on : ¬ am_gi h 220 hm = 0) : plc h nt nm hm (am_gi h (112 + hm) 4) 0 = oTo h nt nm hm := by
  have b1 := I.iho.1
  have b2 := I.ime.1
  unfold oTo; rw [if_neg on, plc0]
  have : ∀ j, j < nm → qL h nt nm hm (am_gi h (112 + hm) 4) j = (!tb (am_gi h 221 hm) j && isq h nt nm hm j) := fun j hj => by
    unfold qL isq
    cases w : waitP h j with
    | false => simp
    | true =>
      have wt : ¬ am_gi h 225 j = -1 := by unfold waitP at w; simpa using w
      have e : tb (am_gi h (112 + hm) 4) j = tb (am_gi h 221 hm) j := by
        rcases I.ix2 hm (by omega) j (by omega) with ⟨_, q⟩ | q
        · exact absurd ((I.ix1 j hj).2.2.elim (fun z => absurd z q) id) wt
        · have e1 := bq_tb (x := am_gi h (112 + hm) 4) (j := j) (by omega)
          have e2 := bq_tb (x := am_gi h 221 hm) (j := j) (by omega)
          rw [q, e2] at e1
          revert e1
          cases tb (am_gi h (112 + hm) 4) j <;> cases tb (am_gi h 221 hm) j <;> first | (intro _; rfl) | (intro z; exact absurd z (by decide))
      rw [e]; simp
  rw [(fO_cg (a := ahd h nt nm hm) (a' := ahd h nt nm hm) this (fun _ _ _ _ _ _ => rfl)).1]
