/-! the reference's reckoning -/
def nmF (h : AH) (n m hm : Nat) (w : Nat) : Int64 := if w = 0 then (if am_gi h 225 m = -1 then 0 else (am_gi h 216 0 - am_gi h 225 m).toInt64) else if w = 1 then (am_gi h 222 m).toInt64 else if w = 2 then (am_gi h 218 hm).toInt64 else if w = 3 then (am_gi h 216 0 - am_gi h 223 m).toInt64 else if w = 4 then am_gl h 227 m else if w = 5 then (am_gi h 217 hm).toInt64 else if w = 6 then (am_gi h 219 hm).toInt64 else (zI (cnt (hereP h) n)).toInt64
theorem w_cases {w : Int32} (h0 : 0 ≤ w.toInt) (h8 : w.toInt < 8) : w = 0 ∨ w = 1 ∨ w = 2 ∨ w = 3 ∨ w = 4 ∨ w = 5 ∨ w = 6 ∨ w = 7 := by
  simp only [i_eq]
  have e0 : (0 : Int32).toInt = 0 := rfl
  have e1 : (1 : Int32).toInt = 1 := rfl
  have e2 : (2 : Int32).toInt = 2 := rfl
  have e3 : (3 : Int32).toInt = 3 := rfl
  have e4 : (4 : Int32).toInt = 4 := rfl
  have e5 : (5 : Int32).toInt = 5 := rfl
  have e6 : (6 : Int32).toInt = 6 := rfl
  have e7 : (7 : Int32).toInt = 7 := rfl
  omega
theorem p211a {h : AH} (Ly : Lay h) (n : Nat) {m hm : Nat} (hm1 : m < 24) (hm2 : hm < 12) {w : Int32} (h0 : 0 ≤ w.toInt) (h7 : w.toInt < 7) : PF 2 211 [.ref 216, .int w, .int (zI m), .int (zI hm)] h (.long (nmF h n m hm w.toNatClampNeg)) := by
  have i1 : am_in (zI m) 24 := in_zI hm1 (by decide)
  have i2 : am_in (zI hm) 12 := in_zI hm2 (by decide)
  have t1 : Int32.toNatClampNeg (zI m) = m := zI_tn (by omega)
  have t2 : Int32.toNatClampNeg (zI hm) = hm := zI_tn (by omega)
  have nd : ∀ p : Prop, (¬ (w = 0) ∧ ¬ w = 1 ∧ ¬ w = 2 ∧ ¬ w = 3 ∧ ¬ w = 4 ∧ ¬ w = 5 ∧ ¬ w = 6) → p := fun p z => by
    rcases w_cases h0 (by omega) with e | e | e | e | e | e | e | e
    · exact absurd e z.1
    · exact absurd e z.2.1
    · exact absurd e z.2.2.1
    · exact absurd e z.2.2.2.1
    · exact absurd e z.2.2.2.2.1
    · exact absurd e z.2.2.2.2.2.1
    · exact absurd e z.2.2.2.2.2.2
    · rw [e] at h7; exact absurd h7 (by decide)
  refine ws211 _ _ _ Ly ?_
  rw [t1, t2]
  refine ⟨fun z => ⟨i1, fun q => ⟨i1, ?_, rfl⟩, fun q => ⟨?_, rfl⟩⟩, fun z => ⟨fun _ => ⟨i1, ?_, rfl⟩, fun q => absurd (zI_ne1 (by omega)) q⟩, fun z => ⟨i2, ?_, rfl⟩, fun z => ⟨i1, ?_, rfl⟩, fun z => ⟨i1, ?_, rfl⟩, fun z => ⟨i2, ?_, rfl⟩, fun z => ⟨i2, ?_, rfl⟩, fun z => nd _ z⟩
  · have e : w.toNatClampNeg = 0 := by rw [z]; decide
    rw [e]; unfold nmF; rw [if_pos rfl, if_neg q]
  · have e : w.toNatClampNeg = 0 := by rw [z]; decide
    rw [e]; unfold nmF; rw [if_pos rfl, if_pos (Decidable.not_not.mp q)]
  · have e : w.toNatClampNeg = 1 := by rw [z]; decide
    rw [e]; unfold nmF; rw [if_neg (by decide), if_pos rfl]
  · have e : w.toNatClampNeg = 2 := by rw [z]; decide
    rw [e]; unfold nmF; rw [if_neg (by decide), if_neg (by decide), if_pos rfl]
  · have e : w.toNatClampNeg = 3 := by rw [z]; decide
    rw [e]; unfold nmF; rw [if_neg (by decide), if_neg (by decide), if_neg (by decide), if_pos rfl]
  · have e : w.toNatClampNeg = 4 := by rw [z]; decide
    rw [e]; unfold nmF; rw [if_neg (by decide), if_neg (by decide), if_neg (by decide), if_neg (by decide), if_pos rfl]
  · have e : w.toNatClampNeg = 5 := by rw [z]; decide
    rw [e]; unfold nmF; rw [if_neg (by decide), if_neg (by decide), if_neg (by decide), if_neg (by decide), if_neg (by decide), if_pos rfl]
  · have e : w.toNatClampNeg = 6 := by rw [z]; decide
    rw [e]; unfold nmF; rw [if_neg (by decide), if_neg (by decide), if_neg (by decide), if_neg (by decide), if_neg (by decide), if_neg (by decide), if_pos rfl]
theorem p211b {h : AH} (Ly : Lay h) {n : Nat} (b : n ≤ 24) (en : am_gi h 216 7 = zI n) (m hm : Nat) (a c : Int32) : PF 2 211 [.ref 216, .int 7, .int a, .int c] h (.long (nmF h n m hm 7)) := by
  refine ws211 _ _ _ Ly ⟨fun z => absurd z (by decide), fun z => absurd z (by decide), fun z => absurd z (by decide), fun z => absurd z (by decide), fun z => absurd z (by decide), fun z => absurd z (by decide), fun z => absurd z (by decide), fun _ => Cl.i (p214 Ly b en) (by decide) Ly ⟨by unfold nmF; rw [if_neg (by decide), if_neg (by decide), if_neg (by decide), if_neg (by decide), if_neg (by decide), if_neg (by decide), if_neg (by decide)], rfl⟩⟩
theorem zI_sub1 {n : Nat} (h : 1 ≤ n) : zI n - 1 = zI (n - 1) := by
  obtain ⟨k, rfl⟩ : ∃ k, n = k + 1 := ⟨n - 1, by omega⟩
  exact zI_pred k
theorem zI_addm1 {n : Nat} (h : 1 ≤ n) : zI n + (-1) = zI (n - 1) := by
  rw [← zI_sub1 h, Int32.sub_eq_add_neg]
theorem l213 {h : AH} {t k e n4 : Nat} (ht : t < 12) (hk : k < 4) {op w cd : Nat → Int32} (eop : ∀ i, op i = am_gi h 237 (400 * t + i)) (ew : ∀ i, w i = am_gi h 238 (400 * t + i)) {nm : Nat → Int64} {a b : Int32} (n400 : n4 ≤ 400) (he : e ≤ n4) (e239 : am_gi h 239 (5 * t + k + 1) = zI e) (CR : ∀ i, i < n4 → cR (op i) (w i) (cd i)) : ∀ m i s h1, i + m = e → Lay h1 → SM h h1 → (∀ j h2, i ≤ j → j < e → op j = 1 → SM h h2 → Lay h2 → PF 2 211 [.ref 216, .int (w j), .int a, .int b] h2 (.long (nm (w j).toNatClampNeg))) → repS (am_gl h1 255) s → s.length ≤ 60 → hts op i m s.length = some 1 → Ev 3 213 26 [.ref 216, .int (zI k), .int a, .int b, .int (zI t), .int (zI s.length), .int (zI i), .null, .null] [] h1 (fun r h' => r = some (.long (hd0 (evs nm op w s i m))) ∧ SM h h')
  | 0, i, s, h1, hi, Ly, S, PN, R, hl, ht' => by
    have hs : s.length = 1 := by
      have : hts op i 0 s.length = some s.length := rfl
      rw [this] at ht'; exact Option.some.inj ht'
    obtain ⟨v, rfl⟩ : ∃ v, s = [v] := by
      cases s with
      | nil => simp at hs
      | cons v r => cases r with
        | nil => exact ⟨v, rfl⟩
        | cons _ _ => simp at hs
    have ei : (5 : Int32) * zI t + zI k + 1 = zI (5 * t + k + 1) := by rw [show (5 : Int32) = zI 5 from rfl, zI_mul, zI_add, zI_succ]
    refine ws213_26 _ _ _ _ _ _ Ly ?_
    rw [ei, zI_tn (by omega), (S.2 239 _ (by decide)).1, e239]
    refine ⟨in_zI (by omega) (by decide), fun _ => ⟨show am_in (zI 0) 420 from in_zI (by decide) (by decide), ?_, S⟩, fun z => absurd ((zI_le (by omega) (by omega)).mpr (by omega)) z⟩
    have ev : am_gl h1 255 0 = v := R.1
    show some (Value.long (am_gl h1 255 0)) = some (.long v)
    rw [ev]
  | m + 1, i, s, h1, hi, Ly, S, PN, R, hl, ht' => by
    have C := CR i (by omega)
    have H := hts_s ht' (cR_op C) nm (w i) rfl
    have hl2 := hOk_le (nm := nm) (w := w i) H.1 hl
    have ei : (5 : Int32) * zI t + zI k + 1 = zI (5 * t + k + 1) := by rw [show (5 : Int32) = zI 5 from rfl, zI_mul, zI_add, zI_succ]
    have e4 : (400 : Int32) * zI t + zI i = zI (400 * t + i) := by rw [show (400 : Int32) = zI 400 from rfl, zI_mul, zI_add]
    have i52 : am_in (zI (400 * t + i)) 5200 := in_zI (by omega) (by decide)
    have next : ∀ h2, Lay h2 → SM h h2 → repS (am_gl h2 255) (st1 nm (op i) (w i) s) → Ev 3 213 26 [.ref 216, .int (zI k), .int a, .int b, .int (zI t), .int (zI (st1 nm (op i) (w i) s).length), .int (zI (i + 1)), .null, .null] [] h2 (fun r h' => r = some (.long (hd0 (evs nm op w s i (m + 1)))) ∧ SM h h') := fun h2 L2 S2 R2 =>
      l213 ht hk eop ew n400 he e239 CR m (i + 1) _ h2 (by omega) L2 S2 (fun j h3 g1 g2 => PN j h3 (by omega) g2) R2 hl2 H.2
    have push : ∀ (v : Int64), st1 nm (op i) (w i) s = v :: s → s.length < 60 → ∀ h2, h2 = am_sl h1 255 s.length v → Ev 3 213 26 [.ref 216, .int (zI k), .int a, .int b, .int (zI t), .int (zI (s.length + 1)), .int (zI (i + 1)), .null, .null] [] h2 (fun r h' => r = some (.long (hd0 (evs nm op w s i (m + 1)))) ∧ SM h h') := fun v ev hv h2 eh => by
      have := next h2 (by rw [eh]; exact Ly.sl _ _ _) (by rw [eh]; exact S.sl) (by rw [ev, eh]; exact repS_push R gl_eq (fun j hj => gl_ne (by omega)))
      rw [ev, List.length_cons] at this
      exact this
    refine ws213_26 _ _ _ _ _ _ Ly ?_
    rw [ei, e4, zI_tn (by omega), zI_tn (by omega), (S.2 239 _ (by decide)).1, e239, (S.2 237 _ (by decide)).1, (S.2 238 _ (by decide)).1, ← eop, ← ew, zI_succ]
    refine ⟨in_zI (by omega) (by decide), fun z => absurd ((zI_le (by omega) (by omega)).mp z) (by omega), fun _ => ⟨i52, i52, fun o0 => ?_, fun n0 => ⟨fun n1 => ⟨fun n4 => ⟨fun n10 => ?_, fun o10 => ?_⟩, fun o4 => ?_⟩, fun o1 => ?_⟩⟩⟩
    · -- a number
      have hs : s.length < 60 := by
        rcases H.1 with q | q | q
        · exact q.2
        · exact absurd q.1 (by rw [o0]; decide)
        · exact absurd o0 q.1.1
      refine ws213_87 _ _ _ _ _ _ _ _ Ly ⟨fun z => absurd o0 z, fun _ => ⟨in_zI (by omega) (by decide), ?_⟩⟩
      rw [zI_tn (by omega), zI_succ, zI_succ]
      intro h2 eh
      exact push _ (by unfold st1; rw [if_pos o0]) hs h2 eh
    · -- two
      have hs : 2 ≤ s.length := by
        rcases H.1 with q | q | q
        · exact absurd q.1 (fun z => z.elim n0 n1)
        · exact absurd q.1 (fun z => z.elim n4 n10)
        · exact q.2
      obtain ⟨y, x, r, rfl⟩ : ∃ y x r, s = y :: x :: r := by
        cases s with
        | nil => simp at hs
        | cons y t => cases t with
          | nil => simp at hs
          | cons x r => exact ⟨y, x, r, rfl⟩
      have hl' : r.length + 2 ≤ 60 := by simpa using hl
      have es : (y :: x :: r).length = r.length + 2 := rfl
      rw [es, zI_addm1 (by omega), zI_sub1 (by omega), zI_tn (by omega), zI_tn (by omega)]
      show am_in (zI r.length) 420 ∧ am_in (zI (r.length + 1)) 420 ∧ Cl 2 212 [.int (op i), .long (am_gl h1 255 r.length), .long (am_gl h1 255 (r.length + 1))] h1 _
      have ey : am_gl h1 255 (r.length + 1) = y := R.1
      have ex : am_gl h1 255 r.length = x := R.2.1
      rw [ey, ex]
      refine ⟨in_zI (by omega) (by decide), in_zI (by omega) (by decide), Cl.l (p212 Ly (op i) x y (cR_op C |>.elim (fun z => absurd z n0) (fun z => z.elim (fun z => absurd z n1) id)) n4 n10) (by decide) Ly ⟨in_zI (by omega) (by decide), ?_⟩⟩
      have ev : st1 nm (op i) (w i) (y :: x :: r) = two (op i) x y :: r := by unfold st1; rw [if_neg n0, if_neg n1, if_neg n4, if_neg n10]
      intro h2 eh
      have := next h2 (by rw [eh]; exact Ly.sl _ _ _) (by rw [eh]; exact S.sl) (by rw [ev, eh]; exact repS_push R.2.2 gl_eq (fun j hj => gl_ne (by omega)))
      rw [ev] at this
      exact this
    · -- less
      have o10' := Decidable.not_not.mp o10
      have hs : 1 ≤ s.length := by
        rcases H.1 with q | q | q
        · exact absurd q.1 (fun z => z.elim n0 n1)
        · exact q.2
        · omega
      obtain ⟨y, r, rfl⟩ : ∃ y r, s = y :: r := by
        cases s with
        | nil => simp at hs
        | cons y r => exact ⟨y, r, rfl⟩
      have hl' : r.length + 1 ≤ 60 := by simpa using hl
      have es : (y :: r).length = r.length + 1 := rfl
      rw [es, zI_sub1 (by omega), zI_tn (by omega)]
      show am_in (zI r.length) 420 ∧ am_in (zI r.length) 420 ∧ ∀ h14, h14 = am_sl h1 255 r.length (-(am_gl h1 255 r.length)) → _
      have ey : am_gl h1 255 r.length = y := R.1
      rw [ey]
      refine ⟨in_zI (by omega) (by decide), in_zI (by omega) (by decide), fun h2 eh => ?_⟩
      have ev : st1 nm (op i) (w i) (y :: r) = (-y) :: r := by unfold st1; rw [if_neg n0, if_neg n1, if_neg n4, if_pos o10']
      have := next h2 (by rw [eh]; exact Ly.sl _ _ _) (by rw [eh]; exact S.sl) (by rw [ev, eh]; exact repS_push R.2 gl_eq (fun j hj => gl_ne (by omega)))
      rw [ev] at this
      exact this
    · -- not
      have o4' := Decidable.not_not.mp o4
      have hs : 1 ≤ s.length := by
        rcases H.1 with q | q | q
        · exact absurd q.1 (fun z => z.elim n0 n1)
        · exact q.2
        · omega
      obtain ⟨y, r, rfl⟩ : ∃ y r, s = y :: r := by
        cases s with
        | nil => simp at hs
        | cons y r => exact ⟨y, r, rfl⟩
      have hl' : r.length + 1 ≤ 60 := by simpa using hl
      have es : (y :: r).length = r.length + 1 := rfl
      rw [es, zI_sub1 (by omega), zI_tn (by omega)]
      have ey : am_gl h1 255 r.length = y := R.1
      show am_in (zI r.length) 420 ∧ ((¬ (lg_cmp (am_gl h1 255 r.length) (0 : Int64)) = (0 : Int32)) → am_in (zI r.length) 420 ∧ _) ∧ _
      have ir : am_in (zI r.length) 420 := in_zI (by omega) (by decide)
      have ev : st1 nm (op i) (w i) (y :: r) = (if y = 0 then 1 else 0) :: r := by unfold st1; rw [if_neg n0, if_neg n1, if_pos o4']
      refine ⟨ir, fun z => ⟨ir, fun h2 eh => ?_⟩, fun z => ⟨ir, fun h2 eh => ?_⟩⟩
      · have z' : ¬ y = 0 := by rw [← ey]; exact fun q => z (lg0.mpr q)
        have eh' : h2 = am_sl h1 255 r.length 0 := eh
        have := next h2 (by rw [eh']; exact Ly.sl _ _ _) (by rw [eh']; exact S.sl) (by rw [ev, if_neg z', eh']; exact repS_push R.2 gl_eq (fun j hj => gl_ne (by omega)))
        rw [ev] at this
        exact this
      · have z' : y = 0 := by rw [← ey]; exact lg0.mp (Decidable.not_not.mp z)
        have eh' : h2 = am_sl h1 255 r.length 1 := eh
        have := next h2 (by rw [eh']; exact Ly.sl _ _ _) (by rw [eh']; exact S.sl) (by rw [ev, if_pos z', eh']; exact repS_push R.2 gl_eq (fun j hj => gl_ne (by omega)))
        rw [ev] at this
        exact this
    · -- a name
      have o1' := Decidable.not_not.mp o1
      have hs : s.length < 60 := by
        rcases H.1 with q | q | q
        · exact q.2
        · exact absurd q.1 (by rw [o1']; decide)
        · exact absurd o1' q.1.2.1
      refine ws213_87 _ _ _ _ _ _ _ _ Ly ⟨fun _ => Cl.l (PN i h1 (Nat.le_refl _) (by omega) o1' S Ly) (by decide) Ly ⟨in_zI (by omega) (by decide), ?_⟩, fun z => absurd n0 z⟩
      rw [zI_tn (by omega), zI_succ, zI_succ]
      intro h2 eh
      exact push _ (by unfold st1; rw [if_neg n0, if_pos o1']) hs h2 eh
theorem m213 {L : Nat} {xs : Nat → Int32} {c : Nat} {h : AH} {nh nm nr na nt nc : Nat} (I : InvN L xs c h nh nm nr na nt nc) {k : Nat} (hk : k < 4) {a b : Int32} {nmf : Nat → Int64} (PN : ∀ (w : Int32) h2, 0 ≤ w.toInt → w.toInt < 8 → alw k w → SM h h2 → Lay h2 → PF 2 211 [.ref 216, .int w, .int a, .int b] h2 (.long (nmf w.toNatClampNeg))) : Cl 3 213 [.ref 216, .int (zI k), .int a, .int b] h (fun r h' => r = some (.long (wth h (tOn h nt (am_gi h 216 0)) k nmf)) ∧ SM h h') := by
  have Ly := I.lay
  have bt := I.itx.1
  have ht := tOn_lt (h := h) (d := am_gi h 216 0) bt.1
  obtain ⟨bb, p, a1, a2, a3, a4, a5, a6, a8, a9⟩ := (I.itx.2.2.2.2.1 _ ht).2.2
  have M := a9.mono hk
  have ek : am_gi h 239 (5 * tOn h nt (am_gi h 216 0) + k) = zI (p k) := (a8 k (by omega)).2
  have ek1 : am_gi h 239 (5 * tOn h nt (am_gi h 216 0) + k + 1) = zI (p (k + 1)) := (a8 (k + 1) (by omega)).2
  have ei : (5 : Int32) * zI (tOn h nt (am_gi h 216 0)) + zI k = zI (5 * tOn h nt (am_gi h 216 0) + k) := by rw [show (5 : Int32) = zI 5 from rfl, zI_mul, zI_add]
  refine ws213 _ _ _ Ly (Cl.i (p215 Ly bt.2 I.itx.2.2.1 _) (by decide) Ly ?_)
  rw [ei, zI_tn (by omega), ek]
  refine ⟨in_zI (by omega) (by decide), ?_⟩
  have ev : wth h (tOn h nt (am_gi h 216 0)) k nmf = hd0 (evs nmf (fun i => am_gi h 237 (400 * tOn h nt (am_gi h 216 0) + i)) (fun i => am_gi h 238 (400 * tOn h nt (am_gi h 216 0) + i)) [] (p k) (p (k + 1) - p k)) := by
    unfold wth; rw [ek, ek1, zI_tn (by omega), zI_tn (by omega)]
  rw [ev]
  refine l213 (by omega) hk (fun _ => rfl) (fun _ => rfl) M.2.2 M.2.1 ek1 a9.2.1 (p (k + 1) - p k) (p k) [] h (by omega) Ly (SM.rf h) (fun j h2 g1 g2 g3 g4 g5 => ?_) trivial (by decide) (a9.2.2 k hk).1
  have al := (a9.2.2 k hk).2 j g1 g2 g3
  have g3' : am_gi h 237 (400 * tOn h nt (am_gi h 216 0) + j) = 1 := g3
  rcases a9.2.1 j (by omega) with y | y | y
  · exact absurd (y.1.symm.trans g3') (by decide)
  · exact PN _ h2 y.2.1 y.2.2.1 al g4 g5
  · have y1 : 2 ≤ (am_gi h 237 (400 * tOn h nt (am_gi h 216 0) + j)).toInt := y.1
    have : (am_gi h 237 (400 * tOn h nt (am_gi h 216 0) + j)).toInt = 1 := by rw [g3']; rfl
    exact absurd y1 (by omega)
