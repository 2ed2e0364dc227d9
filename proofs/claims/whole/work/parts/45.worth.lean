/-! THE RECKONING, in both programs -/
theorem i_m1m {w : Int32} : (-1 : Int32) - (-1 - w) = w := by
  rw [Int32.sub_eq_add_neg, Int32.neg_sub, Int32.sub_neg, Int32.add_comm w, ← Int32.add_assoc]
  exact Int32.zero_add w
def hOk (o : Int32) (n : Nat) : Prop := ((o = 0 ∨ o = 1) ∧ n < 60) ∨ ((o = 4 ∨ o = 10) ∧ 1 ≤ n) ∨ ((¬ o = 0 ∧ ¬ o = 1 ∧ ¬ o = 4 ∧ ¬ o = 10) ∧ 2 ≤ n)
theorem op_cases {o : Int32} (h : 2 ≤ o.toInt ∧ o.toInt ≤ 10) : o = 4 ∨ o = 10 ∨ (¬ o = 0 ∧ ¬ o = 1 ∧ ¬ o = 4 ∧ ¬ o = 10) := by
  simp only [i_eq]
  have e0 : (0 : Int32).toInt = 0 := rfl
  have e1 : (1 : Int32).toInt = 1 := rfl
  have e4 : (4 : Int32).toInt = 4 := rfl
  have e10 : (10 : Int32).toInt = 10 := rfl
  omega
theorem c71 {h : AH} (Ly : Lay h) {s : List Int64} (S : stC h s) {o w cc : Int32} (R : cR o w cc) {nm : Nat → Int64} (NM : o = 1 → am_gl h 76 w.toNatClampNeg = nm w.toNatClampNeg) (hO : hOk o s.length) (hl : s.length ≤ 60) : Cl 1 71 [.ref 75, .int cc] h (fun r h' => r = none ∧ stC h' (st1 nm o w s) ∧ SW h h') := by
  rcases R with ⟨rfl, rfl, hw⟩ | ⟨rfl, hw1, hw2, rfl⟩ | ⟨ho1, ho2, rfl⟩
  · have hs : s.length < 60 := by
      rcases hO with q | q | q
      · exact q.2
      · exact absurd q.1 (by decide)
      · exact absurd rfl q.1.1
    refine ws71 _ Ly ⟨fun z => ?_, fun _ => Cl.qv (c73 Ly S (by omega) _) (by decide) (fun h' q => ⟨q.2.lay Ly, rfl, ?_, q.2⟩)⟩
    · rw [i_lt] at z; have : cc.toInt < 0 := z; omega
    · have := q.1; unfold st1; rw [if_pos rfl]; exact this
  · have hs : s.length < 60 := by
      rcases hO with q | q | q
      · exact q.2
      · exact absurd q.1 (by decide)
      · exact absurd rfl q.1.2.1
    have e1 : (-1 - w).toInt = -1 - w.toInt := by
      have : (-1 : Int32).toInt = -1 := rfl
      rw [i_sub] <;> omega
    refine ws71 _ Ly ⟨fun _ => ?_, fun z => absurd (by rw [i_lt, e1]; show -1 - w.toInt < 0; omega) z⟩
    rw [i_m1m]
    refine ⟨fun z => ?_, fun _ => ⟨in_of hw1 hw2, Cl.qv (c73 Ly S (by omega) _) (by decide) (fun h' q => ⟨q.2.lay Ly, rfl, ?_, q.2⟩)⟩⟩
    · rw [i_le] at z; have : (8 : Int) ≤ w.toInt := z; omega
    · have := q.1; rw [NM rfl] at this; unfold st1; rw [if_neg (by decide), if_pos rfl]; exact this
  · have nn : (-19 - o).toInt = -19 - o.toInt := by
      have : (-19 : Int32).toInt = -19 := rfl
      rw [i_sub] <;> omega
    have n8 : (8 : Int32) ≤ -1 - (-19 - o) := by
      have e : ((-1 : Int32) - (-19 - o)).toInt = 18 + o.toInt := by
        have : (-1 : Int32).toInt = -1 := rfl
        rw [i_sub] <;> rw [nn] <;> omega
      rw [i_le, e]; show (8 : Int) ≤ _; omega
    have m29 : ∀ k : Int32, k.toInt = -29 → (-19 - o = k ↔ o = 10) := fun k hk => by
      rw [i_eq, nn, hk, i_eq]; have : (10 : Int32).toInt = 10 := rfl; omega
    have m23 : ∀ k : Int32, k.toInt = -23 → (-19 - o = k ↔ o = 4) := fun k hk => by
      rw [i_eq, nn, hk, i_eq]; have : (4 : Int32).toInt = 4 := rfl; omega
    have n01 : ¬ o = 0 ∧ ¬ o = 1 := by
      simp only [i_eq]; have e0 : (0 : Int32).toInt = 0 := rfl; have e1 : (1 : Int32).toInt = 1 := rfl; omega
    refine ws71 _ Ly ⟨fun _ => ⟨fun _ => ⟨fun a => ⟨fun b => ?_, fun b => ?_⟩, fun a => ?_⟩, fun z => absurd n8 z⟩, fun z => absurd (by rw [i_lt, nn]; show -19 - o.toInt < 0; omega) z⟩
    · rw [m29 _ (by decide)] at a; rw [m23 _ (by decide)] at b
      have hs : 2 ≤ s.length := by
        rcases hO with q | q | q
        · exact absurd q.1 (fun w => w.elim n01.1 n01.2)
        · exact absurd q.1 (fun w => w.elim b a)
        · exact q.2
      obtain ⟨y, x, r, rfl⟩ : ∃ y x r, s = y :: x :: r := by
        cases s with
        | nil => simp at hs
        | cons y t => cases t with
          | nil => simp at hs
          | cons x r => exact ⟨y, x, r, rfl⟩
      have hl' : r.length + 2 ≤ 60 := by simpa using hl
      refine Cl.ql (c74 Ly S (by simp; omega)) (by decide) (fun h1 q => ⟨q.2.lay Ly, ?_⟩)
      have Ly1 := q.2.lay Ly
      refine Cl.ql (c74 Ly1 q.1 (by omega)) (by decide) (fun h2 q2 => ⟨q2.2.lay Ly1, ?_⟩)
      have Ly2 := q2.2.lay Ly1
      refine Cl.l (p72 Ly2 o x y ⟨ho1, ho2⟩ b a) (by decide) Ly2 (Cl.qv (c73 Ly2 q2.1 (by omega) _) (by decide) (fun h3 q3 => ⟨q3.2.lay Ly2, rfl, ?_, (q.2.tr q2.2).tr q3.2⟩))
      have := q3.1
      unfold st1; rw [if_neg n01.1, if_neg n01.2, if_neg b, if_neg a]; exact this
    · rw [m23 _ (by decide)] at b
      have b' := Decidable.not_not.mp b
      subst b'
      have hs : 1 ≤ s.length := by
        rcases hO with q | q | q
        · exact absurd q.1 (by decide)
        · exact q.2
        · exact absurd rfl q.1.2.2.1
      obtain ⟨y, r, rfl⟩ : ∃ y r, s = y :: r := by
        cases s with
        | nil => simp at hs
        | cons y r => exact ⟨y, r, rfl⟩
      have hl' : r.length + 1 ≤ 60 := by simpa using hl
      refine Cl.ql (c74 Ly S (by omega)) (by decide) (fun h1 q => ⟨q.2.lay Ly, ?_⟩)
      have Ly1 := q.2.lay Ly
      refine ⟨fun z => Cl.qv (c73 Ly1 q.1 (by omega) _) (by decide) (fun h3 q3 => ⟨q3.2.lay Ly1, rfl, ?_, q.2.tr q3.2⟩), fun z => Cl.qv (c73 Ly1 q.1 (by omega) _) (by decide) (fun h3 q3 => ⟨q3.2.lay Ly1, rfl, ?_, q.2.tr q3.2⟩)⟩
      · rw [lg0] at z
        have e : st1 nm 4 w (y :: r) = (if y = 0 then 1 else 0) :: r := rfl
        rw [e, if_neg z]; exact q3.1
      · rw [lg0] at z
        have e : st1 nm 4 w (y :: r) = (if y = 0 then 1 else 0) :: r := rfl
        rw [e, if_pos (Decidable.not_not.mp z)]; exact q3.1
    · rw [m29 _ (by decide)] at a
      have a' := Decidable.not_not.mp a
      subst a'
      have hs : 1 ≤ s.length := by
        rcases hO with q | q | q
        · exact absurd q.1 (by decide)
        · exact q.2
        · exact absurd rfl q.1.2.2.2
      obtain ⟨y, r, rfl⟩ : ∃ y r, s = y :: r := by
        cases s with
        | nil => simp at hs
        | cons y r => exact ⟨y, r, rfl⟩
      have hl' : r.length + 1 ≤ 60 := by simpa using hl
      refine Cl.ql (c74 Ly S (by omega)) (by decide) (fun h1 q => ⟨q.2.lay Ly, ?_⟩)
      have Ly1 := q.2.lay Ly
      refine Cl.qv (c73 Ly1 q.1 (by omega) _) (by decide) (fun h3 q3 => ⟨q3.2.lay Ly1, rfl, ?_, q.2.tr q3.2⟩)
      exact q3.1
/-- heights along the steps -/
theorem hts_s {op : Nat → Int32} {i m n r : Nat} (h : hts op i (m + 1) n = some r) (hop : op i = 0 ∨ op i = 1 ∨ (2 ≤ (op i).toInt ∧ (op i).toInt ≤ 10)) (nm : Nat → Int64) (w : Int32) {s : List Int64} (hs : s.length = n) : hOk (op i) n ∧ hts op (i + 1) m (st1 nm (op i) w s).length = some r := by
  unfold hts at h
  by_cases h01 : op i = 0 ∨ op i = 1
  · rw [if_pos h01] at h
    by_cases hn : n < 60
    · rw [if_pos hn] at h
      refine ⟨Or.inl ⟨h01, hn⟩, ?_⟩
      have : (st1 nm (op i) w s).length = n + 1 := by
        unfold st1
        rcases h01 with e | e <;> rw [e]
        · rw [if_pos rfl, List.length_cons, hs]
        · rw [if_neg (by decide), if_pos rfl, List.length_cons, hs]
      rw [this]; exact h
    · rw [if_neg hn] at h; cases h
  · rw [if_neg h01] at h
    have n0 : ¬ op i = 0 := fun z => h01 (Or.inl z)
    have n1 : ¬ op i = 1 := fun z => h01 (Or.inr z)
    by_cases h4 : op i = 4 ∨ op i = 10
    · rw [if_pos h4] at h
      by_cases hn : 1 ≤ n
      · rw [if_pos hn] at h
        refine ⟨Or.inr (Or.inl ⟨h4, hn⟩), ?_⟩
        have : (st1 nm (op i) w s).length = n := by
          cases s with
          | nil => simp at hs; omega
          | cons y r =>
            unfold st1
            rw [if_neg n0, if_neg n1]
            by_cases e4 : op i = 4
            · rw [if_pos e4]; exact hs
            · rw [if_neg e4, if_pos (h4.elim (fun z => absurd z e4) id)]; exact hs
        rw [this]; exact h
      · rw [if_neg hn] at h; cases h
    · rw [if_neg h4] at h
      have n4 : ¬ op i = 4 := fun z => h4 (Or.inl z)
      have n10 : ¬ op i = 10 := fun z => h4 (Or.inr z)
      by_cases hn : 2 ≤ n
      · rw [if_pos hn] at h
        refine ⟨Or.inr (Or.inr ⟨⟨n0, n1, n4, n10⟩, hn⟩), ?_⟩
        have : (st1 nm (op i) w s).length = n - 1 := by
          cases s with
          | nil => simp at hs; omega
          | cons y t => cases t with
            | nil => simp at hs; omega
            | cons x r =>
              unfold st1
              rw [if_neg n0, if_neg n1, if_neg n4, if_neg n10]
              simp at hs ⊢; omega
        rw [this]; exact h
      · rw [if_neg hn] at h; cases h
theorem hOk_le {nm : Nat → Int64} {o w : Int32} {s : List Int64} (h : hOk o s.length) (hl : s.length ≤ 60) : (st1 nm o w s).length ≤ 60 := by
  unfold st1
  rcases h with ⟨e, q⟩ | ⟨e, q⟩ | ⟨⟨a, b, c, d⟩, q⟩
  · rcases e with rfl | rfl
    · rw [if_pos rfl, List.length_cons]; omega
    · rw [if_neg (by decide), if_pos rfl, List.length_cons]; omega
  · rcases e with rfl | rfl
    · rw [if_neg (by decide), if_neg (by decide), if_pos rfl]
      cases s with
      | nil => simp
      | cons y r => exact hl
    · rw [if_neg (by decide), if_neg (by decide), if_neg (by decide), if_pos rfl]
      cases s with
      | nil => simp
      | cons y r => exact hl
  · rw [if_neg a, if_neg b, if_neg c, if_neg d]
    cases s with
    | nil => simp
    | cons y t => cases t with
      | nil => exact hl
      | cons x r => simp at hl ⊢; omega
theorem cR_op {o w c : Int32} (h : cR o w c) : o = 0 ∨ o = 1 ∨ (2 ≤ o.toInt ∧ o.toInt ≤ 10) := h.imp (fun z => z.1) (fun z => z.imp (fun y => y.1) (fun y => ⟨y.1, y.2.1⟩))
/-- the class's loop over the code of text t -/
theorem l70 {t b n4 : Nat} (ht : t < 12) (hb : b = 214 ∨ b = 215 ∨ 263 ≤ b) {op w cd : Nat → Int32} {nm : Nat → Int64} (n400 : n4 ≤ 400) (CR : ∀ i, i < n4 → cR (op i) (w i) (cd i)) : ∀ m i s h, i + m ≤ n4 → Lay h → am_gr h (148 + 4 * t) 1 = some b → am_kd h b = 100 → am_ln h b = n4 → (∀ j, j < n4 → am_gi h b j = cd j) → (∀ j, i ≤ j → j < i + m → op j = 1 → am_gl h 76 (w j).toNatClampNeg = nm (w j).toNatClampNeg) → stC h s → s.length ≤ 60 → hts op i m s.length = some 1 → Ev 3 70 30 [.ref 75, .ref (148 + 4 * t), .null, .int (zI (i + m)), .int (zI i)] [] h (fun r h' => r = some (.long (hd0 (evs nm op w s i m))) ∧ SW h h')
  | 0, i, s, h, hi, Ly, e1, e2, e3, e4, NM, S, hl, ht' => by
    have hs : s.length = 1 := by
      have : hts op i 0 s.length = some s.length := rfl
      rw [this] at ht'; exact Option.some.inj ht'
    obtain ⟨v, rfl⟩ : ∃ v, s = [v] := by
      cases s with
      | nil => simp at hs
      | cons v r => cases r with
        | nil => exact ⟨v, rfl⟩
        | cons _ _ => simp at hs
    exact ws70_30 ht _ _ Ly ⟨fun _ => Cl.ql (c74 Ly S (by decide)) (by decide) (fun h1 q => ⟨q.2.lay Ly, rfl, q.2⟩), fun z => absurd (Int32.le_refl _) z⟩
  | m + 1, i, s, h, hi, Ly, e1, e2, e3, e4, NM, S, hl, ht' => by
    have H := hts_s ht' (cR_op (CR i (by omega))) nm (w i) rfl
    refine ws70_30 ht _ _ Ly ⟨fun z => absurd ((zI_le (by omega) (by omega)).mp z) (by omega), fun _ => ⟨b, e1, e2, by rw [e3]; exact in_zI (by omega) (by omega), ?_⟩⟩
    rw [zI_tn (by omega), e4 i (by omega), zI_succ]
    refine Cl.qv (c71 Ly S (CR i (by omega)) (NM i (by omega) (by omega)) H.1 hl) (by decide) (fun h1 q => ⟨q.2.lay Ly, ?_⟩)
    have f := q.2.2
    have S1 := q.2.1
    have ih := l70 (nm := nm) ht hb n400 CR m (i + 1) _ h1 (by omega) (q.2.lay Ly) (by rw [S1.2.2.2.2]; exact e1) (by rw [S1.2.2.1]; exact e2) (by rw [S1.2.2.2.1]; exact e3) (fun j hj => by rw [(f b j (by omega) (by omega)).1]; exact e4 j hj) (fun j g1 g2 g3 => by rw [(f 76 _ (by omega) (by omega)).2]; exact NM j (by omega) (by omega) g3) q.1 (hOk_le H.1 hl) H.2
    rw [show i + 1 + m = i + (m + 1) by omega] at ih
    exact Ev.mono ih (Nat.le_refl _) (fun r h' p => ⟨p.1, q.2.tr p.2⟩)
/-- what part k of text t is worth, names being nm -/
def wth (h : AH) (t k : Nat) (nm : Nat → Int64) : Int64 := hd0 (evs nm (fun i => am_gi h 237 (400 * t + i)) (fun i => am_gi h 238 (400 * t + i)) [] (am_gi h 239 (5 * t + k)).toNatClampNeg ((am_gi h 239 (5 * t + k + 1)).toNatClampNeg - (am_gi h 239 (5 * t + k)).toNatClampNeg))
theorem p265 {h : AH} {a b : Nat} (hab : a ≤ b) (hb : b < 2147483648) : PF 0 265 [.int (zI a), .int (zI b)] h (.int (zI a)) := by
  refine wp265 _ _ ⟨fun z => absurd ((zI_lt hb (by omega)).mp z) (by omega), fun _ => ⟨rfl, rfl⟩⟩
theorem ICd.mono {op w c : Nat → Int32} {p : Nat → Nat} (I : ICd op w c p) {k : Nat} (hk : k < 4) : p k ≤ p (k + 1) ∧ p (k + 1) ≤ p 4 ∧ p 4 ≤ 400 := by
  obtain ⟨a, b, c, d, e, f⟩ := I.1
  rcases (show k = 0 ∨ k = 1 ∨ k = 2 ∨ k = 3 by omega) with rfl | rfl | rfl | rfl
  · show p 0 ≤ p 1 ∧ p 1 ≤ p 4 ∧ p 4 ≤ 400; omega
  · show p 1 ≤ p 2 ∧ p 2 ≤ p 4 ∧ p 4 ≤ 400; omega
  · show p 2 ≤ p 3 ∧ p 3 ≤ p 4 ∧ p 4 ≤ 400; omega
  · show p 3 ≤ p 4 ∧ p 4 ≤ p 4 ∧ p 4 ≤ 400; omega
theorem c70 {L : Nat} {xs : Nat → Int32} {c : Nat} {h : AH} {nh nm nr na nt nc : Nat} (I : InvN L xs c h nh nm nr na nt nc) {t k : Nat} (ht : t < nt) (hk : k < 4) {nmf : Nat → Int64} (NM : ∀ w : Int32, 0 ≤ w.toInt → w.toInt < 8 → alw k w → am_gl h 76 w.toNatClampNeg = nmf w.toNatClampNeg) : Cl 3 70 [.ref 75, .ref (148 + 4 * t), .int (zI k)] h (fun r h' => r = some (.long (wth h t k nmf)) ∧ SW h h') := by
  have Ly := I.lay
  have b := I.itx.1
  obtain ⟨bb, p, a1, a2, a3, a4, a5, a6, a8, a9⟩ := (I.itx.2.2.2.2.1 t ht).2.2
  have M := a9.mono hk
  have ek : am_gi h 239 (5 * t + k) = zI (p k) := (a8 k (by omega)).2
  have ek1 : am_gi h 239 (5 * t + k + 1) = zI (p (k + 1)) := (a8 (k + 1) (by omega)).2
  refine ws70 (by omega) _ Ly (fun h0 e0 => ?_)
  subst e0
  rw [zI_succ, zI_tn (by omega), zI_tn (by omega)]
  refine ⟨in_zI (by omega) (by decide), bb, a1, by show 100 ≤ am_kd h bb ∧ am_kd h bb ≤ 109; rw [a5]; decide, ?_⟩
  rw [gi_ne (by omega), (a8 (k + 1) (by omega)).1]
  show Cl 2 265 [.int (zI (p (k + 1))), .int (Int32.ofNat (am_ln h bb))] _ _
  rw [a6]
  refine Cl.i (p265 M.2.1 (by omega)) (by decide) (Ly.si _ _ _) ⟨in_zI (by omega) (by decide), ?_⟩
  rw [gi_ne (by omega), (a8 k (by omega)).1]
  have ev : wth h t k nmf = hd0 (evs nmf (fun i => am_gi h 237 (400 * t + i)) (fun i => am_gi h 238 (400 * t + i)) [] (p k) (p (k + 1) - p k)) := by
    unfold wth; rw [ek, ek1, zI_tn (by omega), zI_tn (by omega)]
  rw [ev]
  have q := l70 (t := t) (nm := nmf) (by omega) a3 M.2.2 a9.2.1 (p (k + 1) - p k) (p k) [] (am_si h 75 2 0) (by omega) (Ly.si _ _ _) a1 a5 a6 (fun j _ => gi_ne (by omega)) (fun j g1 g2 g3 => ?_) ⟨by rw [gi_eq]; rfl, trivial⟩ (by decide) (a9.2.2 k hk).1
  · rw [show p k + (p (k + 1) - p k) = p (k + 1) by omega] at q
    exact Ev.mono q (Nat.le_refl _) (fun r h' z => ⟨z.1, ((SW.rf h).si).tr z.2⟩)
  · have al := (a9.2.2 k hk).2 j g1 (by omega) g3
    have cr := a9.2.1 j (by omega)
    have g3' : am_gi h 237 (400 * t + j) = 1 := g3
    rcases cr with y | y | y
    · exact absurd (y.1.symm.trans g3') (by decide)
    · exact NM _ y.2.1 y.2.2.1 al
    · have y1 : 2 ≤ (am_gi h 237 (400 * t + j)).toInt := y.1
      have : (am_gi h 237 (400 * t + j)).toInt = 1 := by rw [g3']; rfl
      exact absurd y1 (by omega)
