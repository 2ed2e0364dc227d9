/-! PROPOSE 4: the reading: what a step does without machines, and the small steps of both programs -/
theorem hts_app {op : Nat → Int32} : ∀ {a b i n : Nat}, hts op i (a + b) n = (hts op i a n).bind (fun r => hts op (i + a) b r)
  | 0, b, i, n => by rw [Nat.zero_add]; rfl
  | a + 1, b, i, n => by
    rw [show a + 1 + b = (a + b) + 1 by omega]
    rw [show hts op i ((a + b) + 1) n = (if op i = 0 ∨ op i = 1 then (if n < 60 then hts op (i + 1) (a + b) (n + 1) else none) else if op i = 4 ∨ op i = 10 then (if 1 ≤ n then hts op (i + 1) (a + b) n else none) else (if 2 ≤ n then hts op (i + 1) (a + b) (n - 1) else none)) from rfl, show hts op i (a + 1) n = (if op i = 0 ∨ op i = 1 then (if n < 60 then hts op (i + 1) a (n + 1) else none) else if op i = 4 ∨ op i = 10 then (if 1 ≤ n then hts op (i + 1) a n else none) else (if 2 ≤ n then hts op (i + 1) a (n - 1) else none)) from rfl]
    rw [show i + (a + 1) = i + 1 + a by omega]
    by_cases c1 : op i = 0 ∨ op i = 1
    · rw [if_pos c1, if_pos c1]
      by_cases c2 : n < 60
      · rw [if_pos c2, if_pos c2]; exact hts_app
      · rw [if_neg c2, if_neg c2]; rfl
    · rw [if_neg c1, if_neg c1]
      by_cases c2 : op i = 4 ∨ op i = 10
      · rw [if_pos c2, if_pos c2]
        by_cases c3 : 1 ≤ n
        · rw [if_pos c3, if_pos c3]; exact hts_app
        · rw [if_neg c3, if_neg c3]; rfl
      · rw [if_neg c2, if_neg c2]
        by_cases c3 : 2 ≤ n
        · rw [if_pos c3, if_pos c3]; exact hts_app
        · rw [if_neg c3, if_neg c3]; rfl
theorem hts_congr {op op' : Nat → Int32} : ∀ {m i n : Nat}, (∀ j, i ≤ j → j < i + m → op j = op' j) → hts op i m n = hts op' i m n
  | 0, i, n, _ => rfl
  | m + 1, i, n, e => by
    have e0 := e i (Nat.le_refl _) (by omega)
    have ih : ∀ n, hts op (i + 1) m n = hts op' (i + 1) m n := fun n => hts_congr (fun j h1 h2 => e j (by omega) (by omega))
    rw [show hts op i (m + 1) n = (if op i = 0 ∨ op i = 1 then (if n < 60 then hts op (i + 1) m (n + 1) else none) else if op i = 4 ∨ op i = 10 then (if 1 ≤ n then hts op (i + 1) m n else none) else (if 2 ≤ n then hts op (i + 1) m (n - 1) else none)) from rfl, show hts op' i (m + 1) n = (if op' i = 0 ∨ op' i = 1 then (if n < 60 then hts op' (i + 1) m (n + 1) else none) else if op' i = 4 ∨ op' i = 10 then (if 1 ≤ n then hts op' (i + 1) m n else none) else (if 2 ≤ n then hts op' (i + 1) m (n - 1) else none)) from rfl, e0, ih, ih, ih]
/-- what a piece of the reading does: places p to p', steps m to m', heights a to b -/
def PU (B : Nat → Int32) (n k H a b p m : Nat) (op w : Nat → Int32) (l : Int32) (ok : Bool) (p' m' : Nat) (op' w' : Nat → Int32) (l' : Int32) : Prop := (p ≤ p' ∧ p' ≤ n ∧ m ≤ m' ∧ m' + p ≤ m + p') ∧ (∀ i, i < m → op' i = op i ∧ w' i = w i) ∧ (¬ l = -1 → l' = l) ∧ (l' = -1 → ∀ i, m ≤ i → i < m' → op' i = 1 → alw k (w' i)) ∧ (ok = true → (∀ i, p ≤ i → i < p' → (B i).toInt ≤ 127) ∧ ∀ z, z + H ≤ 60 → hts op' m (m' - m) (z + a) = some (z + b))
theorem PU.fl {B : Nat → Int32} {n k H a b p m H' a' b' p' m' : Nat} {op w op' w' : Nat → Int32} {l l' : Int32} (U : PU B n k H a b p m op w l false p' m' op' w' l') : PU B n k H' a' b' p m op w l false p' m' op' w' l' := ⟨U.1, U.2.1, U.2.2.1, U.2.2.2.1, fun z => absurd z (by decide)⟩
theorem PU.mn {B : Nat → Int32} {n k H a b p m H' p' m' : Nat} {op w op' w' : Nat → Int32} {l l' : Int32} {ok : Bool} (U : PU B n k H a b p m op w l ok p' m' op' w' l') (h : H ≤ H') : PU B n k H' a b p m op w l ok p' m' op' w' l' := ⟨U.1, U.2.1, U.2.2.1, U.2.2.2.1, fun z => ⟨(U.2.2.2.2 z).1, fun y hy => (U.2.2.2.2 z).2 y (by omega)⟩⟩
theorem PU.sh {B : Nat → Int32} {n k H a b p m p' m' : Nat} {op w op' w' : Nat → Int32} {l l' : Int32} {ok : Bool} (U : PU B n k H a b p m op w l ok p' m' op' w' l') : PU B n k (H + 1) (a + 1) (b + 1) p m op w l ok p' m' op' w' l' := ⟨U.1, U.2.1, U.2.2.1, U.2.2.2.1, fun z => ⟨(U.2.2.2.2 z).1, fun y hy => by
  have := (U.2.2.2.2 z).2 (y + 1) (by omega)
  rw [show y + (a + 1) = y + 1 + a by omega, show y + (b + 1) = y + 1 + b by omega]; exact this⟩⟩
theorem PU.rf {B : Nat → Int32} {n k H a p m : Nat} {op w : Nat → Int32} {l : Int32} {ok : Bool} (h : p ≤ n) : PU B n k H a a p m op w l ok p m op w l := ⟨⟨Nat.le_refl _, h, Nat.le_refl _, Nat.le_refl _⟩, fun _ _ => ⟨rfl, rfl⟩, fun _ => rfl, fun _ i h1 h2 => absurd h2 (by omega), fun _ => ⟨fun i h1 h2 => absurd h2 (by omega), fun z _ => by rw [Nat.sub_self]; rfl⟩⟩
theorem PU.seq {B : Nat → Int32} {n k H a b c p m p1 m1 p2 m2 : Nat} {op w op1 w1 op2 w2 : Nat → Int32} {l l1 l2 : Int32} {ok : Bool} (A : PU B n k H a b p m op w l true p1 m1 op1 w1 l1) (C : PU B n k H b c p1 m1 op1 w1 l1 ok p2 m2 op2 w2 l2) : PU B n k H a c p m op w l ok p2 m2 op2 w2 l2 := by
  obtain ⟨⟨a1, a2, a3, a4⟩, a5, a6, a7, a8⟩ := A
  obtain ⟨⟨c1, c2, c3, c4⟩, c5, c6, c7, c8⟩ := C
  obtain ⟨a8, a9⟩ := a8 rfl
  refine ⟨⟨by omega, c2, by omega, by omega⟩, fun i hi => ⟨(c5 i (by omega)).1.trans (a5 i hi).1, (c5 i (by omega)).2.trans (a5 i hi).2⟩, fun z => ?_, fun z i h1 h2 h3 => ?_, fun z => ⟨fun i h1 h2 => ?_, fun y hy => ?_⟩⟩
  · have := a6 z
    rw [← this] at z
    exact (c6 z).trans this
  · have y : l1 = -1 := by
      by_cases x : l1 = -1
      · exact x
      · exact absurd ((c6 x).symm.trans z) x
    by_cases x : i < m1
    · rw [(c5 i x).1] at h3; rw [(c5 i x).2]; exact a7 y i h1 x h3
    · exact c7 z i (by omega) h2 h3
  · by_cases x : i < p1
    · exact a8 i h1 x
    · exact (c8 z).1 i (by omega) h2
  · rw [show m2 - m = (m1 - m) + (m2 - m1) by omega, hts_app, hts_congr (op' := op1) (fun j h1 h2 => (c5 j (by omega)).1), a9 y hy, show m + (m1 - m) = m1 by omega]
    exact (c8 z).2 y hy
theorem PU.con {B : Nat → Int32} {n k H a p m : Nat} {op w : Nat → Int32} {l : Int32} (h : p ≤ n) (t : ¬ tk B n p = 2) : PU B n k H a a p m op w l true (en B n p) m op w l := by
  have b := bgn_b (B := B) h
  have e := en_b (B := B) h
  exact ⟨⟨by omega, e.2.1, Nat.le_refl _, by omega⟩, fun _ _ => ⟨rfl, rfl⟩, fun _ => rfl, fun _ i h1 h2 => absurd h2 (by omega), fun _ => ⟨fun i h1 h2 => tk_127 h t i h1 h2, fun z _ => by rw [Nat.sub_self]; rfl⟩⟩
/-- which steps take one off the pile, which leave it -/
theorem hts_1 {op : Nat → Int32} {m r c : Nat} {o : Int32} (e : op m = o) (h : (o = 4 ∨ o = 10) ∧ c = r ∧ 1 ≤ r ∨ (2 ≤ o.toInt ∧ ¬ o = 4 ∧ ¬ o = 10) ∧ r = c + 1 ∧ 2 ≤ r ∨ (o = 0 ∨ o = 1) ∧ c = r + 1 ∧ r < 60) : hts op m 1 r = some c := by
  rw [show hts op m 1 r = (if op m = 0 ∨ op m = 1 then (if r < 60 then some (r + 1) else none) else if op m = 4 ∨ op m = 10 then (if 1 ≤ r then some r else none) else (if 2 ≤ r then some (r - 1) else none)) from rfl, e]
  rcases h with ⟨h1, h2, h3⟩ | ⟨⟨h1, h4, h5⟩, h2, h3⟩ | ⟨h1, h2, h3⟩
  · rw [if_neg (fun z => by rcases h1 with h | h <;> (rw [h] at z; exact absurd z (by decide))), if_pos h1, if_pos h3, h2]
  · rw [if_neg (fun z => by rcases z with z | z <;> (rw [z] at h1; exact absurd h1 (by decide))), if_neg (fun z => z.elim h4 h5), if_pos h3]
    congr 1; omega
  · rw [if_pos h1, if_pos h3, h2]
/-- a token, what it takes, and its step -/
theorem PU.app {B : Nat → Int32} {n k H a b c p m p1 m1 : Nat} {op w op1 w1 : Nat → Int32} {l l1 o : Int32} (h : p ≤ n) (t2 : ¬ tk B n p = 2) (t0 : ¬ tk B n p = 0) (U : PU B n k H a b (en B n p) m op w l true p1 m1 op1 w1 l1) (ho : ((o = 4 ∨ o = 10) ∧ c = b ∧ 1 ≤ b) ∨ ((2 ≤ o.toInt ∧ ¬ o = 4 ∧ ¬ o = 10) ∧ b = c + 1 ∧ 2 ≤ b)) : PU B n k H a c p m op w l true p1 (m1 + 1) (wr op1 m1 o) (wr w1 m1 0) l1 := by
  have e := (en_b (B := B) h).2.2 t0
  obtain ⟨⟨u1, u2, u3, u4⟩, u5, u6, u7, u8⟩ := U
  obtain ⟨u8, u9⟩ := u8 rfl
  have n1 : ¬ o = 1 := fun z => by
    rcases ho with h | h
    · rcases h.1 with h | h <;> (rw [z] at h; exact absurd h (by decide))
    · have := h.1.1; rw [z] at this; exact absurd this (by decide)
  refine ⟨⟨by omega, u2, by omega, by omega⟩, fun i hi => ⟨by rw [wr_ne (by omega)]; exact (u5 i hi).1, by rw [wr_ne (by omega)]; exact (u5 i hi).2⟩, u6, fun z i h1 h2 h3 => ?_, fun _ => ⟨fun i h1 h2 => ?_, fun z hz => ?_⟩⟩
  · by_cases y : i = m1
    · rw [y, wr_eq] at h3; exact absurd h3 n1
    · rw [wr_ne y] at h3; rw [wr_ne y]; exact u7 z i h1 (by omega) h3
  · by_cases y : i < en B n p
    · exact tk_127 h t2 i h1 y
    · exact u8 i (by omega) h2
  · rw [show m1 + 1 - m = (m1 - m) + 1 by omega, hts_app, hts_congr (op' := op1) (fun j h1 h2 => wr_ne (by omega)), u9 z hz, show m + (m1 - m) = m1 by omega]
    refine hts_1 (o := o) wr_eq ?_
    rcases ho with ⟨x1, x2, x3⟩ | ⟨x1, x2, x3⟩
    · exact Or.inl ⟨x1, by omega, by omega⟩
    · exact Or.inr (Or.inl ⟨x1, by omega, by omega⟩)
theorem PU.apf {B : Nat → Int32} {n k H a b H' a' b' p m p1 m1 : Nat} {op w op1 w1 : Nat → Int32} {l l1 : Int32} (h : p ≤ n) (U : PU B n k H a b (en B n p) m op w l false p1 m1 op1 w1 l1) : PU B n k H' a' b' p m op w l false p1 m1 op1 w1 l1 := by
  have b := bgn_b (B := B) h
  have e := en_b (B := B) h
  exact ⟨⟨by have := U.1.1; omega, U.1.2.1, U.1.2.2.1, by have := U.1.2.2.2; omega⟩, U.2.1, U.2.2.1, U.2.2.2.1, fun z => absurd z (by decide)⟩
/-- a number or a name -/
def LN (k : Nat) (l v : Int32) (b : Nat) (l' : Int32) : Prop := (¬ l = -1 ∧ l' = l) ∨ (l = -1 ∧ alw k v ∧ l' = l) ∨ (l = -1 ∧ ¬ alw k v ∧ l' = zI b)
theorem LN_ex (k : Nat) (l v : Int32) (b : Nat) : ∃ l', LN k l v b l' := by
  by_cases z : l = -1
  · by_cases y : alw k v
    · exact ⟨l, Or.inr (Or.inl ⟨z, y, rfl⟩)⟩
    · exact ⟨zI b, Or.inr (Or.inr ⟨z, y, rfl⟩)⟩
  · exact ⟨l, Or.inl ⟨z, rfl⟩⟩
theorem PU.opd {B : Nat → Int32} {n k H p m : Nat} {op w : Nat → Int32} {l l' o v : Int32} (hn : n ≤ 400) (h : p ≤ n) (hH : 1 ≤ H) (t2 : ¬ tk B n p = 2) (t0 : ¬ tk B n p = 0) (ho : (o = 0 ∧ l' = l) ∨ (o = 1 ∧ LN k l v (bgn B n p) l')) : PU B n k H 0 1 p m op w l true (en B n p) (m + 1) (wr op m o) (wr w m v) l' := by
  have b := bgn_b (B := B) h
  have e := en_b (B := B) h
  have e1 := e.2.2 t0
  refine ⟨⟨by omega, e.2.1, by omega, by omega⟩, fun i hi => ⟨wr_ne (by omega), wr_ne (by omega)⟩, fun z => ?_, fun z i h1 h2 h3 => ?_, fun _ => ⟨fun i h1 h2 => tk_127 h t2 i h1 h2, fun z hz => ?_⟩⟩
  · rcases ho with x | ⟨_, x | x | x⟩
    · exact x.2
    · exact x.2
    · exact x.2.2
    · exact absurd x.1 z
  · rw [show i = m by omega, wr_eq] at h3
    rw [show i = m by omega, wr_eq]
    rcases ho with x | ⟨_, x | x | x⟩
    · rw [x.1] at h3; exact absurd h3 (by decide)
    · rw [x.2] at z; exact absurd z x.1
    · exact x.2.1
    · rw [x.2.2] at z; exact absurd z (zI_ne1 (by omega))
  · rw [show m + 1 - m = 1 by omega]
    exact hts_1 (o := o) wr_eq (Or.inr (Or.inr ⟨ho.elim (fun x => Or.inl x.1) (fun x => Or.inr x.1), by omega, by omega⟩))
/-- the class while it reads -/
def Rc (B : Nat → Int32) (n k : Nat) (h0 : AH) (p m : Nat) (op w : Nat → Int32) (l : Int32) (h : AH) : Prop := SB B n h0 ∧ FRc h0 h ∧ (∀ i, am_gi h 74 i = am_gi h0 74 i) ∧ am_gi h 71 7 = zI k ∧ am_gi h 71 8 = zI (en B n p) ∧ am_gi h 71 9 = tkc (tk B n p) ∧ am_gi h 71 10 = zI (bgn B n p) ∧ (tk B n p = 1 ∨ tk B n p = 3 → am_gi h 71 11 = vl B n p) ∧ am_gi h 71 12 = l ∧ am_gi h 71 3 = zI m ∧ ∀ i, i < m → cR (op i) (w i) (am_gi h 73 i)
theorem Rc.sb {B : Nat → Int32} {n k p m : Nat} {h0 h : AH} {op w : Nat → Int32} {l : Int32} (R : Rc B n k h0 p m op w l h) : SB B n h := R.1.of R.2.1
theorem Rc.ly {B : Nat → Int32} {n k p m : Nat} {h0 h : AH} {op w : Nat → Int32} {l : Int32} (R : Rc B n k h0 p m op w l h) : LyC h := R.sb.1
theorem Rc.adv {B : Nat → Int32} {n k p m : Nat} {h0 h : AH} {op w : Nat → Int32} {l : Int32} (R : Rc B n k h0 p m op w l h) (hp : p ≤ n) : Cl 3 44 [.ref 71] h (fun r h' => r = none ∧ Rc B n k h0 (en B n p) m op w l h') := by
  have S := R.sb
  obtain ⟨r1, r2, r0, r3, r4, r5, r6, r7, r8, r9, r10⟩ := R
  refine Cl.mono (c44 S (en_b (B := B) hp).2.1 r4) (Nat.le_refl _) (fun r h' q => ⟨q.1, ?_⟩)
  obtain ⟨-, F, q8, q9, q10, q11⟩ := q
  exact ⟨r1, r2.tr F.fc, fun i => by rw [F.2.1 _ _ (by omega)]; exact r0 i, by rw [F.2.1 _ _ (by omega)]; exact r3, q8, q9, q10, q11, by rw [F.2.1 _ _ (by omega)]; exact r8, by rw [F.2.1 _ _ (by omega)]; exact r9, fun i hi => by rw [F.2.1 _ _ (by omega)]; exact r10 i hi⟩
theorem Rc.emit {B : Nat → Int32} {n k p m : Nat} {h0 h : AH} {op w : Nat → Int32} {l o v c : Int32} (R : Rc B n k h0 p m op w l h) (hm : m < 400) (hc : cR o v c) : Cl 0 43 [.ref 71, .int c] h (fun r h' => r = none ∧ Rc B n k h0 p (m + 1) (wr op m o) (wr w m v) l h') := by
  have Ly := R.ly
  obtain ⟨r1, r2, r0, r3, r4, r5, r6, r7, r8, r9, r10⟩ := R
  refine wc43 _ Ly ⟨fun z => absurd ?_ (show ¬ 400 ≤ m by omega), fun _ => ?_⟩
  · rw [r9] at z; exact (zI_le (m := 400) (by decide) (by omega)).mp z
  · rw [r9, zI_tn (by omega)]
    refine ⟨in_zI hm (by decide), fun h2 e2 h3 e3 => ⟨rfl, ?_⟩⟩
    rw [e2, gi_ne (by omega), r9, zI_succ] at e3
    rw [e3]
    refine ⟨r1, (r2.si _ (by omega)).si _ (by omega), fun i => by rw [gi_ne (by omega), gi_ne (by omega)]; exact r0 i, by rw [gi_ne (by omega), gi_ne (by omega)]; exact r3, by rw [gi_ne (by omega), gi_ne (by omega)]; exact r4, by rw [gi_ne (by omega), gi_ne (by omega)]; exact r5, by rw [gi_ne (by omega), gi_ne (by omega)]; exact r6, fun z => by rw [gi_ne (by omega), gi_ne (by omega)]; exact r7 z, by rw [gi_ne (by omega), gi_ne (by omega)]; exact r8, by rw [gi_eq], fun i hi => ?_⟩
    by_cases y : i = m
    · rw [y, wr_eq, wr_eq, gi_ne (by omega), gi_eq]; exact hc
    · rw [wr_ne y, wr_ne y, gi_ne (by omega), gi_ne (by omega)]; exact r10 i (by omega)
theorem tq {B : Nat → Int32} {n p : Nat} {c T : Int32} (hT : T ∈ toks) (hc : tkc T = c) : tkc (tk B n p) = c ↔ tk B n p = T := ⟨fun z => tkc_i _ (tk_t B n p) _ hT (z.trans hc.symm), fun z => by rw [z, hc]⟩
theorem Rc.tok {B : Nat → Int32} {n k p m : Nat} {h0 h : AH} {op w : Nat → Int32} {l : Int32} (R : Rc B n k h0 p m op w l h) {c T : Int32} (hT : T ∈ toks) (hc : tkc T = c) : am_gi h 71 9 = c ↔ tk B n p = T := by rw [R.2.2.2.2.2.1]; exact tq hT hc
theorem Rc.skip {B : Nat → Int32} {n k p m : Nat} {h0 h : AH} {op w : Nat → Int32} {l c T : Int32} (R : Rc B n k h0 p m op w l h) (hp : p ≤ n) (hT : T ∈ toks) (hc : tkc T = c) : (tk B n p = T → Cl 4 42 [.ref 71, .int c] h (fun r h' => r = some (.int 1) ∧ Rc B n k h0 (en B n p) m op w l h')) ∧ (¬ tk B n p = T → PF 4 42 [.ref 71, .int c] h (.int 0)) := by
  have q := R.tok hT hc
  refine ⟨fun z => wc42 _ R.ly ⟨fun _ => Cl.qvc (R.adv hp) (by decide) (fun h' R' => ⟨R'.ly, rfl, R'⟩), fun y => absurd (q.mpr z) y⟩, fun z => wc42 _ R.ly ⟨fun y => absurd (q.mp y) z, fun _ => ⟨rfl, rfl⟩⟩⟩
theorem alw_b : ∀ k, k < 4 → ∀ j, j < 8 → (((am_at am_alw k >>> (zI j &&& 31)) &&& 1 = (0 : Int32)) ↔ ¬ (if k < 2 then (zI j).toInt < 7 else if k = 2 then zI j = 7 else (zI j = 1 ∨ zI j = 2 ∨ zI j = 5 ∨ zI j = 6))) := by decide +kernel
theorem c41 {B : Nat → Int32} {n k p m : Nat} {h0 h : AH} {op w : Nat → Int32} {l : Int32} (R : Rc B n k h0 p m op w l h) (hp : p ≤ n) (hm : m < 400) (z : tk B n p = 1) : Cl 5 41 [.ref 71] h (fun r h' => r = none ∧ Rc B n k h0 (en B n p) (m + 1) (wr op m 0) (wr w m (vl B n p)) l h') := by
  refine wc41 R.ly ⟨fun y => absurd ((R.tok (T := 1) (by decide) rfl).mpr z) y, fun _ => ?_⟩
  rw [R.2.2.2.2.2.2.2.1 (Or.inl z)]
  exact Cl.qvc (R.emit hm (Or.inl ⟨rfl, rfl, (vl_b hp).1 z⟩)) (by decide) (fun h1 R1 => ⟨R1.ly, Cl.qvc (R1.adv hp) (by decide) (fun h2 R2 => ⟨R2.ly, rfl, R2⟩)⟩)
theorem c41n {B : Nat → Int32} {n k p m : Nat} {h0 h : AH} {op w : Nat → Int32} {l l' : Int32} (R : Rc B n k h0 p m op w l h) (hk : k < 4) (hp : p ≤ n) (hm : m < 400) (z : tk B n p = 3) (N : LN k l (vl B n p) (bgn B n p) l') : Cl 5 41 [.ref 71] h (fun r h' => r = none ∧ Rc B n k h0 (en B n p) (m + 1) (wr op m 1) (wr w m (vl B n p)) l' h') := by
  obtain ⟨j, hj, ej⟩ := (vl_b (B := B) hp).2 z
  refine wc41 R.ly ⟨fun _ => ?_, fun y => absurd (fun x => ?_) y⟩
  · rw [R.2.2.2.2.2.2.2.1 (Or.inr z)]
    have q : (zI j).toInt = j := zI_toInt (by omega)
    refine Cl.qvc (R.emit (o := 1) (v := vl B n p) hm (Or.inr (Or.inl ⟨rfl, by rw [ej]; omega, by rw [ej]; omega, rfl⟩))) (by decide) (fun h1 R1 => ⟨R1.ly, fun y => ?_, fun y => ?_⟩)
    · rw [R1.2.2.2.2.2.2.2.2.1] at y
      rcases N with N | N | N
      · rw [N.2]; exact Cl.qvc (R1.adv hp) (by decide) (fun h2 R2 => ⟨R2.ly, rfl, R2⟩)
      · exact absurd N.1 y
      · exact absurd N.1 y
    · have S1 := R1.sb
      have y := Decidable.not_not.mp y
      rw [R1.2.2.2.2.2.2.2.2.1] at y
      rw [R1.2.2.2.1, zI_tn (by omega), S1.2.2.2.2.2.2.1, S1.2.2.2.2.2.2.2, R1.2.2.2.2.2.2.2.1 (Or.inr z)]
      refine ⟨S1.2.2.2.2.2.1, in_zI hk (by decide), fun x => ?_, fun x h9 e9 => ?_⟩
      · rw [ej, alw_b k hk j hj] at x
        rcases N with N | N | N
        · exact absurd y N.1
        · rw [N.2.2]; exact Cl.qvc (R1.adv hp) (by decide) (fun h2 R2 => ⟨R2.ly, rfl, R2⟩)
        · rw [ej] at N; exact absurd N.2.1 x
      · rw [ej, alw_b k hk j hj] at x
        have x := Decidable.not_not.mp x
        rcases N with N | N | N
        · exact absurd y N.1
        · rw [ej] at N; exact absurd N.2.1 x
        · rw [R1.2.2.2.2.2.2.1] at e9
          have R9 : Rc B n k h0 p (m + 1) (wr op m 1) (wr w m (vl B n p)) l' h9 := by
            obtain ⟨r1, r2, r0, r3, r4, r5, r6, r7, r8, r9, r10⟩ := R1
            rw [e9, N.2.2]
            exact ⟨r1, r2.si _ (by omega), fun i => by rw [gi_ne (by omega)]; exact r0 i, by rw [gi_ne (by omega)]; exact r3, by rw [gi_ne (by omega)]; exact r4, by rw [gi_ne (by omega)]; exact r5, by rw [gi_ne (by omega)]; exact r6, fun z => by rw [gi_ne (by omega)]; exact r7 z, by rw [gi_eq], by rw [gi_ne (by omega)]; exact r9, fun i hi => by rw [gi_ne (by omega)]; exact r10 i hi⟩
          exact Cl.qvc (R9.adv hp) (by decide) (fun h2 R2 => ⟨R2.ly, rfl, R2⟩)
  · have x := (R.tok (c := 2) (T := 1) (by decide) rfl).mp x
    rw [z] at x; exact absurd x (by decide)
/-- the reference while it reads, and once it has found what can't stand there -/
def Rm (B : Nat → Int32) (n t k o : Nat) (h0 : AH) (p m : Nat) (op w : Nat → Int32) (l : Int32) (h : AH) : Prop := SR B n t h0 ∧ FRm t h0 h ∧ (∀ i, am_gi h 239 i = am_gi h0 239 i) ∧ am_gi h 216 51 = zI (en B n p) ∧ am_gi h 216 52 = zI (bgn B n p) ∧ am_gi h 216 53 = tk B n p ∧ (tk B n p = 1 ∨ tk B n p = 3 → am_gi h 216 54 = vl B n p) ∧ am_gi h 216 55 = -1 ∧ am_gi h 216 56 = l ∧ am_gi h 216 57 = zI o ∧ am_gi h 216 58 = zI m ∧ am_gi h 216 59 = zI k ∧ ∀ i, i < m → am_gi h 237 (400 * t + i) = op i ∧ am_gi h 238 (400 * t + i) = w i
def Fw (B : Nat → Int32) (n t : Nat) (h0 : AH) (q b : Nat) (h : AH) : Prop := SR B n t h0 ∧ FRm t h0 h ∧ (∀ i, am_gi h 239 i = am_gi h0 239 i) ∧ (b ≤ 400 ∧ am_gi h 216 55 = zI b) ∧ ∃ m, m ≤ q ∧ am_gi h 216 58 = zI m
theorem Fw.mn {B : Nat → Int32} {n t q q' b : Nat} {h0 h : AH} (R : Fw B n t h0 q b h) (e : q ≤ q') : Fw B n t h0 q' b h := by
  obtain ⟨r1, r2, r0, r3, m, r4, r5⟩ := R
  exact ⟨r1, r2, r0, r3, m, by omega, r5⟩
theorem Rm.sr {B : Nat → Int32} {n t k o p m : Nat} {h0 h : AH} {op w : Nat → Int32} {l : Int32} (R : Rm B n t k o h0 p m op w l h) : SR B n t h := R.1.of R.2.1
theorem Rm.ly {B : Nat → Int32} {n t k o p m : Nat} {h0 h : AH} {op w : Nat → Int32} {l : Int32} (R : Rm B n t k o h0 p m op w l h) : Lay h := R.sr.1
theorem Fw.ly {B : Nat → Int32} {n t q b : Nat} {h0 h : AH} (R : Fw B n t h0 q b h) : Lay h := (R.1.of R.2.1).1
theorem Rm.is {B : Nat → Int32} {n t k o p m : Nat} {h0 h : AH} {op w : Nat → Int32} {l : Int32} (R : Rm B n t k o h0 p m op w l h) : PF 0 198 [.ref 216] h (.int 0) := ws198 R.ly ⟨fun _ => ⟨rfl, rfl⟩, fun z => absurd R.2.2.2.2.2.2.2.1 z⟩
theorem Fw.is {B : Nat → Int32} {n t q b : Nat} {h0 h : AH} (R : Fw B n t h0 q b h) : PF 0 198 [.ref 216] h (.int 1) := ws198 R.ly ⟨fun z => absurd (R.2.2.2.1.2.symm.trans z) (zI_ne1 (by have := R.2.2.2.1.1; omega)), fun _ => ⟨rfl, rfl⟩⟩
theorem Rm.nxt {B : Nat → Int32} {n t k o p m : Nat} {h0 h : AH} {op w : Nat → Int32} {l : Int32} (R : Rm B n t k o h0 p m op w l h) (hp : p ≤ n) : Cl 3 195 [.ref 216] h (fun r h' => r = none ∧ Rm B n t k o h0 (en B n p) m op w l h') := by
  have S := R.sr
  obtain ⟨r1, r2, r0, r4, r5, r6, r7, r8, r9, r10, r11, r12, r13⟩ := R
  refine Cl.mono (m195 S _ _ h rfl (FT.rf h) (en_b (B := B) hp).2.1 r4) (Nat.le_refl _) (fun r h' q => ⟨q.1, ?_⟩)
  obtain ⟨-, F, q1, q2, q3, q4⟩ := q
  exact ⟨r1, r2.tr (F.fr t), fun i => by rw [F.2.1 _ _ (by omega)]; exact r0 i, q1, q2, q3, q4, by rw [F.2.1 _ _ (by omega)]; exact r8, by rw [F.2.1 _ _ (by omega)]; exact r9, by rw [F.2.1 _ _ (by omega)]; exact r10, by rw [F.2.1 _ _ (by omega)]; exact r11, by rw [F.2.1 _ _ (by omega)]; exact r12, fun i hi => by rw [F.2.1 _ _ (by omega), F.2.1 _ _ (by omega)]; exact r13 i hi⟩
theorem Rm.emit {B : Nat → Int32} {n t k o p m : Nat} {h0 h : AH} {op w : Nat → Int32} {l x v : Int32} (R : Rm B n t k o h0 p m op w l h) (hm : m < 700) : Cl 0 202 [.ref 216, .int x, .int v] h (fun r h' => r = none ∧ Rm B n t k o h0 p (m + 1) (wr op m x) (wr w m v) l h') := by
  have S := R.sr
  obtain ⟨r1, r2, r0, r4, r5, r6, r7, r8, r9, r10, r11, r12, r13⟩ := R
  have ht := S.2.2.1
  have ea : (400 : Int32) * zI t + zI m = zI (400 * t + m) := by rw [show (400 : Int32) = zI 400 from rfl, zI_mul, zI_add]
  refine ws202 _ _ S.1 ?_
  rw [S.2.2.2.2.2.2, r11, ea, zI_tn (by omega)]
  refine ⟨in_zI (by omega) (by decide), fun h2 e2 => ?_⟩
  rw [show am_gi h2 216 50 = zI t from by rw [e2, gi_ne (by omega)]; exact S.2.2.2.2.2.2, show am_gi h2 216 58 = zI m from by rw [e2, gi_ne (by omega)]; exact r11, ea, zI_tn (by omega)]
  refine ⟨in_zI (by omega) (by decide), fun h4 e4 h5 e5 => ⟨rfl, ?_⟩⟩
  rw [e4, gi_ne (by omega), e2, gi_ne (by omega), r11, zI_succ] at e5
  rw [e5]
  refine ⟨r1, ((r2.si _ (by omega)).si _ (by omega)).si _ (by omega), fun i => by rw [gi_ne (by omega), gi_ne (by omega), gi_ne (by omega)]; exact r0 i, by rw [gi_ne (by omega), gi_ne (by omega), gi_ne (by omega)]; exact r4, by rw [gi_ne (by omega), gi_ne (by omega), gi_ne (by omega)]; exact r5, by rw [gi_ne (by omega), gi_ne (by omega), gi_ne (by omega)]; exact r6, fun z => by rw [gi_ne (by omega), gi_ne (by omega), gi_ne (by omega)]; exact r7 z, by rw [gi_ne (by omega), gi_ne (by omega), gi_ne (by omega)]; exact r8, by rw [gi_ne (by omega), gi_ne (by omega), gi_ne (by omega)]; exact r9, by rw [gi_ne (by omega), gi_ne (by omega), gi_ne (by omega)]; exact r10, by rw [gi_eq], by rw [gi_ne (by omega), gi_ne (by omega), gi_ne (by omega)]; exact r12, fun i hi => ?_⟩
  by_cases y : i = m
  · rw [y, wr_eq, wr_eq, gi_ne (by omega), gi_ne (by omega), gi_eq, gi_ne (by omega), gi_eq]; exact ⟨rfl, rfl⟩
  · rw [wr_ne y, wr_ne y, gi_ne (by omega), gi_ne (by omega), gi_ne (by omega), gi_ne (by omega), gi_ne (by omega), gi_ne (by omega)]; exact r13 i (by omega)
theorem Fw.emit {B : Nat → Int32} {n t q b : Nat} {h0 h : AH} {x v : Int32} (R : Fw B n t h0 q b h) (hq : q < 700) : Cl 0 202 [.ref 216, .int x, .int v] h (fun r h' => r = none ∧ Fw B n t h0 (q + 1) b h') := by
  have S := R.1.of R.2.1
  obtain ⟨r1, r2, r0, r3, m, r4, r5⟩ := R
  have ht := S.2.2.1
  have ea : (400 : Int32) * zI t + zI m = zI (400 * t + m) := by rw [show (400 : Int32) = zI 400 from rfl, zI_mul, zI_add]
  refine ws202 _ _ S.1 ?_
  rw [S.2.2.2.2.2.2, r5, ea, zI_tn (by omega)]
  refine ⟨in_zI (by omega) (by decide), fun h2 e2 => ?_⟩
  rw [show am_gi h2 216 50 = zI t from by rw [e2, gi_ne (by omega)]; exact S.2.2.2.2.2.2, show am_gi h2 216 58 = zI m from by rw [e2, gi_ne (by omega)]; exact r5, ea, zI_tn (by omega)]
  refine ⟨in_zI (by omega) (by decide), fun h4 e4 h5 e5 => ⟨rfl, ?_⟩⟩
  rw [e4, gi_ne (by omega), e2, gi_ne (by omega), r5, zI_succ] at e5
  rw [e5]
  exact ⟨r1, ((r2.si _ (by omega)).si _ (by omega)).si _ (by omega), fun i => by rw [gi_ne (by omega), gi_ne (by omega), gi_ne (by omega)]; exact r0 i, ⟨r3.1, by rw [gi_ne (by omega), gi_ne (by omega), gi_ne (by omega)]; exact r3.2⟩, m + 1, by omega, by rw [gi_eq]⟩
theorem Fw.s57 {B : Nat → Int32} {n t q b : Nat} {h0 h : AH} (R : Fw B n t h0 q b h) (v : Int32) : Fw B n t h0 q b (am_si h 216 57 v) := by
  obtain ⟨r1, r2, r0, r3, m, r4, r5⟩ := R
  exact ⟨r1, r2.si _ (by omega), fun i => by rw [gi_ne (by omega)]; exact r0 i, ⟨r3.1, by rw [gi_ne (by omega)]; exact r3.2⟩, m, r4, by rw [gi_ne (by omega)]; exact r5⟩
theorem Rm.s57 {B : Nat → Int32} {n t k o o' p m : Nat} {h0 h : AH} {op w : Nat → Int32} {l : Int32} (R : Rm B n t k o h0 p m op w l h) : Rm B n t k o' h0 p m op w l (am_si h 216 57 (zI o')) := by
  obtain ⟨r1, r2, r0, r4, r5, r6, r7, r8, r9, r10, r11, r12, r13⟩ := R
  exact ⟨r1, r2.si _ (by omega), fun i => by rw [gi_ne (by omega)]; exact r0 i, by rw [gi_ne (by omega)]; exact r4, by rw [gi_ne (by omega)]; exact r5, by rw [gi_ne (by omega)]; exact r6, fun z => by rw [gi_ne (by omega)]; exact r7 z, by rw [gi_ne (by omega)]; exact r8, by rw [gi_ne (by omega)]; exact r9, by rw [gi_eq], by rw [gi_ne (by omega)]; exact r11, by rw [gi_ne (by omega)]; exact r12, fun i hi => by rw [gi_ne (by omega), gi_ne (by omega)]; exact r13 i hi⟩
theorem Rm.fw {B : Nat → Int32} {n t k o p m : Nat} {h0 h : AH} {op w : Nat → Int32} {l : Int32} (R : Rm B n t k o h0 p m op w l h) (hp : p ≤ n) : Fw B n t h0 m (bgn B n p) (am_si h 216 55 (zI (bgn B n p))) := by
  have b := bgn_b (B := B) hp
  have := R.1.2.1
  obtain ⟨r1, r2, r0, r4, r5, r6, r7, r8, r9, r10, r11, r12, r13⟩ := R
  exact ⟨r1, r2.si _ (by omega), fun i => by rw [gi_ne (by omega)]; exact r0 i, ⟨by omega, by rw [gi_eq]⟩, m, Nat.le_refl _, by rw [gi_ne (by omega)]; exact r11⟩
theorem Rm.cannot {B : Nat → Int32} {n t k o p m : Nat} {h0 h : AH} {op w : Nat → Int32} {l : Int32} (R : Rm B n t k o h0 p m op w l h) (hp : p ≤ n) : Cl 0 199 [.ref 216] h (fun r h' => r = none ∧ Fw B n t h0 m (bgn B n p) h') :=
  ws199 R.ly ⟨fun z => absurd R.2.2.2.2.2.2.2.1 z, fun _ h2 e2 => ⟨rfl, by rw [e2, R.2.2.2.2.1]; exact R.fw hp⟩⟩
theorem Rm.need {B : Nat → Int32} {n t k o p m : Nat} {h0 h : AH} {op w : Nat → Int32} {l x : Int32} (R : Rm B n t k o h0 p m op w l h) (hp : p ≤ n) : (tk B n p = x → Cl 4 200 [.ref 216, .int x] h (fun r h' => r = none ∧ Rm B n t k o h0 (en B n p) m op w l h')) ∧ (¬ tk B n p = x → Cl 4 200 [.ref 216, .int x] h (fun r h' => r = none ∧ Fw B n t h0 m (bgn B n p) h')) := by
  have q := R.2.2.2.2.2.1
  refine ⟨fun z => ws200 _ R.ly (Cl.i R.is (by decide) R.ly ⟨fun _ => ⟨fun _ => Cl.qv (R.nxt hp) (by decide) (fun h' R' => ⟨R'.ly, rfl, R'⟩), fun y => absurd (q.trans z) y⟩, fun y => absurd rfl y⟩), fun z => ws200 _ R.ly (Cl.i R.is (by decide) R.ly ⟨fun _ => ⟨fun y => absurd (q.symm.trans y) z, fun _ => Cl.qv (R.cannot hp) (by decide) (fun h' R' => ⟨R'.ly, rfl, R'⟩)⟩, fun y => absurd rfl y⟩)⟩
theorem Fw.need {B : Nat → Int32} {n t q b : Nat} {h0 h : AH} (R : Fw B n t h0 q b h) (x : Int32) : GF 1 200 [.ref 216, .int x] h none h := ws200 _ R.ly (Cl.i R.is (by decide) R.ly ⟨fun y => absurd y (by decide), fun _ => ⟨rfl, rfl⟩⟩)
theorem Fw.one {B : Nat → Int32} {n t q b : Nat} {h0 h : AH} (R : Fw B n t h0 q b h) : GF 1 210 [.ref 216] h none h := ws210 R.ly (Cl.i R.is (by decide) R.ly ⟨fun y => absurd y (by decide), fun _ => ⟨rfl, rfl⟩⟩)
theorem Fw.not {B : Nat → Int32} {n t q b : Nat} {h0 h : AH} (R : Fw B n t h0 q b h) : GF 1 206 [.ref 216] h none h := ws206 R.ly (Cl.i R.is (by decide) R.ly ⟨fun y => absurd y (by decide), fun _ => ⟨rfl, rfl⟩⟩)
theorem Fw.both {B : Nat → Int32} {n t q b : Nat} {h0 h : AH} (R : Fw B n t h0 q b h) : GF 2 205 [.ref 216] h none h := ws205 R.ly (Cl.gv R.not (by decide) R.ly (ws205_4 R.ly (Cl.i R.is (by decide) R.ly ⟨fun _ => ⟨rfl, rfl⟩, fun y => absurd (by decide) y⟩)))
theorem Fw.either {B : Nat → Int32} {n t q b : Nat} {h0 h : AH} (R : Fw B n t h0 q b h) : GF 3 204 [.ref 216] h none h := ws204 R.ly (Cl.gv R.both (by decide) R.ly (ws204_4 R.ly (Cl.i R.is (by decide) R.ly ⟨fun _ => ⟨rfl, rfl⟩, fun y => absurd (by decide) y⟩)))
theorem Rm.opens {B : Nat → Int32} {n t k o p m : Nat} {h0 h : AH} {op w : Nat → Int32} {l : Int32} (R : Rm B n t k o h0 p m op w l h) (hp : p ≤ n) (ho : o < 8) : Cl 4 201 [.ref 216] h (fun r h' => r = none ∧ Rm B n t k (o + 1) h0 (en B n p) m op w l h') := by
  have q := R.2.2.2.2.2.2.2.2.2.1
  refine ws201 R.ly ⟨fun _ h1 e1 => ?_, fun z => absurd (by rw [q]; exact fun y => absurd ((zI_inj (n := 8) (by omega) (by decide)).mp y) (by omega)) z⟩
  rw [q, zI_succ] at e1
  have R1 : Rm B n t k (o + 1) h0 p m op w l h1 := by rw [e1]; exact R.s57
  exact Cl.i R1.is (by decide) R1.ly ⟨fun y => absurd rfl y, fun _ => Cl.qv (R1.nxt hp) (by decide) (fun h' R' => ⟨R'.ly, rfl, R'⟩)⟩
theorem Rm.opens8 {B : Nat → Int32} {n t k p m : Nat} {h0 h : AH} {op w : Nat → Int32} {l : Int32} (R : Rm B n t k 8 h0 p m op w l h) (hp : p ≤ n) : Cl 4 201 [.ref 216] h (fun r h' => r = none ∧ Fw B n t h0 m (bgn B n p) h') := by
  have q := R.2.2.2.2.2.2.2.2.2.1
  refine ws201 R.ly ⟨fun z => absurd q z, fun _ => Cl.qv (R.cannot hp) (by decide) (fun h7 R7 => ⟨R7.ly, fun h9 e9 => ?_⟩)⟩
  have R9 : Fw B n t h0 m (bgn B n p) h9 := by rw [e9]; exact R7.s57 _
  exact Cl.i R9.is (by decide) R9.ly ⟨fun _ => ⟨rfl, R9⟩, fun y => absurd (by decide) y⟩
theorem m209 {h : AH} (Ly : Lay h) {k : Nat} (hk : k < 4) (e : am_gi h 216 59 = zI k) {j : Nat} (hj : j < 8) : Cl 0 209 [.ref 216, .int (zI j)] h (fun r h' => h' = h ∧ ((alw k (zI j) ∧ r = some (.int 1)) ∨ (¬ alw k (zI j) ∧ r = some (.int 0)))) := by
  have q : (zI j).toInt = j := zI_toInt (by omega)
  have q7 : zI j = 7 ↔ j = 7 := zI_inj (n := 7) (by omega) (by decide)
  refine ws209 _ Ly ?_
  rw [e]
  refine ⟨fun z => ⟨fun y => ?_, fun y => ?_⟩, fun z => ?_⟩
  · have z := (zI_le (m := 2) (by decide) (by omega)).mp z
    have y : ¬ k = 2 := fun x => y (by rw [x]; rfl)
    have ea : alw k (zI j) ↔ (zI j = 1 ∨ zI j = 2 ∨ zI j = 5 ∨ zI j = 6) := by unfold alw; rw [if_neg (by omega), if_neg y]
    rw [ea]
    exact ⟨fun x => ⟨rfl, Or.inl ⟨Or.inl x, rfl⟩⟩, fun x1 => ⟨fun x => ⟨rfl, Or.inl ⟨Or.inr (Or.inl x), rfl⟩⟩, fun x2 => ⟨fun x => ⟨rfl, Or.inl ⟨Or.inr (Or.inr (Or.inl x)), rfl⟩⟩, fun x3 => ⟨fun x4 => ⟨rfl, Or.inr ⟨fun v => v.elim x1 (fun v => v.elim x2 (fun v => v.elim x3 x4)), rfl⟩⟩, fun x => ⟨rfl, Or.inl ⟨Or.inr (Or.inr (Or.inr (Decidable.not_not.mp x))), rfl⟩⟩⟩⟩⟩⟩
  · have y := Decidable.not_not.mp y
    have y : k = 2 := (zI_inj (n := 2) (by omega) (by decide)).mp y
    have ea : alw k (zI j) ↔ zI j = 7 := by unfold alw; rw [if_neg (by omega), if_pos y]
    rw [ea]
    exact ⟨fun x => ⟨rfl, Or.inr ⟨x, rfl⟩⟩, fun x => ⟨rfl, Or.inl ⟨Decidable.not_not.mp x, rfl⟩⟩⟩
  · have z : k < 2 := by
      by_cases y : k < 2
      · exact y
      · exact absurd ((zI_le (m := 2) (by decide) (by omega)).mpr (by omega)) z
    have ea : alw k (zI j) ↔ ¬ zI j = 7 := by unfold alw; rw [if_pos z, q, q7]; omega
    rw [ea]
    exact ⟨fun x => ⟨rfl, Or.inr ⟨fun v => v x, rfl⟩⟩, fun x => ⟨rfl, Or.inl ⟨x, rfl⟩⟩⟩
