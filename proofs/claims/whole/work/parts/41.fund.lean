/-! THE FUND: fund, due -/
def fN (h : AH) (du l : Int64) (i : Nat) : Int64 := ((l + du) + (((l + du) * (am_gi h 216 42).toInt64) / 1000)) - (am_gi h 248 i).toInt64
def ng (f : Int64 → Nat → Int64) : Int64 → Nat → Nat → Bool
  | _, _, 0 => false
  | l, i, m + 1 => decide (f l i < 0) || ng f (f l i) (i + 1) m
theorem p16 {h : AH} (Ly : Lay h) (F : IFu h) {i : Nat} (hi : i < 40) (l du : Int64) : PF 0 16 [.ref 109, .long l, .int (zI i), .long du] h (.long (fN h du l i)) := by
  refine ws16 _ _ _ Ly ⟨by decide, in_zI hi (by decide), ?_, rfl⟩
  rw [zI_tn (by omega), F.1, (F.2.2 i hi).1]; rfl
theorem l13 {h : AH} (Ly : Lay h) (F : IFu h) {y : Nat} (hy : y < 40) (du : Int64) : ∀ m i l, i + m = y + 1 → Ev 1 13 6 [.ref 109, .int (zI y), .long du, .null, .long l, .null, .int (zI i)] [] h (fun r h' => r = some (.long (fold (fN h du) l i m)) ∧ h' = h)
  | 0, i, l, e => ws13_6 _ _ _ _ Ly ⟨fun _ => ⟨rfl, rfl⟩, fun z => absurd ((zI_lt (by omega) (by omega)).mpr (by omega)) z⟩
  | m + 1, i, l, e => by
    refine ws13_6 _ _ _ _ Ly ⟨fun z => absurd ((zI_lt (by omega) (by omega)).mp z) (by omega), fun _ => ⟨fun z => absurd ((zI_le (m := 40) (by decide) (by omega)).mp z) (by omega), fun _ => Cl.l (p16 Ly F (by omega) l du) (by decide) Ly ?_⟩⟩
    rw [zI_succ]
    exact l13 Ly F hy du m (i + 1) _ (by omega)
theorem p13 {h : AH} (Ly : Lay h) (F : IFu h) {y : Nat} (hy : y < 40) (du : Int64) : PF 1 13 [.ref 109, .int (zI y), .long du] h (.long (fold (fN h du) 0 0 (y + 1))) := ws13 _ _ Ly (l13 Ly F hy du (y + 1) 0 0 (by omega))
theorem l15 {h : AH} (Ly : Lay h) (F : IFu h) (x : Int32) : ∀ m i l, i + m = 40 → Ev 1 15 5 [.ref 109, .int x, .long l, .null, .int (zI i)] [] h (fun r h' => r = some (.int (bI (ng (fN h x.toInt64) l i m = false))) ∧ h' = h)
  | 0, i, l, e => ws15_5 _ _ _ Ly ⟨fun _ => ⟨rfl, rfl⟩, fun z => absurd ((zI_le (m := 40) (by decide) (by omega)).mpr (by omega)) z⟩
  | m + 1, i, l, e => by
    have ih := l15 Ly F x m (i + 1)
    refine ws15_5 _ _ _ Ly ⟨fun z => absurd ((zI_le (m := 40) (by decide) (by omega)).mp z) (by omega), fun _ => Cl.l (p16 Ly F (by omega) l _) (by decide) Ly ?_⟩
    rw [zI_succ, lg_cmp_ge]
    refine ⟨fun z => ?_, fun z => ⟨?_, rfl⟩⟩
    · have e1 : ng (fN h x.toInt64) l i (m + 1) = ng (fN h x.toInt64) (fN h x.toInt64 l i) (i + 1) m := by
        show (decide _ || _) = _
        rw [decide_eq_false_iff_not.mpr (by rw [Int64.not_lt]; exact z), Bool.false_or]
      rw [e1]; exact ih _ (by omega)
    · have e1 : ng (fN h x.toInt64) l i (m + 1) = true := by
        show (decide _ || _) = _
        rw [decide_eq_true_iff.mpr (by rw [← Int64.not_le]; exact z), Bool.true_or]
      rw [e1, bI_f (by decide)]
theorem p15 {h : AH} (Ly : Lay h) (F : IFu h) (x : Int32) : PF 1 15 [.ref 109, .int x] h (.int (bI (ng (fN h x.toInt64) 0 0 40 = false))) := ws15 _ Ly (l15 Ly F x 40 0 0 (by omega))
theorem l249 {h : AH} {y : Nat} (hy : y < 40) (x : Int32) : ∀ m i l h1, i + m = y + 1 → Lay h1 → OM [0] h h1 → Ev 0 249 10 [.ref 216, .int (zI y), .int x, .long l, .null, .int (zI i)] [] h1 (fun r h' => r = some (.long (fold (fN h x.toInt64) l i m)) ∧ OM [0] h h' ∧ (am_gl h' 216 70 < 0 ↔ am_gl h1 216 70 < 0 ∨ ng (fN h x.toInt64) l i m = true))
  | 0, i, l, h1, e, Ly, O => ws249_10 _ _ _ _ Ly ⟨fun _ => ⟨rfl, O, ⟨Or.inl, fun z => z.elim id (fun w => by cases w)⟩⟩, fun z => absurd ((zI_lt (by omega) (by omega)).mpr (by omega)) z⟩
  | m + 1, i, l, h1, e, Ly, O => by
    have ih := l249 (h := h) hy x m (i + 1)
    have A := O.ex.ag (t := 9) (by decide)
    refine ws249_10 _ _ _ _ Ly ⟨fun z => absurd ((zI_lt (by omega) (by omega)).mp z) (by omega), fun _ => ⟨by decide, in_zI (by omega) (by decide), ?_⟩⟩
    rw [zI_tn (by omega), (A 216 42 rfl).1, (A 248 i rfl).1, zI_succ]
    have e1 : ∀ p : Prop, (p ∨ ng (fN h x.toInt64) l i (m + 1) = true) ↔ ((p ∨ fN h x.toInt64 l i < 0) ∨ ng (fN h x.toInt64) (fN h x.toInt64 l i) (i + 1) m = true) := fun p => by
      show (p ∨ (decide _ || _) = true) ↔ _
      rw [Bool.or_eq_true, decide_eq_true_eq, or_assoc]
    show ((0 : Int32) ≤ lg_cmp (fN h x.toInt64 l i) (am_gl h1 216 70) → _) ∧ (¬ (0 : Int32) ≤ lg_cmp (fN h x.toInt64 l i) (am_gl h1 216 70) → _)
    rw [lg_cmp_ge]
    refine ⟨fun z => ?_, fun z => ?_⟩
    · intro k ek; subst ek
      refine Ev.mono (ih _ _ (by omega) (Ly.sl _ _ _) (O.sl (by omega) (by decide))) (Nat.le_refl _) (fun r h' q => ⟨q.1, q.2.1, ?_⟩)
      rw [q.2.2, gl_eq, e1]
      refine or_congr ⟨Or.inl, fun w => w.elim id (fun w => ?_)⟩ Iff.rfl
      rw [Int64.lt_iff_toInt_lt] at w ⊢; rw [Int64.le_iff_toInt_le] at z; omega
    · intro k ek; subst ek
      refine Ev.mono (ih _ _ (by omega) (Ly.sl _ _ _) (O.sl (by omega) (by decide))) (Nat.le_refl _) (fun r h' q => ⟨q.1, q.2.1, ?_⟩)
      rw [q.2.2, gl_eq, e1]
      refine or_congr ⟨Or.inr, fun w => w.elim (fun w => ?_) id⟩ Iff.rfl
      show fN h x.toInt64 l i < 0
      rw [Int64.lt_iff_toInt_lt] at w ⊢; rw [Int64.le_iff_toInt_le] at z; omega
theorem m249 {h h1 : AH} (Ly : Lay h1) (O : OM [0] h h1) {y : Nat} (hy : y < 40) (x : Int32) : Cl 0 249 [.ref 216, .int (zI y), .int x] h1 (fun r h' => r = some (.long (fold (fN h x.toInt64) 0 0 (y + 1))) ∧ OM [0] h h' ∧ (am_gl h' 216 70 < 0 ↔ ng (fN h x.toInt64) 0 0 (y + 1) = true)) := by
  refine ws249 _ _ Ly (fun k ek => ?_)
  subst ek
  refine Ev.mono (l249 hy x (y + 1) 0 0 _ (by omega) (Ly.sl _ _ _) (O.sl (by omega) (by decide))) (Nat.le_refl _) (fun r h' q => ⟨q.1, q.2.1, ?_⟩)
  rw [q.2.2, gl_eq]
  exact ⟨fun w => w.elim (fun w => absurd w (by decide)) id, Or.inr⟩
theorem op_fund {L : Nat} {xs : Nat → Int32} {c : Nat} {h : AH} {nh nm nr na nt nc : Nat} (I : InvN L xs c h nh nm nr na nt nc) (x y : Int32) : OPl 133 251 [.int x, .int y] L xs c h := by
  have Ly := I.lay
  by_cases hx : inN x 40
  · have hx2 := in40.mpr hx
    by_cases hy : inR y 0 1000000
    · obtain ⟨i, hi, rfl⟩ := hx.ex
      refine OPl.rd I (x := fold (fN h y.toInt64) 0 0 (i + 1)) (d := 5) (d' := 5) ?_ (fun h1 E => ?_)
      · exact ws133 _ _ Ly (Cl.i (p12 Ly _) (by decide) Ly ⟨fun z => absurd hx (bI_0.mp z), fun _ => Cl.i (p144 Ly _) (by decide) Ly ⟨fun _ => Cl.l (p13 Ly I.ifu hi _) (by decide) Ly ⟨rfl, Ex.rf _ _⟩, fun z => absurd (bI_n0.mpr hy) z⟩⟩)
      · have Ly1 := E.lay Ly
        have A := E.ag (t := 9) (by decide)
        have ef : fN h1 y.toInt64 = fN h y.toInt64 := funext fun l => funext fun j => by unfold fN; rw [(A 216 42 rfl).1, (A 248 j rfl).1]
        refine ws251 _ _ Ly1 (Cl.i (p167 Ly1 _ _ _) (by decide) Ly1 ⟨fun z => absurd hx2 (bI_0.mp z), fun _ => Cl.i (p167 Ly1 _ _ _) (by decide) Ly1 ⟨fun z => absurd hy (bI_0.mp z), fun _ => Cl.ql (m249 Ly1 (OM.rf [0] h1) hi y) (by decide) (fun h' q => ⟨q.1.lay Ly1, by rw [ef], q.1.ex⟩)⟩⟩)
    · refine OPl.pf I (x := -4611686018427387904) (d := 5) (d' := 5) ?_ ?_
      · exact ws133 _ _ Ly (Cl.i (p12 Ly _) (by decide) Ly ⟨fun z => absurd hx (bI_0.mp z), fun _ => Cl.i (p144 Ly _) (by decide) Ly ⟨fun z => absurd (bI_n0.mp z) hy, fun _ => ⟨rfl, rfl⟩⟩⟩)
      · exact ws251 _ _ Ly (Cl.i (p167 Ly _ _ _) (by decide) Ly ⟨fun z => absurd hx2 (bI_0.mp z), fun _ => Cl.i (p167 Ly _ _ _) (by decide) Ly ⟨fun _ => ⟨rfl, rfl⟩, fun z => absurd (bI_n0.mp z) hy⟩⟩)
  · refine OPl.pf I (x := -4611686018427387904) (d := 5) (d' := 5) ?_ ?_
    · exact ws133 _ _ Ly (Cl.i (p12 Ly _) (by decide) Ly ⟨fun _ => ⟨rfl, rfl⟩, fun z => absurd (bI_n0.mp z) hx⟩)
    · exact ws251 _ _ Ly (Cl.i (p167 Ly _ _ _) (by decide) Ly ⟨fun _ => ⟨rfl, rfl⟩, fun z => absurd (in40.mp (bI_n0.mp z)) hx⟩)
/-- halving -/
theorem Sm.lay' {h h1 : AH} (S : Sm h h1) (L : Lay h1) : Lay h := by
  obtain ⟨a1, a2, a3, a4, a5⟩ := S
  unfold Lay at L ⊢
  rw [a1, a3, a4, a5] at L
  exact L
def bsF (p : Nat → Bool) : Nat → Nat → Nat → Nat
  | 0, lo, _ => lo
  | f + 1, lo, hi => if hi ≤ lo then lo else if p ((lo + hi) / 2) then bsF p f lo ((lo + hi) / 2) else bsF p f ((lo + hi) / 2 + 1) hi
theorem zI_half {a b : Nat} (h : a + b < 2147483648) : (zI a + zI b) / 2 = zI ((a + b) / 2) := by
  rw [zI_add]
  apply Int32.toInt_inj.mp
  rw [Int32.toInt_div, zI_toInt h, zI_toInt (by omega)]
  show ((((a + b : Nat) : Int)).tdiv 2).bmod (2 ^ 32) = _
  rw [Int.tdiv_eq_ediv_of_nonneg (by omega), i_bm (by omega) (by omega)]
  omega
def pD (h : AH) (m : Nat) : Bool := !(ng (fN h (zI m).toInt64) 0 0 40)
theorem l14 {h : AH} (Ly : Lay h) (F : IFu h) : ∀ f i lo hi, i + f = 32 → lo ≤ 1000001 → hi ≤ 1000000 → Ev 2 14 7 [.ref 109, .int (zI lo), .int (zI hi), .int (zI i), .null] [] h (fun r h' => r = some (.int (zI (bsF (pD h) f lo hi))) ∧ h' = h)
  | 0, i, lo, hi, e, h1, h2 => ws14_7 _ _ _ Ly ⟨fun _ => ⟨rfl, rfl⟩, fun z => absurd ((zI_le (m := 32) (by decide) (by omega)).mpr (by omega)) z⟩
  | f + 1, i, lo, hi, e, h1, h2 => by
    refine ws14_7 _ _ _ Ly ⟨fun z => absurd ((zI_le (m := 32) (by decide) (by omega)).mp z) (by omega), fun _ => ⟨fun z => ⟨?_, rfl⟩, fun z => ⟨by decide, ?_⟩⟩⟩
    · rw [zI_le (by omega) (by omega)] at z
      show _ = some (Value.int (zI (if _ then _ else _)))
      rw [if_pos z]
    · rw [zI_le (by omega) (by omega)] at z
      show Cl _ _ _ _ _
      rw [zI_half (by omega), zI_succ, zI_succ]
      have eb : bsF (pD h) (f + 1) lo hi = if pD h ((lo + hi) / 2) then bsF (pD h) f lo ((lo + hi) / 2) else bsF (pD h) f ((lo + hi) / 2 + 1) hi := by
        show (if _ then _ else _) = _
        rw [if_neg z]
      refine Cl.i (p15 Ly F _) (by decide) Ly ⟨fun w => ?_, fun w => ?_⟩
      · have e1 : pD h ((lo + hi) / 2) = false := by unfold pD; rw [bI_0] at w; simpa using w
        rw [eb, e1]
        exact l14 Ly F f (i + 1) _ hi (by omega) (by omega) h2
      · have e1 : pD h ((lo + hi) / 2) = true := by unfold pD; rw [bI_n0] at w; rw [w]; rfl
        rw [eb, e1]
        exact l14 Ly F f (i + 1) lo _ (by omega) h1 (by omega)
theorem l250 {h : AH} : ∀ f lo hi h1, hi < lo + 2 ^ f → lo ≤ 1000001 → hi ≤ 1000000 → Lay h1 → OM [0] h h1 → Ev 2 250 5 [.ref 216, .int (zI lo), .int (zI hi), .null] [] h1 (fun r h' => r = some (.int (zI (bsF (pD h) f lo hi))) ∧ OM [0] h h')
  | 0, lo, hi, h1, e, a1, a2, Ly, O => ws250_5 _ _ Ly ⟨fun _ => ⟨rfl, O⟩, fun z => absurd ((zI_le (by omega) (by omega)).mpr (by omega)) z⟩
  | f + 1, lo, hi, h1, e, a1, a2, Ly, O => by
    have e2 : 2 ^ (f + 1) = 2 * 2 ^ f := by rw [Nat.pow_succ, Nat.mul_comm]
    refine ws250_5 _ _ Ly ⟨fun z => ⟨?_, O⟩, fun z => ⟨by decide, ?_⟩⟩
    · rw [zI_le (by omega) (by omega)] at z
      show _ = some (Value.int (zI (if _ then _ else _)))
      rw [if_pos z]
    · rw [zI_le (by omega) (by omega)] at z
      rw [zI_half (by omega), zI_succ]
      have eb : bsF (pD h) (f + 1) lo hi = if pD h ((lo + hi) / 2) then bsF (pD h) f lo ((lo + hi) / 2) else bsF (pD h) f ((lo + hi) / 2 + 1) hi := by
        show (if _ then _ else _) = _
        rw [if_neg z]
      refine Cl.ql (m249 (y := 39) Ly O (by decide) _) (by decide) (fun h' q => ⟨q.1.lay (O.1.lay' Ly), ?_⟩)
      rw [lg_cmp_ge]
      refine ⟨fun w => ?_, fun w => ?_⟩
      · have e1 : pD h ((lo + hi) / 2) = true := by
          unfold pD
          cases hb : ng (fN h (zI ((lo + hi) / 2)).toInt64) 0 0 40 with
          | false => rfl
          | true => exact absurd (q.2.mpr hb) (by rw [Int64.not_lt]; exact w)
        rw [eb, e1]
        exact l250 f lo _ h' (by omega) a1 (by omega) (q.1.lay (O.1.lay' Ly)) q.1
      · have e1 : pD h ((lo + hi) / 2) = false := by
          unfold pD
          rw [q.2.mp (by rw [← Int64.not_le]; exact w)]; rfl
        rw [eb, e1]
        exact l250 f _ hi h' (by omega) (by omega) a2 (q.1.lay (O.1.lay' Ly)) q.1
theorem op_due {L : Nat} {xs : Nat → Int32} {c : Nat} {h : AH} {nh nm nr na nt nc : Nat} (I : InvN L xs c h nh nm nr na nt nc) : OPi 132 250 [] L xs c h := by
  have Ly := I.lay
  refine OPi.rd I (x := zI (bsF (pD h) 32 0 1000000)) (d := 5) (d' := 2) ?_ (fun h1 E => ?_)
  · exact ws132 Ly (Cl.i (ws14 Ly (l14 Ly I.ifu 32 0 0 1000000 (by omega) (by omega) (by omega)) : PF 2 14 [.ref 109] h _) (by decide) Ly ⟨rfl, Ex.rf _ _⟩)
  · have Ly1 := E.lay Ly
    have A := E.ag (t := 9) (by decide)
    have ef : pD h1 = pD h := funext fun m => by unfold pD; rw [show fN h1 (zI m).toInt64 = fN h (zI m).toInt64 from funext fun l => funext fun j => by unfold fN; rw [(A 216 42 rfl).1, (A 248 j rfl).1]]
    refine ws250 Ly1 (Ev.mono (l250 (h := h1) 32 0 1000000 h1 (by omega) (by omega) (by omega) Ly1 (OM.rf _ _)) (Nat.le_refl _) (fun r h' q => ⟨by rw [← ef]; exact q.1, q.2.ex⟩))
