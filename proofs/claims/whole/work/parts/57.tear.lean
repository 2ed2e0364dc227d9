/-! tear -/
def tS (hg : Nat → Int32) (s : (Nat → Bool) × Nat) (i : Nat) : (Nat → Bool) × Nat := if s.1 i = false ∧ (¬ hg i = -1) ∧ s.1 (hg i).toNatClampNeg = true then (fun k => if k = i then true else s.1 k, s.2 + 1) else s
def tP (hg : Nat → Int32) (nt : Nat) (v : Nat → Bool) : (Nat → Bool) × Nat := fold (tS hg) (v, 0) 0 nt
def tTot (hg : Nat → Int32) (nt : Nat) : Nat → (Nat → Bool) → Nat
  | 0, _ => 0
  | f + 1, v => (tP hg nt v).2 + tTot hg nt f (tP hg nt v).1
def tIt (hg : Nat → Int32) (nt : Nat) : Nat → (Nat → Bool) → (Nat → Bool)
  | 0, v => v
  | f + 1, v => tIt hg nt f (tP hg nt v).1
theorem tS_n (hg : Nat → Int32) : ∀ m i v n, (fold (tS hg) (v, n) i m).1 = (fold (tS hg) (v, 0) i m).1 ∧ (fold (tS hg) (v, n) i m).2 = n + (fold (tS hg) (v, 0) i m).2
  | 0, i, v, n => ⟨rfl, rfl⟩
  | m + 1, i, v, n => by
    show (fold (tS hg) (tS hg (v, n) i) (i + 1) m).1 = (fold (tS hg) (tS hg (v, 0) i) (i + 1) m).1 ∧ (fold (tS hg) (tS hg (v, n) i) (i + 1) m).2 = n + (fold (tS hg) (tS hg (v, 0) i) (i + 1) m).2
    by_cases z : v i = false ∧ (¬ hg i = -1) ∧ v (hg i).toNatClampNeg = true
    · have e : ∀ n, tS hg (v, n) i = (fun k => if k = i then true else v k, n + 1) := fun n => by unfold tS; rw [if_pos z]
      rw [e, e]
      have a := tS_n hg m (i + 1) (fun k => if k = i then true else v k) (n + 1)
      have b := tS_n hg m (i + 1) (fun k => if k = i then true else v k) (0 + 1)
      exact ⟨a.1.trans b.1.symm, by rw [a.2, b.2]; omega⟩
    · have e : ∀ n, tS hg (v, n) i = (v, n) := fun n => by unfold tS; rw [if_neg z]
      rw [e, e]; exact tS_n hg m (i + 1) v n
theorem tS_c (hg : Nat → Int32) (nt : Nat) : ∀ m i v n, i + m = nt → cnt (fun k => !(fold (tS hg) (v, n) i m).1 k) nt + (fold (tS hg) (v, n) i m).2 = cnt (fun k => !v k) nt + n ∧ (∀ k, v k = true → (fold (tS hg) (v, n) i m).1 k = true) ∧ ((fold (tS hg) (v, n) i m).2 = n → (fold (tS hg) (v, n) i m).1 = v) ∧ n ≤ (fold (tS hg) (v, n) i m).2
  | 0, i, v, n, _ => ⟨rfl, fun _ h => h, fun _ => rfl, Nat.le_refl _⟩
  | m + 1, i, v, n, e => by
    show cnt (fun k => !(fold (tS hg) (tS hg (v, n) i) (i + 1) m).1 k) nt + (fold (tS hg) (tS hg (v, n) i) (i + 1) m).2 = _ ∧ (∀ k, v k = true → (fold (tS hg) (tS hg (v, n) i) (i + 1) m).1 k = true) ∧ ((fold (tS hg) (tS hg (v, n) i) (i + 1) m).2 = n → (fold (tS hg) (tS hg (v, n) i) (i + 1) m).1 = v) ∧ n ≤ (fold (tS hg) (tS hg (v, n) i) (i + 1) m).2
    by_cases z : v i = false ∧ (¬ hg i = -1) ∧ v (hg i).toNatClampNeg = true
    · have e1 : tS hg (v, n) i = (fun k => if k = i then true else v k, n + 1) := by unfold tS; rw [if_pos z]
      rw [e1]
      obtain ⟨a, b, c, d⟩ := tS_c hg nt m (i + 1) (fun k => if k = i then true else v k) (n + 1) (by omega)
      have q : cnt (fun k => !v k) nt = cnt (fun k => !(if k = i then true else v k)) nt + 1 := cnt_add1 (f := i) (by omega) (by simp) (by simp [z.1]) (fun j _ hj => by simp [hj])
      refine ⟨by omega, fun k hk => b k (by show (if k = i then true else v k) = true; split; rfl; exact hk), fun w => by omega, by omega⟩
    · have e1 : tS hg (v, n) i = (v, n) := by unfold tS; rw [if_neg z]
      rw [e1]; exact tS_c hg nt m (i + 1) v n (by omega)
theorem tTot_0 (hg : Nat → Int32) (nt : Nat) {v : Nat → Bool} (h : (tP hg nt v).2 = 0) : ∀ f, tTot hg nt f v = 0 ∧ tIt hg nt f v = v
  | 0 => ⟨rfl, rfl⟩
  | f + 1 => by
    have e : (tP hg nt v).1 = v := (tS_c hg nt nt 0 v 0 (by omega)).2.2.1 h
    have ih := tTot_0 hg nt h f
    refine ⟨?_, ?_⟩
    · show (tP hg nt v).2 + tTot hg nt f (tP hg nt v).1 = 0
      rw [h, e, ih.1]
    · show tIt hg nt f (tP hg nt v).1 = v
      rw [e]; exact ih.2
/-- what is void, in the class's cells and in the reference's -/
def vdC (h : AH) (nt : Nat) (v : Nat → Bool) : Prop := ∀ i, i < nt → am_gi h (148 + 4 * i) 5 = bI (v i = true)
def vdM (h : AH) (nt : Nat) (v : Nat → Bool) : Prop := ∀ i, i < nt → am_gi h 241 i = bI (v i = true)
def FC (nt : Nat) (h h' : AH) : Prop := OC [6] h h' ∧ TxX h h' ∧ (∀ s k, s < 12 → (k ≠ 5 ∨ nt ≤ s) → am_gi h' (148 + 4 * s) k = am_gi h (148 + 4 * s) k) ∧ am_gi h' 6 10 = am_gi h 6 10
def FM (h h' : AH) : Prop := OM [6] h h' ∧ TxX h h' ∧ (∀ a k, 240 ≤ a → a ≤ 246 → a ≠ 241 → am_gi h' a k = am_gi h a k) ∧ am_gi h' 216 36 = am_gi h 216 36
theorem TxX.tr {h h1 h2 : AH} (A : TxX h h1) (B : TxX h1 h2) : TxX h h2 := ⟨A.1.tr B.1, fun b i q => (B.2.1 b i q).trans (A.2.1 b i q), fun t k q => (B.2.2.1 t k q).trans (A.2.2.1 t k q), fun a i p q => (B.2.2.2.1 a i p q).trans (A.2.2.2.1 a i p q), B.2.2.2.2.1.trans A.2.2.2.2.1, B.2.2.2.2.2.trans A.2.2.2.2.2⟩
theorem FC.rf {nt : Nat} (h : AH) : FC nt h h := ⟨OC.rf _ _, TxX.rf h, fun _ _ _ _ => rfl, rfl⟩
theorem FM.rf (h : AH) : FM h h := ⟨OM.rf _ _, TxX.rf h, fun _ _ _ _ _ => rfl, rfl⟩
theorem FC.tr {nt : Nat} {h h1 h2 : AH} (A : FC nt h h1) (B : FC nt h1 h2) : FC nt h h2 := ⟨A.1.tr B.1, A.2.1.tr B.2.1, fun s k q1 q2 => (B.2.2.1 s k q1 q2).trans (A.2.2.1 s k q1 q2), B.2.2.2.trans A.2.2.2⟩
theorem FM.tr {h h1 h2 : AH} (A : FM h h1) (B : FM h1 h2) : FM h h2 := ⟨A.1.tr B.1, A.2.1.tr B.2.1, fun a k q1 q2 q3 => (B.2.2.1 a k q1 q2 q3).trans (A.2.2.1 a k q1 q2 q3), B.2.2.2.trans A.2.2.2⟩
theorem FC.s {nt : Nat} {h : AH} {t : Nat} (ht : t < 12) (hn : t < nt) (v : Int32) : FC nt h (am_si h (148 + 4 * t) 5 v) := ⟨(OC.rf [6] h).si (a := 148 + 4 * t) (k := 5) (by omega) (tpm (tp_text ht) (by decide)), (TxX.rf h).c ht, fun s k q1 q2 => gi_ne (by omega), gi_ne (by omega)⟩
theorem FM.s {h : AH} (t : Nat) (v : Int32) : FM h (am_si h 241 t v) := ⟨(OM.rf [6] h).si (a := 241) (k := t) (by omega) (List.mem_singleton.mpr rfl), (TxX.rf h).m (by decide) (by decide), fun a k q1 q2 q3 => gi_ne (by omega), gi_ne (by omega)⟩
/-- on which text each hangs -/
def HG (hg : Nat → Int32) (nt : Nat) : Prop := ∀ i, i < nt → hg i = -1 ∨ inN (hg i) nt
theorem l155 {nt : Nat} (bt : nt ≤ 12) {hg : Nat → Int32} (H : HG hg nt) : ∀ m i v n h, i + m = nt → n + m ≤ 1000 → Lay h → am_gi h 6 9 = zI nt → vdC h nt v → (∀ s, s < nt → am_gi h (148 + 4 * s) 8 = hg s) → Ev 2 155 4 [.ref 6, .int (zI n), .int (zI i), .null] [] h (fun r h' => r = some (.int (zI (fold (tS hg) (v, n) i m).2)) ∧ vdC h' nt (fold (tS hg) (v, n) i m).1 ∧ FC nt h h')
  | 0, i, v, n, h, e, hn, Ly, e9, V, G => ws155_4 _ _ Ly ⟨fun _ => ⟨rfl, V, FC.rf h⟩, fun z => absurd (by rw [e9, ← e]; exact Int32.le_refl _) z⟩
  | m + 1, i, v, n, h, e, hn, Ly, e9, V, G => by
    have hi : i < nt := by omega
    have ef : fold (tS hg) (v, n) i (m + 1) = fold (tS hg) (tS hg (v, n) i) (i + 1) m := rfl
    rw [ef]
    have i12 : am_in (zI i) 12 := in_zI (by omega) (by decide)
    have no : (¬ (v i = false ∧ (¬ hg i = -1) ∧ v (hg i).toNatClampNeg = true)) → Ev 2 155 4 [.ref 6, .int (zI n), .int (zI (i + 1)), .null] [] h (fun r h' => r = some (.int (zI (fold (tS hg) (tS hg (v, n) i) (i + 1) m).2)) ∧ vdC h' nt (fold (tS hg) (tS hg (v, n) i) (i + 1) m).1 ∧ FC nt h h') := fun z => by
      have e1 : tS hg (v, n) i = (v, n) := by unfold tS; rw [if_neg z]
      rw [e1]; exact l155 bt H m (i + 1) v n h (by omega) (by omega) Ly e9 V G
    refine ws155_4 _ _ Ly ⟨fun z => absurd z (by rw [e9, zI_le (by omega) (by omega)]; omega), fun _ => ⟨i12, ?_⟩⟩
    rw [zI_tn (by omega), zI_succ, zI_succ, V i hi, G i hi]
    refine ⟨fun z => no (fun w => z (by rw [w.1]; rfl)), fun z => ?_⟩
    have vi : v i = false := by simpa using bI_0.mp (Decidable.not_not.mp z)
    refine Cl.i (p140 Ly (n := nt) (by omega) e9 _) (by decide) Ly ⟨fun w => no (fun q => (H i hi).elim q.2.1 (bI_0.mp w)), fun w => ?_⟩
    have hk := bI_n0.mp w
    rw [G i hi]
    refine ⟨in_N hk bt, ?_⟩
    rw [V _ (inN_tn hk)]
    refine ⟨fun q => no (fun u => bI_0.mp q u.2.2), fun q => ?_⟩
    have z' : v i = false ∧ (¬ hg i = -1) ∧ v (hg i).toNatClampNeg = true := ⟨vi, inN_n1 hk, bI_n0.mp q⟩
    have e1 : tS hg (v, n) i = (fun k => if k = i then true else v k, n + 1) := by unfold tS; rw [if_pos z']
    intro h2 eh
    subst eh
    have F := FC.s (nt := nt) (h := h) (t := i) (by omega) hi 1
    rw [e1]
    refine Ev.mono (l155 bt H m (i + 1) _ (n + 1) _ (by omega) (by omega) (Ly.si _ _ _) (by rw [gi_ne (by omega)]; exact e9) (fun s hs => ?_) (fun s hs => by rw [gi_ne (by omega)]; exact G s hs)) (Nat.le_refl _) (fun r h' p => ⟨p.1, p.2.1, F.tr p.2.2⟩)
    by_cases es : s = i
    · subst es; rw [gi_eq, bI_t (by simp)]
    · rw [gi_ne (by omega), V s hs]; simp [es]
theorem c155 {nt : Nat} (bt : nt ≤ 12) {hg : Nat → Int32} (H : HG hg nt) {v : Nat → Bool} {h : AH} (Ly : Lay h) (e9 : am_gi h 6 9 = zI nt) (V : vdC h nt v) (G : ∀ s, s < nt → am_gi h (148 + 4 * s) 8 = hg s) : Cl 2 155 [.ref 6] h (fun r h' => r = some (.int (zI (tP hg nt v).2)) ∧ vdC h' nt (tP hg nt v).1 ∧ FC nt h h') := ws155 Ly (l155 bt H nt 0 v 0 h (by omega) (by omega) Ly e9 V G)
theorem tP_le (hg : Nat → Int32) {nt : Nat} (bt : nt ≤ 12) (v : Nat → Bool) : (tP hg nt v).2 ≤ 12 := by
  have a := (tS_c hg nt nt 0 v 0 (by omega)).1
  have b := cnt_le (fun k => !v k) nt
  show (fold (tS hg) (v, 0) 0 nt).2 ≤ 12
  omega
theorem l114 {nt : Nat} (bt : nt ≤ 12) {hg : Nat → Int32} (H : HG hg nt) : ∀ f i v n h, i + f = 12 → n ≤ 1 + 12 * i → Lay h → am_gi h 6 9 = zI nt → vdC h nt v → (∀ s, s < nt → am_gi h (148 + 4 * s) 8 = hg s) → Ev 3 114 44 [.ref 6, .null, .int (zI n), .int (zI i)] [] h (fun r h' => r = some (.int (zI (n + tTot hg nt f v))) ∧ vdC h' nt (tIt hg nt f v) ∧ FC nt h h')
  | 0, i, v, n, h, e, hn, Ly, e9, V, G => ws114_44 _ _ Ly ⟨fun _ => ⟨rfl, V, FC.rf h⟩, fun z => absurd ((zI_le (m := 12) (by decide) (by omega)).mpr (by omega)) z⟩
  | f + 1, i, v, n, h, e, hn, Ly, e9, V, G => by
    have hp := tP_le hg bt v
    refine ws114_44 _ _ Ly ⟨fun z => absurd ((zI_le (m := 12) (by decide) (by omega)).mp z) (by omega), fun _ => Cl.qi (c155 bt H Ly e9 V G) (by decide) (fun g p => ⟨p.2.1.lay Ly, ?_⟩)⟩
    rw [zI_add, zI_succ]
    refine Ev.mono (l114 bt H f (i + 1) (tP hg nt v).1 (n + (tP hg nt v).2) g (by omega) (by omega) (p.2.1.lay Ly) (by rw [p.2.2.1.2.2.2.2.1]; exact e9) p.1 (fun s hs => by rw [p.2.2.2.1 s 8 (by omega) (Or.inl (by decide))]; exact G s hs)) (Nat.le_refl _) (fun r h' q => ⟨?_, q.2.1, p.2.tr q.2.2⟩)
    rw [q.1]
    show some (Value.int (zI (n + (tP hg nt v).2 + tTot hg nt f (tP hg nt v).1))) = some (Value.int (zI (n + ((tP hg nt v).2 + tTot hg nt f (tP hg nt v).1))))
    rw [Nat.add_assoc]
theorem l222 {nt : Nat} (bt : nt ≤ 12) {hg : Nat → Int32} (H : HG hg nt) : ∀ m i v n n0 h {Q : Option Value → AH → Prop}, i + m = nt → n0 ≤ n → n + m ≤ 1000 → Lay h → am_gi h 216 23 = zI nt → vdM h nt v → (∀ s, s < nt → am_gi h 244 s = hg s) → (∀ h', vdM h' nt (fold (tS hg) (v, n) i m).1 → FM h h' → Ev 3 222 38 [.ref 216, .null, .int (zI (fold (tS hg) (v, n) i m).2), .int (bI (¬ (fold (tS hg) (v, n) i m).2 = n0)), .null] [] h' Q) → Ev 3 222 47 [.ref 216, .null, .int (zI n), .int (bI (¬ n = n0)), .int (zI i)] [] h Q
  | 0, i, v, n, n0, h, Q, e, h0, hn, Ly, e23, V, G, K => ws222_47 _ _ _ Ly ⟨fun _ => K h V (FM.rf h), fun z => absurd (by rw [e23, ← e]; exact Int32.le_refl _) z⟩
  | m + 1, i, v, n, n0, h, Q, e, h0, hn, Ly, e23, V, G, K => by
    have hi : i < nt := by omega
    have ef : fold (tS hg) (v, n) i (m + 1) = fold (tS hg) (tS hg (v, n) i) (i + 1) m := rfl
    rw [ef] at K
    have i13 : am_in (zI i) 13 := in_zI (by omega) (by decide)
    have no : (¬ (v i = false ∧ (¬ hg i = -1) ∧ v (hg i).toNatClampNeg = true)) → Ev 3 222 47 [.ref 216, .null, .int (zI n), .int (bI (¬ n = n0)), .int (zI (i + 1))] [] h Q := fun z => by
      have e1 : tS hg (v, n) i = (v, n) := by unfold tS; rw [if_neg z]
      rw [e1] at K
      exact l222 bt H m (i + 1) v n n0 h (by omega) h0 (by omega) Ly e23 V G K
    refine ws222_47 _ _ _ Ly ⟨fun z => absurd z (by rw [e23, zI_le (by omega) (by omega)]; omega), fun _ => ⟨i13, ?_⟩⟩
    rw [zI_tn (by omega), zI_succ, zI_succ, V i hi, G i hi]
    refine ⟨fun z => no (fun w => z (by rw [w.1]; rfl)), fun z => ⟨i13, fun w => no (fun q => q.2.1 w), fun w => ⟨i13, ?_⟩⟩⟩
    have vi : v i = false := by simpa using bI_0.mp (Decidable.not_not.mp z)
    have hk : inN (hg i) nt := (H i hi).elim (fun q => absurd q w) id
    refine ⟨in_N hk (by omega), ?_⟩
    rw [V _ (inN_tn hk)]
    refine ⟨fun q => no (fun u => bI_0.mp q u.2.2), fun q => ⟨i13, ?_⟩⟩
    have z' : v i = false ∧ (¬ hg i = -1) ∧ v (hg i).toNatClampNeg = true := ⟨vi, w, bI_n0.mp q⟩
    have e1 : tS hg (v, n) i = (fun k => if k = i then true else v k, n + 1) := by unfold tS; rw [if_pos z']
    rw [e1] at K
    intro h2 eh
    subst eh
    have F := FM.s (h := h) i 1
    have L := l222 bt H m (i + 1) (fun k => if k = i then true else v k) (n + 1) n0 (am_si h 241 i 1) (Q := Q) (by omega) (by omega) (by omega) (Ly.si _ _ _) (by rw [gi_ne (by omega)]; exact e23) (fun s hs => by
      by_cases es : s = i
      · subst es; rw [gi_eq, bI_t (by simp)]
      · rw [gi_ne (by omega), V s hs]; simp [es]) (fun s hs => by rw [gi_ne (by omega)]; exact G s hs) (fun h' p1 p2 => K h' p1 (F.tr p2))
    rw [bI_t (show ¬ n + 1 = n0 by omega)] at L
    exact L
theorem w222 {nt : Nat} (bt : nt ≤ 12) {hg : Nat → Int32} (H : HG hg nt) : ∀ f v n h, cnt (fun k => !v k) nt ≤ f → n + 13 * f ≤ 900 → Lay h → am_gi h 216 23 = zI nt → vdM h nt v → (∀ s, s < nt → am_gi h 244 s = hg s) → Ev 3 222 38 [.ref 216, .null, .int (zI n), .int 1, .null] [] h (fun r h' => r = some (.int (zI (n + tTot hg nt f v))) ∧ vdM h' nt (tIt hg nt f v) ∧ FM h h') := by
  intro f
  induction f with
  | zero =>
    intro v n h hc hn Ly e23 V G
    have C := tS_c hg nt nt 0 v n (by omega)
    have e1 : (fold (tS hg) (v, n) 0 nt).2 = n := by omega
    have e2 := C.2.2.1 e1
    refine ws222_38 _ _ Ly ⟨fun z => absurd z (by decide), fun _ => ?_⟩
    have b0 : (0 : Int32) = bI (¬ n = n) := by rw [bI_f (fun z => z rfl)]
    have L := l222 bt H nt 0 v n n h (Q := fun r h' => r = some (.int (zI (n + tTot hg nt 0 v))) ∧ vdM h' nt (tIt hg nt 0 v) ∧ FM h h') (by omega) (Nat.le_refl _) (by omega) Ly e23 V G (fun h' p1 p2 => by
      rw [e1, ← b0]; rw [e2] at p1
      exact ws222_38 _ _ (p2.1.lay Ly) ⟨fun _ => ⟨rfl, p1, p2⟩, fun z => absurd rfl z⟩)
    rw [← b0] at L
    exact L
  | succ f ih =>
    intro v n h hc hn Ly e23 V G
    have C := tS_c hg nt nt 0 v n (by omega)
    have N := tS_n hg nt 0 v n
    have eN : (fold (tS hg) (v, n) 0 nt).2 = n + (tP hg nt v).2 := N.2
    have eV : (fold (tS hg) (v, n) 0 nt).1 = (tP hg nt v).1 := N.1
    refine ws222_38 _ _ Ly ⟨fun z => absurd z (by decide), fun _ => ?_⟩
    have b0 : (0 : Int32) = bI (¬ n = n) := by rw [bI_f (fun z => z rfl)]
    have L := l222 bt H nt 0 v n n h (Q := fun r h' => r = some (.int (zI (n + tTot hg nt (f + 1) v))) ∧ vdM h' nt (tIt hg nt (f + 1) v) ∧ FM h h') (by omega) (Nat.le_refl _) (by omega) Ly e23 V G (fun h' p1 p2 => by
      rw [eN]; rw [eV] at p1
      by_cases z : (tP hg nt v).2 = 0
      · have T0 := tTot_0 hg nt z (f + 1)
        have e2 := (tS_c hg nt nt 0 v 0 (by omega)).2.2.1 z
        have e2' : (tP hg nt v).1 = v := e2
        rw [e2'] at p1
        rw [bI_f (by omega), T0.1, T0.2, z]
        exact ws222_38 _ _ (p2.1.lay Ly) ⟨fun _ => ⟨rfl, p1, p2⟩, fun w => absurd rfl w⟩
      · rw [bI_t (by omega)]
        have cc : cnt (fun k => !(tP hg nt v).1 k) nt ≤ f := by
          have q := C.1
          rw [eV, eN] at q; omega
        have hp := tP_le hg bt v
        refine Ev.mono (ih (tP hg nt v).1 (n + (tP hg nt v).2) h' cc ?_ (p2.1.lay Ly) (by rw [p2.2.1.2.2.2.2.2]; exact e23) p1 (fun s hs => by rw [p2.2.2.1 244 s (by decide) (by decide) (by decide)]; exact G s hs)) (Nat.le_refl _) (fun r h2 q => ⟨?_, q.2.1, p2.tr q.2.2⟩)
        · have q := C.1
          rw [eV, eN] at q
          omega
        · rw [q.1]
          show some (Value.int (zI (n + (tP hg nt v).2 + tTot hg nt f (tP hg nt v).1))) = some (Value.int (zI (n + ((tP hg nt v).2 + tTot hg nt f (tP hg nt v).1))))
          rw [Nat.add_assoc])
    rw [← b0] at L
    exact L
theorem op_tear {L : Nat} {xs : Nat → Int32} {c : Nat} {h : AH} {nh nm nr na nt nc : Nat} (I : InvN L xs c h nh nm nr na nt nc) (x : Int32) : OPi 114 222 [.int x] L xs c h := by
  have Ly := I.lay
  have bt := I.itx.1
  by_cases hx : inN x nt
  · obtain ⟨t, ht, rfl⟩ := hx.ex
    have tt : Int32.toNatClampNeg (zI t) = t := zI_tn (by omega)
    have i12 : am_in (zI t) 12 := in_zI (by omega) (by decide)
    have i13 : am_in (zI t) 13 := in_zI (by omega) (by decide)
    have T := (I.itx.2.2.2.2.1 t ht).1
    by_cases h0 : t = 0
    · subst h0
      refine OPi.pf I (x := -2) (d := 9) (d' := 9) ?_ ?_
      · exact ws114 _ Ly (Cl.i (p140 Ly (by omega) I.itx.2.1 _) (by decide) Ly ⟨fun z => absurd hx (bI_0.mp z), fun _ => ⟨fun z => absurd rfl z, fun _ => ⟨rfl, rfl⟩⟩⟩)
      · exact ws222 _ Ly (Cl.i (p219 Ly (n := nt) (by omega) I.itx.2.2.1 _) (by decide) Ly ⟨fun z => absurd hx (bI_0.mp z), fun _ => ⟨fun z => absurd rfl z, fun _ => ⟨rfl, rfl⟩⟩⟩)
    · have n0 : ¬ zI t = 0 := fun e => h0 ((zI_inj (n := 0) (by omega) (by decide)).mp e)
      by_cases hv : am_gi h 241 t = 0
      · obtain ⟨v, hv0⟩ : ∃ v : Nat → Bool, v = fun i => if i = t then true else !decide (am_gi h 241 i = 0) := ⟨_, rfl⟩
        have H : HG (fun i => am_gi h 244 i) nt := fun i hi => (I.itx.2.2.2.2.1 i hi).1.2.2.2.2.2.2
        have vb : ∀ i, i < nt → i ≠ t → am_gi h 241 i = bI (v i = true) := fun i hi hit => by
          rw [hv0]
          rcases (I.itx.2.2.2.2.1 i hi).1.2.2.1.2 with e | e
          · rw [e, bI_f]; simp [hit, e]
          · rw [e, bI_t]; simp [hit, e]
        have vt : v t = true := by rw [hv0]; simp
        have FC1 : FC nt h (am_si h (148 + 4 * t) 5 1) := FC.s (by omega) ht 1
        refine OPi.cm (d := 9) (d' := 9) (ts := [6]) (v := zI (1 + tTot (fun i => am_gi h 244 i) nt 12 v)) (P1 := fun h' => vdC h' nt (tIt (fun i => am_gi h 244 i) nt 12 v) ∧ FC nt h h') (P2 := fun h' => vdM h' nt (tIt (fun i => am_gi h 244 i) nt 12 v) ∧ ∃ h1, FM h1 h' ∧ OC [6] h h1 ∧ FC nt h h1 ∧ vdC h1 nt (tIt (fun i => am_gi h 244 i) nt 12 v)) I ?_ ?_ ?_
        · refine ws114 _ Ly (Cl.i (p140 Ly (by omega) I.itx.2.1 _) (by decide) Ly ⟨fun z => absurd hx (bI_0.mp z), fun _ => ⟨fun _ => ⟨i12, ?_⟩, fun z => absurd n0 z⟩⟩)
          rw [tt, T.2.2.1.1]
          refine ⟨fun _ => ⟨i12, ?_⟩, fun z => absurd hv z⟩
          intro k1 e1; subst e1
          have W := l114 bt.2 H 12 0 v 1 (am_si h (148 + 4 * t) 5 1) (by omega) (by omega) (Ly.si _ _ _) (by rw [gi_ne (by omega)]; exact I.itx.2.1) (fun i hi => by
            by_cases e : i = t
            · subst e; rw [gi_eq, bI_t vt]
            · rw [gi_ne (by omega), (I.itx.2.2.2.2.1 i hi).1.2.2.1.1]; exact vb i hi e) (fun s hs => by rw [gi_ne (by omega)]; exact (I.itx.2.2.2.2.1 s hs).1.2.2.2.2.2.1)
          exact Ev.mono W (by decide) (fun r h' p => ⟨p.1, ⟨p.2.1, FC1.tr p.2.2⟩, (FC1.tr p.2.2).1⟩)
        · rintro h1 ⟨V1, F1⟩ E1 Ly1
          have e241 : ∀ i, am_gi h1 241 i = am_gi h 241 i := fun i => E1.gi (by omega)
          have FM1 : FM h1 (am_si h1 241 t 1) := FM.s t 1
          refine ws222 _ Ly1 (Cl.i (p219 Ly1 (n := nt) (by omega) (by rw [E1.gi (by omega)]; exact I.itx.2.2.1) _) (by decide) Ly1 ⟨fun z => absurd hx (bI_0.mp z), fun _ => ⟨fun _ => ⟨i13, ?_⟩, fun z => absurd n0 z⟩⟩)
          rw [tt, e241]
          refine ⟨fun _ => ⟨i13, ?_⟩, fun z => absurd hv z⟩
          intro k1 e1; subst e1
          have W := w222 bt.2 H 12 v 1 (am_si h1 241 t 1) (Nat.le_trans (cnt_le _ _) bt.2) (by omega) (Ly1.si _ _ _) (by rw [gi_ne (by omega), E1.gi (by omega)]; exact I.itx.2.2.1) (fun i hi => by
            by_cases e : i = t
            · subst e; rw [gi_eq, bI_t vt]
            · rw [gi_ne (by omega), e241]; exact vb i hi e) (fun s hs => by rw [gi_ne (by omega), E1.gi (by omega)])
          exact Ev.mono W (by decide) (fun r h' p => ⟨p.1, ⟨p.2.1, h1, FM1.tr p.2.2, E1, F1, V1⟩, (FM1.tr p.2.2).1⟩)
        · rintro _ h2 _ _ ⟨V2, h1, F2, E1, F1, V1⟩ _
          have X := F1.2.1.tr F2.2.1
          have mc : ∀ a k, 240 ≤ a → a ≤ 246 → a ≠ 241 → am_gi h2 a k = am_gi h a k := fun a k q1 q2 q3 => by rw [F2.2.2.1 a k q1 q2 q3]; exact E1.gi (by omega)
          have cc : ∀ s k, s < 12 → am_gi h2 (148 + 4 * s) k = am_gi h1 (148 + 4 * s) k := fun s k hs => F2.1.gi (by omega)
          have sub : ∀ f (u : Nat → Bool) i, u i = true → tIt (fun i => am_gi h 244 i) nt f u i = true := by
            intro f
            induction f with
            | zero => intro u i q; exact q
            | succ f ih => intro u i q; exact ih _ i ((tS_c _ nt nt 0 u 0 (by omega)).2.1 i q)
          refine ⟨nh, nm, nr, na, nt, nc, I.up X.1 (g6 := Or.inr (I.itx.x X ?_ (fun s hs => ?_) ?_ (fun s k q1 q2 => ?_))) (g11 := Or.inr (I.itr.xx X))⟩
          · have c10 : am_gi h2 6 10 = am_gi h 6 10 := by
              rw [F2.1.gi (by omega)]
              exact F1.2.2.2
            rw [c10, F2.2.2.2, E1.gi (by omega)]
            exact ⟨I.itx.2.2.2.1.1, I.itx.2.2.2.1.2.1, by have := I.itx.2.2.2.1.2.2; omega⟩
          · have T2 := (I.itx.2.2.2.2.1 s hs).1
            unfold ITt
            rw [cc s 3 (by omega), cc s 4 (by omega), cc s 5 (by omega), cc s 6 (by omega), cc s 7 (by omega), cc s 8 (by omega), F1.2.2.1 s 3 (by omega) (Or.inl (by decide)), F1.2.2.1 s 4 (by omega) (Or.inl (by decide)), F1.2.2.1 s 6 (by omega) (Or.inl (by decide)), F1.2.2.1 s 7 (by omega) (Or.inl (by decide)), F1.2.2.1 s 8 (by omega) (Or.inl (by decide)), V1 s hs, V2 s hs, mc 240 s (by decide) (by decide) (by decide), mc 242 s (by decide) (by decide) (by decide), mc 243 s (by decide) (by decide) (by decide), mc 244 s (by decide) (by decide) (by decide), mc 245 s (by decide) (by decide) (by decide), mc 246 s (by decide) (by decide) (by decide)]
            exact ⟨T2.1, T2.2.1, ⟨rfl, bI_01⟩, T2.2.2.2⟩
          · rw [mc 240 0 (by decide) (by decide) (by decide), mc 244 0 (by decide) (by decide) (by decide)]; exact I.itx.2.2.2.2.2.1
          · rw [cc s k q2, F1.2.2.1 s k q2 (Or.inr q1)]
      · refine OPi.pf I (x := -3) (d := 9) (d' := 9) ?_ ?_
        · refine ws114 _ Ly (Cl.i (p140 Ly (by omega) I.itx.2.1 _) (by decide) Ly ⟨fun z => absurd hx (bI_0.mp z), fun _ => ⟨fun _ => ⟨i12, ?_⟩, fun z => absurd n0 z⟩⟩)
          rw [tt, T.2.2.1.1]
          exact ⟨fun z => absurd z hv, fun _ => ⟨rfl, rfl⟩⟩
        · refine ws222 _ Ly (Cl.i (p219 Ly (n := nt) (by omega) I.itx.2.2.1 _) (by decide) Ly ⟨fun z => absurd hx (bI_0.mp z), fun _ => ⟨fun _ => ⟨i13, ?_⟩, fun z => absurd n0 z⟩⟩)
          rw [tt]
          exact ⟨fun z => absurd z hv, fun _ => ⟨rfl, rfl⟩⟩
  · refine OPi.pf I (x := -2) (d := 9) (d' := 9) ?_ ?_
    · exact ws114 _ Ly (Cl.i (p140 Ly (by omega) I.itx.2.1 _) (by decide) Ly ⟨fun _ => ⟨rfl, rfl⟩, fun z => absurd (bI_n0.mp z) hx⟩)
    · exact ws222 _ Ly (Cl.i (p219 Ly (n := nt) (by omega) I.itx.2.2.1 _) (by decide) Ly ⟨fun _ => ⟨rfl, rfl⟩, fun z => absurd (bI_n0.mp z) hx⟩)
