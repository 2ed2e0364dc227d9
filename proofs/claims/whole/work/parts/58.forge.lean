/-! FORGE: what a tray answers, in the class and in the reference -/
def FJ (d : Nat) (h : AH) (t : Nat) (Mc : Nat) (as : List Value) (Mr : Nat) (bs : List Value) : Prop := ∃ x s : Int32, GF d Mc (.ref (196 + 3 * t) :: as) h (some (.int x)) (am_si h (196 + 3 * t) 7 s) ∧ ∀ h', Lay h' → (∀ a k, 216 ≤ a → a < 263 → am_gi h' a k = am_gi h a k ∧ am_gl h' a k = am_gl h a k) → GF d Mr (.ref 216 :: bs) h' (some (.int x)) (am_si h' 216 47 s)
theorem g89 {h : AH} (Ly : Lay h) {t : Nat} (ht : t < 6) (i : Int32) : GF 0 89 [.ref (196 + 3 * t), .int i] h (some (.int (-1))) (am_si h (196 + 3 * t) 7 i) := ws89 ht i Ly (fun _ e => ⟨rfl, e⟩)
theorem g90 {h : AH} (Ly : Lay h) {t : Nat} (ht : t < 6) (i : Int32) : GF 0 90 [.ref (196 + 3 * t), .int i] h (some (.int i)) (am_si h (196 + 3 * t) 7 0) := ws90 ht i Ly (fun _ e => ⟨rfl, e⟩)
theorem g253 {h : AH} (Ly : Lay h) (i : Int32) : GF 0 253 [.ref 216, .int i] h (some (.int i)) (am_si h 216 47 0) := ws253 i Ly (fun _ e => ⟨rfl, e⟩)
theorem g254 {h : AH} (Ly : Lay h) (i : Int32) : GF 0 254 [.ref 216, .int i] h (some (.int (-1))) (am_si h 216 47 i) := ws254 i Ly (fun _ e => ⟨rfl, e⟩)
theorem t64 (x : Int32) : Int64.toInt32 (Int32.toInt64 x) = x := by simp
theorem z40 (t i : Nat) : (400 : Int32) * zI t + zI i = zI (400 * t + i) := by
  show zI 400 * zI t + zI i = _
  rw [zI_mul, zI_add]
theorem z41 (t i : Nat) : (400 : Int32) * zI t + 1 + zI i = zI (400 * t + (i + 1)) := by
  show zI 400 * zI t + zI 1 + zI i = _
  rw [zI_mul, zI_add, zI_add]; congr 1; omega
theorem inR_sz {i : Int32} {n : Nat} (hn : n ≤ 400) : inR i 0 (zI n - 1) ↔ ¬ i < 0 ∧ i < zI n := by
  have e0 : (zI n).toInt = n := zI_toInt (by omega)
  have e1 : (1 : Int32).toInt = 1 := rfl
  have e : (zI n - 1).toInt = n - 1 := by rw [i_sub (by rw [e0, e1]; omega) (by rw [e0, e1]; omega), e0, e1]
  constructor
  · rintro ⟨a, b⟩
    refine ⟨a, ?_⟩
    rw [i_lt, e] at b; rw [i_lt, e0]; omega
  · rintro ⟨a, b⟩
    refine ⟨a, ?_⟩
    rw [i_lt, e0] at b; rw [i_lt, e]; omega
theorem e95 {h : AH} (Ly : Lay h) {t b n j : Nat} (ht : t < 6) (g : am_gr h (196 + 3 * t) 3 = some b) (kd : am_kd h b = 102) (ln : am_ln h b = n) (hj : j < n) (hn : n ≤ 400) : ∀ (m i : Nat) (acc : Int32), i + m = j → Ev 2 95 62 [.ref (196 + 3 * t), .int (zI j), .int acc, .int (zI (i + 1))] [] h (fun r h' => r = some (.int (fold (fun a k => a + am_gi h b (k + 1)) acc i m)) ∧ h' = am_si h (196 + 3 * t) 7 0)
  | 0, i, acc, e => ws95_62 ht _ _ _ Ly ⟨fun _ => Cl.gi (g90 Ly ht _) (by decide) (Ly.si _ _ _) ⟨rfl, rfl⟩, fun z => absurd ((zI_lt (by omega) (by omega)).mpr (by omega)) z⟩
  | m + 1, i, acc, e => ws95_62 ht _ _ _ Ly ⟨fun z => absurd ((zI_lt (by omega) (by omega)).mp z) (by omega), fun _ => ⟨b, g, Or.inl kd, by rw [ln]; exact in_zI (by omega) (by omega), by
      rw [zI_tn (by omega), zI_succ]; exact e95 Ly ht g kd ln hj hn m (i + 1) _ (by omega)⟩⟩
theorem e259 {h : AH} (Ly : Lay h) {t j : Nat} {f : Nat → Int32} (ht : t < 6) (hj : j < 400) (g : ∀ k, k < j → Int64.toInt32 (am_gl h 252 (400 * t + (k + 1))) = f (k + 1)) : ∀ (m i : Nat) (acc : Int32), i + m = j → Ev 2 259 69 [.ref 216, .int (zI t), .int (zI j), .int acc, .int (zI i)] [] h (fun r h' => r = some (.int (fold (fun a k => a + f (k + 1)) acc i m)) ∧ h' = am_si h 216 47 0)
  | 0, i, acc, e => ws259_69 _ _ _ _ Ly ⟨fun _ => Cl.gi (g253 Ly _) (by decide) (Ly.si _ _ _) ⟨rfl, rfl⟩, fun z => absurd ((zI_le (by omega) (by omega)).mpr (by omega)) z⟩
  | m + 1, i, acc, e => ws259_69 _ _ _ _ Ly ⟨fun z => absurd ((zI_le (by omega) (by omega)).mp z) (by omega), fun _ => by
      rw [z41, zI_tn (by omega), g i (by omega), zI_succ]
      exact ⟨in_zI (by omega) (by omega), e259 Ly ht hj g m (i + 1) _ (by omega)⟩⟩
theorem p93 {h : AH} (Ly : Lay h) {t : Nat} (ht : t < 6) (k : Int32) : PF 0 93 [.ref (196 + 3 * t), .int k] h (.int (bI (am_gi h (196 + 3 * t) 0 = 1 ∧ (k = 0 ∨ am_gi h (196 + 3 * t) 1 = k ∨ (am_gi h (196 + 3 * t) 1 = 2 ∧ k = 1))))) := by
  refine ws93 ht k Ly ⟨fun z => ⟨by rw [bI_f (fun w => z w.1)], rfl⟩, fun z => ⟨fun w => ⟨by rw [bI_t ⟨Decidable.not_not.mp z, Or.inr (Or.inl w)⟩], rfl⟩, fun w => ⟨fun v => ⟨by rw [bI_t ⟨Decidable.not_not.mp z, Or.inl v⟩], rfl⟩, fun v => ⟨fun u => ⟨?_, rfl⟩, fun u => ⟨fun y => ⟨?_, rfl⟩, fun y => ⟨?_, rfl⟩⟩⟩⟩⟩⟩
  · rw [bI_f (fun x => x.2.elim v (fun x => x.elim w (fun x => u x.2)))]
  · rw [bI_f (fun x => x.2.elim v (fun x => x.elim w (fun x => y x.1)))]
  · rw [bI_t ⟨Decidable.not_not.mp z, Or.inr (Or.inr ⟨Decidable.not_not.mp y, Decidable.not_not.mp u⟩)⟩]
theorem p256 {h : AH} (Ly : Lay h) (i k : Int32) : PF 0 256 [.int i, .int k] h (.int (bI (k = 0 ∨ i = k ∨ (i = 2 ∧ k = 1)))) := by
  refine ws256 i k Ly ⟨fun z => ⟨by rw [bI_t (Or.inl z)], rfl⟩, fun z => ⟨fun w => ⟨by rw [bI_t (Or.inr (Or.inl w))], rfl⟩, fun w => ⟨fun v => ⟨?_, rfl⟩, fun v => ⟨fun u => ⟨?_, rfl⟩, fun u => ⟨?_, rfl⟩⟩⟩⟩⟩
  · rw [bI_f (fun x => x.elim z (fun x => x.elim w (fun x => v x.1)))]
  · rw [bI_f (fun x => x.elim z (fun x => x.elim w (fun x => u x.2)))]
  · rw [bI_t (Or.inr (Or.inr ⟨Decidable.not_not.mp v, Decidable.not_not.mp u⟩))]
theorem f94 {h : AH} (Ly : Lay h) {nr t : Nat} (ht : t < 6) (I : ITy h nr t) (a i : Int32) (ha : a = 2 ∨ a = 3 ∨ a = 4) : FJ 10 h t 94 [.int a, .int i] 258 [.int (zI t), .int a, .int i] := by
  obtain ⟨i1, i2, -, i4, i5, i6⟩ := I
  have qt : Int32.toNatClampNeg (zI t) = t := zI_tn (by omega)
  have it : am_in (zI t) 6 := in_zI ht (by decide)
  by_cases z0 : am_gi h 249 t = 0
  · refine ⟨-1, 10, ws94 ht a i Ly ⟨fun z => absurd (i1.trans z0) z, fun _ => Cl.gi (g89 Ly ht _) (by decide) (Ly.si _ _ _) ⟨rfl, rfl⟩⟩, fun h' L' e => ?_⟩
    exact ws258 _ _ _ L' ⟨it, fun z => absurd (by rw [qt, (e 249 t (by decide) (by decide)).1]; exact z0) z, fun _ => Cl.gi (g254 L' _) (by decide) (L'.si _ _ _) ⟨rfl, rfl⟩⟩
  by_cases z1 : am_gi h 249 t = a
  · have ⟨n, hn, s1, s2, w2, w3, w4⟩ : ∃ n, n ≤ 400 ∧ am_gi h (196 + 3 * t) 6 = zI n ∧ am_gi h 251 t = zI n ∧ (a = 2 → ∃ b, am_gr h (196 + 3 * t) 3 = some b ∧ am_kd h b = 102 ∧ am_ln h b = n ∧ ∀ j, j < n → am_gi h b j = Int64.toInt32 (am_gl h 252 (400 * t + j))) ∧ (a = 3 → n ≤ 24 ∧ ∀ j, j < n → am_gl h (198 + 3 * t) j = am_gl h 252 (400 * t + j)) ∧ (a = 4 → ∀ j, j < n → bq (am_gi h (196 + 3 * t) 5) j = Int64.toInt32 (am_gl h 252 (400 * t + j))) := by
      rcases ha with rfl | rfl | rfl
      · obtain ⟨b, n, r1, r2, r3, r4, r5, r6, r7, r8, r9, r10⟩ := i4 z1
        exact ⟨n, r1, r7, r8, fun _ => ⟨b, r2, r6, r9, fun j hj => by rw [← r10 j hj, t64]⟩, fun z => absurd z (by decide), fun z => absurd z (by decide)⟩
      · obtain ⟨n, r1, r2, r3, r4⟩ := i5 z1
        exact ⟨n, by omega, r2, r3, fun z => absurd z (by decide), fun _ => ⟨r1, r4⟩, fun z => absurd z (by decide)⟩
      · obtain ⟨n, r1, r2, r3, r4⟩ := i6 z1
        exact ⟨n, by omega, r2, r3, fun z => absurd z (by decide), fun z => absurd z (by decide), fun _ j hj => by rw [← r4 j hj, t64]⟩
    by_cases z2 : ¬ i < 0 ∧ i < zI n
    · obtain ⟨j, hj, rfl⟩ := i_pl z2.1 z2.2 (by omega)
      have qj : Int32.toNatClampNeg (zI j) = j := zI_tn (by omega)
      refine ⟨Int64.toInt32 (am_gl h 252 (400 * t + j)), 0, ws94 ht a _ Ly ⟨fun _ => ⟨fun _ => ⟨fun z => absurd z z2.1, fun _ => ⟨fun _ => ⟨fun z => ?_, fun z => ?_, fun z => ?_⟩, fun z => absurd (by rw [s1]; exact z2.2) z⟩⟩, fun z => absurd (i1.trans z1) z⟩, fun z => absurd (by rw [i1]; exact z0) z⟩, fun h' L' e => ?_⟩
      · obtain ⟨b, b1, b2, b3, b4⟩ := w2 z
        exact ⟨b, b1, Or.inl b2, by rw [b3]; exact in_zI hj (by omega), by rw [qj, b4 j hj]; exact Cl.gi (g90 Ly ht _) (by decide) (Ly.si _ _ _) ⟨rfl, rfl⟩⟩
      · obtain ⟨b1, b2⟩ := w3 z
        exact ⟨in_zI (by omega) (by decide), by rw [qj, b2 j hj]; exact Cl.gi (g90 Ly ht _) (by decide) (Ly.si _ _ _) ⟨rfl, rfl⟩⟩
      · have b1 := w4 (by rcases ha with ha | ha | ha; exact absurd ha z.1; exact absurd ha z.2; exact ha) j hj
        rw [show ((am_gi h (196 + 3 * t) 5) >>> (zI j &&& 31)) &&& (1 : Int32) = _ from b1]; exact Cl.gi (g90 Ly ht _) (by decide) (Ly.si _ _ _) ⟨rfl, rfl⟩
      · refine ws258 _ _ _ L' ⟨it, fun _ => ⟨it, fun _ => ⟨it, Cl.i (p167 L' _ _ _) (by decide) L' ⟨fun z => absurd z (bI_n0.mpr (by rw [qt, (e 251 t (by decide) (by decide)).1, s2]; exact (inR_sz hn).mpr z2)), fun _ => ?_⟩⟩, fun z => absurd (by rw [qt, (e 249 t (by decide) (by decide)).1]; exact z1) z⟩, fun z => absurd (by rw [qt, (e 249 t (by decide) (by decide)).1]; exact z0) z⟩
        rw [z40, zI_tn (by omega), (e 252 _ (by decide) (by decide)).2]
        exact ⟨in_zI (by omega) (by decide), Cl.gi (g253 L' _) (by decide) (L'.si _ _ _) ⟨rfl, rfl⟩⟩
    · refine ⟨-1, 12, ws94 ht a _ Ly ⟨fun _ => ⟨fun _ => ⟨fun _ => Cl.gi (g89 Ly ht _) (by decide) (Ly.si _ _ _) ⟨rfl, rfl⟩, fun y => ⟨fun z => absurd ⟨y, by rw [s1] at z; exact z⟩ z2, fun _ => Cl.gi (g89 Ly ht _) (by decide) (Ly.si _ _ _) ⟨rfl, rfl⟩⟩⟩, fun z => absurd (i1.trans z1) z⟩, fun z => absurd (by rw [i1]; exact z0) z⟩, fun h' L' e => ?_⟩
      exact ws258 _ _ _ L' ⟨it, fun _ => ⟨it, fun _ => ⟨it, Cl.i (p167 L' _ _ _) (by decide) L' ⟨fun _ => Cl.gi (g254 L' _) (by decide) (L'.si _ _ _) ⟨rfl, rfl⟩, fun z => absurd (bI_n0.mp z) (by rw [qt, (e 251 t (by decide) (by decide)).1, s2]; exact fun y => z2 ((inR_sz hn).mp y))⟩⟩, fun z => absurd (by rw [qt, (e 249 t (by decide) (by decide)).1]; exact z1) z⟩, fun z => absurd (by rw [qt, (e 249 t (by decide) (by decide)).1]; exact z0) z⟩
  · refine ⟨-1, 11, ws94 ht a _ Ly ⟨fun _ => ⟨fun z => absurd (i1.symm.trans z) z1, fun _ => Cl.gi (g89 Ly ht _) (by decide) (Ly.si _ _ _) ⟨rfl, rfl⟩⟩, fun z => absurd (by rw [i1]; exact z0) z⟩, fun h' L' e => ?_⟩
    exact ws258 _ _ _ L' ⟨it, fun _ => ⟨it, fun z => absurd (by rw [qt, (e 249 t (by decide) (by decide)).1] at z; exact z) z1, fun _ => Cl.gi (g254 L' _) (by decide) (L'.si _ _ _) ⟨rfl, rfl⟩⟩, fun z => absurd (by rw [qt, (e 249 t (by decide) (by decide)).1]; exact z0) z⟩
theorem f91 {h : AH} (Ly : Lay h) {nr t : Nat} (hnr : nr ≤ 60) (ht : t < 6) (I : ITy h nr t) (k : Int32) : FJ 10 h t 91 [.int k] 257 [.int (zI t), .int k, .int 11] := by
  obtain ⟨i1, i2, i3, -⟩ := I
  have qt : Int32.toNatClampNeg (zI t) = t := zI_tn (by omega)
  have it : am_in (zI t) 6 := in_zI ht (by decide)
  by_cases z0 : am_gi h 249 t = 0
  · refine ⟨-1, 10, ws91 ht _ Ly ⟨fun z => absurd (i1.trans z0) z, fun _ => Cl.gi (g89 Ly ht _) (by decide) (Ly.si _ _ _) ⟨rfl, rfl⟩⟩, fun h' L' e => ?_⟩
    refine ws257 _ _ _ L' ⟨it, fun z => ?_, fun z => absurd (by rw [qt, (e 249 t (by decide) (by decide)).1]; exact z0) z⟩
    exact ws257_43 _ _ _ L' ⟨fun y => absurd z y, fun _ => ⟨fun z => absurd rfl z, fun _ => Cl.gi (g254 L' _) (by decide) (L'.si _ _ _) ⟨rfl, rfl⟩⟩⟩
  have q0 : ¬ am_gi h (196 + 3 * t) 0 = 0 := by rw [i1]; exact z0
  by_cases z1 : am_gi h 249 t = 1
  · obtain ⟨r, r1, r2, r3, r4⟩ := i3 z1
    have qr : Int32.toNatClampNeg (zI r) = r := zI_tn (by omega)
    have ir : am_in (zI r) 60 := in_zI (by omega) (by decide)
    by_cases z2 : (k : Int32) = 0 ∨ am_gi h 228 r = (k : Int32) ∨ (am_gi h 228 r = 2 ∧ (k : Int32) = 1)
    · refine ⟨am_gi h 229 r, 0, ws91 ht _ Ly ⟨fun _ => Cl.i (p93 Ly ht _) (by decide) Ly ⟨fun z => absurd z (bI_n0.mpr ⟨i1.trans z1, by rw [r3]; exact z2⟩), fun _ => ?_⟩, fun z => absurd q0 z⟩, fun h' L' e => ?_⟩
      · rw [r4]; exact Cl.gi (g90 Ly ht _) (by decide) (Ly.si _ _ _) ⟨rfl, rfl⟩
      · refine ws257 _ _ _ L' ⟨it, fun z => absurd (by rw [qt, (e 249 t (by decide) (by decide)).1] at z; exact z) z0, fun _ => ⟨fun z => absurd (by rw [qt, (e 249 t (by decide) (by decide)).1]; exact z1) z, fun _ => ?_⟩⟩
        rw [qt, (e 249 t (by decide) (by decide)).1, (e 250 t (by decide) (by decide)).1, r2, qr, (e 228 r (by decide) (by decide)).1]
        refine ⟨it, ir, Cl.i (p256 L' _ _) (by decide) L' ⟨fun _ => ?_, fun z => absurd (bI_n0.mpr z2) z⟩⟩
        refine ws257_43 _ _ _ L' ⟨fun _ => ?_, fun z => absurd z0 z⟩
        rw [qt, (e 250 t (by decide) (by decide)).1, r2, qr, (e 229 r (by decide) (by decide)).1]
        exact ⟨it, ir, Cl.gi (g253 L' _) (by decide) (L'.si _ _ _) ⟨rfl, rfl⟩⟩
    · refine ⟨-1, 11, ws91 ht _ Ly ⟨fun _ => Cl.i (p93 Ly ht _) (by decide) Ly ⟨fun _ => Cl.gi (g89 Ly ht _) (by decide) (Ly.si _ _ _) ⟨rfl, rfl⟩, fun z => absurd (by have := (bI_n0.mp z).2; rw [r3] at this; exact this) z2⟩, fun z => absurd q0 z⟩, fun h' L' e => ?_⟩
      refine ws257 _ _ _ L' ⟨it, fun z => absurd (by rw [qt, (e 249 t (by decide) (by decide)).1] at z; exact z) z0, fun _ => ⟨fun z => absurd (by rw [qt, (e 249 t (by decide) (by decide)).1]; exact z1) z, fun _ => ?_⟩⟩
      rw [qt, (e 249 t (by decide) (by decide)).1, (e 250 t (by decide) (by decide)).1, r2, qr, (e 228 r (by decide) (by decide)).1]
      exact ⟨it, ir, Cl.i (p256 L' _ _) (by decide) L' ⟨fun z => absurd (bI_n0.mp z) z2, fun _ => Cl.gi (g254 L' _) (by decide) (L'.si _ _ _) ⟨rfl, rfl⟩⟩⟩
  · refine ⟨-1, 11, ws91 ht _ Ly ⟨fun _ => Cl.i (p93 Ly ht _) (by decide) Ly ⟨fun _ => Cl.gi (g89 Ly ht _) (by decide) (Ly.si _ _ _) ⟨rfl, rfl⟩, fun z => absurd (i1.symm.trans (bI_n0.mp z).1) z1⟩, fun z => absurd q0 z⟩, fun h' L' e => ?_⟩
    exact ws257 _ _ _ L' ⟨it, fun z => absurd (by rw [qt, (e 249 t (by decide) (by decide)).1] at z; exact z) z0, fun _ => ⟨fun _ => Cl.gi (g254 L' _) (by decide) (L'.si _ _ _) ⟨rfl, rfl⟩, fun z => absurd (by rw [qt, (e 249 t (by decide) (by decide)).1]; exact z1) z⟩⟩
theorem f92 {h : AH} (Ly : Lay h) {nr t : Nat} (hnr : nr ≤ 60) (ht : t < 6) (I : ITy h nr t) : FJ 10 h t 92 [] 257 [.int (zI t), .int 1, .int 14] := by
  obtain ⟨i1, i2, i3, -⟩ := I
  have qt : Int32.toNatClampNeg (zI t) = t := zI_tn (by omega)
  have it : am_in (zI t) 6 := in_zI ht (by decide)
  by_cases z0 : am_gi h 249 t = 0
  · refine ⟨0, 0, ws92 ht Ly ⟨fun z => absurd (i1.trans z0) z, fun _ => Cl.gi (g90 Ly ht _) (by decide) (Ly.si _ _ _) ⟨rfl, rfl⟩⟩, fun h' L' e => ?_⟩
    refine ws257 _ _ _ L' ⟨it, fun z => ?_, fun z => absurd (by rw [qt, (e 249 t (by decide) (by decide)).1]; exact z0) z⟩
    exact ws257_43 _ _ _ L' ⟨fun y => absurd z y, fun _ => ⟨fun _ => Cl.gi (g253 L' _) (by decide) (L'.si _ _ _) ⟨rfl, rfl⟩, fun z => absurd (by decide) z⟩⟩
  have q0 : ¬ am_gi h (196 + 3 * t) 0 = 0 := by rw [i1]; exact z0
  by_cases z1 : am_gi h 249 t = 1
  · obtain ⟨r, r1, r2, r3, r4⟩ := i3 z1
    have qr : Int32.toNatClampNeg (zI r) = r := zI_tn (by omega)
    have ir : am_in (zI r) 60 := in_zI (by omega) (by decide)
    by_cases z2 : (1 : Int32) = 0 ∨ am_gi h 228 r = (1 : Int32) ∨ (am_gi h 228 r = 2 ∧ (1 : Int32) = 1)
    · refine ⟨am_gi h 229 r, 0, ws92 ht Ly ⟨fun _ => Cl.i (p93 Ly ht _) (by decide) Ly ⟨fun z => absurd z (bI_n0.mpr ⟨i1.trans z1, by rw [r3]; exact z2⟩), fun _ => ?_⟩, fun z => absurd q0 z⟩, fun h' L' e => ?_⟩
      · rw [r4]; exact Cl.gi (g90 Ly ht _) (by decide) (Ly.si _ _ _) ⟨rfl, rfl⟩
      · refine ws257 _ _ _ L' ⟨it, fun z => absurd (by rw [qt, (e 249 t (by decide) (by decide)).1] at z; exact z) z0, fun _ => ⟨fun z => absurd (by rw [qt, (e 249 t (by decide) (by decide)).1]; exact z1) z, fun _ => ?_⟩⟩
        rw [qt, (e 249 t (by decide) (by decide)).1, (e 250 t (by decide) (by decide)).1, r2, qr, (e 228 r (by decide) (by decide)).1]
        refine ⟨it, ir, Cl.i (p256 L' _ _) (by decide) L' ⟨fun _ => ?_, fun z => absurd (bI_n0.mpr z2) z⟩⟩
        refine ws257_43 _ _ _ L' ⟨fun _ => ?_, fun z => absurd z0 z⟩
        rw [qt, (e 250 t (by decide) (by decide)).1, r2, qr, (e 229 r (by decide) (by decide)).1]
        exact ⟨it, ir, Cl.gi (g253 L' _) (by decide) (L'.si _ _ _) ⟨rfl, rfl⟩⟩
    · refine ⟨-1, 14, ws92 ht Ly ⟨fun _ => Cl.i (p93 Ly ht _) (by decide) Ly ⟨fun _ => Cl.gi (g89 Ly ht _) (by decide) (Ly.si _ _ _) ⟨rfl, rfl⟩, fun z => absurd (by have := (bI_n0.mp z).2; rw [r3] at this; exact this) z2⟩, fun z => absurd q0 z⟩, fun h' L' e => ?_⟩
      refine ws257 _ _ _ L' ⟨it, fun z => absurd (by rw [qt, (e 249 t (by decide) (by decide)).1] at z; exact z) z0, fun _ => ⟨fun z => absurd (by rw [qt, (e 249 t (by decide) (by decide)).1]; exact z1) z, fun _ => ?_⟩⟩
      rw [qt, (e 249 t (by decide) (by decide)).1, (e 250 t (by decide) (by decide)).1, r2, qr, (e 228 r (by decide) (by decide)).1]
      exact ⟨it, ir, Cl.i (p256 L' _ _) (by decide) L' ⟨fun z => absurd (bI_n0.mp z) z2, fun _ => Cl.gi (g254 L' _) (by decide) (L'.si _ _ _) ⟨rfl, rfl⟩⟩⟩
  · refine ⟨-1, 14, ws92 ht Ly ⟨fun _ => Cl.i (p93 Ly ht _) (by decide) Ly ⟨fun _ => Cl.gi (g89 Ly ht _) (by decide) (Ly.si _ _ _) ⟨rfl, rfl⟩, fun z => absurd (i1.symm.trans (bI_n0.mp z).1) z1⟩, fun z => absurd q0 z⟩, fun h' L' e => ?_⟩
    exact ws257 _ _ _ L' ⟨it, fun z => absurd (by rw [qt, (e 249 t (by decide) (by decide)).1] at z; exact z) z0, fun _ => ⟨fun _ => Cl.gi (g254 L' _) (by decide) (L'.si _ _ _) ⟨rfl, rfl⟩, fun z => absurd (by rw [qt, (e 249 t (by decide) (by decide)).1]; exact z1) z⟩⟩
theorem f95 {h : AH} (Ly : Lay h) {nr t : Nat} (ht : t < 6) (I : ITy h nr t) (i : Int32) (hi : i.toInt ≤ 100) : FJ 10 h t 95 [.int i] 259 [.int (zI t), .int i] := by
  obtain ⟨i1, i2, -, i4, -, -⟩ := I
  have qt : Int32.toNatClampNeg (zI t) = t := zI_tn (by omega)
  have it : am_in (zI t) 6 := in_zI ht (by decide)
  by_cases z0 : am_gi h 249 t = 0
  · refine ⟨-1, 10, ws95 ht i Ly ⟨fun z => absurd (i1.trans z0) z, fun _ => Cl.gi (g89 Ly ht _) (by decide) (Ly.si _ _ _) ⟨rfl, rfl⟩⟩, fun h' L' e => ?_⟩
    exact ws259 _ _ L' ⟨it, fun z => absurd (by rw [qt, (e 249 t (by decide) (by decide)).1]; exact z0) z, fun _ => Cl.gi (g254 L' _) (by decide) (L'.si _ _ _) ⟨rfl, rfl⟩⟩
  by_cases z1 : am_gi h 249 t = 2
  · obtain ⟨b, n, r1, r2, r3, r4, r5, r6, r7, r8, r9, r10⟩ := i4 z1
    by_cases z2 : i < 0
    · refine ⟨-1, 12, ws95 ht i Ly ⟨fun _ => ⟨fun _ => ⟨fun _ => Cl.gi (g89 Ly ht _) (by decide) (Ly.si _ _ _) ⟨rfl, rfl⟩, fun z => absurd z2 z⟩, fun z => absurd (i1.trans z1) z⟩, fun z => absurd (by rw [i1]; exact z0) z⟩, fun h' L' e => ?_⟩
      exact ws259 _ _ L' ⟨it, fun _ => ⟨it, fun _ => ⟨fun _ => Cl.gi (g254 L' _) (by decide) (L'.si _ _ _) ⟨rfl, rfl⟩, fun z => absurd z2 z⟩, fun z => absurd (by rw [qt, (e 249 t (by decide) (by decide)).1]; exact z1) z⟩, fun z => absurd (by rw [qt, (e 249 t (by decide) (by decide)).1]; exact z0) z⟩
    have ⟨j, hj, ej⟩ : ∃ j : Nat, j ≤ 100 ∧ i = zI j := by
      have y : 0 ≤ i.toInt := by rw [i_lt] at z2; have : ¬ i.toInt < 0 := z2; omega
      exact ⟨i.toInt.toNat, by omega, zI_of y⟩
    subst ej
    have q1 : (1 : Int32) + zI j = zI (1 + j) := zI_add 1 j
    have q2 : zI j + zI j = zI (j + j) := zI_add j j
    have q3 : (2 : Int32) * zI j = zI (2 * j) := zI_mul 2 j
    have sc : am_gi h (196 + 3 * t) 6 < (1 : Int32) + zI j ↔ n < 1 + j := by rw [r7, q1, zI_lt (by omega) (by omega)]
    have nc : zI j + zI j ≤ (9 : Int32) ↔ j + j ≤ 9 := by rw [q2]; exact zI_le (n := 9) (by omega) (by decide)
    have nm : (2 : Int32) * zI j ≤ (9 : Int32) ↔ 2 * j ≤ 9 := by rw [q3]; exact zI_le (n := 9) (by omega) (by decide)
    by_cases z3 : j < n ∧ j ≤ 4
    · refine ⟨fold (fun a k => a + am_gi h b (k + 1)) 0 0 j, 0, ws95 ht _ Ly ⟨fun _ => ⟨fun _ => ⟨fun z => absurd z z2, fun _ => ⟨fun z => absurd (sc.mp z) (by omega), fun _ => ⟨fun _ => Ev.mono (e95 Ly ht r2 r6 r9 z3.1 r1 j 0 0 (by omega)) (by decide) (fun _ _ q => q), fun z => absurd (nc.mpr (by omega)) z⟩⟩⟩, fun z => absurd (i1.trans z1) z⟩, fun z => absurd (by rw [i1]; exact z0) z⟩, fun h' L' e => ?_⟩
      exact ws259 _ _ L' ⟨it, fun _ => ⟨it, fun _ => ⟨fun z => absurd z z2, fun _ => ⟨it, fun z => absurd (by rw [qt, (e 251 t (by decide) (by decide)).1, r8, ← r7] at z; exact sc.mp z) (by omega), fun _ => ⟨fun _ => Ev.mono (e259 L' (f := am_gi h b) ht (by omega) (fun k hk => by rw [(e 252 _ (by decide) (by decide)).2, ← r10 (k + 1) (by omega), t64]) j 0 0 (by omega)) (by decide) (fun _ _ q => q), fun z => absurd (nm.mpr (by omega)) z⟩⟩⟩, fun z => absurd (by rw [qt, (e 249 t (by decide) (by decide)).1]; exact z1) z⟩, fun z => absurd (by rw [qt, (e 249 t (by decide) (by decide)).1]; exact z0) z⟩
    · refine ⟨-1, 12, ws95 ht _ Ly ⟨fun _ => ⟨fun _ => ⟨fun z => absurd z z2, fun _ => ⟨fun _ => Cl.gi (g89 Ly ht _) (by decide) (Ly.si _ _ _) ⟨rfl, rfl⟩, fun y => ⟨fun z => absurd (nc.mp z) (fun w => z3 ⟨by have : ¬ n < 1 + j := fun v => y (sc.mpr v); omega, by omega⟩), fun _ => Cl.gi (g89 Ly ht _) (by decide) (Ly.si _ _ _) ⟨rfl, rfl⟩⟩⟩⟩, fun z => absurd (i1.trans z1) z⟩, fun z => absurd (by rw [i1]; exact z0) z⟩, fun h' L' e => ?_⟩
      exact ws259 _ _ L' ⟨it, fun _ => ⟨it, fun _ => ⟨fun z => absurd z z2, fun _ => ⟨it, fun _ => Cl.gi (g254 L' _) (by decide) (L'.si _ _ _) ⟨rfl, rfl⟩, fun y => ⟨fun z => absurd (nm.mp z) (fun w => z3 ⟨by rw [qt, (e 251 t (by decide) (by decide)).1, r8, ← r7] at y; have : ¬ n < 1 + j := fun v => y (sc.mpr v); omega, by omega⟩), fun _ => Cl.gi (g254 L' _) (by decide) (L'.si _ _ _) ⟨rfl, rfl⟩⟩⟩⟩, fun z => absurd (by rw [qt, (e 249 t (by decide) (by decide)).1]; exact z1) z⟩, fun z => absurd (by rw [qt, (e 249 t (by decide) (by decide)).1]; exact z0) z⟩
  · refine ⟨-1, 11, ws95 ht _ Ly ⟨fun _ => ⟨fun z => absurd (i1.symm.trans z) z1, fun _ => Cl.gi (g89 Ly ht _) (by decide) (Ly.si _ _ _) ⟨rfl, rfl⟩⟩, fun z => absurd (by rw [i1]; exact z0) z⟩, fun h' L' e => ?_⟩
    exact ws259 _ _ L' ⟨it, fun _ => ⟨it, fun z => absurd (by rw [qt, (e 249 t (by decide) (by decide)).1] at z; exact z) z1, fun _ => Cl.gi (g254 L' _) (by decide) (L'.si _ _ _) ⟨rfl, rfl⟩⟩, fun z => absurd (by rw [qt, (e 249 t (by decide) (by decide)).1]; exact z0) z⟩
/-- the rest of a division by 5, as the reference writes it -/
def fm (i : Int32) : Int32 := ((i - i / (5 : Int32) * (5 : Int32)) + (5 : Int32)) - ((i - i / (5 : Int32) * (5 : Int32)) + (5 : Int32)) / (5 : Int32) * (5 : Int32)
theorem fm_ok : ∀ n, n < 201 → ((0 : Int32) ≤ ((zI n - 100) ^^^ 5) → (zI n - 100) - (zI n - 100) / (5 : Int32) * (5 : Int32) = fm (zI n - 100)) ∧ (¬ (0 : Int32) ≤ ((zI n - 100) ^^^ 5) → ((zI n - 100) - (zI n - 100) / (5 : Int32) * (5 : Int32) = 0 → (zI n - 100) - (zI n - 100) / (5 : Int32) * (5 : Int32) = fm (zI n - 100)) ∧ (¬ (zI n - 100) - (zI n - 100) / (5 : Int32) * (5 : Int32) = 0 → (zI n - 100) - (zI n - 100) / (5 : Int32) * (5 : Int32) + 5 = fm (zI n - 100))) := by decide +kernel
theorem p263 {h : AH} {i : Int32} (h1 : ¬ i < -100) (h2 : i ≤ 100) : PF 0 263 [.int i, .int 5] h (.int (fm i)) := by
  have ⟨n, hn, e⟩ : ∃ n : Nat, n < 201 ∧ i = zI n - 100 := by
    rw [i_lt, show (-100 : Int32).toInt = -100 from rfl] at h1
    rw [i_le, show (100 : Int32).toInt = 100 from rfl] at h2
    refine ⟨(i.toInt + 100).toNat, by omega, ?_⟩
    have e0 : (zI (i.toInt + 100).toNat).toInt = i.toInt + 100 := by rw [zI_toInt (by omega)]; omega
    have e1 : (100 : Int32).toInt = 100 := rfl
    rw [i_eq, i_sub (by rw [e0, e1]; omega) (by rw [e0, e1]; omega), e0, e1]; omega
  obtain ⟨a, b⟩ := fm_ok n hn
  rw [← e] at a b
  exact wp263 _ _ ⟨by decide, fun z => ⟨by rw [a z], rfl⟩, fun z => ⟨fun y => ⟨by rw [(b z).1 y], rfl⟩, fun y => ⟨by rw [(b z).2 y], rfl⟩⟩⟩
theorem f88 {h : AH} (Ly : Lay h) {nr t : Nat} (hnr : nr ≤ 60) (ht : t < 6) (I : ITy h nr t) (a i : Int32) (h1 : ¬ i < -100) (h2 : i ≤ 100) : FJ 20 h t 88 [.int a, .int i] 260 [.int (zI t), .int a, .int i] := by
  have hi : i.toInt ≤ 100 := i_le.mp h2
  have ti : inR (zI t) 0 5 := ⟨zI_nonneg (by omega), fun z => by have := (zI_lt (m := 5) (n := t) (by decide) (by omega)).mp z; omega⟩
  by_cases ha : inR a 0 8
  · have ⟨n, hn, e⟩ : ∃ n, n < 9 ∧ a = zI n := i_pl ha.1 (by have := ha.2; rw [i_lt] at this ⊢; have e8 : (8 : Int32).toInt = 8 := rfl; rw [e8] at this; show a.toInt < 9; omega) (by decide)
    rcases (by omega : n = 0 ∨ n = 1 ∨ n = 2 ∨ n = 3 ∨ n = 4 ∨ n = 5 ∨ n = 6 ∨ n = 7 ∨ n = 8) with rfl | rfl | rfl | rfl | rfl | rfl | rfl | rfl | rfl <;> subst e
    · obtain ⟨x, s, K, R⟩ := f91 Ly hnr ht I (fm i)
      refine ⟨x, s, ws88 ht _ _ Ly ⟨fun _ => Cl.i (p263 h1 h2) (by decide) Ly (Cl.gi K (by decide) (Ly.si _ _ _) ⟨rfl, rfl⟩), fun z => absurd z (by decide), fun z => absurd z (by decide), fun z => absurd z (by decide), fun z => absurd z (by decide), fun z => absurd z (by decide), fun z => absurd z (by decide), fun z => absurd z (by decide), fun z => absurd z (by decide), fun z => absurd z (by decide)⟩, fun h' L' e => ?_⟩
      exact ws260 _ _ _ L' (Cl.i (p167 L' _ _ _) (by decide) L' ⟨fun z => absurd z (bI_n0.mpr ti), fun _ => Cl.i (p167 L' _ _ _) (by decide) L' ⟨fun z => absurd z (bI_n0.mpr (by decide)), fun _ => Cl.i (p167 L' _ _ _) (by decide) L' ⟨fun _ => ⟨fun _ => ⟨by decide, by decide, Cl.gi (R h' L' e) (by decide) (L'.si _ _ _) ⟨rfl, rfl⟩⟩, fun z => absurd z (by decide), fun z => absurd z (by decide), fun z => absurd z (by decide), fun z => absurd z (by decide), fun z => absurd z (by decide), fun z => absurd z (by decide), fun z => absurd z (by decide), fun z => absurd z (by decide)⟩, fun z => absurd (bI_n0.mpr ⟨h1, i_ge.mpr h2⟩) z⟩⟩⟩)
    · obtain ⟨x, s, K, R⟩ := f94 Ly ht I 2 i (by decide)
      refine ⟨x, s, ws88 ht _ _ Ly ⟨fun z => absurd z (by decide), fun _ => Cl.gi K (by decide) (Ly.si _ _ _) ⟨rfl, rfl⟩, fun z => absurd z (by decide), fun z => absurd z (by decide), fun z => absurd z (by decide), fun z => absurd z (by decide), fun z => absurd z (by decide), fun z => absurd z (by decide), fun z => absurd z (by decide), fun z => absurd z (by decide)⟩, fun h' L' e => ?_⟩
      exact ws260 _ _ _ L' (Cl.i (p167 L' _ _ _) (by decide) L' ⟨fun z => absurd z (bI_n0.mpr ti), fun _ => Cl.i (p167 L' _ _ _) (by decide) L' ⟨fun z => absurd z (bI_n0.mpr (by decide)), fun _ => Cl.i (p167 L' _ _ _) (by decide) L' ⟨fun _ => ⟨fun z => absurd z (by decide), fun _ => Cl.gi (R h' L' e) (by decide) (L'.si _ _ _) ⟨rfl, rfl⟩, fun z => absurd z (by decide), fun z => absurd z (by decide), fun z => absurd z (by decide), fun z => absurd z (by decide), fun z => absurd z (by decide), fun z => absurd z (by decide), fun z => absurd z (by decide)⟩, fun z => absurd (bI_n0.mpr ⟨h1, i_ge.mpr h2⟩) z⟩⟩⟩)
    · obtain ⟨x, s, K, R⟩ := f94 Ly ht I 3 i (by decide)
      refine ⟨x, s, ws88 ht _ _ Ly ⟨fun z => absurd z (by decide), fun z => absurd z (by decide), fun _ => Cl.gi K (by decide) (Ly.si _ _ _) ⟨rfl, rfl⟩, fun z => absurd z (by decide), fun z => absurd z (by decide), fun z => absurd z (by decide), fun z => absurd z (by decide), fun z => absurd z (by decide), fun z => absurd z (by decide), fun z => absurd z (by decide)⟩, fun h' L' e => ?_⟩
      exact ws260 _ _ _ L' (Cl.i (p167 L' _ _ _) (by decide) L' ⟨fun z => absurd z (bI_n0.mpr ti), fun _ => Cl.i (p167 L' _ _ _) (by decide) L' ⟨fun z => absurd z (bI_n0.mpr (by decide)), fun _ => Cl.i (p167 L' _ _ _) (by decide) L' ⟨fun _ => ⟨fun z => absurd z (by decide), fun z => absurd z (by decide), fun _ => Cl.gi (R h' L' e) (by decide) (L'.si _ _ _) ⟨rfl, rfl⟩, fun z => absurd z (by decide), fun z => absurd z (by decide), fun z => absurd z (by decide), fun z => absurd z (by decide), fun z => absurd z (by decide), fun z => absurd z (by decide)⟩, fun z => absurd (bI_n0.mpr ⟨h1, i_ge.mpr h2⟩) z⟩⟩⟩)
    · obtain ⟨x, s, K, R⟩ := f94 Ly ht I 4 i (by decide)
      refine ⟨x, s, ws88 ht _ _ Ly ⟨fun z => absurd z (by decide), fun z => absurd z (by decide), fun z => absurd z (by decide), fun _ => Cl.gi K (by decide) (Ly.si _ _ _) ⟨rfl, rfl⟩, fun z => absurd z (by decide), fun z => absurd z (by decide), fun z => absurd z (by decide), fun z => absurd z (by decide), fun z => absurd z (by decide), fun z => absurd z (by decide)⟩, fun h' L' e => ?_⟩
      exact ws260 _ _ _ L' (Cl.i (p167 L' _ _ _) (by decide) L' ⟨fun z => absurd z (bI_n0.mpr ti), fun _ => Cl.i (p167 L' _ _ _) (by decide) L' ⟨fun z => absurd z (bI_n0.mpr (by decide)), fun _ => Cl.i (p167 L' _ _ _) (by decide) L' ⟨fun _ => ⟨fun z => absurd z (by decide), fun z => absurd z (by decide), fun z => absurd z (by decide), fun _ => Cl.gi (R h' L' e) (by decide) (L'.si _ _ _) ⟨rfl, rfl⟩, fun z => absurd z (by decide), fun z => absurd z (by decide), fun z => absurd z (by decide), fun z => absurd z (by decide), fun z => absurd z (by decide)⟩, fun z => absurd (bI_n0.mpr ⟨h1, i_ge.mpr h2⟩) z⟩⟩⟩)
    · by_cases z4 : (0 : Int32) ≤ i
      · refine ⟨i, 0, ws88 ht _ _ Ly ⟨fun z => absurd z (by decide), fun z => absurd z (by decide), fun z => absurd z (by decide), fun z => absurd z (by decide), fun _ => ⟨fun _ => Cl.gi (g90 Ly ht _) (by decide) (Ly.si _ _ _) ⟨rfl, rfl⟩, fun z => absurd z4 z⟩, fun z => absurd z (by decide), fun z => absurd z (by decide), fun z => absurd z (by decide), fun z => absurd z (by decide), fun z => absurd z (by decide)⟩, fun h' L' e => ?_⟩
        exact ws260 _ _ _ L' (Cl.i (p167 L' _ _ _) (by decide) L' ⟨fun z => absurd z (bI_n0.mpr ti), fun _ => Cl.i (p167 L' _ _ _) (by decide) L' ⟨fun z => absurd z (bI_n0.mpr (by decide)), fun _ => Cl.i (p167 L' _ _ _) (by decide) L' ⟨fun _ => ⟨fun z => absurd z (by decide), fun z => absurd z (by decide), fun z => absurd z (by decide), fun z => absurd z (by decide), fun _ => ⟨fun _ => Cl.gi (g253 L' _) (by decide) (L'.si _ _ _) ⟨rfl, rfl⟩, fun z => absurd z4 z⟩, fun z => absurd z (by decide), fun z => absurd z (by decide), fun z => absurd z (by decide), fun z => absurd z (by decide)⟩, fun z => absurd (bI_n0.mpr ⟨h1, i_ge.mpr h2⟩) z⟩⟩⟩)
      · refine ⟨-1, 13, ws88 ht _ _ Ly ⟨fun z => absurd z (by decide), fun z => absurd z (by decide), fun z => absurd z (by decide), fun z => absurd z (by decide), fun _ => ⟨fun z => absurd z z4, fun _ => Cl.gi (g89 Ly ht _) (by decide) (Ly.si _ _ _) ⟨rfl, rfl⟩⟩, fun z => absurd z (by decide), fun z => absurd z (by decide), fun z => absurd z (by decide), fun z => absurd z (by decide), fun z => absurd z (by decide)⟩, fun h' L' e => ?_⟩
        exact ws260 _ _ _ L' (Cl.i (p167 L' _ _ _) (by decide) L' ⟨fun z => absurd z (bI_n0.mpr ti), fun _ => Cl.i (p167 L' _ _ _) (by decide) L' ⟨fun z => absurd z (bI_n0.mpr (by decide)), fun _ => Cl.i (p167 L' _ _ _) (by decide) L' ⟨fun _ => ⟨fun z => absurd z (by decide), fun z => absurd z (by decide), fun z => absurd z (by decide), fun z => absurd z (by decide), fun _ => ⟨fun z => absurd z z4, fun _ => Cl.gi (g254 L' _) (by decide) (L'.si _ _ _) ⟨rfl, rfl⟩⟩, fun z => absurd z (by decide), fun z => absurd z (by decide), fun z => absurd z (by decide), fun z => absurd z (by decide)⟩, fun z => absurd (bI_n0.mpr ⟨h1, i_ge.mpr h2⟩) z⟩⟩⟩)
    · obtain ⟨x, s, K, R⟩ := f95 Ly ht I i hi
      refine ⟨x, s, ws88 ht _ _ Ly ⟨fun z => absurd z (by decide), fun z => absurd z (by decide), fun z => absurd z (by decide), fun z => absurd z (by decide), fun z => absurd z (by decide), fun _ => Cl.gi K (by decide) (Ly.si _ _ _) ⟨rfl, rfl⟩, fun z => absurd z (by decide), fun z => absurd z (by decide), fun z => absurd z (by decide), fun z => absurd z (by decide)⟩, fun h' L' e => ?_⟩
      exact ws260 _ _ _ L' (Cl.i (p167 L' _ _ _) (by decide) L' ⟨fun z => absurd z (bI_n0.mpr ti), fun _ => Cl.i (p167 L' _ _ _) (by decide) L' ⟨fun z => absurd z (bI_n0.mpr (by decide)), fun _ => Cl.i (p167 L' _ _ _) (by decide) L' ⟨fun _ => ⟨fun z => absurd z (by decide), fun z => absurd z (by decide), fun z => absurd z (by decide), fun z => absurd z (by decide), fun z => absurd z (by decide), fun _ => Cl.gi (R h' L' e) (by decide) (L'.si _ _ _) ⟨rfl, rfl⟩, fun z => absurd z (by decide), fun z => absurd z (by decide), fun z => absurd z (by decide)⟩, fun z => absurd (bI_n0.mpr ⟨h1, i_ge.mpr h2⟩) z⟩⟩⟩)
    · obtain ⟨x, s, K, R⟩ := f92 Ly hnr ht I
      refine ⟨x, s, ws88 ht _ _ Ly ⟨fun z => absurd z (by decide), fun z => absurd z (by decide), fun z => absurd z (by decide), fun z => absurd z (by decide), fun z => absurd z (by decide), fun z => absurd z (by decide), fun _ => Cl.gi K (by decide) (Ly.si _ _ _) ⟨rfl, rfl⟩, fun z => absurd z (by decide), fun z => absurd z (by decide), fun z => absurd z (by decide)⟩, fun h' L' e => ?_⟩
      exact ws260 _ _ _ L' (Cl.i (p167 L' _ _ _) (by decide) L' ⟨fun z => absurd z (bI_n0.mpr ti), fun _ => Cl.i (p167 L' _ _ _) (by decide) L' ⟨fun z => absurd z (bI_n0.mpr (by decide)), fun _ => Cl.i (p167 L' _ _ _) (by decide) L' ⟨fun _ => ⟨fun z => absurd z (by decide), fun z => absurd z (by decide), fun z => absurd z (by decide), fun z => absurd z (by decide), fun z => absurd z (by decide), fun z => absurd z (by decide), fun _ => Cl.gi (R h' L' e) (by decide) (L'.si _ _ _) ⟨rfl, rfl⟩, fun z => absurd z (by decide), fun z => absurd z (by decide)⟩, fun z => absurd (bI_n0.mpr ⟨h1, i_ge.mpr h2⟩) z⟩⟩⟩)
    · by_cases z4 : i = 0
      · refine ⟨-1, 15, ws88 ht _ _ Ly ⟨fun z => absurd z (by decide), fun z => absurd z (by decide), fun z => absurd z (by decide), fun z => absurd z (by decide), fun z => absurd z (by decide), fun z => absurd z (by decide), fun z => absurd z (by decide), fun _ => ⟨fun z => absurd z4 z, fun _ => Cl.gi (g89 Ly ht _) (by decide) (Ly.si _ _ _) ⟨rfl, rfl⟩⟩, fun z => absurd z (by decide), fun z => absurd z (by decide)⟩, fun h' L' e => ?_⟩
        exact ws260 _ _ _ L' (Cl.i (p167 L' _ _ _) (by decide) L' ⟨fun z => absurd z (bI_n0.mpr ti), fun _ => Cl.i (p167 L' _ _ _) (by decide) L' ⟨fun z => absurd z (bI_n0.mpr (by decide)), fun _ => Cl.i (p167 L' _ _ _) (by decide) L' ⟨fun _ => ⟨fun z => absurd z (by decide), fun z => absurd z (by decide), fun z => absurd z (by decide), fun z => absurd z (by decide), fun z => absurd z (by decide), fun z => absurd z (by decide), fun z => absurd z (by decide), fun _ => ⟨fun z => absurd z4 z, fun _ => Cl.gi (g254 L' _) (by decide) (L'.si _ _ _) ⟨rfl, rfl⟩⟩, fun z => absurd z (by decide)⟩, fun z => absurd (bI_n0.mpr ⟨h1, i_ge.mpr h2⟩) z⟩⟩⟩)
      · refine ⟨(1000 : Int32) / i, 0, ws88 ht _ _ Ly ⟨fun z => absurd z (by decide), fun z => absurd z (by decide), fun z => absurd z (by decide), fun z => absurd z (by decide), fun z => absurd z (by decide), fun z => absurd z (by decide), fun z => absurd z (by decide), fun _ => ⟨fun _ => ⟨z4, Cl.gi (g90 Ly ht _) (by decide) (Ly.si _ _ _) ⟨rfl, rfl⟩⟩, fun z => absurd z4 z⟩, fun z => absurd z (by decide), fun z => absurd z (by decide)⟩, fun h' L' e => ?_⟩
        exact ws260 _ _ _ L' (Cl.i (p167 L' _ _ _) (by decide) L' ⟨fun z => absurd z (bI_n0.mpr ti), fun _ => Cl.i (p167 L' _ _ _) (by decide) L' ⟨fun z => absurd z (bI_n0.mpr (by decide)), fun _ => Cl.i (p167 L' _ _ _) (by decide) L' ⟨fun _ => ⟨fun z => absurd z (by decide), fun z => absurd z (by decide), fun z => absurd z (by decide), fun z => absurd z (by decide), fun z => absurd z (by decide), fun z => absurd z (by decide), fun z => absurd z (by decide), fun _ => ⟨fun _ => ⟨z4, Cl.gi (g253 L' _) (by decide) (L'.si _ _ _) ⟨rfl, rfl⟩⟩, fun z => absurd z4 z⟩, fun z => absurd z (by decide)⟩, fun z => absurd (bI_n0.mpr ⟨h1, i_ge.mpr h2⟩) z⟩⟩⟩)
    · refine ⟨-1, 10, ws88 ht _ _ Ly ⟨fun z => absurd z (by decide), fun z => absurd z (by decide), fun z => absurd z (by decide), fun z => absurd z (by decide), fun z => absurd z (by decide), fun z => absurd z (by decide), fun z => absurd z (by decide), fun z => absurd z (by decide), fun _ => Cl.gi (g89 Ly ht _) (by decide) (Ly.si _ _ _) ⟨rfl, rfl⟩, fun z => absurd z (by decide)⟩, fun h' L' e => ?_⟩
      exact ws260 _ _ _ L' (Cl.i (p167 L' _ _ _) (by decide) L' ⟨fun z => absurd z (bI_n0.mpr ti), fun _ => Cl.i (p167 L' _ _ _) (by decide) L' ⟨fun z => absurd z (bI_n0.mpr (by decide)), fun _ => Cl.i (p167 L' _ _ _) (by decide) L' ⟨fun _ => ⟨fun z => absurd z (by decide), fun z => absurd z (by decide), fun z => absurd z (by decide), fun z => absurd z (by decide), fun z => absurd z (by decide), fun z => absurd z (by decide), fun z => absurd z (by decide), fun z => absurd z (by decide), fun _ => Cl.gi (g254 L' _) (by decide) (L'.si _ _ _) ⟨rfl, rfl⟩⟩, fun z => absurd (bI_n0.mpr ⟨h1, i_ge.mpr h2⟩) z⟩⟩⟩)
  · have nz : ∀ n : Nat, n < 9 → ¬ a = zI n := fun n hn z => ha (by
      rw [z]; exact ⟨zI_nonneg (by omega), fun y => by have := (zI_lt (m := 8) (n := n) (by decide) (by omega)).mp y; omega⟩)
    refine ⟨-1, 1, ws88 ht _ _ Ly ⟨fun z => absurd z (nz 0 (by decide)), fun z => absurd z (nz 1 (by decide)), fun z => absurd z (nz 2 (by decide)), fun z => absurd z (nz 3 (by decide)), fun z => absurd z (nz 4 (by decide)), fun z => absurd z (nz 5 (by decide)), fun z => absurd z (nz 6 (by decide)), fun z => absurd z (nz 7 (by decide)), fun z => absurd z (nz 8 (by decide)), fun _ => Cl.gi (g89 Ly ht _) (by decide) (Ly.si _ _ _) ⟨rfl, rfl⟩⟩, fun h' L' e => ?_⟩
    exact ws260 _ _ _ L' (Cl.i (p167 L' _ _ _) (by decide) L' ⟨fun z => absurd z (bI_n0.mpr ti), fun _ => Cl.i (p167 L' _ _ _) (by decide) L' ⟨fun _ => Cl.gi (g254 L' _) (by decide) (L'.si _ _ _) ⟨rfl, rfl⟩, fun z => absurd (bI_n0.mp z) ha⟩⟩)
theorem ITy.s7 {h : AH} {nr t u : Nat} {s : Int32} (ht : t < 6) (hu : u < 6) (I : ITy h nr t) : ITy (am_si h (196 + 3 * u) 7 s) nr t := by
  have G : ∀ a k, (a < 196 ∨ 214 ≤ a ∨ k ≠ 7) → am_gi (am_si h (196 + 3 * u) 7 s) a k = am_gi h a k := fun a k z => gi_ne (by omega)
  unfold ITy
  rw [G 249 t (by omega), G (196 + 3 * t) 0 (by omega), G (196 + 3 * t) 1 (by omega), G (196 + 3 * t) 2 (by omega), G (196 + 3 * t) 5 (by omega), G (196 + 3 * t) 6 (by omega), G 250 t (by omega), G 251 t (by omega)]
  refine ⟨I.1, I.2.1, fun z => ?_, fun z => ?_, I.2.2.2.2.1, I.2.2.2.2.2⟩
  · obtain ⟨r, r1, r2, r3, r4⟩ := I.2.2.1 z
    exact ⟨r, r1, r2, by rw [G 228 r (by omega)]; exact r3, by rw [G 229 r (by omega)]; exact r4⟩
  · obtain ⟨b, n, r1, r2, r3, r4, r5, r6, r7, r8, r9, r10⟩ := I.2.2.2.1 z
    exact ⟨b, n, r1, r2, r3, r4, r5, r6, r7, r8, r9, fun i hi => by rw [G b i (by omega)]; exact r10 i hi⟩
theorem op_forge {L : Nat} {xs : Nat → Int32} {c : Nat} {h : AH} {nh nm nr na nt nc : Nat} (I : InvN L xs c h nh nm nr na nt nc) (x a i : Int32) : OPi 136 260 [.int x, .int a, .int i] L xs c h := by
  have Ly := I.lay
  by_cases hx : inN x 6 ∧ ¬ i < -100 ∧ i ≤ 100
  · obtain ⟨x0, h1, h2⟩ := hx
    have ⟨t, ht, e⟩ : ∃ t, t < 6 ∧ x = zI t := ⟨x.toInt.toNat, by omega, zI_of x0.1⟩
    subst e
    have qt : Int32.toNatClampNeg (zI t) = t := zI_tn (by omega)
    have it : am_in (zI t) 6 := in_zI ht (by decide)
    obtain ⟨v, s, K, R⟩ := f88 Ly I.iri.1 ht (I.itr t ht) a i h1 h2
    have E0 : OC [10, 11] h (am_si h (196 + 3 * t) 7 s) := (OC.rf [10, 11] h).si (by omega) (tpm (tp_tray ht) (by decide))
    have E1 : OC [10, 11] h (am_si (am_si h (196 + 3 * t) 7 s) 6 18 s) := E0.si (by omega) (by decide)
    refine OPi.gf (d := 40) (d' := 20) (x := v) (ts := [10, 11]) (h2 := am_si (am_si (am_si h (196 + 3 * t) 7 s) 6 18 s) 216 47 s) Ly I.ico ?_ E1.ex (R _ (E1.lay Ly) (fun a k g1 g2 => E1.2 a k (Or.inl ⟨g1, g2⟩))) ?_
    · refine ws136 _ _ _ Ly (Cl.i (p141 Ly _) (by decide) Ly ⟨fun z => absurd z (bI_n0.mpr x0), fun _ => ⟨fun z => absurd z h1, fun _ => ⟨fun _ => ?_, fun z => absurd h2 z⟩⟩⟩)
      rw [qt]
      refine ⟨it, Cl.gi K (by decide) (Ly.si _ _ _) ⟨it, fun g e => ⟨rfl, ?_⟩⟩⟩
      rw [e, gi_eq]
    · have E2 : OM [10, 11] (am_si (am_si h (196 + 3 * t) 7 s) 6 18 s) (am_si (am_si (am_si h (196 + 3 * t) 7 s) 6 18 s) 216 47 s) := (OM.rf _ _).si (by omega) (by decide)
      have E3 : Ex [10] (am_si h (196 + 3 * t) 7 s) (am_si (am_si (am_si h (196 + 3 * t) 7 s) 6 18 s) 216 47 s) := (((OC.rf [10] (am_si h (196 + 3 * t) 7 s)).si (a := 6) (k := 18) (v := s) (by omega) (by decide)).ex).tr (((OM.rf [10] _).si (a := 216) (k := 47) (v := s) (by omega) (by decide)).ex)
      have T : ITr (am_si h (196 + 3 * t) 7 s) nr := fun u hu => (I.itr u hu).s7 hu ht
      exact ⟨nh, nm, nr, na, nt, nc, I.up (E1.ex.tr E2.ex) (g10 := Or.inr (by show am_gi _ 6 18 = am_gi _ 216 47; rw [gi_eq, gi_ne (by omega), gi_eq])) (g11 := Or.inr (T.of E3.1 (E3.ag (by decide)) (E3.ag (by decide)) (E3.ag (by decide))))⟩
  · have E1 : OC [10] h (am_si h 6 18 1) := (OC.rf [10] h).si (by omega) (by decide)
    have Ly1 := E1.lay Ly
    have E2 : OM [10] (am_si h 6 18 1) (am_si (am_si h 6 18 1) 216 47 1) := (OM.rf _ _).si (by omega) (by decide)
    refine OPi.gf (d := 40) (d' := 20) (x := -1) (ts := [10]) (h2 := am_si (am_si h 6 18 1) 216 47 1) Ly I.ico ?_ E1.ex ?_ ?_
    · exact ws136 _ _ _ Ly (Cl.i (p141 Ly _) (by decide) Ly ⟨fun _ _ e => ⟨rfl, e⟩, fun y1 => ⟨fun _ _ e => ⟨rfl, e⟩, fun y2 => ⟨fun y3 => absurd ⟨bI_n0.mp y1, y2, y3⟩ hx, fun _ _ e => ⟨rfl, e⟩⟩⟩⟩)
    · refine ws260 _ _ _ Ly1 (Cl.i (p167 Ly1 _ _ _) (by decide) Ly1 ⟨fun _ => Cl.gi (g254 Ly1 _) (by decide) (Ly1.si _ _ _) ⟨rfl, rfl⟩, fun y1 => Cl.i (p167 Ly1 _ _ _) (by decide) Ly1 ⟨fun _ => Cl.gi (g254 Ly1 _) (by decide) (Ly1.si _ _ _) ⟨rfl, rfl⟩, fun _ => Cl.i (p167 Ly1 _ _ _) (by decide) Ly1 ⟨fun y3 => absurd ?_ hx, fun _ => Cl.gi (g254 Ly1 _) (by decide) (Ly1.si _ _ _) ⟨rfl, rfl⟩⟩⟩⟩)
      have w1 := bI_n0.mp y1
      have w3 := bI_n0.mp y3
      refine ⟨⟨?_, ?_⟩, w3.1, i_ge.mp w3.2⟩
      · have := w1.1; rw [i_lt] at this; have e0 : (0 : Int32).toInt = 0 := rfl; omega
      · have := w1.2; rw [i_lt] at this; have e0 : (5 : Int32).toInt = 5 := rfl; omega
    · exact ⟨nh, nm, nr, na, nt, nc, I.up (E1.ex.tr E2.ex) (g10 := Or.inr (by show am_gi _ 6 18 = am_gi _ 216 47; rw [gi_eq, gi_ne (by omega), gi_eq]))⟩
