/-! TEXTS: votes, the text in force -/
theorem and_b0 {x : Int32} {m : Nat} (hm : m < 32) : (x &&& ((1 : Int32) <<< (zI m &&& 31))) = 0 ↔ tb x m = false := by
  refine ⟨fun z => ?_, fun z => tb_ext (fun j hj => ?_)⟩
  · have e := congrArg (fun y => tb y m) z
    simp only [tb_and, tb_sh m hm m hm, tb_zero, decide_true, Bool.and_true] at e
    exact e
  · rw [tb_and, tb_sh m hm j hj, tb_zero]
    by_cases q : j = m
    · rw [q, z]; rfl
    · rw [decide_eq_false_iff_not.mpr q, Bool.and_false]
theorem or_0 (x : Int32) : x ||| 0 = x := tb_ext (fun j hj => by rw [tb_or, tb_zero, Bool.or_false])
/-- cells of texts that a vote, a day, a tear write: the class's own numbers, the reference's rows -/
def TxW (h h' : AH) : Prop := Ex [6] h h' ∧ (∀ b i, (b = 214 ∨ b = 215 ∨ 263 ≤ b) → am_gi h' b i = am_gi h b i) ∧ (∀ t k, t < 12 → am_gi h' (151 + 4 * t) k = am_gi h (151 + 4 * t) k) ∧ (∀ a i, 235 ≤ a → a < 240 → am_gi h' a i = am_gi h a i) ∧ am_gi h' 6 9 = am_gi h 6 9 ∧ am_gi h' 216 23 = am_gi h 216 23
theorem TxW.rf (h : AH) : TxW h h := ⟨Ex.rf _ _, fun _ _ _ => rfl, fun _ _ _ => rfl, fun _ _ _ _ => rfl, rfl, rfl⟩
theorem TxW.c {h h1 : AH} (A : TxW h h1) {t k : Nat} {v : Int32} (ht : t < 12) : TxW h (am_si h1 (148 + 4 * t) k v) := by
  obtain ⟨a, b, c, d, e, f⟩ := A
  refine ⟨a.tr (((OC.rf [6] h1).si (a := 148 + 4 * t) (k := k) (by omega) (tpm (tp_text ht) (by decide))).ex), fun b' i hb => by rw [gi_ne (by omega)]; exact b b' i hb, fun t' k' ht' => by rw [gi_ne (by omega)]; exact c t' k' ht', fun a' i h1 h2 => by rw [gi_ne (by omega)]; exact d a' i h1 h2, by rw [gi_ne (by omega)]; exact e, by rw [gi_ne (by omega)]; exact f⟩
theorem TxW.m {h h1 : AH} (A : TxW h h1) {a k : Nat} {v : Int32} (h1' : 240 ≤ a) (h2' : a < 247) : TxW h (am_si h1 a k v) := by
  obtain ⟨a', b, c, d, e, f⟩ := A
  have t6 : tp a k = 6 := by rcases (show a = 240 ∨ a = 241 ∨ a = 242 ∨ a = 243 ∨ a = 244 ∨ a = 245 ∨ a = 246 by omega) with rfl | rfl | rfl | rfl | rfl | rfl | rfl <;> rfl
  refine ⟨a'.tr (((OM.rf [6] h1).si (a := a) (k := k) (by omega) (tpm t6 (by decide))).ex), fun b' i hb => by rw [gi_ne (by omega)]; exact b b' i hb, fun t' k' ht' => by rw [gi_ne (by omega)]; exact c t' k' ht', fun a' i h1 h2 => by rw [gi_ne (by omega)]; exact d a' i h1 h2, by rw [gi_ne (by omega)]; exact e, by rw [gi_ne (by omega)]; exact f⟩
theorem TxW.m1 {h h1 : AH} (A : TxW h h1) {v : Int32} : TxW h (am_si h1 216 36 v) := by
  obtain ⟨a', b, c, d, e, f⟩ := A
  refine ⟨a'.tr (((OM.rf [6] h1).si (by omega) (by decide)).ex), fun b' i hb => by rw [gi_ne (by omega)]; exact b b' i hb, fun t' k' ht' => by rw [gi_ne (by omega)]; exact c t' k' ht', fun a' i h1 h2 => by rw [gi_ne (by omega)]; exact d a' i h1 h2, by rw [gi_ne (by omega)]; exact e, by rw [gi_ne (by omega)]; exact f⟩
theorem TxW.c1 {h h1 : AH} (A : TxW h h1) {v : Int32} : TxW h (am_si h1 6 10 v) := by
  obtain ⟨a', b, c, d, e, f⟩ := A
  refine ⟨a'.tr (((OC.rf [6] h1).si (by omega) (by decide)).ex), fun b' i hb => by rw [gi_ne (by omega)]; exact b b' i hb, fun t' k' ht' => by rw [gi_ne (by omega)]; exact c t' k' ht', fun a' i h1 h2 => by rw [gi_ne (by omega)]; exact d a' i h1 h2, by rw [gi_ne (by omega)]; exact e, by rw [gi_ne (by omega)]; exact f⟩
theorem ITb.w {h h' : AH} {t : Nat} (I : ITb h t) (W : TxW h h') (ht : t < 12) : ITb h' t := by
  obtain ⟨b, n, a1, a2, a3, a4, a5, a6, a7, a8, a9⟩ := I
  obtain ⟨S, e1, e2, e3, e4, e5⟩ := W
  refine ⟨b, n, by rw [S.1.2.2.2.2]; exact a1, by rw [S.1.1]; exact a2, a3, a4, by rw [S.1.2.2.1]; exact a5, by rw [S.1.2.2.2.1]; exact a6, a7, by rw [e3 235 t (by decide) (by decide)]; exact a8, fun i hi => ?_⟩
  rw [e1 b i a3, e3 236 _ (by decide) (by decide)]; exact a9 i hi
theorem ITc.w {h h' : AH} {t : Nat} (I : ITc h t) (W : TxW h h') (ht : t < 12) : ITc h' t := by
  obtain ⟨b, p, a1, a2, a3, a4, a5, a6, a8, a9⟩ := I
  obtain ⟨S, e1, e2, e3, e4, e5⟩ := W
  refine ⟨b, p, by rw [S.1.2.2.2.2]; exact a1, by rw [S.1.1]; exact a2, a3, a4, by rw [S.1.2.2.1]; exact a5, by rw [S.1.2.2.2.1]; exact a6, fun k hk => ?_, ?_⟩
  · rw [e2 t k ht, e3 239 _ (by decide) (by decide)]; exact a8 k hk
  · rw [show (fun i => am_gi h' 237 (400 * t + i)) = (fun i => am_gi h 237 (400 * t + i)) from funext fun i => e3 237 _ (by decide) (by decide), show (fun i => am_gi h' 238 (400 * t + i)) = (fun i => am_gi h 238 (400 * t + i)) from funext fun i => e3 238 _ (by decide) (by decide), show am_gi h' b = am_gi h b from funext fun i => e1 b i a3]; exact a9
theorem ITr.tx {h h' : AH} {nr : Nat} (I : ITr h nr) (W : TxW h h') : ITr h' nr := fun t ht => by
  obtain ⟨a1, a2, a3, a4, a5, a6⟩ := I t ht
  obtain ⟨S, e1, e2, e3, e4, e5⟩ := W
  have A := S.ag (t := 11) (by decide)
  have B := S.ag (t := 4) (by decide)
  unfold ITy
  rw [(A 249 t rfl).1, (A _ 0 (tp_tray ht)).1, (A _ 1 (tp_tray ht)).1, (A _ 2 (tp_tray ht)).1, (A _ 5 (tp_tray ht)).1, (A _ 6 (tp_tray ht)).1, (A 250 t rfl).1, (A 251 t rfl).1, S.1.2.2.2.2]
  refine ⟨a1, a2, fun z => ?_, fun z => ?_, fun z => ?_, fun z => ?_⟩
  · obtain ⟨r, r1, r2, r3, r4⟩ := a3 z
    exact ⟨r, r1, r2, by rw [(B 228 r rfl).1]; exact r3, by rw [(B 229 r rfl).1]; exact r4⟩
  · obtain ⟨b, n, r1, r2, r3, r4, r5, r6, r7, r8, r9, r10⟩ := a4 z
    refine ⟨b, n, r1, r2, by rw [S.1.1]; exact r3, r4, r5, by rw [S.1.2.2.1]; exact r6, r7, r8, by rw [S.1.2.2.2.1]; exact r9, fun i hi => ?_⟩
    rw [e1 b i r4, (A 252 _ rfl).2]; exact r10 i hi
  · obtain ⟨n, r1, r2, r3, r4⟩ := a5 z
    refine ⟨n, r1, r2, r3, fun i hi => ?_⟩
    rw [(A _ i (tp_debts ht)).2, (A 252 _ rfl).2]; exact r4 i hi
  · obtain ⟨n, r1, r2, r3, r4⟩ := a6 z
    refine ⟨n, r1, r2, r3, fun i hi => ?_⟩
    rw [(A 252 _ rfl).2]; exact r4 i hi
/-- the numbers of texts behind a write -/
theorem ITx.w {h h' : AH} {nt c c' : Nat} (I : ITx h nt c) (W : TxW h h') (h36 : am_gi h' 6 10 + 1 = am_gi h' 216 36 ∧ 1 ≤ (am_gi h' 216 36).toInt ∧ (am_gi h' 216 36).toInt ≤ 1 + c') (T : ∀ t, t < nt → ITt h' nt t) (Z : am_gi h' 240 0 = 1 ∧ am_gi h' 244 0 = -1) (O : ∀ t k, nt ≤ t → t < 12 → am_gi h' (148 + 4 * t) k = am_gi h (148 + 4 * t) k) : ITx h' nt c' := by
  obtain ⟨a, b, e, f, g, i, j⟩ := I
  refine ⟨a, by rw [W.2.2.2.2.1]; exact b, by rw [W.2.2.2.2.2]; exact e, h36, fun t ht => ⟨T t ht, (g t ht).2.1.w W (by omega), (g t ht).2.2.w W (by omega)⟩, Z, fun t h1 ht => ?_⟩
  rw [O t 3 h1 ht, O t 4 h1 ht, O t 5 h1 ht, O t 6 h1 ht, O t 7 h1 ht, O t 8 h1 ht]; exact j t h1 ht
theorem op_vote {L : Nat} {xs : Nat → Int32} {c : Nat} {h : AH} {nh nm nr na nt nc : Nat} (I : InvN L xs c h nh nm nr na nt nc) (x y w : Int32) : OPi 112 220 [.int x, .int y, .int w] L xs c h := by
  have Ly := I.lay
  have b2 := I.ime.1
  have b4 := I.itx.1
  by_cases hx : inN x nm
  · by_cases hy : inN y nt
    · have ht := inN_tn hy
      have T := (I.itx.2.2.2.2.1 _ ht).1
      have hi12 : am_in y 12 := in_N hy (by omega)
      have hi13 : am_in y 13 := in_N hy (by omega)
      by_cases hc : am_gi h 240 (Int32.toNatClampNeg y) = 0
      · by_cases hv : am_gi h 241 (Int32.toNatClampNeg y) = 0
        · have hv1 : am_gi h (148 + 4 * Int32.toNatClampNeg y) 5 = 0 := by rw [T.2.2.1.1]; exact hv
          by_cases he : am_gi h 224 (Int32.toNatClampNeg x) = -1
          · obtain ⟨m, hm, rfl⟩ := hx.ex
            by_cases hb : tb (am_gi h 245 (Int32.toNatClampNeg y) ||| am_gi h 246 (Int32.toNatClampNeg y)) m = false
            · have hb1 : ((am_gi h (148 + 4 * Int32.toNatClampNeg y) 3 ||| am_gi h (148 + 4 * Int32.toNatClampNeg y) 4) >>> (zI m &&& 31)) &&& 1 = 0 := by rw [T.1.1, T.2.1.1]; exact (bq_0 (by omega)).mpr hb
              have hb2 := (and_b0 (x := am_gi h 245 (Int32.toNatClampNeg y) ||| am_gi h 246 (Int32.toNatClampNeg y)) (m := m) (by omega)).mpr hb
              have hsh := sh_nn m (by omega)
              have P79 : PF 0 79 [.ref (148 + 4 * Int32.toNatClampNeg y), .int (zI m)] h (.int 0) := ws79 (by omega) _ Ly ⟨fun _ => ⟨rfl, rfl⟩, fun z => absurd hb1 z⟩
              by_cases hw : w = 0
              · -- against it
                refine OPi.gf (d := 9) (d' := 9) (ts := [6]) (x := zI (cnt (tb (am_gi h 245 (Int32.toNatClampNeg y))) 32)) (h1 := am_si h (148 + 4 * Int32.toNatClampNeg y) 4 (am_gi h (148 + 4 * Int32.toNatClampNeg y) 4 ||| ((1 : Int32) <<< (zI m &&& 31)))) (h2 := am_si (am_si (am_si h (148 + 4 * Int32.toNatClampNeg y) 4 (am_gi h (148 + 4 * Int32.toNatClampNeg y) 4 ||| ((1 : Int32) <<< (zI m &&& 31)))) 245 (Int32.toNatClampNeg y) (am_gi h 245 (Int32.toNatClampNeg y))) 246 (Int32.toNatClampNeg y) (am_gi h 246 (Int32.toNatClampNeg y) ||| ((1 : Int32) <<< (zI m &&& 31)))) Ly I.ico ?_ ((TxW.rf h).c (by omega)).1 ?_ ?_
                · skip
                  refine ws112 _ _ _ Ly ?_
                  refine Cl.i (p139 Ly (by omega) I.ime.2.1 _) (by decide) Ly ?_
                  refine ⟨fun z => absurd z ((bI_n0.mpr hx)), fun _ => ?_⟩
                  refine Cl.i (p140 Ly (by omega) I.itx.2.1 _) (by decide) Ly ?_
                  refine ⟨fun _ => ?_, fun z => absurd ((bI_n0.mpr hy)) z⟩
                  refine ⟨hi12, ?_⟩
                  refine Cl.i (p77x I hy) (by decide) Ly ?_
                  refine ⟨fun z => absurd z ((not_not_intro (bI_0.mpr (not_not_intro hc)))), fun _ => ?_⟩
                  refine ⟨fun z => absurd z ((not_not_intro hv1)), fun _ => ?_⟩
                  refine Cl.i (p146 I hx) (by decide) Ly ?_
                  refine ⟨fun z => absurd z ((bI_n0.mpr he)), fun _ => ?_⟩
                  refine Cl.i (P79) (by decide) Ly ?_
                  refine ⟨fun _ => ?_, fun z => absurd (rfl) z⟩
                  refine Cl.gv (ws80 (d := 0) (by omega) _ _ Ly ⟨fun _ k e => ⟨rfl, e⟩, fun z => absurd hw z⟩) (by decide) (Ly.si _ _ _) ?_
                  refine Cl.i (by rw [gi_ne (by omega), T.1.1]; exact p262 _) (by decide) (Ly.si _ _ _) ?_
                  exact ⟨rfl, rfl⟩
                · skip
                  refine ws220 _ _ _ (Ly.si _ _ _) ?_
                  refine Cl.i (p169 (Ly.si _ _ _) (n := nm) (by omega) (by rw [gi_ne (by omega)]; exact I.ime.2.2.1) _) (by decide) (Ly.si _ _ _) ?_
                  refine ⟨fun z => absurd z ((bI_n0.mpr hx)), fun _ => ?_⟩
                  refine Cl.i (p219 (Ly.si _ _ _) (n := nt) (by omega) (by rw [gi_ne (by omega)]; exact I.itx.2.2.1) _) (by decide) (Ly.si _ _ _) ?_
                  refine ⟨fun _ => ?_, fun z => absurd ((bI_n0.mpr hy)) z⟩
                  refine ⟨hi13, ?_⟩
                  refine ⟨fun z => absurd z ((not_not_intro (by rw [gi_ne (by omega)]; exact hc))), fun _ => ?_⟩
                  refine ⟨hi13, ?_⟩
                  refine ⟨fun z => absurd z ((not_not_intro (by rw [gi_ne (by omega)]; exact hv))), fun _ => ?_⟩
                  refine Cl.i ((p170 (Ly.si _ _ _) (in_N hx b2)).c (q := am_gi h 224 (Int32.toNatClampNeg (zI m)) = (-1 : Int32)) (by rw [gi_ne (by omega)])) (by decide) (Ly.si _ _ _) ?_
                  refine ⟨fun z => absurd z ((bI_n0.mpr he)), fun _ => ?_⟩
                  refine ⟨hi13, ?_⟩
                  refine ⟨hi13, ?_⟩
                  refine ⟨fun _ => ?_, fun z => absurd ((by rw [gi_ne (by omega), gi_ne (by omega)]; exact hb2)) z⟩
                  refine ⟨hi13, ?_⟩
                  refine ⟨fun _ => ?_, fun z => absurd (hw) z⟩
                  refine ws220_89 _ _ _ _ _ _ (Ly.si _ _ _) ?_
                  refine ⟨hi13, ?_⟩
                  intro h2 eh2; subst eh2
                  refine ⟨hi13, ?_⟩
                  refine ⟨fun _ => ?_, fun z => absurd (hw) z⟩
                  refine ⟨hi13, ?_⟩
                  intro h5 eh5; subst eh5
                  refine ⟨hi13, ?_⟩
                  refine Cl.i (by (repeat (first | rw [gi_eq] | rw [gl_eq] | rw [gi_ne (by omega)] | rw [gl_ne (by omega)] | rw [gi_sl] | rw [gl_si])); rw [or_0]; exact p190 (((Ly.si _ _ _).si _ _ _).si _ _ _) T.1.2) (by decide) (((Ly.si _ _ _).si _ _ _).si _ _ _) ?_
                  exact ⟨rfl, by (repeat (first | rw [gi_eq] | rw [gl_eq] | rw [gi_ne (by omega)] | rw [gl_ne (by omega)] | rw [gi_sl] | rw [gl_si])); rw [or_0]⟩
                · have X : TxW h _ := (((TxW.rf h).c (t := Int32.toNatClampNeg y) (k := 4) (v := am_gi h (148 + 4 * Int32.toNatClampNeg y) 4 ||| ((1 : Int32) <<< (zI m &&& 31))) (by omega)).m (a := 245) (k := Int32.toNatClampNeg y) (v := am_gi h 245 (Int32.toNatClampNeg y)) (by decide) (by decide)).m (a := 246) (k := Int32.toNatClampNeg y) (v := am_gi h 246 (Int32.toNatClampNeg y) ||| ((1 : Int32) <<< (zI m &&& 31))) (by decide) (by decide)
                  refine ⟨nh, nm, nr, na, nt, nc, I.up X.1 (g6 := Or.inr (I.itx.w X ?_ (fun t q => ?_) ?_ (fun t k q1 q2 => ?_))) (g11 := Or.inr (I.itr.tx X))⟩
                  · (repeat (first | rw [gi_eq] | rw [gl_eq] | rw [gi_ne (by omega)] | rw [gl_ne (by omega)] | rw [gi_sl] | rw [gl_si])); exact ⟨I.itx.2.2.2.1.1, I.itx.2.2.2.1.2.1, by have := I.itx.2.2.2.1.2.2; omega⟩
                  · have T2 := (I.itx.2.2.2.2.1 t q).1
                    by_cases e : t = Int32.toNatClampNeg y
                    · subst e
                      unfold ITt
                      (repeat (first | rw [gi_eq] | rw [gl_eq] | rw [gi_ne (by omega)] | rw [gl_ne (by omega)] | rw [gi_sl] | rw [gl_si]))
                      exact ⟨T2.1, ⟨by rw [T2.2.1.1], bz_or T2.2.1.2 hsh⟩, T2.2.2⟩
                    · unfold ITt
                      (repeat (first | rw [gi_eq] | rw [gl_eq] | rw [gi_ne (by omega)] | rw [gl_ne (by omega)] | rw [gi_sl] | rw [gl_si]))
                      exact T2
                  · (repeat (first | rw [gi_eq] | rw [gl_eq] | rw [gi_ne (by omega)] | rw [gl_ne (by omega)] | rw [gi_sl] | rw [gl_si])); exact I.itx.2.2.2.2.2.1
                  · (repeat (first | rw [gi_eq] | rw [gl_eq] | rw [gi_ne (by omega)] | rw [gl_ne (by omega)] | rw [gi_sl] | rw [gl_si]))
              · refine OPi.gf (d := 9) (d' := 9) (ts := [6]) (x := zI (cnt (tb (am_gi h 245 (Int32.toNatClampNeg y) ||| ((1 : Int32) <<< (zI m &&& 31)))) 32)) (h1 := am_si h (148 + 4 * Int32.toNatClampNeg y) 3 (am_gi h (148 + 4 * Int32.toNatClampNeg y) 3 ||| ((1 : Int32) <<< (zI m &&& 31)))) (h2 := am_si (am_si (am_si h (148 + 4 * Int32.toNatClampNeg y) 3 (am_gi h (148 + 4 * Int32.toNatClampNeg y) 3 ||| ((1 : Int32) <<< (zI m &&& 31)))) 245 (Int32.toNatClampNeg y) (am_gi h 245 (Int32.toNatClampNeg y) ||| ((1 : Int32) <<< (zI m &&& 31)))) 246 (Int32.toNatClampNeg y) (am_gi h 246 (Int32.toNatClampNeg y))) Ly I.ico ?_ ((TxW.rf h).c (by omega)).1 ?_ ?_
                · skip
                  refine ws112 _ _ _ Ly ?_
                  refine Cl.i (p139 Ly (by omega) I.ime.2.1 _) (by decide) Ly ?_
                  refine ⟨fun z => absurd z ((bI_n0.mpr hx)), fun _ => ?_⟩
                  refine Cl.i (p140 Ly (by omega) I.itx.2.1 _) (by decide) Ly ?_
                  refine ⟨fun _ => ?_, fun z => absurd ((bI_n0.mpr hy)) z⟩
                  refine ⟨hi12, ?_⟩
                  refine Cl.i (p77x I hy) (by decide) Ly ?_
                  refine ⟨fun z => absurd z ((not_not_intro (bI_0.mpr (not_not_intro hc)))), fun _ => ?_⟩
                  refine ⟨fun z => absurd z ((not_not_intro hv1)), fun _ => ?_⟩
                  refine Cl.i (p146 I hx) (by decide) Ly ?_
                  refine ⟨fun z => absurd z ((bI_n0.mpr he)), fun _ => ?_⟩
                  refine Cl.i (P79) (by decide) Ly ?_
                  refine ⟨fun _ => ?_, fun z => absurd (rfl) z⟩
                  refine Cl.gv (ws80 (d := 0) (by omega) _ _ Ly ⟨fun z => absurd z hw, fun _ k e => ⟨rfl, e⟩⟩) (by decide) (Ly.si _ _ _) ?_
                  refine Cl.i (by rw [gi_eq, T.1.1]; exact p262 _) (by decide) (Ly.si _ _ _) ?_
                  exact ⟨rfl, rfl⟩
                · skip
                  refine ws220 _ _ _ (Ly.si _ _ _) ?_
                  refine Cl.i (p169 (Ly.si _ _ _) (n := nm) (by omega) (by rw [gi_ne (by omega)]; exact I.ime.2.2.1) _) (by decide) (Ly.si _ _ _) ?_
                  refine ⟨fun z => absurd z ((bI_n0.mpr hx)), fun _ => ?_⟩
                  refine Cl.i (p219 (Ly.si _ _ _) (n := nt) (by omega) (by rw [gi_ne (by omega)]; exact I.itx.2.2.1) _) (by decide) (Ly.si _ _ _) ?_
                  refine ⟨fun _ => ?_, fun z => absurd ((bI_n0.mpr hy)) z⟩
                  refine ⟨hi13, ?_⟩
                  refine ⟨fun z => absurd z ((not_not_intro (by rw [gi_ne (by omega)]; exact hc))), fun _ => ?_⟩
                  refine ⟨hi13, ?_⟩
                  refine ⟨fun z => absurd z ((not_not_intro (by rw [gi_ne (by omega)]; exact hv))), fun _ => ?_⟩
                  refine Cl.i ((p170 (Ly.si _ _ _) (in_N hx b2)).c (q := am_gi h 224 (Int32.toNatClampNeg (zI m)) = (-1 : Int32)) (by rw [gi_ne (by omega)])) (by decide) (Ly.si _ _ _) ?_
                  refine ⟨fun z => absurd z ((bI_n0.mpr he)), fun _ => ?_⟩
                  refine ⟨hi13, ?_⟩
                  refine ⟨hi13, ?_⟩
                  refine ⟨fun _ => ?_, fun z => absurd ((by rw [gi_ne (by omega), gi_ne (by omega)]; exact hb2)) z⟩
                  refine ⟨hi13, ?_⟩
                  refine ⟨fun z => absurd z (hw), fun _ => ?_⟩
                  refine ws220_89 _ _ _ _ _ _ (Ly.si _ _ _) ?_
                  refine ⟨hi13, ?_⟩
                  intro h2 eh2; subst eh2
                  refine ⟨hi13, ?_⟩
                  refine ⟨fun z => absurd z (hw), fun _ => ?_⟩
                  refine ⟨hi13, ?_⟩
                  intro h11 eh11; subst eh11
                  refine ⟨hi13, ?_⟩
                  refine Cl.i (by (repeat (first | rw [gi_eq] | rw [gl_eq] | rw [gi_ne (by omega)] | rw [gl_ne (by omega)] | rw [gi_sl] | rw [gl_si])); exact p190 (((Ly.si _ _ _).si _ _ _).si _ _ _) (bz_or T.1.2 hsh)) (by decide) (((Ly.si _ _ _).si _ _ _).si _ _ _) ?_
                  exact ⟨rfl, by (repeat (first | rw [gi_eq] | rw [gl_eq] | rw [gi_ne (by omega)] | rw [gl_ne (by omega)] | rw [gi_sl] | rw [gl_si])); rw [or_0]⟩
                · have X : TxW h _ := (((TxW.rf h).c (t := Int32.toNatClampNeg y) (k := 3) (v := am_gi h (148 + 4 * Int32.toNatClampNeg y) 3 ||| ((1 : Int32) <<< (zI m &&& 31))) (by omega)).m (a := 245) (k := Int32.toNatClampNeg y) (v := am_gi h 245 (Int32.toNatClampNeg y) ||| ((1 : Int32) <<< (zI m &&& 31))) (by decide) (by decide)).m (a := 246) (k := Int32.toNatClampNeg y) (v := am_gi h 246 (Int32.toNatClampNeg y)) (by decide) (by decide)
                  refine ⟨nh, nm, nr, na, nt, nc, I.up X.1 (g6 := Or.inr (I.itx.w X ?_ (fun t q => ?_) ?_ (fun t k q1 q2 => ?_))) (g11 := Or.inr (I.itr.tx X))⟩
                  · (repeat (first | rw [gi_eq] | rw [gl_eq] | rw [gi_ne (by omega)] | rw [gl_ne (by omega)] | rw [gi_sl] | rw [gl_si])); exact ⟨I.itx.2.2.2.1.1, I.itx.2.2.2.1.2.1, by have := I.itx.2.2.2.1.2.2; omega⟩
                  · have T2 := (I.itx.2.2.2.2.1 t q).1
                    by_cases e : t = Int32.toNatClampNeg y
                    · subst e
                      unfold ITt
                      (repeat (first | rw [gi_eq] | rw [gl_eq] | rw [gi_ne (by omega)] | rw [gl_ne (by omega)] | rw [gi_sl] | rw [gl_si]))
                      exact ⟨⟨by rw [T2.1.1], bz_or T2.1.2 hsh⟩, T2.2⟩
                    · unfold ITt
                      (repeat (first | rw [gi_eq] | rw [gl_eq] | rw [gi_ne (by omega)] | rw [gl_ne (by omega)] | rw [gi_sl] | rw [gl_si]))
                      exact T2
                  · (repeat (first | rw [gi_eq] | rw [gl_eq] | rw [gi_ne (by omega)] | rw [gl_ne (by omega)] | rw [gi_sl] | rw [gl_si])); exact I.itx.2.2.2.2.2.1
                  · (repeat (first | rw [gi_eq] | rw [gl_eq] | rw [gi_ne (by omega)] | rw [gl_ne (by omega)] | rw [gi_sl] | rw [gl_si]))
            · have hb1 : ¬ ((am_gi h (148 + 4 * Int32.toNatClampNeg y) 3 ||| am_gi h (148 + 4 * Int32.toNatClampNeg y) 4) >>> (zI m &&& 31)) &&& 1 = 0 := by rw [T.1.1, T.2.1.1]; exact fun z => hb ((bq_0 (by omega)).mp z)
              have hb2 : ¬ (am_gi h 245 (Int32.toNatClampNeg y) ||| am_gi h 246 (Int32.toNatClampNeg y)) &&& ((1 : Int32) <<< (zI m &&& 31)) = 0 := fun z => hb ((and_b0 (by omega)).mp z)
              have P79 : PF 0 79 [.ref (148 + 4 * Int32.toNatClampNeg y), .int (zI m)] h (.int 1) := ws79 (by omega) _ Ly ⟨fun z => absurd z hb1, fun _ => ⟨rfl, rfl⟩⟩
              refine OPi.pf I (x := -3) (d := 9) (d' := 9) ?_ ?_
              · skip
                refine ws112 _ _ _ Ly ?_
                refine Cl.i (p139 Ly (by omega) I.ime.2.1 _) (by decide) Ly ?_
                refine ⟨fun z => absurd z ((bI_n0.mpr hx)), fun _ => ?_⟩
                refine Cl.i (p140 Ly (by omega) I.itx.2.1 _) (by decide) Ly ?_
                refine ⟨fun _ => ?_, fun z => absurd ((bI_n0.mpr hy)) z⟩
                refine ⟨hi12, ?_⟩
                refine Cl.i (p77x I hy) (by decide) Ly ?_
                refine ⟨fun z => absurd z ((not_not_intro (bI_0.mpr (not_not_intro hc)))), fun _ => ?_⟩
                refine ⟨fun z => absurd z ((not_not_intro hv1)), fun _ => ?_⟩
                refine Cl.i (p146 I hx) (by decide) Ly ?_
                refine ⟨fun z => absurd z ((bI_n0.mpr he)), fun _ => ?_⟩
                refine Cl.i (P79) (by decide) Ly ?_
                refine ⟨fun z => absurd z ((by decide)), fun _ => ?_⟩
                exact ⟨rfl, rfl⟩
              · skip
                refine ws220 _ _ _ Ly ?_
                refine Cl.i (p169 Ly (n := nm) (by omega) (I.ime.2.2.1) _) (by decide) Ly ?_
                refine ⟨fun z => absurd z ((bI_n0.mpr hx)), fun _ => ?_⟩
                refine Cl.i (p219 Ly (n := nt) (by omega) (I.itx.2.2.1) _) (by decide) Ly ?_
                refine ⟨fun _ => ?_, fun z => absurd ((bI_n0.mpr hy)) z⟩
                refine ⟨hi13, ?_⟩
                refine ⟨fun z => absurd z ((not_not_intro hc)), fun _ => ?_⟩
                refine ⟨hi13, ?_⟩
                refine ⟨fun z => absurd z ((not_not_intro hv)), fun _ => ?_⟩
                refine Cl.i (p170 Ly (in_N hx b2)) (by decide) Ly ?_
                refine ⟨fun z => absurd z ((bI_n0.mpr he)), fun _ => ?_⟩
                refine ⟨hi13, ?_⟩
                refine ⟨hi13, ?_⟩
                refine ⟨fun z => absurd z (hb2), fun _ => ?_⟩
                exact ⟨rfl, rfl⟩
          · refine OPi.pf I (x := -3) (d := 9) (d' := 9) ?_ ?_
            · skip
              refine ws112 _ _ _ Ly ?_
              refine Cl.i (p139 Ly (by omega) I.ime.2.1 _) (by decide) Ly ?_
              refine ⟨fun z => absurd z ((bI_n0.mpr hx)), fun _ => ?_⟩
              refine Cl.i (p140 Ly (by omega) I.itx.2.1 _) (by decide) Ly ?_
              refine ⟨fun _ => ?_, fun z => absurd ((bI_n0.mpr hy)) z⟩
              refine ⟨hi12, ?_⟩
              refine Cl.i (p77x I hy) (by decide) Ly ?_
              refine ⟨fun z => absurd z ((not_not_intro (bI_0.mpr (not_not_intro hc)))), fun _ => ?_⟩
              refine ⟨fun z => absurd z ((not_not_intro hv1)), fun _ => ?_⟩
              refine Cl.i (p146 I hx) (by decide) Ly ?_
              refine ⟨fun _ => ?_, fun z => absurd ((bI_0.mpr he)) z⟩
              exact ⟨rfl, rfl⟩
            · skip
              refine ws220 _ _ _ Ly ?_
              refine Cl.i (p169 Ly (n := nm) (by omega) (I.ime.2.2.1) _) (by decide) Ly ?_
              refine ⟨fun z => absurd z ((bI_n0.mpr hx)), fun _ => ?_⟩
              refine Cl.i (p219 Ly (n := nt) (by omega) (I.itx.2.2.1) _) (by decide) Ly ?_
              refine ⟨fun _ => ?_, fun z => absurd ((bI_n0.mpr hy)) z⟩
              refine ⟨hi13, ?_⟩
              refine ⟨fun z => absurd z ((not_not_intro hc)), fun _ => ?_⟩
              refine ⟨hi13, ?_⟩
              refine ⟨fun z => absurd z ((not_not_intro hv)), fun _ => ?_⟩
              refine Cl.i (p170 Ly (in_N hx b2)) (by decide) Ly ?_
              refine ⟨fun _ => ?_, fun z => absurd ((bI_0.mpr he)) z⟩
              exact ⟨rfl, rfl⟩
        · have hv1 : ¬ am_gi h (148 + 4 * Int32.toNatClampNeg y) 5 = 0 := by rw [T.2.2.1.1]; exact hv
          refine OPi.pf I (x := -3) (d := 9) (d' := 9) ?_ ?_
          · skip
            refine ws112 _ _ _ Ly ?_
            refine Cl.i (p139 Ly (by omega) I.ime.2.1 _) (by decide) Ly ?_
            refine ⟨fun z => absurd z ((bI_n0.mpr hx)), fun _ => ?_⟩
            refine Cl.i (p140 Ly (by omega) I.itx.2.1 _) (by decide) Ly ?_
            refine ⟨fun _ => ?_, fun z => absurd ((bI_n0.mpr hy)) z⟩
            refine ⟨hi12, ?_⟩
            refine Cl.i (p77x I hy) (by decide) Ly ?_
            refine ⟨fun z => absurd z ((not_not_intro (bI_0.mpr (not_not_intro hc)))), fun _ => ?_⟩
            refine ⟨fun _ => ?_, fun z => absurd (hv1) z⟩
            exact ⟨rfl, rfl⟩
          · skip
            refine ws220 _ _ _ Ly ?_
            refine Cl.i (p169 Ly (n := nm) (by omega) (I.ime.2.2.1) _) (by decide) Ly ?_
            refine ⟨fun z => absurd z ((bI_n0.mpr hx)), fun _ => ?_⟩
            refine Cl.i (p219 Ly (n := nt) (by omega) (I.itx.2.2.1) _) (by decide) Ly ?_
            refine ⟨fun _ => ?_, fun z => absurd ((bI_n0.mpr hy)) z⟩
            refine ⟨hi13, ?_⟩
            refine ⟨fun z => absurd z ((not_not_intro hc)), fun _ => ?_⟩
            refine ⟨hi13, ?_⟩
            refine ⟨fun _ => ?_, fun z => absurd (hv) z⟩
            exact ⟨rfl, rfl⟩
      · refine OPi.pf I (x := -3) (d := 9) (d' := 9) ?_ ?_
        · skip
          refine ws112 _ _ _ Ly ?_
          refine Cl.i (p139 Ly (by omega) I.ime.2.1 _) (by decide) Ly ?_
          refine ⟨fun z => absurd z ((bI_n0.mpr hx)), fun _ => ?_⟩
          refine Cl.i (p140 Ly (by omega) I.itx.2.1 _) (by decide) Ly ?_
          refine ⟨fun _ => ?_, fun z => absurd ((bI_n0.mpr hy)) z⟩
          refine ⟨hi12, ?_⟩
          refine Cl.i (p77x I hy) (by decide) Ly ?_
          refine ⟨fun _ => ?_, fun z => absurd ((bI_n0.mpr hc)) z⟩
          exact ⟨rfl, rfl⟩
        · skip
          refine ws220 _ _ _ Ly ?_
          refine Cl.i (p169 Ly (n := nm) (by omega) (I.ime.2.2.1) _) (by decide) Ly ?_
          refine ⟨fun z => absurd z ((bI_n0.mpr hx)), fun _ => ?_⟩
          refine Cl.i (p219 Ly (n := nt) (by omega) (I.itx.2.2.1) _) (by decide) Ly ?_
          refine ⟨fun _ => ?_, fun z => absurd ((bI_n0.mpr hy)) z⟩
          refine ⟨hi13, ?_⟩
          refine ⟨fun _ => ?_, fun z => absurd (hc) z⟩
          exact ⟨rfl, rfl⟩
    · refine OPi.pf I (x := -2) (d := 9) (d' := 9) ?_ ?_
      · skip
        refine ws112 _ _ _ Ly ?_
        refine Cl.i (p139 Ly (by omega) I.ime.2.1 _) (by decide) Ly ?_
        refine ⟨fun z => absurd z ((bI_n0.mpr hx)), fun _ => ?_⟩
        refine Cl.i (p140 Ly (by omega) I.itx.2.1 _) (by decide) Ly ?_
        refine ⟨fun z => absurd z ((not_not_intro (bI_0.mpr hy))), fun _ => ?_⟩
        exact ⟨rfl, rfl⟩
      · skip
        refine ws220 _ _ _ Ly ?_
        refine Cl.i (p169 Ly (n := nm) (by omega) (I.ime.2.2.1) _) (by decide) Ly ?_
        refine ⟨fun z => absurd z ((bI_n0.mpr hx)), fun _ => ?_⟩
        refine Cl.i (p219 Ly (n := nt) (by omega) (I.itx.2.2.1) _) (by decide) Ly ?_
        refine ⟨fun z => absurd z ((not_not_intro (bI_0.mpr hy))), fun _ => ?_⟩
        exact ⟨rfl, rfl⟩
  · refine OPi.pf I (x := -2) (d := 9) (d' := 9) ?_ ?_
    · skip
      refine ws112 _ _ _ Ly ?_
      refine Cl.i (p139 Ly (by omega) I.ime.2.1 _) (by decide) Ly ?_
      refine ⟨fun _ => ?_, fun z => absurd ((bI_0.mpr hx)) z⟩
      exact ⟨rfl, rfl⟩
    · skip
      refine ws220 _ _ _ Ly ?_
      refine Cl.i (p169 Ly (n := nm) (by omega) (I.ime.2.2.1) _) (by decide) Ly ?_
      refine ⟨fun _ => ?_, fun z => absurd ((bI_0.mpr hx)) z⟩
      exact ⟨rfl, rfl⟩
