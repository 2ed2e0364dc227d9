/-! carry, tear -/
def TxX (h h' : AH) : Prop := Ex [0, 6] h h' ∧ (∀ b i, (b = 214 ∨ b = 215 ∨ 263 ≤ b) → am_gi h' b i = am_gi h b i) ∧ (∀ t k, t < 12 → am_gi h' (151 + 4 * t) k = am_gi h (151 + 4 * t) k) ∧ (∀ a i, 235 ≤ a → a < 240 → am_gi h' a i = am_gi h a i) ∧ am_gi h' 6 9 = am_gi h 6 9 ∧ am_gi h' 216 23 = am_gi h 216 23
theorem TxX.rf (h : AH) : TxX h h := ⟨Ex.rf _ _, fun _ _ _ => rfl, fun _ _ _ => rfl, fun _ _ _ _ => rfl, rfl, rfl⟩
theorem TxX.c {h h1 : AH} (A : TxX h h1) {t k : Nat} {v : Int32} (ht : t < 12) : TxX h (am_si h1 (148 + 4 * t) k v) := by
  obtain ⟨a, b, c, d, e, f⟩ := A
  refine ⟨a.tr (((OC.rf [0, 6] h1).si (a := 148 + 4 * t) (k := k) (by omega) (tpm (tp_text ht) (by decide))).ex), fun b' i hb => by rw [gi_ne (by omega)]; exact b b' i hb, fun t' k' ht' => by rw [gi_ne (by omega)]; exact c t' k' ht', fun a' i h1 h2 => by rw [gi_ne (by omega)]; exact d a' i h1 h2, by rw [gi_ne (by omega)]; exact e, by rw [gi_ne (by omega)]; exact f⟩
theorem TxX.m {h h1 : AH} (A : TxX h h1) {a k : Nat} {v : Int32} (h1' : 240 ≤ a) (h2' : a < 247) : TxX h (am_si h1 a k v) := by
  obtain ⟨a', b, c, d, e, f⟩ := A
  have t6 : tp a k = 6 := by rcases (show a = 240 ∨ a = 241 ∨ a = 242 ∨ a = 243 ∨ a = 244 ∨ a = 245 ∨ a = 246 by omega) with rfl | rfl | rfl | rfl | rfl | rfl | rfl <;> rfl
  refine ⟨a'.tr (((OM.rf [0, 6] h1).si (a := a) (k := k) (by omega) (tpm t6 (by decide))).ex), fun b' i hb => by rw [gi_ne (by omega)]; exact b b' i hb, fun t' k' ht' => by rw [gi_ne (by omega)]; exact c t' k' ht', fun a' i h1 h2 => by rw [gi_ne (by omega)]; exact d a' i h1 h2, by rw [gi_ne (by omega)]; exact e, by rw [gi_ne (by omega)]; exact f⟩
theorem TxX.m1 {h h1 : AH} (A : TxX h h1) {v : Int32} : TxX h (am_si h1 216 36 v) := by
  obtain ⟨a', b, c, d, e, f⟩ := A
  refine ⟨a'.tr (((OM.rf [0, 6] h1).si (by omega) (by decide)).ex), fun b' i hb => by rw [gi_ne (by omega)]; exact b b' i hb, fun t' k' ht' => by rw [gi_ne (by omega)]; exact c t' k' ht', fun a' i h1 h2 => by rw [gi_ne (by omega)]; exact d a' i h1 h2, by rw [gi_ne (by omega)]; exact e, by rw [gi_ne (by omega)]; exact f⟩
theorem TxX.c1 {h h1 : AH} (A : TxX h h1) {v : Int32} : TxX h (am_si h1 6 10 v) := by
  obtain ⟨a', b, c, d, e, f⟩ := A
  refine ⟨a'.tr (((OC.rf [0, 6] h1).si (by omega) (by decide)).ex), fun b' i hb => by rw [gi_ne (by omega)]; exact b b' i hb, fun t' k' ht' => by rw [gi_ne (by omega)]; exact c t' k' ht', fun a' i h1 h2 => by rw [gi_ne (by omega)]; exact d a' i h1 h2, by rw [gi_ne (by omega)]; exact e, by rw [gi_ne (by omega)]; exact f⟩
theorem ITb.x {h h' : AH} {t : Nat} (I : ITb h t) (W : TxX h h') (ht : t < 12) : ITb h' t := by
  obtain ⟨b, n, a1, a2, a3, a4, a5, a6, a7, a8, a9⟩ := I
  obtain ⟨S, e1, e2, e3, e4, e5⟩ := W
  refine ⟨b, n, by rw [S.1.2.2.2.2]; exact a1, by rw [S.1.1]; exact a2, a3, a4, by rw [S.1.2.2.1]; exact a5, by rw [S.1.2.2.2.1]; exact a6, a7, by rw [e3 235 t (by decide) (by decide)]; exact a8, fun i hi => ?_⟩
  rw [e1 b i a3, e3 236 _ (by decide) (by decide)]; exact a9 i hi
theorem ITc.x {h h' : AH} {t : Nat} (I : ITc h t) (W : TxX h h') (ht : t < 12) : ITc h' t := by
  obtain ⟨b, p, a1, a2, a3, a4, a5, a6, a8, a9⟩ := I
  obtain ⟨S, e1, e2, e3, e4, e5⟩ := W
  refine ⟨b, p, by rw [S.1.2.2.2.2]; exact a1, by rw [S.1.1]; exact a2, a3, a4, by rw [S.1.2.2.1]; exact a5, by rw [S.1.2.2.2.1]; exact a6, fun k hk => ?_, ?_⟩
  · rw [e2 t k ht, e3 239 _ (by decide) (by decide)]; exact a8 k hk
  · rw [show (fun i => am_gi h' 237 (400 * t + i)) = (fun i => am_gi h 237 (400 * t + i)) from funext fun i => e3 237 _ (by decide) (by decide), show (fun i => am_gi h' 238 (400 * t + i)) = (fun i => am_gi h 238 (400 * t + i)) from funext fun i => e3 238 _ (by decide) (by decide), show am_gi h' b = am_gi h b from funext fun i => e1 b i a3]; exact a9
theorem ITr.xx {h h' : AH} {nr : Nat} (I : ITr h nr) (W : TxX h h') : ITr h' nr := fun t ht => by
  obtain ⟨a1, a2, a3, a4, a5, a6⟩ := I t ht
  obtain ⟨S, e1, e2, e3, e4, e5⟩ := W
  have A := S.ag (t := 11) (by decide)
  have B := S.ag (t := 4) (by decide)
  unfold ITy
  rw [(A 249 t rfl).1, (A _ 0 (tp_tray ht)).1, (A _ 1 (tp_tray ht)).1, (A _ 2 (tp_tray ht)).1, (A _ 5 (tp_tray ht)).1, (A _ 6 (tp_tray ht)).1, (A 250 t rfl).1, (A 251 t rfl).1, S.1.2.2.2.2]
  refine ⟨a1, a2, fun z => ?_, fun z => ?_, fun z => ?_, fun z => ?_⟩
  · obtain ⟨r, r1, r2, r3, r4⟩ := a3 z
    exact ⟨r, r1, r2, by rw [(B 228 r rfl).1]; exact r3, by rw [(B 229 r rfl).1]; exact r4⟩
  · obtain ⟨b, n, r1, r2, r3, r4, r5, r6, r7, r8, r9, r10⟩ := a4 z
    refine ⟨b, n, r1, r2, by rw [S.1.1]; exact r3, r4, r5, by rw [S.1.2.2.1]; exact r6, r7, r8, by rw [S.1.2.2.2.1]; exact r9, fun i hi => ?_⟩
    rw [e1 b i r4, (A 252 _ rfl).2]; exact r10 i hi
  · obtain ⟨n, r1, r2, r3, r4⟩ := a5 z
    refine ⟨n, r1, r2, r3, fun i hi => ?_⟩
    rw [(A _ i (tp_debts ht)).2, (A 252 _ rfl).2]; exact r4 i hi
  · obtain ⟨n, r1, r2, r3, r4⟩ := a6 z
    refine ⟨n, r1, r2, r3, fun i hi => ?_⟩
    rw [(A 252 _ rfl).2]; exact r4 i hi
/-- the numbers of texts behind a write -/
theorem ITx.x {h h' : AH} {nt c c' : Nat} (I : ITx h nt c) (W : TxX h h') (h36 : am_gi h' 6 10 + 1 = am_gi h' 216 36 ∧ 1 ≤ (am_gi h' 216 36).toInt ∧ (am_gi h' 216 36).toInt ≤ 1 + c') (T : ∀ t, t < nt → ITt h' nt t) (Z : am_gi h' 240 0 = 1 ∧ am_gi h' 244 0 = -1) (O : ∀ t k, nt ≤ t → t < 12 → am_gi h' (148 + 4 * t) k = am_gi h (148 + 4 * t) k) : ITx h' nt c' := by
  obtain ⟨a, b, e, f, g, i, j⟩ := I
  refine ⟨a, by rw [W.2.2.2.2.1]; exact b, by rw [W.2.2.2.2.2]; exact e, h36, fun t ht => ⟨T t ht, (g t ht).2.1.x W (by omega), (g t ht).2.2.x W (by omega)⟩, Z, fun t h1 ht => ?_⟩
  rw [O t 3 h1 ht, O t 4 h1 ht, O t 5 h1 ht, O t 6 h1 ht, O t 7 h1 ht, O t 8 h1 ht]; exact j t h1 ht
theorem TxX.ex0 {h h1 h2 : AH} (A : TxX h h1) (E : Ex [0] h1 h2) : TxX h h2 := by
  obtain ⟨a, b, c, d, e, f⟩ := A
  have g := E.ag (t := 6) (by decide)
  refine ⟨a.tr (E.wk (by decide)), fun b' i hb => ?_, fun t k ht => by rw [(g _ k (tp_starts ht)).1]; exact c t k ht, fun a' i h1 h2 => ?_, by rw [(g 6 9 rfl).1]; exact e, by rw [(g 216 23 rfl).1]; exact f⟩
  · have tb6 : tp b' i = 6 := by
      rcases hb with rfl | rfl | hb
      · rfl
      · rfl
      · unfold tp; (repeat' (first | rw [if_pos (by omega)] | rw [if_neg (by omega)]))
    rw [(g b' i tb6).1]; exact b b' i hb
  · have t6 : tp a' i = 6 := by rcases (show a' = 235 ∨ a' = 236 ∨ a' = 237 ∨ a' = 238 ∨ a' = 239 by omega) with rfl | rfl | rfl | rfl | rfl <;> rfl
    rw [(g a' i t6).1]; exact d a' i h1 h2
theorem c156 {L : Nat} {xs : Nat → Int32} {c : Nat} {h : AH} {nh nm nr na nt nc : Nat} (I : InvN L xs c h nh nm nr na nt nc) : Cl 5 156 [.ref 6] h (fun r h' => r = some (.long (PT h nt nm 0 0 2)) ∧ Ex [0] h h') := by
  refine ws156 I.lay (Cl.i (p151 I) (by decide) I.lay ⟨in8 7 (by decide), ?_⟩)
  rw [tn_lit.2.2.2.2.2.2.2]
  intro k1 e1; subst e1
  have E1 : Ex [0] h (am_sl h 76 7 (zI (cnt (hereP h) nm)).toInt64) := ((S76.rf h).sl).ex
  have I1 := I.keep E1
  have et : am_gi (am_sl h 76 7 (zI (cnt (hereP h) nm)).toInt64) 6 0 = am_gi h 216 0 := I.ida.1
  rw [et]
  have e2 : tOn (am_sl h 76 7 (zI (cnt (hereP h) nm)).toInt64) nt (am_gi h 216 0) = tOn h nt (am_gi h 216 0) := tOn_ag (E1.ag (by decide)) _ _
  refine Cl.i (p154 I1 _) (by decide) I1.lay ?_
  rw [e2]
  refine ⟨in_zI (tOn12 I) (by decide), ?_⟩
  rw [zI_tn (by have := tOn12 I; omega)]
  refine Cl.ql (c70 (nmf := nmF h nm 0 0) I1 (tOn_lt I.itx.1.1) (k := 2) (by decide) (fun w h0 h8 al => ?_)) (by decide) (fun g p => ⟨p.lay I1.lay, ?_, E1.tr p.ex⟩)
  · have e7 : w = 7 := by unfold alw at al; rw [if_neg (by decide), if_pos rfl] at al; exact al
    have t7 : w.toNatClampNeg = 7 := by rw [e7]; decide
    rw [t7, gl_eq]
    unfold nmF; rw [if_neg (by decide), if_neg (by decide), if_neg (by decide), if_neg (by decide), if_neg (by decide), if_neg (by decide), if_neg (by decide)]
  · rw [wth_ag (E1.ag (by decide))]; rfl
theorem m213v {L : Nat} {xs : Nat → Int32} {c : Nat} {h : AH} {nh nm nr na nt nc : Nat} (I : InvM L xs c h nh nm nr na nt nc) : Cl 3 213 [.ref 216, .int 2, .int (-1), .int (-1)] h (fun r h' => r = some (.long (PT h nt nm 0 0 2)) ∧ SM h h') :=
  m213_m I (k := 2) (by decide) (fun w g h0 h8 al S Lg => by
    have e7 : w = 7 := by unfold alw at al; rw [if_neg (by decide), if_pos rfl] at al; exact al
    rw [← nmF_ex S.ex]
    have t7 : w.toNatClampNeg = 7 := by rw [e7]; decide
    rw [t7, e7]
    exact p211b Lg I.ime.1 (by rw [(S.2 216 7 (by decide)).1]; exact I.ime.2.2.1) 0 0 _ _)
theorem op_carry {L : Nat} {xs : Nat → Int32} {c : Nat} {h : AH} {nh nm nr na nt nc : Nat} (I : InvN L xs c h nh nm nr na nt nc) (hc : c < 100000) (x y : Int32) : OPi 113 221 [.int x, .int y] L xs c h := by
  have Ly := I.lay
  have bt := I.itx.1
  have Mi := I.m
  by_cases hx : inN x nt
  · obtain ⟨t, ht, rfl⟩ := hx.ex
    have tt : Int32.toNatClampNeg (zI t) = t := zI_tn (by omega)
    have i12 : am_in (zI t) 12 := in_zI (by omega) (by decide)
    have i13 : am_in (zI t) 13 := in_zI (by omega) (by decide)
    have T := (I.itx.2.2.2.2.1 t ht).1
    have P77 : PF 0 77 [.ref (148 + 4 * t)] h (.int (bI (¬ am_gi h 240 t = 0))) := by have := p77x I hx; rw [tt] at this; exact this
    by_cases hy : inR y (am_gi h 216 0) 2000000
    · have hy1 : ¬ y < am_gi h 6 0 := by rw [I.ida.1]; exact hy.1
      by_cases hcr : am_gi h 240 t = 0
      · by_cases hv : am_gi h 241 t = 0
        · by_cases hw : PT h nt nm 0 0 2 ≤ (zI (cnt (tb (am_gi h 245 t)) 32)).toInt64
          · -- it is carried
            have r1 : (0 : Int32) ≤ lg_cmp (zI (cnt (tb (am_gi h 245 t)) 32)).toInt64 (PT h nt nm 0 0 2) := (lg_cmp_ge _ _).mpr hw
            obtain ⟨N, hN⟩ : ∃ N, N = tOn h nt (am_gi h 216 0) := ⟨_, rfl⟩
            refine OPi.ce (d := 12) (d' := 12) (ts := [0, 6]) (v := 1) (P1 := fun h' => ∃ g, Ex [0] h g ∧ h' = am_si (am_si (am_si (am_si g 6 10 (am_gi h 6 10 + 1)) (148 + 4 * t) 6 (am_gi h 6 10 + 1)) (148 + 4 * t) 7 y) (148 + 4 * t) 8 (zI N)) I ?_ ?_
            · refine ws113 _ _ Ly (Cl.i (p140 Ly (by omega) I.itx.2.1 _) (by decide) Ly ⟨fun z => absurd hx (bI_0.mp z), fun _ => ⟨fun z => absurd z hy1, fun _ => ⟨fun _ => ⟨i12, ?_⟩, fun z => absurd (i_ge.mp hy.2) z⟩⟩⟩)
              rw [tt]
              refine Cl.i P77 (by decide) Ly ⟨fun z => absurd (bI_n0.mp z) (not_not_intro hcr), fun _ => ?_⟩
              rw [T.2.2.1.1, T.1.1]
              refine ⟨fun _ => Cl.i (p262 _) (by decide) Ly (Cl.ql (c156 I) (by decide) (fun g p => ⟨p.lay Ly, fun _ => ?_, fun z => absurd r1 z⟩)), fun z => absurd hv z⟩
              have I1 := I.keep p
              have eg : am_gi g 6 0 = am_gi h 216 0 := by rw [(p.ag (t := 1) (by decide) 6 0 rfl).1]; exact I.ida.1
              rw [eg]
              refine Cl.i (p154 I1 _) (by decide) I1.lay ?_
              rw [tOn_ag (p.ag (by decide)), ← hN, (p.ag (t := 6) (by decide) 6 10 rfl).1]
              intro k1 e1; subst e1
              rw [gi_eq]
              refine Cl.gv (ws81 (d := 0) (by omega) _ _ _ (I1.lay.si _ _ _) (fun _ e1 _ e2 _ e3 => ⟨rfl, by rw [e3, e2, e1]⟩)) (by decide) ((((I1.lay.si _ _ _).si _ _ _).si _ _ _).si _ _ _) ⟨rfl, ⟨g, p, rfl⟩, ?_⟩
              exact (p.wk (by decide)).tr (((((OC.rf [0, 6] g).si (by omega) (by decide)).si (a := 148 + 4 * t) (k := 6) (by omega) (tpm (tp_text (by omega)) (by decide))).si (a := 148 + 4 * t) (k := 7) (by omega) (tpm (tp_text (by omega)) (by decide))).si (a := 148 + 4 * t) (k := 8) (by omega) (tpm (tp_text (by omega)) (by decide))).ex
            · rintro h1 ⟨g, Eg, rfl⟩ E Ly1
              obtain ⟨h1, hh1⟩ : ∃ h1, h1 = am_si (am_si (am_si (am_si g 6 10 (am_gi h 6 10 + 1)) (148 + 4 * t) 6 (am_gi h 6 10 + 1)) (148 + 4 * t) 7 y) (148 + 4 * t) 8 (zI N) := ⟨_, rfl⟩
              rw [← hh1] at E Ly1 ⊢
              have Og : OC [0, 6] g h1 := by
                rw [hh1]
                exact ((((OC.rf [0, 6] g).si (by omega) (by decide)).si (a := 148 + 4 * t) (k := 6) (by omega) (tpm (tp_text (by omega)) (by decide))).si (a := 148 + 4 * t) (k := 7) (by omega) (tpm (tp_text (by omega)) (by decide))).si (a := 148 + 4 * t) (k := 8) (by omega) (tpm (tp_text (by omega)) (by decide))
              have N1 : MN h h1 := Eg.mn.tr Og.mn
              have M1 := N1.im Mi Ly1
              have X1 : TxX h h1 := by
                rw [hh1]
                exact ((((TxX.rf h).ex0 Eg).c1.c (by omega)).c (by omega)).c (by omega)
              have cell : ∀ a k, 240 ≤ a → a ≤ 246 → am_gi h1 a k = am_gi h a k := fun a k q1 q2 => (N1 a k (by omega) (by omega) (by rcases (show a = 240 ∨ a = 241 ∨ a = 242 ∨ a = 243 ∨ a = 244 ∨ a = 245 ∨ a = 246 by omega) with rfl | rfl | rfl | rfl | rfl | rfl | rfl <;> (show (6 : Nat) ≠ 0; decide))).1
              have e0 : am_gi h1 216 0 = am_gi h 216 0 := (N1 216 0 (by decide) (by decide) (by decide)).1
              have e36 : am_gi h1 216 36 = am_gi h 216 36 := (N1 216 36 (by decide) (by decide) (by decide)).1
              refine ws221 _ _ Ly1 (Cl.i (p219 Ly1 (n := nt) (by omega) M1.itx.2.2.1 _) (by decide) Ly1 ⟨fun z => absurd hx (bI_0.mp z), fun _ => ?_⟩)
              rw [e0]
              refine Cl.i (p167 Ly1 _ _ _) (by decide) Ly1 ⟨fun _ => ⟨i13, ?_⟩, fun z => absurd (bI_n0.mpr hy) z⟩
              rw [tt, cell 240 t (by decide) (by decide), cell 241 t (by decide) (by decide), cell 245 t (by decide) (by decide)]
              refine ⟨fun z => absurd hcr z, fun _ => ⟨i13, fun _ => ⟨i13, Cl.i (p190 Ly1 T.1.2) (by decide) Ly1 (Cl.ql (m213v M1) (by decide) (fun g2 p2 => ⟨p2.lay Ly1, ?_⟩))⟩, fun z => absurd hv z⟩⟩
              have ePT : PT h1 nt nm 0 0 2 = PT h nt nm 0 0 2 := PT_pc N1.pc ..
              rw [ePT]
              have Lg2 := p2.lay Ly1
              have e02 : am_gi g2 216 0 = am_gi h 216 0 := by rw [(p2.2 216 0 (by decide)).1]; exact e0
              refine ⟨fun _ => ?_, fun z => absurd r1 z⟩
              rw [e02]
              have en : am_gi g2 216 23 = zI nt := by rw [(p2.2 216 23 (by decide)).1]; exact M1.itx.2.2.1
              have eT : tOn g2 nt (am_gi h 216 0) = N := by
                rw [hN]
                have A6 : ∀ a k, 240 ≤ a → a ≤ 243 → am_gi g2 a k = am_gi h a k := fun a k q1 q2 => by rw [(p2.2 a k (by omega)).1]; exact cell a k q1 (by omega)
                unfold tOn
                rw [show tStep g2 (am_gi h 216 0) = tStep h (am_gi h 216 0) from funext fun a => funext fun i => by unfold tStep; rw [A6 240 i (by decide) (by decide), A6 241 i (by decide) (by decide), A6 242 i (by decide) (by decide), A6 243 i (by decide) (by decide), A6 243 a (by decide) (by decide)]]
              refine Cl.i (p215 Lg2 bt.2 en _) (by decide) Lg2 ⟨i13, ?_⟩
              rw [eT]
              intro k1 e1; subst e1
              refine ⟨i13, ?_⟩
              intro k2 e2; subst e2
              refine ⟨i13, ?_⟩
              intro k3 e3; subst e3
              refine ⟨i13, ?_⟩
              intro k4 e4; subst e4
              intro k5 e5; subst e5
              have X2 : TxX h g2 := X1.ex0 p2.ex
              have f36 : am_gi (am_si (am_si (am_si g2 244 t (zI N)) 240 t 1) 242 t y) 216 36 = am_gi h 216 36 := by (repeat (first | rw [gi_eq] | rw [gl_eq] | rw [gi_ne (by omega)] | rw [gl_ne (by omega)] | rw [gi_sl] | rw [gl_si])); rw [(p2.2 216 36 (by decide)).1]; exact e36
              have f36' : am_gi (am_si (am_si (am_si (am_si g2 244 t (zI N)) 240 t 1) 242 t y) 243 t (am_gi h 216 36)) 216 36 = am_gi h 216 36 := by rw [gi_ne (by omega)]; exact f36
              rw [f36, f36']
              have X := ((((X2.m (a := 244) (k := t) (v := zI N) (by decide) (by decide)).m (a := 240) (k := t) (v := 1) (by decide) (by decide)).m (a := 242) (k := t) (v := y) (by decide) (by decide)).m (a := 243) (k := t) (v := am_gi h 216 36) (by decide) (by decide)).m1 (v := am_gi h 216 36 + 1)
              have I36 := I.itx.2.2.2.1
              have cl : ∀ a k, a < 216 → am_gi g2 a k = am_gi h1 a k := fun a k q => (p2.2 a k (by omega)).1
              have h1c : ∀ s k, s < 12 → am_gi h1 (148 + 4 * s) k = (if s = t ∧ k = 6 then am_gi h 6 10 + 1 else if s = t ∧ k = 7 then y else if s = t ∧ k = 8 then zI N else am_gi h (148 + 4 * s) k) := fun s k hs => by
                rw [hh1, am_si_gi, am_si_gi, am_si_gi, gi_ne (by omega), (Eg.ag (t := 6) (by decide) (148 + 4 * s) k (tp_text hs)).1]
                by_cases e : s = t
                · subst e
                  rcases (show k = 6 ∨ k = 7 ∨ k = 8 ∨ (k ≠ 6 ∧ k ≠ 7 ∧ k ≠ 8) by omega) with rfl | rfl | rfl | ⟨n1, n2, n3⟩
                  · rw [if_neg (by omega), if_neg (by omega), if_pos ⟨rfl, rfl⟩, if_pos ⟨rfl, rfl⟩]
                  · rw [if_neg (by omega), if_pos ⟨rfl, rfl⟩, if_neg (by omega), if_pos ⟨rfl, rfl⟩]
                  · rw [if_pos ⟨rfl, rfl⟩, if_neg (by omega), if_neg (by omega), if_pos ⟨rfl, rfl⟩]
                  · rw [if_neg (by omega), if_neg (by omega), if_neg (by omega), if_neg (by omega), if_neg (by omega), if_neg (by omega)]
                · rw [if_neg (by omega), if_neg (by omega), if_neg (by omega), if_neg (by omega), if_neg (by omega), if_neg (by omega)]
              have h610 : am_gi h1 6 10 = am_gi h 6 10 + 1 := by rw [hh1]; (repeat (first | rw [gi_eq] | rw [gl_eq] | rw [gi_ne (by omega)] | rw [gl_ne (by omega)] | rw [gi_sl] | rw [gl_si]))
              have mm : ∀ a s, 240 ≤ a → a ≤ 246 → am_gi g2 a s = am_gi h a s := fun a s q1 q2 => by rw [(p2.2 a s (by omega)).1]; exact cell a s q1 q2
              refine ⟨rfl, nh, nm, nr, na, nt, nc, I.up X.1 (g6 := Or.inr (I.itx.x X ?_ (fun s hs => ?_) ?_ (fun s k q1 q2 => ?_))) (g11 := Or.inr (I.itr.xx X))⟩
              · rw [gi_eq]
                (repeat (first | rw [gi_eq] | rw [gl_eq] | rw [gi_ne (by omega)] | rw [gl_ne (by omega)] | rw [gi_sl] | rw [gl_si]))
                rw [cl 6 10 (by decide), h610, I36.1]
                have v1 : (1 : Int32).toInt = 1 := rfl
                have : (am_gi h 216 36 + 1).toInt = (am_gi h 216 36).toInt + 1 := by rw [i_add] <;> rw [v1] <;> omega
                rw [this]
                exact ⟨rfl, by omega, by omega⟩
              · have T2 := (I.itx.2.2.2.2.1 s hs).1
                have hNl : N < nt := by rw [hN]; exact tOn_lt bt.1
                unfold ITt
                by_cases e : s = t
                · subst e
                  (repeat (first | rw [gi_eq] | rw [gl_eq] | rw [gi_ne (by omega)] | rw [gl_ne (by omega)] | rw [gi_sl] | rw [gl_si]))
                  rw [cl _ 3 (by omega), cl _ 4 (by omega), cl _ 5 (by omega), cl _ 6 (by omega), cl _ 7 (by omega), cl _ 8 (by omega), h1c s 3 (by omega), h1c s 4 (by omega), h1c s 5 (by omega), h1c s 6 (by omega), h1c s 7 (by omega), h1c s 8 (by omega), mm 245 s (by decide) (by decide), mm 246 s (by decide) (by decide), mm 241 s (by decide) (by decide)]
                  rw [if_neg (by omega), if_neg (by omega), if_neg (by omega), if_neg (by omega), if_neg (by omega), if_neg (by omega), if_neg (by omega), if_neg (by omega), if_neg (by omega)]
                  rw [if_pos ⟨rfl, rfl⟩, if_neg (by omega), if_pos ⟨rfl, rfl⟩, if_neg (by omega), if_neg (by omega), if_pos ⟨rfl, rfl⟩]
                  refine ⟨T2.1, T2.2.1, T2.2.2.1, Or.inl ⟨rfl, I36.1, by omega⟩, rfl, rfl, Or.inr ?_⟩
                  rw [zI_toInt (by omega)]; omega
                · (repeat (first | rw [gi_eq] | rw [gl_eq] | rw [gi_ne (by omega)] | rw [gl_ne (by omega)] | rw [gi_sl] | rw [gl_si]))
                  rw [cl _ 3 (by omega), cl _ 4 (by omega), cl _ 5 (by omega), cl _ 6 (by omega), cl _ 7 (by omega), cl _ 8 (by omega), h1c s 3 (by omega), h1c s 4 (by omega), h1c s 5 (by omega), h1c s 6 (by omega), h1c s 7 (by omega), h1c s 8 (by omega), mm 240 s (by decide) (by decide), mm 241 s (by decide) (by decide), mm 242 s (by decide) (by decide), mm 243 s (by decide) (by decide), mm 244 s (by decide) (by decide), mm 245 s (by decide) (by decide), mm 246 s (by decide) (by decide)]
                  rw [if_neg (by omega), if_neg (by omega), if_neg (by omega), if_neg (by omega), if_neg (by omega), if_neg (by omega), if_neg (by omega), if_neg (by omega), if_neg (by omega), if_neg (by omega), if_neg (by omega), if_neg (by omega), if_neg (by omega), if_neg (by omega), if_neg (by omega), if_neg (by omega), if_neg (by omega), if_neg (by omega)]
                  exact T2
              · have t0 : ¬ 0 = t := fun e => by
                  have := I.itx.2.2.2.2.2.1.1; rw [e, hcr] at this; exact absurd this (by decide)
                (repeat (first | rw [gi_eq] | rw [gl_eq] | rw [gi_ne (by omega)] | rw [gl_ne (by omega)] | rw [gi_sl] | rw [gl_si]))
                rw [mm 240 0 (by decide) (by decide), mm 244 0 (by decide) (by decide)]; exact I.itx.2.2.2.2.2.1
              · (repeat (first | rw [gi_eq] | rw [gl_eq] | rw [gi_ne (by omega)] | rw [gl_ne (by omega)] | rw [gi_sl] | rw [gl_si]))
                rw [cl _ k (by omega), h1c s k q2, if_neg (by omega), if_neg (by omega), if_neg (by omega)]
          · -- too few
            have r1 : ¬ (0 : Int32) ≤ lg_cmp (zI (cnt (tb (am_gi h 245 t)) 32)).toInt64 (PT h nt nm 0 0 2) := fun z => hw ((lg_cmp_ge _ _).mp z)
            refine OPi.rd I (x := 0) (d := 12) (d' := 12) ?_ (fun h1 E => ?_)
            · refine ws113 _ _ Ly (Cl.i (p140 Ly (by omega) I.itx.2.1 _) (by decide) Ly ⟨fun z => absurd hx (bI_0.mp z), fun _ => ⟨fun z => absurd z hy1, fun _ => ⟨fun _ => ⟨i12, ?_⟩, fun z => absurd (i_ge.mp hy.2) z⟩⟩⟩)
              rw [tt]
              refine Cl.i P77 (by decide) Ly ⟨fun z => absurd (bI_n0.mp z) (not_not_intro hcr), fun _ => ?_⟩
              rw [T.2.2.1.1, T.1.1]
              exact ⟨fun _ => Cl.i (p262 _) (by decide) Ly (Cl.ql (c156 I) (by decide) (fun g p => ⟨p.lay Ly, fun z => absurd z r1, fun _ => ⟨rfl, p⟩⟩)), fun z => absurd hv z⟩
            · have I1 := I.keep E
              have A6 := E.ag (t := 6) (by decide)
              refine ws221 _ _ I1.lay (Cl.i (p219 I1.lay (n := nt) (by omega) I1.itx.2.2.1 _) (by decide) I1.lay ⟨fun z => absurd hx (bI_0.mp z), fun _ => ?_⟩)
              rw [(E.ag (t := 1) (by decide) 216 0 rfl).1]
              refine Cl.i (p167 I1.lay _ _ _) (by decide) I1.lay ⟨fun _ => ⟨i13, ?_⟩, fun z => absurd (bI_n0.mpr hy) z⟩
              rw [tt, (A6 240 t rfl).1, (A6 241 t rfl).1, (A6 245 t rfl).1]
              refine ⟨fun z => absurd hcr z, fun _ => ⟨i13, fun _ => ⟨i13, Cl.i (p190 I1.lay T.1.2) (by decide) I1.lay (Cl.ql (m213v I1.m) (by decide) (fun g2 p2 => ⟨p2.lay I1.lay, ?_⟩))⟩, fun z => absurd hv z⟩⟩
              rw [PT_ex E]
              exact ⟨fun z => absurd z r1, fun _ => ⟨rfl, p2.ex⟩⟩
        · refine OPi.pf I (x := -3) (d := 12) (d' := 12) ?_ ?_
          · refine ws113 _ _ Ly (Cl.i (p140 Ly (by omega) I.itx.2.1 _) (by decide) Ly ⟨fun z => absurd hx (bI_0.mp z), fun _ => ⟨fun z => absurd z hy1, fun _ => ⟨fun _ => ⟨i12, ?_⟩, fun z => absurd (i_ge.mp hy.2) z⟩⟩⟩)
            rw [tt]
            refine Cl.i P77 (by decide) Ly ⟨fun z => absurd (bI_n0.mp z) (not_not_intro hcr), fun _ => ?_⟩
            rw [T.2.2.1.1]
            exact ⟨fun z => absurd z hv, fun _ => ⟨rfl, rfl⟩⟩
          · refine ws221 _ _ Ly (Cl.i (p219 Ly (n := nt) (by omega) I.itx.2.2.1 _) (by decide) Ly ⟨fun z => absurd hx (bI_0.mp z), fun _ => Cl.i (p167 Ly _ _ _) (by decide) Ly ⟨fun _ => ⟨i13, ?_⟩, fun z => absurd (bI_n0.mpr hy) z⟩⟩)
            rw [tt]
            exact ⟨fun z => absurd hcr z, fun _ => ⟨i13, fun z => absurd z hv, fun _ => ⟨rfl, rfl⟩⟩⟩
      · refine OPi.pf I (x := -3) (d := 12) (d' := 12) ?_ ?_
        · refine ws113 _ _ Ly (Cl.i (p140 Ly (by omega) I.itx.2.1 _) (by decide) Ly ⟨fun z => absurd hx (bI_0.mp z), fun _ => ⟨fun z => absurd z hy1, fun _ => ⟨fun _ => ⟨i12, ?_⟩, fun z => absurd (i_ge.mp hy.2) z⟩⟩⟩)
          rw [tt]
          exact Cl.i P77 (by decide) Ly ⟨fun _ => ⟨rfl, rfl⟩, fun z => absurd (bI_n0.mpr hcr) z⟩
        · refine ws221 _ _ Ly (Cl.i (p219 Ly (n := nt) (by omega) I.itx.2.2.1 _) (by decide) Ly ⟨fun z => absurd hx (bI_0.mp z), fun _ => Cl.i (p167 Ly _ _ _) (by decide) Ly ⟨fun _ => ⟨i13, ?_⟩, fun z => absurd (bI_n0.mpr hy) z⟩⟩)
          rw [tt]
          exact ⟨fun _ => ⟨rfl, rfl⟩, fun z => absurd hcr z⟩
    · refine OPi.pf I (x := -2) (d := 12) (d' := 12) ?_ ?_
      · exact ws113 _ _ Ly (Cl.i (p140 Ly (by omega) I.itx.2.1 _) (by decide) Ly ⟨fun z => absurd hx (bI_0.mp z), fun _ => ⟨fun _ => ⟨rfl, rfl⟩, fun a => ⟨fun z => absurd ⟨by rw [← I.ida.1]; exact a, i_ge.mpr z⟩ hy, fun _ => ⟨rfl, rfl⟩⟩⟩⟩)
      · exact ws221 _ _ Ly (Cl.i (p219 Ly (n := nt) (by omega) I.itx.2.2.1 _) (by decide) Ly ⟨fun z => absurd hx (bI_0.mp z), fun _ => Cl.i (p167 Ly _ _ _) (by decide) Ly ⟨fun z => absurd (bI_n0.mp z) hy, fun _ => ⟨rfl, rfl⟩⟩⟩)
  · refine OPi.pf I (x := -2) (d := 12) (d' := 12) ?_ ?_
    · exact ws113 _ _ Ly (Cl.i (p140 Ly (by omega) I.itx.2.1 _) (by decide) Ly ⟨fun _ => ⟨rfl, rfl⟩, fun z => absurd (bI_n0.mp z) hx⟩)
    · exact ws221 _ _ Ly (Cl.i (p219 Ly (n := nt) (by omega) I.itx.2.2.1 _) (by decide) Ly ⟨fun _ => ⟨rfl, rfl⟩, fun z => absurd (bI_n0.mp z) hx⟩)
