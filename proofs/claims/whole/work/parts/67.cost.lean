/-! COST 7: the call -/
theorem tp_pc {a k : Nat} (z : (a = 216 ∧ k = 0) ∨ (217 ≤ a ∧ a ≤ 219) ∨ (222 ≤ a ∧ a ≤ 227) ∨ (237 ≤ a ∧ a ≤ 243)) : tp a k ∉ [0, 8] := by
  have : tp a k = 1 ∨ tp a k = 2 ∨ tp a k = 3 ∨ tp a k = 6 := by
    rcases z with ⟨rfl, rfl⟩ | z | z | z
    · exact Or.inl rfl
    · refine Or.inr (Or.inl ?_); unfold tp; (repeat' (first | rw [if_pos (by omega)] | rw [if_neg (by omega)]))
    · refine Or.inr (Or.inr (Or.inl ?_)); unfold tp; (repeat' (first | rw [if_pos (by omega)] | rw [if_neg (by omega)]))
    · refine Or.inr (Or.inr (Or.inr ?_)); unfold tp; (repeat' (first | rw [if_pos (by omega)] | rw [if_neg (by omega)]))
  rcases this with e | e | e | e <;> (rw [e]; decide)
theorem Ex.pc {h h' : AH} (E : Ex [0, 8] h h') : PC h h' := fun a k z => E.2 a k (tp_pc z)
theorem tp_m5 {a k : Nat} (z : 124 ≤ a ∧ a < 148 ∧ k = 5) : tp a k = 3 := by
  obtain ⟨z1, z2, z3⟩ := z
  obtain ⟨i, rfl⟩ : ∃ i, a = 124 + i := ⟨a - 124, by omega⟩
  exact tp_member (by omega)
theorem DC.ex {g0 g : AH} {f : Nat → Int64} (D : DC g0 f g) : Ex [3] g0 g := ⟨D.1, fun a k e => ⟨D.2.1 a k, D.2.2.1 a k (fun z => e (by rw [tp_m5 z]; decide))⟩⟩
theorem DN.ex {g0 g : AH} {f : Nat → Int64} (D : DN g0 f g) : Ex [3] g0 g := ⟨D.1, fun a k e => ⟨D.2.1 a k, D.2.2.1 a k (fun z => e (by rw [z]; exact List.mem_singleton.mpr rfl))⟩⟩
/-- the class's part: what it leaves -/
def CoC (h : AH) (nh nr nc : Nat) (Qf : Nat → Int32) (g3 : AH) : Prop := ∃ g', Ex [0, 8] h g' ∧ (∀ a k, 216 ≤ a → a < 263 → tp a k = 8 → am_gi g' a k = am_gi h a k) ∧ am_gi g' 105 1 = zI (nc + 1) ∧ (∀ j, j < 12 → am_gi g' 106 (12 * nc + j) = Qf j) ∧ (∀ k, k < 12 * nc → am_gi g' 106 k = am_gi h 106 k) ∧ DC g' (fold (dB1 h nr Qf) (fun m => am_gl h 227 m) 0 nh) g3
theorem c127 {L : Nat} {xs : Nat → Int32} {c : Nat} {h : AH} {nh nm nr na nt nc : Nat} (I : InvN L xs c h nh nm nr na nt nc) {x : Int32} (z1 : inR x 1 1000000) (hn : nc < 30) (hT : 0 < (tot h nt nm nr nh).toInt) {s : Nat} (hs : s < 12) (es : lF x (hwz h nt nm nr nh) (tot h nt nm nr nh) 12 = zI s) : Cl 13 127 [.ref 6, .int x] h (fun r g => r = some (.int (zI nc)) ∧ CoC h nh nr nc (giv 12 (-1) s (qF x (hwz h nt nm nr nh) (tot h nt nm nr nh)) (rF x (hwz h nt nm nr nh) (tot h nt nm nr nh))) g) := by
  have Ly := I.lay
  have x1 : (1 : Int32).toInt ≤ x.toInt := i_le.mp (i_ge.mp z1.1)
  have x2 : x.toInt ≤ (1000000 : Int32).toInt := i_le.mp (i_ge.mp z1.2)
  refine ws127 _ Ly ⟨fun z => absurd z z1.1, fun _ => ⟨fun _ => ?_, fun z => absurd (i_le.mpr x2) z⟩⟩
  refine Cl.qv (c165 I) (by decide) (fun g1 W => ⟨W.1.lay Ly, ⟨fun _ => ⟨fun _ => ?_, fun z => absurd ?_ z⟩, fun z => absurd ?_ z⟩⟩)
  · have e1 : am_gi g1 105 1 = zI nc := (W.1.ag (t := 8) (by decide) 105 1 rfl).1.trans I.ics.2.1
    have L1 := W.1.lay Ly
    refine Cl.qi (c27 L1 (c := x) (w := hwz h nt nm nr nh) (T := tot h nt nm nr nh) (s := s) hn e1 hT (fun j hj => W.2.1 j hj) W.2.2 hs es) (by decide) (fun g' q => ?_)
    obtain ⟨g2, eg, D, J⟩ := q
    generalize giv 12 (-1) s (qF x (hwz h nt nm nr nh) (tot h nt nm nr nh)) (rF x (hwz h nt nm nr nh) (tot h nt nm nr nh)) = Qf at J
    have O : OC [0, 8] g1 g' := by rw [eg]; exact D.1.si (by omega) (by decide)
    have E : Ex [0, 8] h g' := (W.1.wk (fun t ht => by rw [List.mem_singleton.mp ht]; decide)).tr O.ex
    have L' := E.lay Ly
    refine ⟨L', ?_⟩
    have k106 : ∀ k, am_gi g' 106 k = am_gi g2 106 k := fun k => by rw [eg, gi_ne (by omega)]
    have V : vCR g' nr (rR h) := ⟨I.iri.1, by rw [(E.ag (t := 4) (by decide) 9 1 rfl).1]; exact I.iri.2.1, fun i hi k hk => by rw [(E.ag (t := 4) (by decide) (11 + i) k (tp_right (by have := I.iri.1; omega))).1]; exact I.iri.2.2.2 i hi k hk⟩
    refine Ev.mono (l127 I L' (k := nc) (Q := Qf) V (by rw [(E.ag (t := 2) (by decide) 6 2 rfl).1]; exact I.iho.2.1) (by rw [(E.ag (t := 1) (by decide) 6 0 rfl).1]; exact I.ida.1) hn (by rw [eg, gi_eq]) (fun j hj => by rw [k106]; exact J j hj) nh 0 g' (fun m => am_gl h 227 m) (by omega) ⟨Sm.rfl' _, fun _ _ => rfl, fun _ _ _ => rfl, fun m hm => ?_⟩) (by decide) (fun r g3 q => ⟨q.1, g', E, fun a k h1 h2 h8 => ?_, by rw [eg, gi_eq], fun j hj => by rw [k106]; exact J j hj, fun k hk => ?_, q.2⟩)
    · rw [(E.ag (t := 3) (by decide) (124 + m) 5 (tp_member hm)).2]; exact (I.ime.2.2.2.1 m hm).2.2
    · rw [O.gi ⟨h1, h2⟩]; exact (W.1.ag (t := 8) (by decide) a k h8).1
    · rw [k106, D.2.2.2.2 k hk]; exact (W.1.ag (t := 8) (by decide) 106 k rfl).1
  · rw [(W.1.ag (t := 8) (by decide) 105 1 rfl).1, I.ics.2.1]; exact (zI_lt (m := nc) (n := 30) (by omega) (by decide)).mpr hn
  · rw [W.2.2, lg0]; intro y; rw [y] at hT; exact absurd hT (by decide)
theorem c127n {L : Nat} {xs : Nat → Int32} {c : Nat} {h : AH} {nh nm nr na nt nc : Nat} (I : InvN L xs c h nh nm nr na nt nc) {x : Int32} (z1 : inR x 1 1000000) (hn : nc = 30 ∨ tot h nt nm nr nh = 0) : Cl 13 127 [.ref 6, .int x] h (fun r g => r = some (.int (if tot h nt nm nr nh = 0 then -3 else -4)) ∧ Ex [0] h g) := by
  have Ly := I.lay
  have x1 : (1 : Int32).toInt ≤ x.toInt := i_le.mp (i_ge.mp z1.1)
  have x2 : x.toInt ≤ (1000000 : Int32).toInt := i_le.mp (i_ge.mp z1.2)
  refine ws127 _ Ly ⟨fun z => absurd z z1.1, fun _ => ⟨fun _ => ?_, fun z => absurd (i_le.mpr x2) z⟩⟩
  refine Cl.qv (c165 I) (by decide) (fun g1 W => ⟨W.1.lay Ly, ⟨fun y => ⟨fun z => absurd ?_ y, fun z => ⟨?_, W.1⟩⟩, fun y => ⟨?_, W.1⟩⟩⟩)
  · rcases hn with e | e
    · rw [(W.1.ag (t := 8) (by decide) 105 1 rfl).1, I.ics.2.1, e] at z; exact absurd z (by decide)
    · rw [W.2.2, lg0]; exact e
  · rw [W.2.2, lg0] at y; rw [if_neg y]
  · rw [W.2.2, lg0] at y; rw [if_pos (Decidable.not_not.mp y)]
theorem m244 {L : Nat} {xs : Nat → Int32} {c : Nat} {h h1 : AH} {nh nm nr na nt nc : Nat} (I : InvN L xs c h nh nm nr na nt nc) (L1 : Lay h1) (G : ∀ a k, ((216 ≤ a ∧ a < 263 ∧ tp a k = 8) ∨ tp a k ∉ [0, 8]) → am_gi h1 a k = am_gi h a k) (P : PC h h1) {x : Int32} (z1 : inR x 1 1000000) {Q : Option Value → AH → Prop} (K : ∀ g, MW h h1 nt nm nr nh g → Ev 12 244 18 [.ref 216, .int x, .long (tot h nt nm nr nh), .null, .int (zI nh), .null, .null, .null] [] g Q) : Cl 12 244 [.ref 216, .int x] h1 Q := by
  refine ws244 _ L1 (Cl.i (p167 L1 _ _ _) (by decide) L1 ⟨fun _ => ?_, fun z => absurd (bI_n0.mpr z1) z⟩)
  have J : InvM L xs c h1 nh nm nr na nt nc := I.m.mv L1 (G 216 7 (Or.inr (by decide))) (G 216 23 (Or.inr (by decide))) (fun a k a1 a2 => G a k (Or.inr (tp_pc (by omega))))
  have V : vMR h1 nr (rR h) := ⟨I.iri.1, by rw [G 216 14 (Or.inr (by decide))]; exact I.iri.2.2.1, fun i hi k hk => G _ _ (Or.inr (by rw [tp_rr hk]; decide))⟩
  exact l244 I J V (by rw [G 216 1 (Or.inr (by decide))]; exact I.iho.2.2.1) (G 216 0 (Or.inr (by decide))) P (by decide) K nh 0 h1 (by omega) ⟨Ex.rf _ _, fun j hj => absurd hj (by omega)⟩
theorem op_cost {L : Nat} {xs : Nat → Int32} {c : Nat} {h : AH} {nh nm nr na nt nc : Nat} (I : InvN L xs c h nh nm nr na nt nc) (x : Int32) : OPi 127 244 [.int x] L xs c h := by
  have Ly := I.lay
  have b := I.iho.1
  have bc := I.ics.1
  by_cases z1 : inR x 1 1000000
  · have x1 : (1 : Int32).toInt ≤ x.toInt := i_le.mp (i_ge.mp z1.1)
    have x2 : x.toInt ≤ (1000000 : Int32).toInt := i_le.mp (i_ge.mp z1.2)
    have x1' : 1 ≤ x.toInt := x1
    have x2' : x.toInt ≤ 1000000 := x2
    have T0 := tot_i h nt nm nr nh b
    by_cases z2 : nc = 30 ∨ tot h nt nm nr nh = 0
    · refine OPi.gx (c127n I z1 z2) (d' := 12) (fun g E => ⟨E.lay Ly, I.ico.ex E (by decide), ?_⟩)
      refine m244 I (E.lay Ly) (fun a k z => (E.2 a k ?_).1) (fun a k z => E.2 a k (fun y => tp_pc z (List.mem_cons.mpr (Or.inl (List.mem_singleton.mp y))))) z1 (fun g2 W => ?_)
      · intro y; have y := List.mem_singleton.mp y
        rcases z with z | z
        · rw [z.2.2] at y; exact absurd y (by decide)
        · exact z (List.mem_cons.mpr (Or.inl y))
      · have e1 : am_gi g2 216 1 = zI nh := ((W.1.ag (t := 2) (by decide) 216 1 rfl).1.trans (E.ag (t := 2) (by decide) 216 1 rfl).1).trans I.iho.2.2.1
        have e39 : am_gi g2 216 39 = zI nc := ((W.1.ag (t := 8) (by decide) 216 39 rfl).1.trans (E.ag (t := 8) (by decide) 216 39 rfl).1).trans I.ics.2.2.1
        have J := I.sc (E.tr W.1)
        refine ws244_18 _ _ _ ((E.tr W.1).lay Ly) ⟨fun _ => ⟨fun y => ⟨fun z => absurd ?_ z, fun z => ⟨?_, J⟩⟩, fun y => ⟨?_, J⟩⟩, fun z => absurd (by rw [e1]; exact (zI_le (by omega) (by omega)).mpr (by omega)) z⟩
        · rw [lg0] at y
          rw [e39, z2.resolve_right y]; rfl
        · rw [lg0] at y; rw [if_neg y]
        · rw [lg0] at y; rw [if_pos (Decidable.not_not.mp y)]
    · have hn : nc < 30 := by omega
      have hT0 : tot h nt nm nr nh ≠ 0 := fun e => z2 (Or.inr e)
      have hT : 0 < (tot h nt nm nr nh).toInt := by
        have : (tot h nt nm nr nh).toInt ≠ 0 := fun e => hT0 (Int64.toInt_inj.mp (e.trans rfl))
        omega
      have h1 : 1 ≤ nh := by
        by_cases z : nh = 0
        · subst z; exact absurd rfl hT0
        · omega
      obtain ⟨s, hs, es, eg⟩ := give (c := x) (w := hwz h nt nm nr nh) (T := tot h nt nm nr nh) (nh := nh) h1 b (by omega) x2' (fun j _ => hwz_b ..) (fun j j1 _ => by unfold hwz; rw [if_neg (by omega)]) (tot_w h nt nm nr b) hT
      have Cc := c127 I z1 hn hT hs es
      rw [eg] at Cc
      generalize eW : hwz h nt nm nr nh = w at es eg Cc
      generalize eT : tot h nt nm nr nh = T at es eg Cc hT hT0
      generalize eQ : giv nh 0 s (qF x w T) (rF x w T) = Qf at Cc
      refine OPi.gx Cc (d' := 12) (fun h1' q => ?_)
      obtain ⟨g', E, E8, c1, c2, c3, D⟩ := q
      have L' := E.lay Ly
      have L1 : Lay h1' := D.1.lay L'
      have G : ∀ a k, ((216 ≤ a ∧ a < 263 ∧ tp a k = 8) ∨ tp a k ∉ [0, 8]) → am_gi h1' a k = am_gi h a k := fun a k z => by
        rw [D.2.1]
        rcases z with z | z
        · exact E8 a k z.1 z.2.1 z.2.2
        · exact (E.2 a k z).1
      have PP : PC h h1' := fun a k z => ⟨G a k (Or.inr (tp_pc z)), by rw [D.2.2.1 a k (by omega)]; exact (E.2 a k (tp_pc z)).2⟩
      refine ⟨L1, (I.ico.ex E (by decide)).ex D.ex (by decide), m244 I L1 G PP z1 (fun g W => ?_)⟩
      have Lg := W.1.lay L1
      have e1 : am_gi g 216 1 = zI nh := ((W.1.ag (t := 2) (by decide) 216 1 rfl).1.trans (G 216 1 (Or.inr (by decide)))).trans I.iho.2.2.1
      have e39 : am_gi g 216 39 = zI nc := ((W.1.ag (t := 8) (by decide) 216 39 rfl).1.trans (G 216 39 (Or.inl (by decide)))).trans I.ics.2.2.1
      rw [eT]
      refine ws244_18 _ _ _ Lg ⟨fun _ => ⟨fun y => ⟨fun _ => ?_, fun z => absurd ?_ z⟩, fun y => absurd ?_ y⟩, fun z => absurd (by rw [e1]; exact (zI_le (by omega) (by omega)).mpr (by omega)) z⟩
      · refine l143 Lg (c := x) (w := w) (T := T) hn b e39 e1 hT0 (fun j hj => by rw [W.2 j hj, ← eW]; unfold hwz; rw [if_pos hj]) (fun j j1 _ => by rw [← eW]; unfold hwz; rw [if_neg (by omega)]) (fun g4 D4 J4 => ?_) 12 0 g (by omega) (DM.rf _ _) (fun j hj => absurd hj (by omega))
        rw [es]
        refine l235 Lg h1 b hn e39 e1 s g4 (qF x w T) (rF x w T) hs D4 J4 (fun g5 D5 J5 => ?_)
        rw [eQ] at J5
        have L5 := D5.1.lay Lg
        have A5 : ∀ a k, tp a k ∉ [0, 8] → am_gi g5 a k = am_gi h a k := fun a k z => by
          rw [(D5.1.2 a k (Or.inr z)).1, (W.1.2 a k (fun y => z (List.mem_cons.mpr (Or.inl (List.mem_singleton.mp y))))).1]; exact G a k (Or.inr z)
        have V5 : vMR g5 nr (rR h) := ⟨I.iri.1, by rw [A5 216 14 (by decide)]; exact I.iri.2.2.1, fun i hi k hk => A5 _ _ (by rw [tp_rr hk]; decide)⟩
        refine Ev.mono (l324 I L5 (Q := Qf) V5 (by rw [D5.2.1]; exact e1) (A5 216 0 (by decide)) hn (by rw [D5.2.1]; exact e39) J5 nh 0 g5 (fun m => am_gl h 227 m) (by omega) ⟨Sm.rfl' _, fun _ _ => rfl, fun _ _ _ => rfl, fun m hm => ?_⟩) (Nat.le_refl _) (fun r g6 q => ⟨q.1, ?_⟩)
        · rw [(D5.1.2 227 m (Or.inr (show 3 ∉ [0, 8] by decide))).2, (W.1.ag (t := 3) (by decide) 227 m rfl).2, (PP 227 m (by omega)).2]
        · obtain ⟨g7, e6, N⟩ := q.2
          have B6 : ∀ a k, ¬ (a = 216 ∧ k = 39) → am_gi g6 a k = am_gi g5 a k := fun a k z => by rw [e6, gi_ne (by omega), N.2.1]
          have A6 : ∀ a k, tp a k ∉ [0, 8] → am_gi g6 a k = am_gi h a k := fun a k z => by rw [B6 a k (fun y => z (by rw [y.1, y.2]; decide))]; exact A5 a k z
          have ET : Ex [0, 3, 8] h g6 := by
            have s0 : ∀ t ∈ [0], t ∈ [0, 3, 8] := by decide
            have s3 : ∀ t ∈ [3], t ∈ [0, 3, 8] := by decide
            have s8 : ∀ t ∈ [0, 8], t ∈ [0, 3, 8] := by decide
            have q7 : Ex [0, 3, 8] h g7 := ((((E.wk s8).tr (D.ex.wk s3)).tr (W.1.wk s0)).tr (D5.1.ex.wk s8)).tr (N.ex.wk s3)
            rw [e6]
            exact q7.tr ((OM.rf [0, 3, 8] g7).si (by omega) (by decide)).ex
          have l6 : ∀ m, m < 24 → am_gl g6 227 m = fold (dB1 h nr Qf) (fun m => am_gl h 227 m) 0 nh m := fun m hm => by rw [e6, gl_si]; exact N.2.2.2 m hm
          have k6 : ∀ m, m < 24 → am_gl g6 (124 + m) 5 = fold (dB1 h nr Qf) (fun m => am_gl h 227 m) 0 nh m := fun m hm => by
            rw [e6, gl_si, N.2.2.1 _ _ (by omega), D5.1.gl (by omega), (W.1.2 (124 + m) 5 (by rw [tp_member hm]; decide)).2]; exact D.2.2.2 m hm
          refine ⟨nh, nm, nr, na, nt, nc + 1, I.up ET (g3 := Or.inr ?_) (gx1 := Or.inr ?_) (gx2 := Or.inr ?_) (g8 := Or.inr ?_)⟩
          · have t3 : ∀ i k, i < 24 → am_gi g6 (124 + i) k = am_gi h (124 + i) k := fun i k hi => A6 _ _ (by rw [tp_member hi]; decide)
            have t4 : ∀ a i, 222 ≤ a → a ≤ 227 → am_gi g6 a i = am_gi h a i := fun a i a1 a2 => A6 _ _ (tp_pc (by omega))
            refine ⟨I.ime.1, by rw [A6 6 4 (by decide)]; exact I.ime.2.1, by rw [A6 216 7 (by decide)]; exact I.ime.2.2.1, fun j hj => ?_, fun j hj => ?_, fun j j1 hj => ?_⟩
            · rw [t3 j 4 hj, t4 226 j (by decide) (by decide), l6 j hj, k6 j hj]; exact ⟨(I.ime.2.2.2.1 j hj).1, (I.ime.2.2.2.1 j hj).2.1, rfl⟩
            · have hj' : j < 24 := Nat.lt_of_lt_of_le hj I.ime.1
              rw [t3 j 0 hj', t3 j 1 hj', t3 j 2 hj', t3 j 3 hj', t4 222 j (by decide) (by decide), t4 223 j (by decide) (by decide), t4 224 j (by decide) (by decide), t4 225 j (by decide) (by decide)]; exact I.ime.2.2.2.2.1 j hj
            · rw [t3 j 2 hj, t3 j 3 hj]; exact I.ime.2.2.2.2.2 j j1 hj
          · refine ⟨by omega, ?_, by rw [e6, gi_eq], fun i hi => ?_⟩
            · rw [B6 105 1 (by omega), D5.1.gi (by omega), (W.1.ag (t := 8) (by decide) 105 1 rfl).1, D.2.1]; exact c1
            · rw [B6 106 i (by omega), B6 247 i (by omega), D5.1.gi (a := 106) (by omega), (W.1.ag (t := 8) (by decide) 106 i rfl).1, D.2.1]
              by_cases z : i < 12 * nc
              · rw [c3 i z, D5.2.2.2 i z, (W.1.ag (t := 8) (by decide) 247 i rfl).1, G 247 i (Or.inl ⟨by decide, by decide, rfl⟩)]
                exact I.ics.2.2.2 i z
              · obtain ⟨j, rfl⟩ : ∃ j, i = 12 * nc + j := ⟨i - 12 * nc, by omega⟩
                rw [c2 j (by omega), J5 j (by omega)]
          · intro j hj; rw [A6 223 j (tp_pc (by omega)), A6 224 j (tp_pc (by omega)), A6 225 j (tp_pc (by omega)), A6 216 0 (by decide)]; exact I.ix1 j hj
          · intro i hi j hj; rw [A6 224 j (tp_pc (by omega)), A6 (112 + i) 4 (by rw [tp_home hi]; decide), A6 221 i (show 2 ∉ [0, 8] by decide)]; exact I.ix2 i hi j hj
      · rw [e39]; intro y; exact absurd ((zI_inj (m := nc) (n := 30) (by omega) (by decide)).mp y) (by omega)
      · rw [lg0]; exact hT0
  · refine OPi.pf I (x := -2) (d := 1) (d' := 1) (ws127 _ Ly ⟨fun _ => ⟨rfl, rfl⟩, fun y => ⟨fun z => absurd ⟨y, fun w => absurd z (i_gt.mpr w)⟩ z1, fun _ => ⟨rfl, rfl⟩⟩⟩) (ws244 _ Ly (Cl.i (p167 Ly _ _ _) (by decide) Ly ⟨fun z => absurd (bI_n0.mp z) z1, fun _ => ⟨rfl, rfl⟩⟩))
