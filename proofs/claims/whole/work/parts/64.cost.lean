/-! COST 4: the reference weighs -/
def MW (h h1 : AH) (nt nm nr : Nat) (i : Nat) (g : AH) : Prop := Ex [0] h1 g ∧ ∀ j, j < i → am_gl g 261 j = hw h nt nm nr j
theorem m213c {L : Nat} {xs : Nat → Int32} {c : Nat} {h : AH} {nh nm nr na nt nc : Nat} (I : InvM L xs c h nh nm nr na nt nc) {m hm : Nat} (h1 : m < 24) (h2 : hm < 12) : Cl 3 213 [.ref 216, .int 3, .int (zI m), .int (zI hm)] h (fun r h' => r = some (.long (PT h nt nm m hm 3)) ∧ SM h h') :=
  m213_m I (k := 3) (by decide) (fun w g h0 h8 al S Lg => by
    have al' : w = 1 ∨ w = 2 ∨ w = 5 ∨ w = 6 := by unfold alw at al; rw [if_neg (by decide), if_neg (by decide)] at al; exact al
    have : w.toInt < 7 := by rcases al' with rfl | rfl | rfl | rfl <;> decide
    rw [← nmF_ex S.ex]
    exact p211a Lg nm h1 h2 h0 this)
theorem e63 {d : Nat} {c : Int32} {t y : Int64} {i : Nat} {g : AH} {Q : Option Value → AH → Prop} (Lg : Lay g) (hi : i < 12) (K : Ev (d + 1) 244 18 [.ref 216, .int c, .long (t + cl6 y), .null, .int (zI (i + 1)), .null, .null, .null] [] (am_sl g 261 i (cl6 y)) Q) : Ev (d + 1) 244 63 [.ref 216, .int c, .long t, .null, .int (zI i), .null, .null, .null] [.long y] g Q := by
  have e0 : (0 : Int64).toInt = 0 := rfl
  have e1 : (1000000 : Int64).toInt = 1000000 := rfl
  have it : am_in (zI i) 12 := in_zI hi (by decide)
  have st : ∀ v : Int64, v = cl6 y → Ev (d + 1) 244 99 [.ref 216, .int c, .long t, .null, .int (zI i), .null, .null, .null] [.long v, .int (zI i), .ref 261] g Q := fun v ev => by
    refine ws244_99 _ _ _ _ _ Lg ⟨it, fun h2 e2 => ⟨it, ?_⟩⟩
    rw [zI_tn (by omega)] at e2
    rw [zI_tn (by omega), e2, gl_eq, ev, zI_succ]
    exact K
  refine ws244_63 _ _ _ _ Lg ⟨fun z => ⟨fun w => st _ ?_, fun w => st _ ?_⟩, fun z => st _ ?_⟩
  · rw [lg_cmp_ge, l_le] at z; rw [lg_cmp_le, l_le] at w
    unfold cl6; rw [if_neg (by rw [l_lt]; omega), if_neg (by rw [l_lt]; omega)]
  · rw [lg_cmp_ge, l_le] at z; rw [lg_cmp_le, l_le] at w
    unfold cl6; rw [if_neg (by rw [l_lt]; omega), if_pos (by rw [l_lt]; omega)]
  · rw [lg_cmp_ge, l_le] at z
    unfold cl6; rw [if_pos (by rw [l_lt]; omega)]
theorem l244 {L : Nat} {xs : Nat → Int32} {c : Nat} {h h1 : AH} {nh nm nr na nt nc : Nat} (I : InvN L xs c h nh nm nr na nt nc) (J : InvM L xs c h1 nh nm nr na nt nc) (V : vMR h1 nr (rR h)) (en : am_gi h1 216 1 = zI nh) (e0 : am_gi h1 216 0 = am_gi h 216 0) (PC1 : PC h h1) {x : Int32} {d : Nat} (hd : 5 ≤ d) {Q : Option Value → AH → Prop} (K : ∀ g, MW h h1 nt nm nr nh g → Ev (d + 1) 244 18 [.ref 216, .int x, .long (tot h nt nm nr nh), .null, .int (zI nh), .null, .null, .null] [] g Q) : ∀ m i g, i + m = nh → MW h h1 nt nm nr i g → Ev (d + 1) 244 18 [.ref 216, .int x, .long (tot h nt nm nr i), .null, .int (zI i), .null, .null, .null] [] g Q
  | 0, i, g, e, W => by
    have e' : i = nh := by omega
    subst e'
    exact K g W
  | m + 1, i, g, e, W => by
    have b := I.iho.1
    have b2 := I.ime.1
    have b3 := I.iri.1
    have E := W.1
    have Lg := E.lay J.lay
    have Vg : vMR g nr (rR h) := ⟨V.1, by rw [(E.ag (t := 4) (by decide) 216 14 rfl).1]; exact V.2.1, fun i hi k hk => ((E.ag (t := 4) (by decide)).rR hk).trans (V.2.2 i hi k hk)⟩
    have nx : ∀ (y : Int64) g', Ex [0] h1 g' → (∀ j, j < i → am_gl g' 261 j = hw h nt nm nr j) → hw h nt nm nr i = cl6 y → Ev (d + 1) 244 63 [.ref 216, .int x, .long (tot h nt nm nr i), .null, .int (zI i), .null, .null, .null] [.long y] g' Q := fun y g' E' W' ey => by
      refine e63 (E'.lay J.lay) (by omega) ?_
      rw [← ey, ← tot_s]
      refine l244 I J V en e0 PC1 hd K m (i + 1) _ (by omega) ⟨E'.tr ((OM.rf [0] g').sl (a := 261) (k := i) (by omega) (List.mem_singleton.mpr rfl)).ex, fun j hj => ?_⟩
      by_cases z : j = i
      · subst z; exact gl_eq
      · rw [gl_ne (by omega)]; exact W' j (by omega)
    refine ws244_18 _ _ _ Lg ⟨fun z => absurd z (by rw [(E.ag (t := 2) (by decide) 216 1 rfl).1, en, zI_le (by omega) (by omega)]; omega), fun _ => ?_⟩
    rw [(E.ag (t := 1) (by decide) 216 0 rfl).1, e0]
    refine Cl.i (p173 Lg Vg _ _) (by omega) Lg ⟨fun z => ?_, fun z => ?_⟩
    · obtain ⟨r, hr, er, em, lm⟩ := hoF_ne I (i := i) z
      have w1 : hw h nt nm nr i = cl6 (PT h nt nm (hlF h nr i) i 3) := by unfold hw; rw [if_neg (show ¬ hoF h nr i = -1 from z)]
      generalize hlF h nr i = M at em lm w1
      rw [show fHo (rR h) nr (zI i) (am_gi h 216 0) = zI r from er, zI_tn (show r < 2147483648 by omega), show am_gi g 230 r = zI M from (Vg.2.2 r hr 2 (by decide)).trans em]
      refine ⟨in_zI (by omega) (by decide), Cl.ql (m213c (J.keep E) (m := M) (hm := i) (by omega) (by omega)) (by omega) (fun g2 S => ⟨S.ex.lay Lg, ?_⟩)⟩
      rw [PT_ex E, PT_pc PC1]
      exact nx _ g2 (E.tr S.ex) (fun j hj => by rw [(S.2 261 j (by decide)).2]; exact W.2 j hj) w1
    · refine nx 0 g E W.2 ?_
      unfold hw; rw [if_pos (show hoF h nr i = -1 from Decidable.not_not.mp z)]; rfl
