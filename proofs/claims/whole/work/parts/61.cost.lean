/-! COST 1: what each home weighs -/
def cl6 (y : Int64) : Int64 := if y < 0 then 0 else if 1000000 < y then 1000000 else y
theorem l_lt {x y : Int64} : x < y ↔ x.toInt < y.toInt := Int64.lt_iff_toInt_lt
theorem l_le {x y : Int64} : x ≤ y ↔ x.toInt ≤ y.toInt := Int64.le_iff_toInt_le
theorem cl6_b (y : Int64) : 0 ≤ (cl6 y).toInt ∧ (cl6 y).toInt ≤ 1000000 := by
  have e0 : (0 : Int64).toInt = 0 := rfl
  have e1 : (1000000 : Int64).toInt = 1000000 := rfl
  unfold cl6
  by_cases h1 : y < 0
  · rw [if_pos h1, e0]; decide
  · rw [if_neg h1]
    by_cases h2 : 1000000 < y
    · rw [if_pos h2, e1]; decide
    · rw [if_neg h2]
      rw [l_lt, e0] at h1; rw [l_lt, e1] at h2; omega
def hoF (h : AH) (nr i : Nat) : Int32 := fHo (rR h) nr (zI i) (am_gi h 216 0)
def hlF (h : AH) (nr i : Nat) : Nat := Int32.toNatClampNeg (rR h 2 (Int32.toNatClampNeg (hoF h nr i)))
def hw (h : AH) (nt nm nr i : Nat) : Int64 := if hoF h nr i = -1 then 0 else cl6 (PT h nt nm (hlF h nr i) i 3)
theorem hw_b (h : AH) (nt nm nr i : Nat) : 0 ≤ (hw h nt nm nr i).toInt ∧ (hw h nt nm nr i).toInt ≤ 1000000 := by
  unfold hw
  by_cases z : hoF h nr i = -1
  · rw [if_pos z]; decide
  · rw [if_neg z]; exact cl6_b _
def tot (h : AH) (nt nm nr : Nat) (n : Nat) : Int64 := fold (fun a i => a + hw h nt nm nr i) 0 0 n
theorem tot_s (h : AH) (nt nm nr n : Nat) : tot h nt nm nr (n + 1) = tot h nt nm nr n + hw h nt nm nr n := by
  unfold tot; rw [fold_succ, Nat.zero_add]
theorem c26 {h : AH} (Ly : Lay h) {i : Nat} (hi : i < 12) (y : Int64) : Cl 1 26 [.ref 105, .int (zI i), .long y] h (fun r h' => r = none ∧ h' = am_sl (am_sl h 107 i (cl6 y)) 105 4 (am_gl h 105 4 + cl6 y)) := by
  have it : am_in (zI i) 12 := in_zI hi (by decide)
  have e0 : (0 : Int64).toInt = 0 := rfl
  have e1 : (1000000 : Int64).toInt = 1000000 := rfl
  have fin : ∀ v : Int64, v = cl6 y → am_in (zI i) 12 ∧ ∀ h8, h8 = am_sl h 107 (Int32.toNatClampNeg (zI i)) v → am_in (zI i) 12 ∧ ∀ h10, h10 = am_sl h8 105 4 ((am_gl h8 105 4) + (am_gl h8 107 (Int32.toNatClampNeg (zI i)))) → (none : Option Value) = none ∧ h10 = am_sl (am_sl h 107 i (cl6 y)) 105 4 (am_gl h 105 4 + cl6 y) := fun v ev => by
    rw [zI_tn (by omega)]
    refine ⟨it, fun h8 e8 => ⟨it, fun h10 e10 => ⟨rfl, ?_⟩⟩⟩
    rw [e10, e8, gl_eq, gl_ne (by omega), ev]
  refine ws26 _ _ Ly (wp266 _ _ ⟨fun z => ⟨_, rfl, Ly, ?_⟩, fun z => ⟨_, rfl, Ly, ?_⟩⟩)
  · rw [lg_cmp_gt] at z
    have q : cl6 y = 1000000 := by
      unfold cl6; rw [if_neg (by rw [l_lt] at z ⊢; omega), if_pos z]
    exact wp264 _ _ ⟨fun _ => ⟨_, rfl, Ly, fin _ q.symm⟩, fun w => absurd (by decide) w⟩
  · rw [lg_cmp_gt] at z
    refine wp264 _ _ ⟨fun w => ⟨_, rfl, Ly, fin _ ?_⟩, fun w => ⟨_, rfl, Ly, fin _ ?_⟩⟩
    · rw [lg_cmp_lt] at w
      unfold cl6; rw [if_neg (by rw [l_lt] at w ⊢; omega), if_neg z]
    · rw [lg_cmp_lt] at w
      unfold cl6
      by_cases y0 : y < 0
      · rw [if_pos y0]
      · rw [if_neg y0, if_neg z, ← Int64.toInt_inj]; rw [l_lt] at w y0; omega
/-- the class's weights so far -/
def WK (h : AH) (nt nm nr : Nat) (i : Nat) (g : AH) : Prop := Ex [0] h g ∧ (∀ j, j < 12 → am_gl g 107 j = if j < i then hw h nt nm nr j else 0) ∧ am_gl g 105 4 = tot h nt nm nr i
theorem c70c {L : Nat} {xs : Nat → Int32} {c : Nat} {h : AH} {nh nm nr na nt nc : Nat} (I : InvN L xs c h nh nm nr na nt nc) {g : AH} (E : Ex [0] h g) {m hm : Nat} (n1 : am_gl g 76 1 = nmF h nm m hm 1) (n2 : am_gl g 76 2 = nmF h nm m hm 2) (n5 : am_gl g 76 5 = nmF h nm m hm 5) (n6 : am_gl g 76 6 = nmF h nm m hm 6) : Cl 3 70 [.ref 75, .ref (148 + 4 * tOn h nt (am_gi h 216 0)), .int 3] g (fun r g' => r = some (.long (PT h nt nm m hm 3)) ∧ SW g g') := by
  have H := c70 (I.keep E) (t := tOn h nt (am_gi h 216 0)) (k := 3) (nmf := nmF h nm m hm) (tOn_lt I.itx.1.1) (by decide) (fun w h0 h8 al => by
    have al' : w = 1 ∨ w = 2 ∨ w = 5 ∨ w = 6 := by unfold alw at al; rw [if_neg (by decide), if_neg (by decide)] at al; exact al
    rcases al' with rfl | rfl | rfl | rfl
    · exact n1
    · exact n2
    · exact n5
    · exact n6)
  rw [wth_ag (E.ag (by decide))] at H
  exact H
theorem vcx {L : Nat} {xs : Nat → Int32} {c : Nat} {h : AH} {nh nm nr na nt nc : Nat} (I : InvN L xs c h nh nm nr na nt nc) {g : AH} (E : Ex [0] h g) : vCR g nr (rR h) := ⟨I.iri.1, (I.keep E).iri.2.1, fun i hi k hk => ((I.keep E).iri.2.2.2 i hi k hk).trans ((E.ag (t := 4) (by decide)).rR hk)⟩
theorem l165 {L : Nat} {xs : Nat → Int32} {c : Nat} {h : AH} {nh nm nr na nt nc : Nat} (I : InvN L xs c h nh nm nr na nt nc) : ∀ m i g, i + m = nh → WK h nt nm nr i g → Ev 12 165 23 [.ref 6, .ref (148 + 4 * tOn h nt (am_gi h 216 0)), .int (zI i), .null] [] g (fun r g' => r = none ∧ WK h nt nm nr nh g')
  | 0, i, g, e, J => ws165_23 (tOn12 I) _ (J.1.lay I.lay) ⟨fun _ => ⟨rfl, by rw [show nh = i by omega]; exact J⟩, fun z => absurd (by rw [(I.keep J.1).iho.2.1]; exact (zI_le (by have := I.iho.1; omega) (by have := I.iho.1; omega)).mpr (by omega)) z⟩
  | m + 1, i, g, e, J => by
    have b := I.iho.1
    have E := J.1
    have Ig := I.keep E
    have hd : am_gi g 6 0 = am_gi h 216 0 := Ig.ida.1.trans (E.ag (t := 1) (by decide) 216 0 rfl).1
    refine ws165_23 (tOn12 I) _ Ig.lay ⟨fun z => absurd z (by rw [Ig.iho.2.1, zI_le (by omega) (by omega)]; omega), fun _ => ?_⟩
    rw [hd, zI_succ]
    refine Cl.i (p56 Ig.lay (vcx I E) _ _) (by decide) Ig.lay ⟨fun z => ?_, fun z => ?_⟩
    · have w0 : hw h nt nm nr i = 0 := by unfold hw hoF; rw [if_pos z]
      refine l165 I m (i + 1) g (by omega) ⟨E, fun j hj => ?_, ?_⟩
      · rw [J.2.1 j hj]
        by_cases q : j = i
        · subst q; rw [if_neg (by omega), if_pos (by omega), w0]
        · by_cases q2 : j < i
          · rw [if_pos q2, if_pos (by omega)]
          · rw [if_neg q2, if_neg (by omega)]
      · rw [tot_s, w0, J.2.2, Int64.add_zero]
    · obtain ⟨r, hr, er, -, -⟩ := fHo_s z
      have b2 := I.ime.1
      have b3 := I.iri.1
      have x3 := (I.ix3.1 r hr).2.2.1
      have em : rR h 2 r = zI (hlF h nr i) := by
        unfold hlF hoF; rw [er, zI_tn (by omega), tn_of x3.1]; exact zI_of x3.1
      have lm : hlF h nr i < nm := by
        have := zI_of x3.1; rw [em] at x3
        unfold hlF hoF; rw [er, zI_tn (by omega), tn_of (by rw [em]; exact x3.1)]; rw [em]; omega
      have w1 : hw h nt nm nr i = cl6 (PT h nt nm (hlF h nr i) i 3) := by unfold hw; rw [if_neg (show ¬ hoF h nr i = -1 from z)]
      generalize hlF h nr i = M at em lm w1
      refine Cl.qv (c158 Ig (hm := i) (by omega) M) (by decide) (fun g1 q => ⟨q.2.ex.lay Ig.lay, ?_⟩)
      obtain ⟨⟨q2, q5, q6, -⟩, S⟩ := q
      have E1 := E.tr S.ex
      have I1 := I.keep E1
      rw [nmF_ex E] at q2 q5 q6
      rw [er, zI_tn (by omega), (vcx I E1).2.2 r hr 2 (by decide), em, zI_tn (by omega), (I1.ime.2.2.2.2.1 M lm).1, (E1.ag (t := 3) (by decide) 222 M rfl).1]
      refine ⟨in_zI (by omega) (by decide), in_zI (by omega) (by decide), in8 1 (by decide), fun g2 eg2 => ?_⟩
      rw [tn_lit.2.1] at eg2
      have S2 : S76 g1 g2 := by rw [eg2]; exact (S76.rf g1).sl
      have E2 := E1.tr S2.ex
      refine Cl.ql (c70c I E2 (m := M) (hm := i) (by rw [eg2, gl_eq]; unfold nmF; rw [if_neg (by decide), if_pos rfl]) (by rw [eg2, gl_ne (by omega)]; exact q2) (by rw [eg2, gl_ne (by omega)]; exact q5) (by rw [eg2, gl_ne (by omega)]; exact q6)) (by decide) (fun g3 T => ⟨T.lay (E2.lay I.lay), ?_⟩)
      have E3 := E2.tr T.ex
      have L3 := E3.lay I.lay
      have k107 : ∀ j, am_gl g3 107 j = am_gl g 107 j := fun j => by rw [(T.2 107 j (by decide) (by decide)).2, (S2.2 107 j (by decide)).2, (S.2 107 j (by decide)).2]
      have k105 : am_gl g3 105 4 = am_gl g 105 4 := by rw [(T.2 105 4 (by decide) (by decide)).2, (S2.2 105 4 (by decide)).2, (S.2 105 4 (by decide)).2]
      refine Cl.qv (c26 L3 (i := i) (by omega) _) (by decide) (fun g4 e4 => ⟨by rw [e4]; exact (L3.sl _ _ _).sl _ _ _, ?_⟩)
      rw [← w1] at e4
      have E4 : Ex [0] g3 g4 := by rw [e4]; exact (((OC.rf [0] g3).sl (a := 107) (k := i) (by omega) (List.mem_singleton.mpr rfl)).sl (by omega) (by decide)).ex
      refine l165 I m (i + 1) g4 (by omega) ⟨E3.tr E4, fun j hj => ?_, ?_⟩
      · rw [e4, gl_ne (by omega)]
        by_cases q : j = i
        · subst q; rw [gl_eq, if_pos (by omega)]
        · rw [gl_ne (by omega), k107, J.2.1 j hj]
          by_cases q2 : j < i
          · rw [if_pos q2, if_pos (by omega)]
          · rw [if_neg q2, if_neg (by omega)]
      · rw [e4, gl_eq, k105, J.2.2, tot_s]
theorem l25 {h : AH} (Ly : Lay h) : ∀ m i g, i + m = 12 → Ex [0] h g → (∀ j, j < i → am_gl g 107 j = 0) → am_gl g 105 4 = 0 → Ev 0 25 7 [.ref 105, .int (zI i)] [] g (fun r g' => r = none ∧ Ex [0] h g' ∧ (∀ j, j < 12 → am_gl g' 107 j = 0) ∧ am_gl g' 105 4 = 0)
  | 0, i, g, e, E, J, K => ws25_7 _ (E.lay Ly) ⟨fun _ => ⟨rfl, E, by rw [show 12 = i by omega]; exact J, K⟩, fun z => absurd (by rw [show i = 12 by omega]; decide) z⟩
  | m + 1, i, g, e, E, J, K => by
    refine ws25_7 _ (E.lay Ly) ⟨fun z => absurd ((zI_le (m := 12) (n := i) (by decide) (by omega)).mp z) (by omega), fun _ => ⟨in_zI (by omega) (by decide), fun g2 e2 => ?_⟩⟩
    rw [zI_tn (by omega)] at e2
    rw [zI_succ]
    refine l25 Ly m (i + 1) g2 (by omega) (E.tr (by rw [e2]; exact ((OC.rf [0] g).sl (a := 107) (k := i) (by omega) (List.mem_singleton.mpr rfl)).ex)) (fun j hj => ?_) (by rw [e2, gl_ne (by omega)]; exact K)
    rw [e2]
    by_cases q : j = i
    · subst q; rw [gl_eq]
    · rw [gl_ne (by omega)]; exact J j (by omega)
theorem c165 {L : Nat} {xs : Nat → Int32} {c : Nat} {h : AH} {nh nm nr na nt nc : Nat} (I : InvN L xs c h nh nm nr na nt nc) : Cl 12 165 [.ref 6] h (fun r g => r = none ∧ WK h nt nm nr nh g) := by
  have Ly := I.lay
  have hT := tOn12 I
  refine ws165 Ly ?_
  rw [I.ida.1]
  refine Cl.i (p154 I _) (by decide) Ly ⟨in_zI hT (by decide), ?_⟩
  rw [zI_tn (show tOn h nt (am_gi h 216 0) < 2147483648 by omega)]
  refine Cl.qv (P := fun g' => Ex [0] h g' ∧ (∀ j, j < 12 → am_gl g' 107 j = 0) ∧ am_gl g' 105 4 = 0) (d := 0) (ws25 Ly (fun g1 e1 => l25 Ly 12 0 g1 (by decide) (by rw [e1]; exact ((OC.rf [0] h).sl (by omega) (by decide)).ex) (fun j hj => absurd hj (by omega)) (by rw [e1, gl_eq]))) (by decide) (fun g q => ⟨q.1.lay Ly, ?_⟩)
  exact l165 I nh 0 g (by omega) ⟨q.1, fun j hj => by rw [if_neg (by omega)]; exact q.2.1 j hj, q.2.2⟩
