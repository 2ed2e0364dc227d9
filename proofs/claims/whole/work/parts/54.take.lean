/-! take -/
theorem oTo_s {h : AH} {nt nm hm : Nat} (n : ¬ oTo h nt nm hm = -1) : (¬ am_gi h 220 hm = 0) ∧ ∃ m, m < nm ∧ oTo h nt nm hm = zI m ∧ waitP h m = true := by
  unfold oTo at n ⊢
  by_cases z : am_gi h 220 hm = 0
  · rw [if_pos z] at n; exact absurd rfl n
  · rw [if_neg z] at n ⊢
    refine ⟨z, ?_⟩
    rcases fO_spec (kO_sto _ _) (fun m => !tb (am_gi h 221 hm) m && isq h nt nm hm m) nm with ⟨e, _⟩ | ⟨f, e, hf, q, _⟩
    · exfalso; apply n
      rw [show fO (ahd h nt nm hm) (fun m => !tb (am_gi h 221 hm) m && isq h nt nm hm m) nm = none from e]; rfl
    · refine ⟨f, hf, ?_, ?_⟩
      · rw [show fO (ahd h nt nm hm) (fun m => !tb (am_gi h 221 hm) m && isq h nt nm hm m) nm = some f from e]; rfl
      · unfold isq at q; simp at q; exact q.2.1
/-- a refusal, in both programs -/
theorem take_no {L : Nat} {xs : Nat → Int32} {c : Nat} {h : AH} {nh nm nr na nt nc : Nat} (I : InvN L xs c h nh nm nr na nt nc) {j m : Nat} (hj : j < nh) (hm : m < nm) (on : ¬ am_gi h 220 j = 0) (em : oTo h nt nm j = zI m) : OPi 121 233 [.int (zI j), .int 0] L xs c h := by
  have Ly := I.lay
  have b1 := I.iho.1
  have b2 := I.ime.1
  have b3 := I.iri.1
  have hx : inN (zI j) nh := inN_zI hj (by omega)
  have i12 : am_in (zI j) 12 := in_zI (by omega) (by decide)
  have tj : Int32.toNatClampNeg (zI j) = j := zI_tn (by omega)
  have q3 := (I.iho.2.2.2.1 j (by omega)).1
  have nm1 : ¬ zI m = -1 := zI_ne1 (by omega)
  obtain ⟨R, hR⟩ : ∃ R : Int32, R = am_gi h (112 + j) 4 ||| ((1 : Int32) <<< (zI m &&& 31)) := ⟨_, rfl⟩
  obtain ⟨Rm, hRm⟩ : ∃ R : Int32, R = am_gi h 221 j ||| ((1 : Int32) <<< (zI m &&& 31)) := ⟨_, rfl⟩
  have E1 : OC [0, 2] h (am_si h (112 + j) 4 R) := (OC.rf [0, 2] h).si (a := 112 + j) (k := 4) (by omega) (tpm (tp_home (by omega)) (by decide))
  refine OPi.ce (d := 10) (d' := 10) (ts := [0, 2]) (v := plc h nt nm j R 0) (P1 := fun h' => Ex [0] (am_si h (112 + j) 4 R) h') I ?_ ?_
  · refine ws121 _ _ Ly (Cl.i (p138 Ly (by omega) I.iho.2.1 _) (by decide) Ly ⟨fun _ => Cl.qi (c159 I hj) (by decide) (fun g p => ⟨p.lay Ly, fun _ => ?_, fun z => absurd (by rw [em]; exact nm1) z⟩), fun z => absurd (bI_n0.mpr hx) z⟩)
    have I1 := I.keep p
    have e4 : am_gi g (112 + j) 4 = am_gi h (112 + j) 4 := (p.ag (t := 2) (by decide) (112 + j) 4 (tp_home (by omega))).1
    refine ⟨fun z => absurd rfl z, fun _ => ⟨i12, ?_⟩⟩
    rw [tj, em, e4, ← hR]
    intro k1 e1; subst e1
    have E2 : Ex [0] (am_si h (112 + j) 4 R) (am_si g (112 + j) 4 R) := ⟨⟨p.1.1, p.1.2.1, p.1.2.2.1, p.1.2.2.2.1, p.1.2.2.2.2⟩, fun a k e => by
      refine ⟨?_, (p.2 a k e).2⟩
      rw [am_si_gi, am_si_gi, (p.2 a k e).1]⟩
    have K : InvK L xs c (am_si h (112 + j) 4 R) nh nm nr na nt nc := by
      have A := fun t (ht : t ∉ [0, 2]) => E1.ex.ag (t := t) ht
      refine ⟨E1.lay Ly, I.ico.ex E1.ex (by decide), I.2.2.1, I.ida.of (A 1 (by decide)), ⟨b1, by (repeat (first | rw [gi_eq] | rw [gl_eq] | rw [gi_ne (by omega)] | rw [gl_ne (by omega)] | rw [gi_sl] | rw [gl_si])); exact I.iho.2.1, by (repeat (first | rw [gi_eq] | rw [gl_eq] | rw [gi_ne (by omega)] | rw [gl_ne (by omega)] | rw [gi_sl] | rw [gl_si])); exact I.iho.2.2.1, trivial, fun i hi => by (repeat (first | rw [gi_eq] | rw [gl_eq] | rw [gi_ne (by omega)] | rw [gl_ne (by omega)] | rw [gi_sl] | rw [gl_si])); exact I.iho.2.2.2.2 i hi⟩, I.ime.of (A 3 (by decide)), I.itx.of E1.1.t (A 6 (by decide))⟩
    have K2 := K.keep E2
    have C := c159k K2 hj (by rw [gi_ne (by omega), (p.ag (t := 2) (by decide) (112 + j) 3 (tp_home (by omega))).1, q3]; exact on)
    have PCx : PC h (am_si g (112 + j) 4 R) := fun a k z => by
      have t0 : tp a k ∉ [0] := fun w => by
        rw [List.mem_singleton] at w
        rcases z with ⟨rfl, rfl⟩ | z | z | z
        · exact absurd w (by decide)
        · rcases (show a = 217 ∨ a = 218 ∨ a = 219 by omega) with rfl | rfl | rfl <;> (revert w; show ¬ (2 : Nat) = 0; decide)
        · rcases (show a = 222 ∨ a = 223 ∨ a = 224 ∨ a = 225 ∨ a = 226 ∨ a = 227 by omega) with rfl | rfl | rfl | rfl | rfl | rfl <;> (revert w; show ¬ (3 : Nat) = 0; decide)
        · rcases (show a = 237 ∨ a = 238 ∨ a = 239 ∨ a = 240 ∨ a = 241 ∨ a = 242 ∨ a = 243 by omega) with rfl | rfl | rfl | rfl | rfl | rfl | rfl <;> (revert w; show ¬ (6 : Nat) = 0; decide)
      have v := p.2 a k t0
      exact ⟨by rw [gi_ne (by omega)]; exact v.1, v.2⟩
    rw [gi_eq, plc_pc PCx] at C
    exact Cl.qi C (by decide) (fun g2 p2 => ⟨p2.lay K2.lay, rfl, E2.tr p2, E1.ex.tr ((E2.tr p2).wk (by decide))⟩)
  · intro h1 E0 E Ly1
    have V : ∀ a k, tp a k ≠ 0 → am_gi h1 a k = am_gi (am_si h (112 + j) 4 R) a k ∧ am_gl h1 a k = am_gl (am_si h (112 + j) 4 R) a k := fun a k e => E0.2 a k (fun z => e (List.mem_singleton.mp z))
    have e220 : ∀ i, am_gi h1 220 i = am_gi h 220 i := fun i => by rw [(V 220 i (by show (2 : Nat) ≠ 0; decide)).1]; (repeat (first | rw [gi_eq] | rw [gl_eq] | rw [gi_ne (by omega)] | rw [gl_ne (by omega)] | rw [gi_sl] | rw [gl_si]))
    have e221 : ∀ i, am_gi h1 221 i = am_gi h 221 i := fun i => by rw [(V 221 i (by show (2 : Nat) ≠ 0; decide)).1]; (repeat (first | rw [gi_eq] | rw [gl_eq] | rw [gi_ne (by omega)] | rw [gl_ne (by omega)] | rw [gi_sl] | rw [gl_si]))
    have eh : ∀ i k, i < 12 → am_gi h1 (112 + i) k = am_gi (am_si h (112 + j) 4 R) (112 + i) k := fun i k hi => (V _ k (by rw [tp_home hi]; decide)).1
    have tne : ∀ a k, (a = 216 ∧ k = 0) ∨ (217 ≤ a ∧ a ≤ 219) ∨ (222 ≤ a ∧ a ≤ 227) ∨ (237 ≤ a ∧ a ≤ 243) → tp a k ≠ 0 := fun a k z => by
      rcases z with ⟨rfl, rfl⟩ | z | z | z
      · decide
      · rcases (show a = 217 ∨ a = 218 ∨ a = 219 by omega) with rfl | rfl | rfl <;> (show (2 : Nat) ≠ 0; decide)
      · rcases (show a = 222 ∨ a = 223 ∨ a = 224 ∨ a = 225 ∨ a = 226 ∨ a = 227 by omega) with rfl | rfl | rfl | rfl | rfl | rfl <;> (show (3 : Nat) ≠ 0; decide)
      · rcases (show a = 237 ∨ a = 238 ∨ a = 239 ∨ a = 240 ∨ a = 241 ∨ a = 242 ∨ a = 243 by omega) with rfl | rfl | rfl | rfl | rfl | rfl | rfl <;> (show (6 : Nat) ≠ 0; decide)
    have PC1 : PC h h1 := fun a k z => by
      have v := V a k (tne a k z)
      exact ⟨by rw [v.1, gi_ne (by omega)], v.2⟩
    have M1 : InvM L xs c h1 nh nm nr na nt nc := I.m.mv Ly1 (by rw [(V 216 7 (by decide)).1]; (repeat (first | rw [gi_eq] | rw [gl_eq] | rw [gi_ne (by omega)] | rw [gl_ne (by omega)] | rw [gi_sl] | rw [gl_si]))) (by rw [(V 216 23 (by decide)).1]; (repeat (first | rw [gi_eq] | rw [gl_eq] | rw [gi_ne (by omega)] | rw [gl_ne (by omega)] | rw [gi_sl] | rw [gl_si]))) (fun a k q1 q2 => (PC1 a k (by omega)).1)
    have eo : oTo h1 nt nm j = zI m := by rw [oTo_pc PC1 nt nm j (e220 j) (e221 j)]; exact em
    refine ws233 _ _ Ly1 (Cl.i (p168 Ly1 (n := nh) (by omega) (by rw [(V 216 1 (by decide)).1]; (repeat (first | rw [gi_eq] | rw [gl_eq] | rw [gi_ne (by omega)] | rw [gl_ne (by omega)] | rw [gi_sl] | rw [gl_si])); exact I.iho.2.2.1) _) (by decide) Ly1 ⟨fun _ => Cl.qi (m231_m M1 (by omega)) (by decide) (fun g p => ⟨p.lay Ly1, fun _ => ⟨fun z => absurd rfl z, fun _ => ⟨i12, i12, ?_⟩⟩, fun z => absurd (by rw [eo]; exact nm1) z⟩), fun z => absurd (bI_n0.mpr hx) z⟩)
    rw [tj, eo, (p.2 221 j (by decide)).1, e221, ← hRm]
    intro k2 e2; subst e2
    have E2 : Ex [0, 2] h (am_si g 221 j Rm) := (E.tr (p.ex.wk (by decide))).tr ((OM.rf [0, 2] g).si (a := 221) (k := j) (by omega) (tpm (t := 2) rfl (by decide))).ex
    have G : ∀ a k, a ≠ 255 → am_gi g a k = am_gi h1 a k := fun a k q => (p.2 a k q).1
    have J : InvN L xs (c + 1) (am_si g 221 j Rm) nh nm nr na nt nc := by
      refine I.up E2 (g2 := Or.inr ⟨b1, ?_, ?_, fun i hi => ?_, fun i hi => ?_⟩) (gx2 := Or.inr (fun i hi k hk => ?_)) (gx4 := Or.inr (I.ix4.off (E2.ag (by decide)) (E2.ag (by decide)) (fun i => Or.inl (by (repeat (first | rw [gi_eq] | rw [gl_eq] | rw [gi_ne (by omega)] | rw [gl_ne (by omega)] | rw [gi_sl] | rw [gl_si])); rw [G 220 i (by decide), e220]))))
      · (repeat (first | rw [gi_eq] | rw [gl_eq] | rw [gi_ne (by omega)] | rw [gl_ne (by omega)] | rw [gi_sl] | rw [gl_si])); rw [G _ _ (by omega), (V 6 2 (by decide)).1]; (repeat (first | rw [gi_eq] | rw [gl_eq] | rw [gi_ne (by omega)] | rw [gl_ne (by omega)] | rw [gi_sl] | rw [gl_si])); exact I.iho.2.1
      · (repeat (first | rw [gi_eq] | rw [gl_eq] | rw [gi_ne (by omega)] | rw [gl_ne (by omega)] | rw [gi_sl] | rw [gl_si])); rw [G _ _ (by omega), (V 216 1 (by decide)).1]; (repeat (first | rw [gi_eq] | rw [gl_eq] | rw [gi_ne (by omega)] | rw [gl_ne (by omega)] | rw [gi_sl] | rw [gl_si])); exact I.iho.2.2.1
      · (repeat (first | rw [gi_eq] | rw [gl_eq] | rw [gi_ne (by omega)] | rw [gl_ne (by omega)] | rw [gi_sl] | rw [gl_si])); rw [G (112 + i) 3 (by omega), G 220 i (by omega), eh i 3 hi, e220]; (repeat (first | rw [gi_eq] | rw [gl_eq] | rw [gi_ne (by omega)] | rw [gl_ne (by omega)] | rw [gi_sl] | rw [gl_si])); exact I.iho.2.2.2.1 i hi
      · have w : ∀ a, 217 ≤ a → a < 220 → am_gi g a i = am_gi h a i := fun a q1 q2 => by rw [G a i (by omega)]; exact (PC1 a i (by omega)).1
        (repeat (first | rw [gi_eq] | rw [gl_eq] | rw [gi_ne (by omega)] | rw [gl_ne (by omega)] | rw [gi_sl] | rw [gl_si])); rw [G (112 + i) 0 (by omega), G (112 + i) 1 (by omega), G (112 + i) 2 (by omega), eh i 0 (by omega), eh i 1 (by omega), eh i 2 (by omega), w 217 (by decide) (by decide), w 218 (by decide) (by decide), w 219 (by decide) (by decide)]
        (repeat (first | rw [gi_eq] | rw [gl_eq] | rw [gi_ne (by omega)] | rw [gl_ne (by omega)] | rw [gi_sl] | rw [gl_si])); exact I.iho.2.2.2.2 i hi
      · have w224 : am_gi g 224 k = am_gi h 224 k := by rw [G 224 k (by decide)]; exact (PC1 224 k (by omega)).1
        by_cases hij : i = j
        · subst hij
          (repeat (first | rw [gi_eq] | rw [gl_eq] | rw [gi_ne (by omega)] | rw [gl_ne (by omega)] | rw [gi_sl] | rw [gl_si])); rw [w224, G (112 + i) 4 (by omega), eh i 4 hi]
          (repeat (first | rw [gi_eq] | rw [gl_eq] | rw [gi_ne (by omega)] | rw [gl_ne (by omega)] | rw [gi_sl] | rw [gl_si]))
          refine (I.ix2 i hi k hk).imp id (fun e => ?_)
          rw [hR, hRm, bq_tb (by omega), bq_tb (by omega), tb_set (by omega) (by omega), tb_set (by omega) (by omega)]
          have e1 := bq_tb (x := am_gi h (112 + i) 4) (j := k) (by omega)
          have e2 := bq_tb (x := am_gi h 221 i) (j := k) (by omega)
          rw [e, e2] at e1
          revert e1
          cases tb (am_gi h (112 + i) 4) k <;> cases tb (am_gi h 221 i) k <;> first | (intro _; rfl) | (intro z; exact absurd z (by decide))
        · (repeat (first | rw [gi_eq] | rw [gl_eq] | rw [gi_ne (by omega)] | rw [gl_ne (by omega)] | rw [gi_sl] | rw [gl_si])); rw [w224, G (112 + i) 4 (by omega), G 221 i (by decide), eh i 4 hi, e221]; (repeat (first | rw [gi_eq] | rw [gl_eq] | rw [gi_ne (by omega)] | rw [gl_ne (by omega)] | rw [gi_sl] | rw [gl_si])); exact I.ix2 i hi k hk
    have PC2 : PC h (am_si g 221 j Rm) := fun a k z => by
      refine ⟨?_, ?_⟩
      · rw [gi_ne (by omega), G a k (by omega)]; exact (PC1 a k z).1
      · rw [gl_si, (p.2 a k (by omega)).2]; exact (PC1 a k z).2
    refine Cl.qi (m231 J (hm := j) (by omega)) (by decide) (fun g2 p2 => ⟨p2.lay J.lay, ?_, ⟨nh, nm, nr, na, nt, nc, J.keep p2.ex⟩⟩)
    have q := plc_oTo J hj (by rw [gi_ne (by omega), G 220 j (by decide), e220]; exact on)
    rw [← q, gi_ne (by omega), G _ _ (by omega), eh j 4 (by omega), gi_eq, plc_pc PC2]
