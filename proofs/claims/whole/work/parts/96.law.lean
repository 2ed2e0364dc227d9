/-! THE LAW: the loop over the script -/
theorem OPi.go {Mc Mr : Nat} {as : List Value} {L : Nat} {xs : Nat → Int32} {c : Nat} {h : AH} (O : OPi Mc Mr as L xs c h) {P : Int32 → AH → Prop} (A : ∀ x h1, Lay h1 → ICo L xs h1 → Cl 799 Mr (.ref 216 :: as) h1 (fun r2 h2 => r2 = some (.int x) ∧ Inv L xs (c + 1) h2) → P x h1) : Cl 799 Mc (.ref 6 :: as) h (fun r h1 => ∃ x, r = some (.int x) ∧ P x h1) :=
  Cl.mono O (by decide) (fun r h1 q => by
    obtain ⟨x, e, l, ic, C⟩ := q
    exact ⟨x, e, A x h1 l ic (Cl.mono C (by decide) (fun _ _ q => q))⟩)
theorem OPl.go {Mc Mr : Nat} {as : List Value} {L : Nat} {xs : Nat → Int32} {c : Nat} {h : AH} (O : OPl Mc Mr as L xs c h) {P : Int64 → AH → Prop} (A : ∀ x h1, Lay h1 → ICo L xs h1 → Cl 799 Mr (.ref 216 :: as) h1 (fun r2 h2 => r2 = some (.long x) ∧ Inv L xs (c + 1) h2) → P x h1) : Cl 799 Mc (.ref 6 :: as) h (fun r h1 => ∃ x, r = some (.long x) ∧ P x h1) :=
  Cl.mono O (by decide) (fun r h1 q => by
    obtain ⟨x, e, l, ic, C⟩ := q
    exact ⟨x, e, A x h1 l ic (Cl.mono C (by decide) (fun _ _ q => q))⟩)
theorem finI {Mr : Nat} {vs : List Value} {L : Nat} {xs : Nat → Int32} {c : Nat} {h1 : AH} {x : Int32} {Q : Option Value → AH → Prop} {N : AH → Prop} (C : Cl 799 Mr vs h1 (fun r2 h2 => r2 = some (.int x) ∧ Inv L xs (c + 1) h2)) (K : ∀ h2, Inv L xs (c + 1) h2 → N h2) : Cl 799 Mr vs h1 (fun r h2 => ∃ y, r = some (.int y) ∧ (x = y → N h2) ∧ (¬ x = y → Q (some (.int (0 : Int32))) h2)) :=
  Cl.mono C (Nat.le_refl _) (fun _ h2 q => ⟨x, q.1, fun _ => K h2 q.2, fun z => absurd rfl z⟩)
theorem finL {Mr : Nat} {vs : List Value} {L : Nat} {xs : Nat → Int32} {c : Nat} {h1 : AH} {x : Int64} {Q : Option Value → AH → Prop} {N : AH → Prop} (C : Cl 799 Mr vs h1 (fun r2 h2 => r2 = some (.long x) ∧ Inv L xs (c + 1) h2)) (K : ∀ h2, Inv L xs (c + 1) h2 → N h2) : Cl 799 Mr vs h1 (fun r h2 => ∃ y, r = some (.long y) ∧ ((lg_cmp x y) = (0 : Int32) → N h2) ∧ (¬ (lg_cmp x y) = (0 : Int32) → Q (some (.int (0 : Int32))) h2)) :=
  Cl.mono C (Nat.le_refl _) (fun _ h2 q => ⟨x, q.1, fun _ => K h2 q.2, fun z => absurd (lg0.mpr rfl) z⟩)
theorem lawS {L : Nat} {xs : Nat → Int32} {c : Nat} {h : AH} {Q : Option Value → AH → Prop} (l5 : L ≤ 2560) (c5 : 5 * c ≤ L) (J : Inv L xs c h) (E : Q (some (.int (1 : Int32))) h) (K : ∀ c', (c' = c ∨ c' = c + 1) → 5 * c + 5 ≤ L → ∀ h2, Inv L xs c' h2 → Ev 800 267 1496 [.ref 0, .ref 6, .ref 216, .int (zI (5 * c))] [] h2 Q) : Ev 800 267 18 [.ref 0, .ref 6, .ref 216, .int (zI (5 * c))] [] h Q := by
  have J' := J
  obtain ⟨nh, nm, nr, na, nt, nc, I⟩ := J
  have Lh : Lay h := I.1
  have Ic : ICo L xs h := I.2.1
  refine wp267_18 (d := 799) _ _ _ _ ⟨by rw [Ic.1.1]; decide, fun _ => E, fun z => ?_⟩
  have c6 : 5 * c + 5 ≤ L := by
    rw [Ic.2.1.1] at z
    refine Decidable.byContradiction (fun y => z ?_)
    have e1 : (zI L).toInt = L := zI_toInt (by omega)
    have e2 : (zI (5 * c)).toInt = 5 * c := by rw [zI_toInt (by omega)]; omega
    have e3 : (5 : Int32).toInt = 5 := rfl
    show zI L - 5 < zI (5 * c)
    rw [i_lt, i_sub (by omega) (by omega), e1, e2, e3]; omega
  have K1 := K (c + 1) (Or.inr rfl) c6
  have ns : ∀ j (v : Int32), v = zI j → j < 5 → ∀ h1, ICo L xs h1 → am_in (zI (5 * c) + v) (am_ln h1 0) := fun j v ev hj h1 i1 => by
    rw [ev, zI_add, i1.2.1.1]; exact in_zI (by omega) (by omega)
  have n1 := ns 1 1 rfl (by decide)
  have n2 := ns 2 2 rfl (by decide)
  have n3 := ns 3 3 rfl (by decide)
  have n4 := ns 4 4 rfl (by decide)
  have k0 : ∀ h1, ICo L xs h1 → am_kd h1 0 = 100 := fun h1 i1 => i1.1.1
  have e0 : ∀ h1, ICo L xs h1 → am_gi h1 0 = am_gi h 0 := fun h1 i1 => funext fun k => (i1.2.2.1 k).trans (Ic.2.2.1 k).symm
  have k6 := lk6 Lh
  clear ns z
  refine ⟨k0 h Ic, by rw [Ic.2.1.1]; exact in_zI (by omega) (by omega), fun _ => ?_, fun _ => ?_, fun _ => ?_, fun _ => ?_, fun _ => ?_, fun _ => ?_, fun _ => ?_, fun _ => ?_, fun _ => ?_, fun _ => ?_, fun _ => ?_, fun _ => ?_, fun _ => ?_, fun _ => ?_, fun _ => ?_, fun _ => ?_, fun _ => ?_, fun _ => ?_, fun _ => ?_, fun _ => ?_, fun _ => ?_, fun _ => ?_, fun _ => ?_, fun _ => ?_, fun _ => ?_, fun _ => ?_, fun _ => ?_, fun _ => ?_, fun _ => ?_, fun _ => ?_, fun _ => ?_, fun _ => ?_, fun _ => ?_, fun _ => ?_, fun _ => ?_, fun _ => ?_, fun _ => ?_, fun _ => ?_, fun _ => ?_, fun _ => ?_, fun _ => ?_, fun _ => K c (Or.inl rfl) c6 h J'⟩
  · exact ⟨k0 h Ic, n1 h Ic, k6, (op_day I _).go (fun x h1 l1 i1 C => ⟨k0 h1 i1, n1 h1 i1, lk216 l1, by rw [e0 h1 i1]; exact finI C K1⟩)⟩
  · exact ⟨k0 h Ic, n1 h Ic, k0 h Ic, n2 h Ic, k0 h Ic, n3 h Ic, k6, (op_home I _ _ _).go (fun x h1 l1 i1 C => ⟨k0 h1 i1, n1 h1 i1, k0 h1 i1, n2 h1 i1, k0 h1 i1, n3 h1 i1, lk216 l1, by rw [e0 h1 i1]; exact finI C K1⟩)⟩
  · exact ⟨k0 h Ic, n1 h Ic, k6, (op_member I _).go (fun x h1 l1 i1 C => ⟨k0 h1 i1, n1 h1 i1, lk216 l1, by rw [e0 h1 i1]; exact finI C K1⟩)⟩
  · exact ⟨k0 h Ic, n1 h Ic, k0 h Ic, n2 h Ic, k6, (op_family I _ _).go (fun x h1 l1 i1 C => ⟨k0 h1 i1, n1 h1 i1, k0 h1 i1, n2 h1 i1, lk216 l1, by rw [e0 h1 i1]; exact finI C K1⟩)⟩
  · exact ⟨k0 h Ic, n1 h Ic, k0 h Ic, n2 h Ic, k0 h Ic, n3 h Ic, k0 h Ic, n4 h Ic, k6, (op_right I _ _ _ _).go (fun x h1 l1 i1 C => ⟨k0 h1 i1, n1 h1 i1, k0 h1 i1, n2 h1 i1, k0 h1 i1, n3 h1 i1, k0 h1 i1, n4 h1 i1, lk216 l1, by rw [e0 h1 i1]; exact finI C K1⟩)⟩
  · exact ⟨k0 h Ic, n1 h Ic, k0 h Ic, n2 h Ic, k6, (op_join I _ _).go (fun x h1 l1 i1 C => ⟨k0 h1 i1, n1 h1 i1, k0 h1 i1, n2 h1 i1, lk216 l1, by rw [e0 h1 i1]; exact finI C K1⟩)⟩
  · exact ⟨k0 h Ic, n1 h Ic, k6, (op_end I _).go (fun x h1 l1 i1 C => ⟨k0 h1 i1, n1 h1 i1, lk216 l1, by rw [e0 h1 i1]; exact finI C K1⟩)⟩
  · exact ⟨k0 h Ic, n1 h Ic, k6, (op_leave I _).go (fun x h1 l1 i1 C => ⟨k0 h1 i1, n1 h1 i1, lk216 l1, by rw [e0 h1 i1]; exact finI C K1⟩)⟩
  · exact ⟨k0 h Ic, n1 h Ic, k0 h Ic, n2 h Ic, k6, (op_rightTold I _ _).go (fun x h1 l1 i1 C => ⟨k0 h1 i1, n1 h1 i1, k0 h1 i1, n2 h1 i1, lk216 l1, by rw [e0 h1 i1]; exact finI C K1⟩)⟩
  · exact ⟨k0 h Ic, n1 h Ic, k0 h Ic, n2 h Ic, k0 h Ic, n3 h Ic, k6, (op_inForce I _ _ _).go (fun x h1 l1 i1 C => ⟨k0 h1 i1, n1 h1 i1, k0 h1 i1, n2 h1 i1, k0 h1 i1, n3 h1 i1, lk216 l1, by rw [e0 h1 i1]; exact finI C K1⟩)⟩
  · exact ⟨k0 h Ic, n1 h Ic, k0 h Ic, n2 h Ic, k6, (op_homeTold I _ _).go (fun x h1 l1 i1 C => ⟨k0 h1 i1, n1 h1 i1, k0 h1 i1, n2 h1 i1, lk216 l1, by rw [e0 h1 i1]; exact finI C K1⟩)⟩
  · exact ⟨k0 h Ic, n1 h Ic, k0 h Ic, n2 h Ic, k6, (op_memberTold I _ _).go (fun x h1 l1 i1 C => ⟨k0 h1 i1, n1 h1 i1, k0 h1 i1, n2 h1 i1, lk216 l1, by rw [e0 h1 i1]; exact finI C K1⟩)⟩
  · exact ⟨k0 h Ic, n1 h Ic, k0 h Ic, n2 h Ic, k0 h Ic, n3 h Ic, k6, (op_feed I _ _).go (fun x h1 l1 i1 C => ⟨k0 h1 i1, n1 h1 i1, k0 h1 i1, n2 h1 i1, k0 h1 i1, n3 h1 i1, lk216 l1, by rw [e0 h1 i1]; exact finI C K1⟩)⟩
  · exact ⟨k6, (op_propose I).go (fun x h1 l1 i1 C => ⟨lk216 l1, finI C K1⟩)⟩
  · exact ⟨k0 h Ic, n1 h Ic, k6, (op_fault I _).go (fun x h1 l1 i1 C => ⟨k0 h1 i1, n1 h1 i1, lk216 l1, by rw [e0 h1 i1]; exact finI C K1⟩)⟩
  · refine ⟨k0 h Ic, n1 h Ic, k0 h Ic, n2 h Ic, k0 h Ic, n3 h Ic, fun y => ?_, fun y => ?_⟩
    · exact wp267_731 (d := 799) _ _ _ _ _ _ _ _ ⟨k6, (op_vote I _ _ _).go (fun x h1 l1 i1 C => ⟨k0 h1 i1, n1 h1 i1, k0 h1 i1, n2 h1 i1, k0 h1 i1, n3 h1 i1, fun _ => ⟨lk216 l1, by rw [e0 h1 i1]; exact finI C K1⟩, fun z => absurd (by rw [e0 h1 i1]; exact y) z⟩)⟩
    · exact wp267_731 (d := 799) _ _ _ _ _ _ _ _ ⟨k6, (op_vote I _ _ _).go (fun x h1 l1 i1 C => ⟨k0 h1 i1, n1 h1 i1, k0 h1 i1, n2 h1 i1, k0 h1 i1, n3 h1 i1, fun z => absurd (by rw [e0 h1 i1] at z; exact z) y, fun _ => ⟨lk216 l1, by rw [e0 h1 i1]; exact finI C K1⟩⟩)⟩
  · exact ⟨k0 h Ic, n1 h Ic, k0 h Ic, n2 h Ic, k6, (op_carry I (show c < 100000 by omega) _ _).go (fun x h1 l1 i1 C => ⟨k0 h1 i1, n1 h1 i1, k0 h1 i1, n2 h1 i1, lk216 l1, by rw [e0 h1 i1]; exact finI C K1⟩)⟩
  · exact ⟨k0 h Ic, n1 h Ic, k6, (op_tear I _).go (fun x h1 l1 i1 C => ⟨k0 h1 i1, n1 h1 i1, lk216 l1, by rw [e0 h1 i1]; exact finI C K1⟩)⟩
  · exact ⟨k0 h Ic, n1 h Ic, k0 h Ic, n2 h Ic, k6, (op_textTold I _ _).go (fun x h1 l1 i1 C => ⟨k0 h1 i1, n1 h1 i1, k0 h1 i1, n2 h1 i1, lk216 l1, by rw [e0 h1 i1]; exact finI C K1⟩)⟩
  · exact ⟨k0 h Ic, n1 h Ic, k6, (op_text I _).go (fun x h1 l1 i1 C => ⟨k0 h1 i1, n1 h1 i1, lk216 l1, by rw [e0 h1 i1]; exact finI C K1⟩)⟩
  · exact ⟨k0 h Ic, n1 h Ic, k6, (op_wait I _).go (fun x h1 l1 i1 C => ⟨k0 h1 i1, n1 h1 i1, lk216 l1, by rw [e0 h1 i1]; exact finI C K1⟩)⟩
  · exact ⟨k0 h Ic, n1 h Ic, k0 h Ic, n2 h Ic, k0 h Ic, n3 h Ic, k6, (op_points I _ _ _).go (fun x h1 l1 i1 C => ⟨k0 h1 i1, n1 h1 i1, k0 h1 i1, n2 h1 i1, k0 h1 i1, n3 h1 i1, lk216 l1, by rw [e0 h1 i1]; exact finL C K1⟩)⟩
  · exact ⟨k0 h Ic, n1 h Ic, k0 h Ic, n2 h Ic, k6, (op_order I _ _).go (fun x h1 l1 i1 C => ⟨k0 h1 i1, n1 h1 i1, k0 h1 i1, n2 h1 i1, lk216 l1, by rw [e0 h1 i1]; exact finI C K1⟩)⟩
  · exact ⟨k0 h Ic, n1 h Ic, k6, (op_offer I _).go (fun x h1 l1 i1 C => ⟨k0 h1 i1, n1 h1 i1, lk216 l1, by rw [e0 h1 i1]; exact finI C K1⟩)⟩
  · refine ⟨k0 h Ic, n1 h Ic, k0 h Ic, n2 h Ic, fun y => ?_, fun y => ?_⟩
    · exact wp267_1020 (d := 799) _ _ _ _ _ _ _ ⟨k6, (op_take I _ _).go (fun x h1 l1 i1 C => ⟨k0 h1 i1, n1 h1 i1, k0 h1 i1, n2 h1 i1, fun _ => ⟨lk216 l1, by rw [e0 h1 i1]; exact finI C K1⟩, fun z => absurd (by rw [e0 h1 i1]; exact y) z⟩)⟩
    · exact wp267_1020 (d := 799) _ _ _ _ _ _ _ ⟨k6, (op_take I _ _).go (fun x h1 l1 i1 C => ⟨k0 h1 i1, n1 h1 i1, k0 h1 i1, n2 h1 i1, fun z => absurd (by rw [e0 h1 i1] at z; exact z) y, fun _ => ⟨lk216 l1, by rw [e0 h1 i1]; exact finI C K1⟩⟩)⟩
  · exact ⟨k0 h Ic, n1 h Ic, k6, (op_withdraw I _).go (fun x h1 l1 i1 C => ⟨k0 h1 i1, n1 h1 i1, lk216 l1, by rw [e0 h1 i1]; exact finI C K1⟩)⟩
  · refine ⟨k0 h Ic, n1 h Ic, k0 h Ic, n2 h Ic, k0 h Ic, n3 h Ic, fun y => ?_, fun y => ?_⟩
    · exact wp267_1097 (d := 799) _ _ _ _ _ _ _ _ ⟨k6, (op_wish I _ _ _).go (fun x h1 l1 i1 C => ⟨k0 h1 i1, n1 h1 i1, k0 h1 i1, n2 h1 i1, k0 h1 i1, n3 h1 i1, fun _ => ⟨lk216 l1, by rw [e0 h1 i1]; exact finI C K1⟩, fun z => absurd (by rw [e0 h1 i1]; exact y) z⟩)⟩
    · exact wp267_1097 (d := 799) _ _ _ _ _ _ _ _ ⟨k6, (op_wish I _ _ _).go (fun x h1 l1 i1 C => ⟨k0 h1 i1, n1 h1 i1, k0 h1 i1, n2 h1 i1, k0 h1 i1, n3 h1 i1, fun z => absurd (by rw [e0 h1 i1] at z; exact z) y, fun _ => ⟨lk216 l1, by rw [e0 h1 i1]; exact finI C K1⟩⟩)⟩
  · exact ⟨k6, (op_best I).go (fun x h1 l1 i1 C => ⟨lk216 l1, finI C K1⟩)⟩
  · exact ⟨k0 h Ic, n1 h Ic, k6, (op_moves I _).go (fun x h1 l1 i1 C => ⟨k0 h1 i1, n1 h1 i1, lk216 l1, by rw [e0 h1 i1]; exact finI C K1⟩)⟩
  · exact ⟨k6, (op_change I).go (fun x h1 l1 i1 C => ⟨lk216 l1, finI C K1⟩)⟩
  · exact ⟨k0 h Ic, n1 h Ic, k6, (op_cost I _).go (fun x h1 l1 i1 C => ⟨k0 h1 i1, n1 h1 i1, lk216 l1, by rw [e0 h1 i1]; exact finI C K1⟩)⟩
  · exact ⟨k0 h Ic, n1 h Ic, k0 h Ic, n2 h Ic, k6, (op_parted I _ _).go (fun x h1 l1 i1 C => ⟨k0 h1 i1, n1 h1 i1, k0 h1 i1, n2 h1 i1, lk216 l1, by rw [e0 h1 i1]; exact finI C K1⟩)⟩
  · exact ⟨k0 h Ic, n1 h Ic, k0 h Ic, n2 h Ic, k6, (op_pay I _ _).go (fun x h1 l1 i1 C => ⟨k0 h1 i1, n1 h1 i1, k0 h1 i1, n2 h1 i1, lk216 l1, by rw [e0 h1 i1]; exact finL C K1⟩)⟩
  · exact ⟨k0 h Ic, n1 h Ic, k0 h Ic, n2 h Ic, k6, (op_year I _ _).go (fun x h1 l1 i1 C => ⟨k0 h1 i1, n1 h1 i1, k0 h1 i1, n2 h1 i1, lk216 l1, by rw [e0 h1 i1]; exact finI C K1⟩)⟩
  · exact ⟨k0 h Ic, n1 h Ic, k6, (op_gain I _).go (fun x h1 l1 i1 C => ⟨k0 h1 i1, n1 h1 i1, lk216 l1, by rw [e0 h1 i1]; exact finI C K1⟩)⟩
  · exact ⟨k6, (op_due I).go (fun x h1 l1 i1 C => ⟨lk216 l1, finI C K1⟩)⟩
  · exact ⟨k0 h Ic, n1 h Ic, k0 h Ic, n2 h Ic, k6, (op_fund I _ _).go (fun x h1 l1 i1 C => ⟨k0 h1 i1, n1 h1 i1, k0 h1 i1, n2 h1 i1, lk216 l1, by rw [e0 h1 i1]; exact finL C K1⟩)⟩
  · exact ⟨k0 h Ic, n1 h Ic, k6, (op_count I _).go (fun x h1 l1 i1 C => ⟨k0 h1 i1, n1 h1 i1, lk216 l1, by rw [e0 h1 i1]; exact finI C K1⟩)⟩
  · exact ⟨k0 h Ic, n1 h Ic, k0 h Ic, n2 h Ic, k0 h Ic, n3 h Ic, k6, (op_put I _ _ _).go (fun x h1 l1 i1 C => ⟨k0 h1 i1, n1 h1 i1, k0 h1 i1, n2 h1 i1, k0 h1 i1, n3 h1 i1, lk216 l1, by rw [e0 h1 i1]; exact finI C K1⟩)⟩
  · exact ⟨k0 h Ic, n1 h Ic, k0 h Ic, n2 h Ic, k0 h Ic, n3 h Ic, k6, (op_forge I _ _ _).go (fun x h1 l1 i1 C => ⟨k0 h1 i1, n1 h1 i1, k0 h1 i1, n2 h1 i1, k0 h1 i1, n3 h1 i1, lk216 l1, by rw [e0 h1 i1]; exact finI C K1⟩)⟩
  · exact ⟨k6, (op_status I).go (fun x h1 l1 i1 C => ⟨lk216 l1, finI C K1⟩)⟩
