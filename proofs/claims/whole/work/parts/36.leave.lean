/-! WHAT A MEMBER GIVES UP; leave -/
abbrev JT (g : Nat → Nat → Int32) (n : Nat) (w d : Int32) : Prop := ¬ fMe g n w d = -1 ∧ g 0 (fMe g n w d).toNatClampNeg = 3
def stR (g : Nat → Nat → Int32) (j : Nat) (w : Int32) : Int32 := if g 2 j = w then g 3 j else g 2 j
def gvG (g : Nat → Nat → Int32) (n : Nat) (w d : Int32) : Nat → Nat → Int32 := if fMe g n w d = -1 then g else if g 0 (fMe g n w d).toNatClampNeg = 3 then gAdd (gEnd g (fMe g n w d).toNatClampNeg d) n 4 (g 1 (fMe g n w d).toNatClampNeg) (stR g (fMe g n w d).toNatClampNeg w) (-1) d (-1) else gEnd g (fMe g n w d).toNatClampNeg d
def gvN (g : Nat → Nat → Int32) (n : Nat) (w d : Int32) : Nat := if JT g n w d then n + 1 else n
def gvR (g : Nat → Nat → Int32) (n : Nat) (w d : Int32) : Int32 := if JT g n w d then zI n else -1
theorem p60 {h : AH} (Ly : Lay h) {n : Nat} {g : Nat → Nat → Int32} (V : vCR h n g) (R : RV n g) {w : Int32} (hw : ¬ w = -1) (d : Int32) : PF 3 60 [.ref 9, .int w, .int d] h (.int (bI (JT g n w d))) := by
  have b := V.1
  refine ws60 _ _ Ly (Cl.i (p57 Ly V R hw d) (by decide) Ly ⟨fun z => ⟨?_, rfl⟩, fun z => ⟨in_N (fMe_in b z) b, fun q => ⟨?_, rfl⟩, fun q => ⟨?_, rfl⟩⟩⟩)
  · rw [bI_f]; exact fun y => y.1 z
  · rw [V.2.2 _ (inN_tn (fMe_in b z)) 0 (by decide)] at q; rw [bI_f]; exact fun y => q y.2
  · rw [V.2.2 _ (inN_tn (fMe_in b z)) 0 (by decide)] at q; rw [bI_t]; exact ⟨z, Decidable.not_not.mp q⟩
theorem p185 {h : AH} (Ly : Lay h) {n : Nat} {g : Nat → Nat → Int32} (V : vMR h n g) (w : Int32) : PF 2 185 [.ref 216, .int w] h (.int (bI (JT g n w (am_gi h 216 0)))) := by
  have b := V.1
  refine ws185 _ Ly (Cl.i (p174 Ly V w _) (by decide) Ly ⟨fun z => ⟨?_, rfl⟩, fun z => ⟨in_N (fMe_in b z) b, fun q => ⟨?_, rfl⟩, fun q => ⟨?_, rfl⟩⟩⟩)
  · rw [bI_f]; exact fun y => y.1 z
  · have e : am_gi h 228 _ = g 0 _ := V.2.2 _ (inN_tn (fMe_in b z)) 0 (by decide)
    rw [e] at q; rw [bI_f]; exact fun y => q y.2
  · have e : am_gi h 228 _ = g 0 _ := V.2.2 _ (inN_tn (fMe_in b z)) 0 (by decide)
    rw [e] at q; rw [bI_t]; exact ⟨z, Decidable.not_not.mp q⟩
theorem c61 {h : AH} (Ly : Lay h) {n : Nat} {g : Nat → Nat → Int32} (V : vCR h n g) (R : RV n g) {w : Int32} (hw : ¬ w = -1) (d : Int32) (hr : JT g n w d → n < 60) : Cl 3 61 [.ref 9, .int w, .int d] h (fun r h' => r = some (.int (gvR g n w d)) ∧ vCR h' (gvN g n w d) (gvG g n w d) ∧ OC [4] h h') := by
  have b := V.1
  refine ws61 _ _ Ly (Cl.i (p57 Ly V R hw d) (by decide) Ly ⟨fun z => ⟨in_N (fMe_in b z) b, ?_⟩, fun z => ?_⟩)
  · have hj := inN_tn (fMe_in b z)
    have O5 : OC [4] h (am_si h (11 + (fMe g n w d).toNatClampNeg) 5 d) := (OC.rf [4] h).si (a := 11 + (fMe g n w d).toNatClampNeg) (k := 5) (by omega) (tpm (tp_right (by omega)) (by decide))
    intro k1 e1; subst e1
    rw [gi_ne (by omega), gi_ne (by omega), gi_ne (by omega), gi_ne (by omega), V.2.2 _ hj 0 (by decide), V.2.2 _ hj 1 (by decide), V.2.2 _ hj 2 (by decide), V.2.2 _ hj 3 (by decide)]
    refine ⟨fun q => ?_, fun q => ⟨?_, ?_, O5⟩⟩
    · have jt : JT g n w d := ⟨z, q⟩
      have hn := hr jt
      have eN : gvN g n w d = n + 1 := if_pos jt
      have eR : gvR g n w d = zI n := if_pos jt
      have eG : ∀ s, stR g (fMe g n w d).toNatClampNeg w = s → gvG g n w d = gAdd (gEnd g (fMe g n w d).toNatClampNeg d) n 4 (g 1 (fMe g n w d).toNatClampNeg) s (-1) d (-1) := fun s es => by unfold gvG; rw [if_neg z, if_pos q, es]
      refine ⟨fun y => Cl.qi (c55 (Ly.si _ _ _) (V.end hj d) hn _ _ _ _ _ _) (by decide) (fun h' p => ⟨p.2.lay (Ly.si _ _ _), by rw [eR], ?_, O5.tr p.2⟩), fun y => Cl.qi (c55 (Ly.si _ _ _) (V.end hj d) hn _ _ _ _ _ _) (by decide) (fun h' p => ⟨p.2.lay (Ly.si _ _ _), by rw [eR], ?_, O5.tr p.2⟩)⟩
      · rw [eN, eG _ (if_neg y)]; exact p.1
      · rw [eN, eG _ (if_pos (Decidable.not_not.mp y))]; exact p.1
    · have : gvR g n w d = -1 := if_neg (fun y => q y.2)
      rw [this]
    · have e1 : gvN g n w d = n := if_neg (fun y => q y.2)
      have e2 : gvG g n w d = gEnd g (fMe g n w d).toNatClampNeg d := by unfold gvG; rw [if_neg z, if_neg q]
      rw [e1, e2]; exact V.end hj d
  · have z' := Decidable.not_not.mp z
    have e1 : gvN g n w d = n := if_neg (fun y => y.1 z')
    have e2 : gvG g n w d = g := if_pos z'
    have e3 : gvR g n w d = -1 := if_neg (fun y => y.1 z')
    rw [e1, e2, e3]
    exact ⟨rfl, V, OC.rf _ _⟩
theorem m184 {h : AH} (Ly : Lay h) {n : Nat} {g : Nat → Nat → Int32} (V : vMR h n g) (w : Int32) {d : Int32} (hd : am_gi h 216 0 = d) (hr : JT g n w d → n < 60) : Cl 3 184 [.ref 216, .int w] h (fun r h' => r = some (.int (gvR g n w d)) ∧ vMR h' (gvN g n w d) (gvG g n w d) ∧ OM [4] h h') := by
  have b := V.1
  refine ws184 _ Ly ?_
  rw [hd]
  refine Cl.i (p174 Ly V w d) (by decide) Ly ⟨fun z => ⟨in_N (fMe_in b z) b, ?_⟩, fun z => ?_⟩
  · have hj := inN_tn (fMe_in b z)
    have hi := in_N (fMe_in b z) b
    have O5 : OM [4] h (am_si h 233 (fMe g n w d).toNatClampNeg d) := (OM.rf [4] h).si (a := 233) (k := (fMe g n w d).toNatClampNeg) (by omega) (List.mem_singleton.mpr rfl)
    have e0 : am_gi h 228 (fMe g n w d).toNatClampNeg = g 0 (fMe g n w d).toNatClampNeg := V.2.2 _ hj 0 (by decide)
    have e1 : am_gi h 229 (fMe g n w d).toNatClampNeg = g 1 (fMe g n w d).toNatClampNeg := V.2.2 _ hj 1 (by decide)
    have e2 : am_gi h 230 (fMe g n w d).toNatClampNeg = g 2 (fMe g n w d).toNatClampNeg := V.2.2 _ hj 2 (by decide)
    have e3 : am_gi h 231 (fMe g n w d).toNatClampNeg = g 3 (fMe g n w d).toNatClampNeg := V.2.2 _ hj 3 (by decide)
    rw [hd]
    intro k1 ek; subst ek
    rw [gi_ne (b := 228) (by omega), gi_ne (b := 229) (by omega), gi_ne (b := 230) (by omega), gi_ne (b := 231) (by omega), e0, e1, e2, e3]
    have hd1 : am_gi (am_si h 233 (fMe g n w d).toNatClampNeg d) 216 0 = d := by rw [gi_ne (by omega)]; exact hd
    refine ⟨hi, fun q => ⟨?_, ?_, O5⟩, fun q => ⟨hi, hi, ?_⟩⟩
    · have : gvR g n w d = -1 := if_neg (fun y => q y.2)
      rw [this]
    · have e1 : gvN g n w d = n := if_neg (fun y => q y.2)
      have e2 : gvG g n w d = gEnd g (fMe g n w d).toNatClampNeg d := by unfold gvG; rw [if_neg z, if_neg q]
      rw [e1, e2]; exact V.end hj d
    · have q' := Decidable.not_not.mp q
      have jt : JT g n w d := ⟨z, q'⟩
      have hn := hr jt
      have eN : gvN g n w d = n + 1 := if_pos jt
      have eR : gvR g n w d = zI n := if_pos jt
      have eG : ∀ s, stR g (fMe g n w d).toNatClampNeg w = s → gvG g n w d = gAdd (gEnd g (fMe g n w d).toNatClampNeg d) n 4 (g 1 (fMe g n w d).toNatClampNeg) s (-1) d (-1) := fun s es => by unfold gvG; rw [if_neg z, if_pos q', es]
      refine ⟨fun y => ⟨hi, Cl.qi (m175 (Ly.si _ _ _) (V.end hj d) hn _ _ _ _ _) (by decide) (fun h' p => ⟨p.2.lay (Ly.si _ _ _), by rw [eR], ?_, O5.tr p.2⟩)⟩, fun y => ⟨hi, Cl.qi (m175 (Ly.si _ _ _) (V.end hj d) hn _ _ _ _ _) (by decide) (fun h' p => ⟨p.2.lay (Ly.si _ _ _), by rw [eR], ?_, O5.tr p.2⟩)⟩⟩
      · rw [eN, eG _ (if_neg y)]; have p1 := p.1; rw [hd1] at p1; exact p1
      · rw [eN, eG _ (if_pos (Decidable.not_not.mp y))]; have p1 := p.1; rw [hd1] at p1; exact p1
  · have z' := Decidable.not_not.mp z
    have e1 : gvN g n w d = n := if_neg (fun y => y.1 z')
    have e2 : gvG g n w d = g := if_pos z'
    have e3 : gvR g n w d = -1 := if_neg (fun y => y.1 z')
    rw [e1, e2, e3]
    exact ⟨rfl, V, OM.rf _ _⟩
theorem gvN_le {g : Nat → Nat → Int32} {n : Nat} {w d : Int32} : n ≤ gvN g n w d ∧ gvN g n w d ≤ n + 1 := by
  unfold gvN; split <;> omega
theorem gvG_o {g : Nat → Nat → Int32} {n : Nat} {w d : Int32} {k i : Nat} (hi : i < n) (hk : k ≠ 5) : gvG g n w d k i = g k i := by
  unfold gvG
  split
  · rfl
  · split
    · rw [gAdd_o (by omega), gEnd_o (Or.inl hk)]
    · rw [gEnd_o (Or.inl hk)]
theorem gv_all {g : Nat → Nat → Int32} {nh nm n : Nat} {w d : Int32} {oo : Nat → Int32} (W : RW g nh nm n d) (O : RO g n d oo) (hd : 0 ≤ d.toInt) (hn : n ≤ 60) : RW (gvG g n w d) nh nm (gvN g n w d) d ∧ RO (gvG g n w d) (gvN g n w d) d oo ∧ (∀ i, i < gvN g n w d → hoR (gvG g n w d) i d = true → ofR (gvG g n w d) i w = false) ∧ (∀ i, i < n → hoR (gvG g n w d) i d = true → hoR g i d = true) ∧ (∀ i, n ≤ i → i < gvN g n w d → ∃ j, j < n ∧ hoR g j d = true ∧ gvG g n w d 1 i = g 1 j) := by
  by_cases z : fMe g n w d = -1
  · have e1 : gvN g n w d = n := if_neg (fun y => y.1 z)
    have e2 : gvG g n w d = g := if_pos z
    rw [e1, e2]
    exact ⟨W, O, fMe_n z hn, fun i _ q => q, fun i h1 h2 => by omega⟩
  · obtain ⟨j, hj, ej, hof, hho⟩ := fMe_s z
    have tj : (fMe g n w d).toNatClampNeg = j := by rw [ej, zI_tn (by omega)]
    have uq : ∀ i, i < n → hoR g i d = true → i ≠ j → ofR g i w = false := fun i hi q1 q2 => by
      cases hb : ofR g i w with
      | false => rfl
      | true => exact absurd (W.2.1 i j w hi hj q1 hho hb hof) q2
    by_cases q : g 0 j = 3
    · have jt : JT g n w d := ⟨z, by rw [tj]; exact q⟩
      have e1 : gvN g n w d = n + 1 := if_pos jt
      have e2 : gvG g n w d = gAdd (gEnd g j d) n 4 (g 1 j) (stR g j w) (-1) d (-1) := by unfold gvG; rw [if_neg z, tj, if_pos q]
      obtain ⟨v1, v2, v3, v4, v5⟩ := W.1 j hj
      have v6 := v4.elim (fun y => absurd q y.1) (fun y => y.2)
      have hst : ofR g j (stR g j w) = true := by
        unfold ofR stR
        split
        · rw [q]; simp
        · simp
      have hsw : stR g j w ≠ w := by
        unfold stR
        split
        · rename_i y; rw [← y]; exact v6.2.2
        · rename_i y; exact y
      have hsn : inN (stR g j w) nm := by
        unfold stR
        split
        · exact ⟨v6.1, v6.2.1⟩
        · exact v3
      rw [e1, e2]
      refine ⟨(W.end hd j).add ⟨by decide, by decide⟩ v2 hsn (Or.inl ⟨by decide, rfl⟩) (fun _ i hi y => ?_), (O.end hd j).add (fun _ => O j hj hho), fun i hi y => ?_, fun i hi y => ?_, fun i h1 h2 => ?_⟩
      · rw [hoR_end hd] at y
        rw [gEnd_o (by omega), ofR_end]
        refine ⟨fun e => y.1 (W.2.2 i j hi hj y.2 hho e), ?_, fun e => absurd e (by decide)⟩
        cases hb : ofR g i (stR g j w) with
        | false => rfl
        | true => exact absurd (W.2.1 i j _ hi hj y.2 hho hb hst) y.1
      · by_cases hin : i = n
        · subst hin
          unfold ofR
          rw [gAdd_n, gAdd_n, gAdd_n]
          show (decide (stR g j w = w) || (decide ((4 : Int32) = 3) && _)) = false
          rw [decide_eq_false_iff_not.mpr hsw]; rfl
        · have hi' : i < n := by omega
          rw [hoR_congr (g' := gEnd g j d) (gAdd_o hin) (gAdd_o hin) (gAdd_o hin), hoR_end hd] at y
          rw [ofR_congr (g' := gEnd g j d) (gAdd_o hin) (gAdd_o hin) (gAdd_o hin), ofR_end]
          exact uq i hi' y.2 y.1
      · rw [hoR_congr (g' := gEnd g j d) (gAdd_o (by omega)) (gAdd_o (by omega)) (gAdd_o (by omega)), hoR_end hd] at y
        exact y.2
      · have : i = n := by omega
        subst this
        exact ⟨j, hj, hho, by rw [gAdd_n]; rfl⟩
    · have e1 : gvN g n w d = n := if_neg (fun y => q (by rw [← tj]; exact y.2))
      have e2 : gvG g n w d = gEnd g j d := by unfold gvG; rw [if_neg z, tj, if_neg q]
      rw [e1, e2]
      refine ⟨W.end hd j, O.end hd j, fun i hi y => ?_, fun i hi y => ?_, fun i h1 h2 => by omega⟩
      · rw [hoR_end hd] at y; rw [ofR_end]; exact uq i hi y.2 y.1
      · rw [hoR_end hd] at y; exact y.2
/-- the guest rights of a member end -/
def gEA (g : Nat → Nat → Int32) (b : Nat) (w d : Int32) : Nat → Nat → Int32 := fun k i => if k = 5 ∧ i < b ∧ g 0 i = 2 ∧ g 2 i = w ∧ onR g i d = true then d else g k i
theorem gEA_o {g : Nat → Nat → Int32} {b : Nat} {w d : Int32} {k i : Nat} (h : k ≠ 5 ∨ b ≤ i) : gEA g b w d k i = g k i := by
  unfold gEA; rw [if_neg]; rintro ⟨a, b, _⟩; omega
theorem vCR.cg {h : AH} {n : Nat} {g g' : Nat → Nat → Int32} (V : vCR h n g) (e : ∀ k i, k < 6 → i < n → g k i = g' k i) : vCR h n g' := ⟨V.1, V.2.1, fun i hi k hk => (V.2.2 i hi k hk).trans (e k i hk hi)⟩
theorem vMR.cg {h : AH} {n : Nat} {g g' : Nat → Nat → Int32} (V : vMR h n g) (e : ∀ k i, k < 6 → i < n → g k i = g' k i) : vMR h n g' := ⟨V.1, V.2.1, fun i hi k hk => (V.2.2 i hi k hk).trans (e k i hk hi)⟩
theorem gEA_s1 {g : Nat → Nat → Int32} {w d : Int32} {i : Nat} (h : ¬ (g 0 i = 2 ∧ g 2 i = w ∧ onR g i d = true)) (k j : Nat) : gEA g i w d k j = gEA g (i + 1) w d k j := by
  unfold gEA
  by_cases z : k = 5 ∧ j < i ∧ g 0 j = 2 ∧ g 2 j = w ∧ onR g j d = true
  · rw [if_pos z, if_pos ⟨z.1, by omega, z.2.2⟩]
  · rw [if_neg z, if_neg]
    rintro ⟨a, b, c⟩
    by_cases hj : j = i
    · subst hj; exact h c
    · exact z ⟨a, by omega, c⟩
theorem gEA_s2 {g : Nat → Nat → Int32} {w d : Int32} {i : Nat} (h : g 0 i = 2 ∧ g 2 i = w ∧ onR g i d = true) (k j : Nat) : gEnd (gEA g i w d) i d k j = gEA g (i + 1) w d k j := by
  unfold gEnd gEA
  by_cases hj : k = 5 ∧ j = i
  · rw [if_pos hj, if_pos ⟨hj.1, by omega, by rw [hj.2]; exact h⟩]
  · rw [if_neg hj]
    by_cases z : k = 5 ∧ j < i ∧ g 0 j = 2 ∧ g 2 j = w ∧ onR g j d = true
    · rw [if_pos z, if_pos ⟨z.1, by omega, z.2.2⟩]
    · rw [if_neg z, if_neg]
      rintro ⟨a, b, c⟩
      by_cases hj2 : j = i
      · exact hj ⟨a, hj2⟩
      · exact z ⟨a, by omega, c⟩
theorem ofR_g {g : Nat → Nat → Int32} {i : Nat} {w : Int32} (k2 : g 0 i = 2) : ofR g i w = true ↔ g 2 i = w := by
  unfold ofR; rw [Bool.or_eq_true, Bool.and_eq_true, decide_eq_true_eq, decide_eq_true_eq, k2]
  exact ⟨fun z => z.elim id (fun y => absurd y.1 (by decide)), Or.inl⟩
theorem l62 {n : Nat} {g : Nat → Nat → Int32} (R : RV n g) {w d : Int32} (hw : ¬ w = -1) (NH : ∀ i, i < n → hoR g i d = true → ofR g i w = false) : ∀ m i, i + m = n → ∀ h, Lay h → vCR h n (gEA g i w d) → Ev 3 62 2 [.ref 9, .int w, .int d, .int (zI i)] [] h (fun r h' => r = none ∧ vCR h' n (gEA g n w d) ∧ OC [4] h h')
  | 0, i, e, h, Ly, V => by
    have e' : i = n := by omega
    subst e'
    exact ws62_2 _ _ _ Ly ⟨fun _ => ⟨rfl, V, OC.rf _ _⟩, fun z => absurd (by rw [V.2.1]; exact Int32.le_refl _) z⟩
  | m + 1, i, e, h, Ly, V => by
    have b := V.1
    have hi : i < n := by omega
    have R' : RV n (gEA g i w d) := fun j hj q => by rw [gEA_o (by omega)] at q ⊢; exact R j hj q
    have t0 : ∀ k, gEA g i w d k i = g k i := fun k => gEA_o (by omega)
    have eo : ofR (gEA g i w d) i w = ofR g i w := ofR_congr (t0 _) (t0 _) (t0 _)
    have en : onR (gEA g i w d) i d = onR g i d := onR_congr (t0 _) (t0 _)
    have hin : am_in (zI i) 60 := in_zI (by omega) (by omega)
    have ih := l62 R hw NH m (i + 1) (by omega)
    refine ws62_2 _ _ _ Ly ⟨fun z => absurd z (by rw [V.2.1, zI_le (by omega) (by omega)]; omega), fun _ => ⟨hin, ?_⟩⟩
    rw [zI_tn (show i < 2147483648 by omega), zI_succ]
    refine Cl.i (p67 Ly V R' hi hw) (by decide) Ly ⟨fun z => ?_, fun z => ⟨hin, Cl.i (p65 Ly V hi d) (by decide) Ly ⟨fun y => ?_, fun y => ⟨hin, ?_⟩⟩⟩⟩
    · rw [bI_0, eo] at z
      exact ih h Ly (V.cg (fun k j _ _ => gEA_s1 (fun c => z ((ofR_g c.1).mpr c.2.1)) k j))
    · rw [bI_0, en] at y
      exact ih h Ly (V.cg (fun k j _ _ => gEA_s1 (fun c => y c.2.2) k j))
    · rw [bI_n0, eo] at z; rw [bI_n0, en] at y
      have k2 : g 0 i = 2 := Decidable.byContradiction fun q => by
        have := NH i hi (hoR_e.mpr ⟨q, y⟩)
        rw [z] at this; cases this
      intro k1 ek; subst ek
      refine Ev.mono (ih _ (Ly.si _ _ _) ((V.end hi d).cg (fun k j _ _ => gEA_s2 ⟨k2, (ofR_g k2).mp z, y⟩ k j))) (by decide) (fun r h' q => ⟨q.1, q.2.1, OC.tr ((OC.rf [4] h).si (a := 11 + i) (k := 5) (by omega) (tpm (tp_right (by omega)) (by decide))) q.2.2⟩)
theorem c62 {h : AH} (Ly : Lay h) {n : Nat} {g : Nat → Nat → Int32} (V : vCR h n g) (R : RV n g) {w d : Int32} (hw : ¬ w = -1) (NH : ∀ i, i < n → hoR g i d = true → ofR g i w = false) : Cl 3 62 [.ref 9, .int w, .int d] h (fun r h' => r = none ∧ vCR h' n (gEA g n w d) ∧ OC [4] h h') :=
  ws62 _ _ Ly (l62 R hw NH n 0 (by omega) h Ly (V.cg (fun k i _ _ => (gEA_o (by omega)).symm)))
theorem hoR_EA {g : Nat → Nat → Int32} {b i : Nat} {w d d' : Int32} : hoR (gEA g b w d) i d' = hoR g i d' := by
  by_cases z : g 0 i = 2
  · have e1 : hoR g i d' = false := by unfold hoR; rw [z]; rfl
    have e2 : hoR (gEA g b w d) i d' = false := by unfold hoR; rw [gEA_o (by omega), z]; rfl
    rw [e1, e2]
  · refine hoR_congr (gEA_o (by omega)) (gEA_o (by omega)) ?_
    unfold gEA; rw [if_neg]; exact fun y => z y.2.2.1
theorem RW.ea {g : Nat → Nat → Int32} {nh nm nr : Nat} {d : Int32} (W : RW g nh nm nr d) (b : Nat) (w d' : Int32) : RW (gEA g b w d') nh nm nr d := by
  have e : ∀ k i, k < 5 → gEA g b w d' k i = g k i := fun k i hk => gEA_o (by omega)
  have eo : ∀ i v, ofR (gEA g b w d') i v = ofR g i v := fun i v => ofR_congr (e _ _ (by omega)) (e _ _ (by omega)) (e _ _ (by omega))
  refine ⟨fun i hi => ?_, fun i i' v hi hi' h1 h2 h3 h4 => ?_, fun i i' hi hi' h1 h2 h3 => ?_⟩
  · rw [e 0 i (by omega), e 1 i (by omega), e 2 i (by omega), e 3 i (by omega), e 4 i (by omega)]; exact W.1 i hi
  · rw [hoR_EA] at h1 h2; rw [eo] at h3 h4; exact W.2.1 i i' v hi hi' h1 h2 h3 h4
  · rw [hoR_EA] at h1 h2; rw [e 1 i (by omega), e 1 i' (by omega)] at h3; exact W.2.2 i i' hi hi' h1 h2 h3
theorem RO.ea {g : Nat → Nat → Int32} {nr : Nat} {d : Int32} {oo : Nat → Int32} (W : RO g nr d oo) (b : Nat) (w d' : Int32) : RO (gEA g b w d') nr d oo := fun i hi z => by
  rw [hoR_EA] at z; rw [gEA_o (by omega)]; exact W i hi z
