/-! BEST 11: best and moves -/
theorem op_best {L : Nat} {xs : Nat → Int32} {c : Nat} {h : AH} {nh nm nr na nt nc : Nat} (I : InvN L xs c h nh nm nr na nt nc) : OPi 124 241 [] L xs c h := by
  have Ly := I.lay
  have bh := I.iho.1
  have kl := K_le I
  obtain ⟨fr, R⟩ := RS_ex I
  refine OPi.gx (d := 8) (ws124 (d := 7) Ly (Cl.qi (c164 I R) (Nat.le_refl _) (fun g G => ⟨G.1.lay Ly, rfl, G⟩))) (d' := 6) (fun h1 G => ?_)
  have L1 := G.1.lay Ly
  refine ⟨L1, I.ico.ex G.1.ex (by decide), ws241 (d := 5) L1 (Cl.qv (m240 I G.1.ex.em) (Nat.le_refl _) (fun g q => ?_))⟩
  obtain ⟨fr', Z⟩ := q
  have Z := Z.e (by omega) bh R
  exact ⟨Z.2.1.1.lay Ly, in_zI (i := 0) (by decide) (by decide), by rw [show (0 : Int32).toNatClampNeg = 0 from rfl, Z.2.2.2], I.sc (G.1.ex.tr Z.2.1.1.2.ex)⟩
theorem l242 {L : Nat} {xs : Nat → Int32} {c : Nat} {h h1 g : AH} {nh nm nr na nt nc d : Nat} (I : InvN L xs c h nh nm nr na nt nc) {fr : Nat → Nat} (Z : RZ h h1 nh nm nr fr g) {x : Nat} (hx : x < nm) {v : Int32} (ev : (∃ k, k < cnt (mayP h nr) nm ∧ memF h nr k = x ∧ ¬ fr k = ownF h nr k ∧ v = zI (fr k)) ∨ ((∀ k, k < cnt (mayP h nr) nm → memF h nr k = x → fr k = ownF h nr k) ∧ v = -1)) : ∀ m k, k + m = cnt (mayP h nr) nm → (∀ i, i < k → memF h nr i = x → fr i = ownF h nr i) → Ev (d + 1) 242 17 [.ref 216, .int (zI x), .int (zI k)] [] g (fun r g' => r = some (.int v) ∧ g' = g)
  | 0, k, e, J => by
    have kl := K_le I
    have bh := I.iho.1
    have ek : k = cnt (mayP h nr) nm := by omega
    subst ek
    refine ws242_17 _ _ (Z.2.1.1.lay I.lay) ⟨fun _ => ⟨?_, rfl⟩, fun z => absurd (by rw [Z.2.1.2.1]; exact (zI_le (by omega) (by omega)).mpr (Nat.le_refl _)) z⟩
    rcases ev with ⟨k, hk, k2, k3, _⟩ | ⟨_, e2⟩
    · exact absurd (J k hk k2) k3
    · rw [e2]
  | m + 1, k, e, J => by
    have kl := K_le I
    have bh := I.iho.1
    have bm := I.ime.1
    have hk : k < cnt (mayP h nr) nm := by omega
    obtain ⟨R1, R2, R3, R4⟩ := Z
    obtain ⟨q1, q2⟩ := R2.2.2.2 k hk
    have q3 := R3 k hk
    have f1 := R1.1.1 k hk
    have o1 := (own_inj I).1 k hk
    have m1 := (memF_k (h := h) bm hk).1
    have i24 : am_in (zI k) 24 := in_zI (by omega) (by decide)
    refine ws242_17 _ _ (R2.1.lay I.lay) ⟨fun z => absurd ?_ (show ¬ cnt (mayP h nr) nm ≤ k by omega), fun _ => ?_⟩
    · rw [R2.2.1] at z; exact (zI_le (by omega) (by omega)).mp z
    rw [zI_tn (by omega), q1, q2, q3, zI_succ]
    refine ⟨i24, fun z => ?_, fun z => ⟨i24, i24, fun y => ?_, fun y => ⟨i24, ?_, rfl⟩⟩⟩
    · refine l242 I ⟨R1, R2, R3, R4⟩ hx ev m (k + 1) (by omega) (fun i hi w => ?_)
      by_cases u : i = k
      · rw [u] at w; exact absurd (by rw [w]) z
      · exact J i (by omega) w
    · refine l242 I ⟨R1, R2, R3, R4⟩ hx ev m (k + 1) (by omega) (fun i hi w => ?_)
      by_cases u : i = k
      · rw [u]; exact (zI_inj (by omega) (by omega)).mp y
      · exact J i (by omega) w
    · have z : memF h nr k = x := (zI_inj (by omega) (by omega)).mp (Decidable.not_not.mp z)
      have y : ¬ fr k = ownF h nr k := fun w => y (by rw [w])
      rcases ev with ⟨k', hk', k2, k3, k4⟩ | ⟨e1, _⟩
      · have a := memF_k (h := h) bm hk
        have b := memF_k (h := h) bm hk'
        have : k = k' := by rw [← a.2.2, ← b.2.2, z, k2]
        rw [k4, this]
      · exact absurd (e1 k hk z) y
theorem op_moves {L : Nat} {xs : Nat → Int32} {c : Nat} {h : AH} {nh nm nr na nt nc : Nat} (I : InvN L xs c h nh nm nr na nt nc) (i1 : Int32) : OPi 125 242 [.int i1] L xs c h := by
  have Ly := I.lay
  have bh := I.iho.1
  have bm := I.ime.1
  have kl := K_le I
  by_cases hx : inN i1 nm
  · obtain ⟨x, hx', rfl⟩ := hx.ex
    obtain ⟨fr, R⟩ := RS_ex I
    obtain ⟨v, ev⟩ : ∃ v : Int32, (∃ k, k < cnt (mayP h nr) nm ∧ memF h nr k = x ∧ ¬ fr k = ownF h nr k ∧ v = zI (fr k)) ∨ ((∀ k, k < cnt (mayP h nr) nm → memF h nr k = x → fr k = ownF h nr k) ∧ v = -1) := by
      by_cases z : ∃ k, k < cnt (mayP h nr) nm ∧ memF h nr k = x ∧ ¬ fr k = ownF h nr k
      · obtain ⟨k, k1, k2, k3⟩ := z
        exact ⟨zI (fr k), Or.inl ⟨k, k1, k2, k3, rfl⟩⟩
      · refine ⟨-1, Or.inr ⟨fun k k1 k2 => ?_, rfl⟩⟩
        by_cases y : fr k = ownF h nr k
        · exact y
        · exact absurd ⟨k, k1, k2, y⟩ z
    refine OPi.gx (x := v) (P := fun g => OC [0] h g) (d := 8) (ws125 (d := 7) _ Ly (Cl.i (p139 Ly (by omega) I.ime.2.1 _) (by decide) Ly ⟨fun _ => Cl.qi (c164 I R) (Nat.le_refl _) (fun g G => ⟨G.1.lay Ly, in_zI (by omega) (by decide), ?_, G.1⟩), fun z => absurd (bI_n0.mpr hx) z⟩)) (d' := 6) (fun h1 G => ?_)
    · rw [zI_tn (by omega)]
      rcases ev with ⟨k, k1, k2, k3, k4⟩ | ⟨e1, e2⟩
      · have := G.2.1 k k1
        rw [k2, if_neg k3] at this
        rw [this, k4]
      · by_cases z : ∃ k, k < cnt (mayP h nr) nm ∧ memF h nr k = x
        · obtain ⟨k, k1, k2⟩ := z
          have := G.2.1 k k1
          rw [k2, if_pos (e1 k k1 k2)] at this
          rw [this, e2]
        · rw [G.2.2 x (by omega) (fun k k1 k2 => z ⟨k, k1, k2⟩), e2]
    · have L1 := G.lay Ly
      refine ⟨L1, I.ico.ex G.ex (by decide), ws242 (d := 5) _ L1 (Cl.i (p169 L1 (n := nm) (by omega) (by rw [G.gi (by omega)]; exact I.ime.2.2.1) _) (by decide) L1 ⟨fun _ => Cl.qv (m240 I G.ex.em) (Nat.le_refl _) (fun g q => ?_), fun z => absurd (bI_n0.mpr hx) z⟩)⟩
      obtain ⟨fr', Z⟩ := q
      have Z := Z.e (by omega) bh R
      exact ⟨Z.2.1.1.lay Ly, Ev.mono (l242 (d := 5) I Z hx' ev _ 0 (Nat.zero_add _) (fun i hi => absurd hi (by omega))) (Nat.le_refl _) (fun r g' p => ⟨p.1, by rw [p.2]; exact I.sc (G.ex.tr Z.2.1.1.2.ex)⟩)⟩
  · exact OPi.pf I (x := -2) (d := 1) (d' := 2) (ws125 _ Ly (Cl.i (p139 Ly (by omega) I.ime.2.1 _) (by decide) Ly ⟨fun z => absurd (bI_n0.mp z) hx, fun _ => ⟨rfl, rfl⟩⟩)) (ws242 _ Ly (Cl.i (p169 Ly (by omega) I.ime.2.2.1 _) (by decide) Ly ⟨fun z => absurd (bI_n0.mp z) hx, fun _ => ⟨rfl, rfl⟩⟩))
