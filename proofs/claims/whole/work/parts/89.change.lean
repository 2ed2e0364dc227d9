/-! CHANGE 2: the call -/
theorem c63 {h : AH} (Ly : Lay h) {n r : Nat} {g : Nat → Nat → Int32} (V : vCR h n g) (R : RV n g) (hn : n < 60) {w y d : Int32} (hw : ¬ w = -1) (e : fMe g n w d = zI r) (hr : r < n) : Cl 3 63 [.ref 9, .int w, .int y, .int d] h (fun q h' => q = none ∧ vCR h' (n + 1) (gAdd (gEnd g r d) n (g 0 r) y (g 2 r) (g 3 r) d (-1)) ∧ OC [4] h h') := by
  have P := p57 Ly V R hw d
  rw [e] at P
  refine ws63 (d := 2) _ _ _ Ly (Cl.i P (by decide) Ly ⟨fun _ => ?_, fun z => absurd (zI_ne1 (by omega)) z⟩)
  rw [zI_tn (show r < 2147483648 by omega)]
  refine ⟨in_zI (by omega) (by decide), fun h5 e5 => ?_⟩
  have V5 : vCR h5 n (gEnd g r d) := by rw [e5]; exact V.end hr d
  have L5 : Lay h5 := by rw [e5]; exact Ly.si _ _ _
  have O5 : OC [4] h h5 := by rw [e5]; exact (OC.rf [4] h).si (by omega) (by rw [tp_right (by omega)]; decide)
  have g0 : gEnd g r d 0 r = g 0 r := by unfold gEnd; rw [if_neg (by omega)]
  have g2 : gEnd g r d 2 r = g 2 r := by unfold gEnd; rw [if_neg (by omega)]
  have g3 : gEnd g r d 3 r = g 3 r := by unfold gEnd; rw [if_neg (by omega)]
  rw [V5.2.2 r hr 0 (by decide), V5.2.2 r hr 2 (by decide), V5.2.2 r hr 3 (by decide), g0, g2, g3]
  exact Cl.qi (c55 L5 V5 hn (g 0 r) y (g 2 r) (g 3 r) d (-1)) (by decide) (fun h6 q => ⟨q.2.lay L5, rfl, q.1, O5.tr q.2⟩)
def mvM (h : AH) (nr : Nat) (fr : Nat → Nat) (m : Nat) : Bool := mayP h nr m && !decide (fr (cnt (mayP h nr) m) = ownM h nr m)
theorem mvM_i {h : AH} {nr : Nat} {fr : Nat → Nat} {m : Nat} : mvM h nr fr m = true ↔ mayP h nr m = true ∧ ¬ fr (cnt (mayP h nr) m) = ownM h nr m := by unfold mvM; simp
theorem tp4 {a k : Nat} (h : tp a k = 4) (ha : a < 216) : a = 9 ∨ (11 ≤ a ∧ a < 71) := by
  by_cases z : a = 9 ∨ (11 ≤ a ∧ a < 71)
  · exact z
  · exfalso
    by_cases z1 : a < 6
    · have : tp a k = 12 := by unfold tp; rw [if_pos z1]
      omega
    · by_cases z2 : a = 6
      · subst z2
        have : tp 6 k = (if k = 0 then 1 else if k = 2 then 2 else if k = 4 then 3 else if k = 9 then 6 else if k = 10 then 6 else if k = 11 then 7 else if k = 12 then 7 else if k = 18 then 10 else 0) := rfl
        rw [this] at h
        by_cases y : k = 0 ∨ k = 2 ∨ k = 4 ∨ k = 9 ∨ k = 10 ∨ k = 11 ∨ k = 12 ∨ k = 18
        · rcases y with y | y | y | y | y | y | y | y <;> (subst y; exact absurd h (by decide))
        · rw [if_neg (by omega), if_neg (by omega), if_neg (by omega), if_neg (by omega), if_neg (by omega), if_neg (by omega), if_neg (by omega), if_neg (by omega)] at h
          exact absurd h (by decide)
      · by_cases z3 : a = 71
        · subst z3
          have : tp 71 k = (if k = 1 then 5 else 0) := rfl
          rw [this] at h
          by_cases y : k = 1
          · rw [if_pos y] at h; exact absurd h (by decide)
          · rw [if_neg y] at h; exact absurd h (by decide)
        · by_cases z4 : a = 105
          · subst z4
            have : tp 105 k = (if k = 1 then 8 else 0) := rfl
            rw [this] at h
            by_cases y : k = 1
            · rw [if_pos y] at h; exact absurd h (by decide)
            · rw [if_neg y] at h; exact absurd h (by decide)
          · rw [tp_k z2 z3 z4 (by omega)] at h
            have q : ∀ b, b < 216 → ¬ (b = 9 ∨ (11 ≤ b ∧ b < 71)) → ¬ tp b 0 = 4 := by decide +kernel
            exact q a ha z h
/-- the class: who has moved -/
def FCc (h1 g : AH) : Prop := Sm h1 g ∧ (∀ a k, ¬ (a = 9 ∨ (11 ≤ a ∧ a < 71) ∨ (124 ≤ a ∧ a < 148 ∧ k = 4)) → am_gi g a k = am_gi h1 a k) ∧ ∀ a k, ¬ (a = 9 ∨ (11 ≤ a ∧ a < 71)) → am_gl g a k = am_gl h1 a k
theorem FCc.oc4 {h1 g g' : AH} (F : FCc h1 g) (O : OC [4] g g') : FCc h1 g' := by
  have q : ∀ a k, ¬ (a = 9 ∨ (11 ≤ a ∧ a < 71)) → am_gi g' a k = am_gi g a k ∧ am_gl g' a k = am_gl g a k := fun a k z => by
    by_cases y : 216 ≤ a ∧ a < 263
    · exact O.2 a k (Or.inl y)
    · refine O.2 a k (Or.inr (fun w => ?_))
      have w := List.mem_singleton.mp w
      by_cases x : a < 216
      · exact z (tp4 w x)
      · rw [tp_new (by omega)] at w; exact absurd w (by decide)
  exact ⟨F.1.trans O.1, fun a k z => by rw [(q a k (by omega)).1]; exact F.2.1 a k z, fun a k z => by rw [(q a k z).2]; exact F.2.2 a k z⟩
def SCi (h h1 : AH) (nr : Nat) (fr : Nat → Nat) (i : Nat) (g : AH) : Prop := FCc h1 g ∧ vCR g (nr + cm (ownF h nr) fr (cnt (mayP h nr) i)) (gK h nr fr (cnt (mayP h nr) i)) ∧ ∀ x, x < 24 → am_gi g (124 + x) 4 = if x < i ∧ mvM h nr fr x = true then 0 else am_gi h (124 + x) 4
theorem l126 {L : Nat} {xs : Nat → Int32} {c : Nat} {h h1 : AH} {nh nm nr na nt nc d : Nat} (I : InvN L xs c h nh nm nr na nt nc) {fr : Nat → Nat} (R : RS (cnt (mayP h nr) nm) nh (ownF h nr) (alF h nh nm nr) fr) (G : GS nh (cnt (mayP h nr) nm) (ownF h nr) (memF h nr) fr h h1) (hr : nr + cm (ownF h nr) fr (cnt (mayP h nr) nm) ≤ 60) (hd : 3 ≤ d) {v : Int32} : ∀ m i g, i + m = nm → SCi h h1 nr fr i g → Ev (d + 1) 126 21 [.ref 6, .int v, .int (zI i)] [] g (fun r g' => r = some (.int v) ∧ SCi h h1 nr fr nm g')
  | 0, i, g, e, S => by
    have bm := I.ime.1
    have ei : i = nm := by omega
    subst ei
    have Lg := S.1.1.lay (G.1.lay I.lay)
    refine ws126_21 _ _ Lg ⟨fun _ => ⟨rfl, S⟩, fun z => absurd ?_ z⟩
    rw [S.1.2.1 _ _ (by omega), (G.1.ex.ag (t := 3) (by decide) 6 4 rfl).1, I.ime.2.1]; exact (zI_le (by omega) (by omega)).mpr (Nat.le_refl _)
  | m + 1, i, g, e, S => by
    have bm := I.ime.1
    have bh := I.iho.1
    have br := I.iri.1
    have kl := K_le I
    obtain ⟨F, V, W⟩ := S
    have Lg := F.1.lay (G.1.lay I.lay)
    have X := G.1.ex
    refine ws126_21 _ _ Lg ⟨fun z => absurd ?_ (show ¬ nm ≤ i by omega), fun _ => ?_⟩
    · rw [F.2.1 _ _ (by omega), (X.ag (t := 3) (by decide) 6 4 rfl).1, I.ime.2.1] at z; exact (zI_le (by omega) (by omega)).mp z
    have d6 : am_gi g 6 0 = am_gi h 216 0 := by rw [F.2.1 _ _ (by omega), (X.ag (t := 1) (by decide) 6 0 rfl).1]; exact I.ida.1
    rw [zI_tn (show i < 2147483648 by omega), zI_succ, F.2.1 81 i (by omega), d6]
    have i24 : am_in (zI i) 24 := in_zI (by omega) (by decide)
    have stay : mvM h nr fr i = false → gK h nr fr (cnt (mayP h nr) (i + 1)) = gK h nr fr (cnt (mayP h nr) i) → cm (ownF h nr) fr (cnt (mayP h nr) (i + 1)) = cm (ownF h nr) fr (cnt (mayP h nr) i) → Ev (d + 1) 126 21 [.ref 6, .int v, .int (zI (i + 1))] [] g (fun r g' => r = some (.int v) ∧ SCi h h1 nr fr nm g') := fun z e1 e2 => by
      refine l126 I R G hr hd m (i + 1) g (by omega) ⟨F, by rw [e1, e2]; exact V, fun x hx => ?_⟩
      rw [W x hx]
      by_cases y : x = i
      · subst y
        rw [if_neg (fun w => by omega), if_neg (fun w => by rw [z] at w; exact absurd w.2 (by decide))]
      · by_cases w : x < i ∧ mvM h nr fr x = true
        · rw [if_pos w, if_pos ⟨by omega, w.2⟩]
        · rw [if_neg w, if_neg (fun u => w ⟨by omega, u.2⟩)]
    by_cases w : mayP h nr i = true
    · have k1 := cnt_up (mayP h nr) (show i + 1 ≤ nm by omega)
      rw [cnt_s1 w] at k1
      have me := memF_m (h := h) (nr := nr) (show i < 24 by omega) w
      have oe : ownF h nr (cnt (mayP h nr) i) = ownM h nr i := by unfold ownF; rw [me]
      have gl := G.2.1 (cnt (mayP h nr) i) (by omega)
      rw [me] at gl
      have f1 := R.1.1 (cnt (mayP h nr) i) (by omega)
      rw [gl]
      by_cases z : fr (cnt (mayP h nr) i) = ownF h nr (cnt (mayP h nr) i)
      · rw [if_pos z]
        refine ⟨i24, fun _ => stay ?_ ?_ ?_, fun y => absurd rfl y⟩
        · unfold mvM; rw [oe] at z; rw [decide_eq_true z, Bool.not_true, Bool.and_false]
        · rw [cnt_s1 w]; exact if_pos z
        · rw [cnt_s1 w]; exact cm_s0 z
      · rw [if_neg z]
        have cmu : cm (ownF h nr) fr (cnt (mayP h nr) i) + 1 ≤ cm (ownF h nr) fr (cnt (mayP h nr) nm) := by
          rw [← cm_s1 z]; exact cnt_up _ (by omega)
        refine ⟨i24, fun y => absurd y (zI_ne1 (by omega)), fun _ => ⟨i24, ?_⟩⟩
        have me2 := gK_me I fr (k := cnt (mayP h nr) i) (by omega)
        rw [me] at me2
        obtain ⟨r1, _⟩ := rk_s I (k := cnt (mayP h nr) i) (by omega)
        have fa := (gK_f I fr (cnt (mayP h nr) i) (by omega)).1 _ r1
        refine Cl.qv (c63 Lg V (gK_rv I fr (by omega)) (by omega) (zI_ne1 (by omega)) me2 (by omega)) hd (fun g3 q => ⟨q.2.lay Lg, i24, fun g6 e6 => ?_⟩)
        have F3 := F.oc4 q.2
        have V3 := q.1
        rw [fa 0 (by decide), fa 2 (by decide), fa 3 (by decide)] at V3
        refine l126 I R G hr hd m (i + 1) g6 (by omega) ⟨?_, ?_, fun x hx => ?_⟩
        · rw [e6]
          exact ⟨F3.1.si _ _ _, fun a k y => by rw [gi_ne (by omega)]; exact F3.2.1 a k y, F3.2.2⟩
        · rw [cnt_s1 w, cm_s1 z]
          rw [show gK h nr fr (cnt (mayP h nr) i + 1) = _ from if_neg z, e6]
          exact V3.si (by omega)
        · rw [e6]
          by_cases y : x = i
          · subst y
            rw [gi_eq, if_pos ⟨by omega, mvM_i.mpr ⟨w, by rw [← oe]; exact z⟩⟩]
          · have o4 : am_gi g3 (124 + x) 4 = am_gi g (124 + x) 4 := (q.2.2 (124 + x) 4 (Or.inr (by rw [tp_member hx]; decide))).1
            rw [gi_ne (by omega), o4, W x hx]
            by_cases v : x < i ∧ mvM h nr fr x = true
            · rw [if_pos v, if_pos ⟨by omega, v.2⟩]
            · rw [if_neg v, if_neg (fun u => v ⟨by omega, u.2⟩)]
    · have w0 : mayP h nr i = false := by simpa using w
      have gn : am_gi h1 81 i = -1 := G.2.2 i (by omega) (fun k hk y => by
        have := (memF_k (h := h) bm hk).2.1
        rw [y] at this; exact w this)
      rw [gn]
      refine ⟨i24, fun _ => stay ?_ ?_ ?_, fun y => absurd rfl y⟩
      · unfold mvM; rw [w0, Bool.false_and]
      · rw [cnt_s0 w0]
      · rw [cnt_s0 w0]
/-- the reference: who has moved -/
def FMm (h1 g : AH) : Prop := Sm h1 g ∧ ∀ a k, ((a < 216 ∨ 263 ≤ a) ∨ (tp a k ∉ [0, 4] ∧ ¬ a = 226)) → am_gi g a k = am_gi h1 a k ∧ am_gl g a k = am_gl h1 a k
theorem FMm.om {h1 g g' : AH} {ts : List Nat} (F : FMm h1 g) (O : OM ts g g') (s : ∀ t ∈ ts, t ∈ [0, 4]) : FMm h1 g' := ⟨F.1.trans O.1, fun a k z => by
  have q := O.2 a k (z.imp id (fun y w => y.1 (s _ w)))
  exact ⟨q.1.trans (F.2 a k z).1, q.2.trans (F.2 a k z).2⟩⟩
def SMk (h h1 : AH) (nm nr : Nat) (fr : Nat → Nat) (k : Nat) (g : AH) : Prop := FMm h1 g ∧ vMR g (nr + cm (ownF h nr) fr k) (gK h nr fr k) ∧ (∀ j, j < cnt (mayP h nr) nm → am_gi g 256 j = zI (memF h nr j) ∧ am_gi g 258 j = zI (fr j) ∧ am_gi g 260 j = if fr j = ownF h nr j then -1 else zI (rk h nr j)) ∧ am_gi g 216 61 = zI (cnt (mayP h nr) nm) ∧ ∀ x, x < 24 → am_gi g 226 x = if cnt (mayP h nr) x < k ∧ mvM h nr fr x = true then 0 else am_gi h 226 x
theorem l243b {L : Nat} {xs : Nat → Int32} {c : Nat} {h h1 : AH} {nh nm nr na nt nc d : Nat} (I : InvN L xs c h nh nm nr na nt nc) {fr : Nat → Nat} (R : RS (cnt (mayP h nr) nm) nh (ownF h nr) (alF h nh nm nr) fr) (L1 : Lay h1) (e0 : am_gi h1 216 0 = am_gi h 216 0) (hr : nr + cm (ownF h nr) fr (cnt (mayP h nr) nm) ≤ 60) {v : Int32} : ∀ m k g, k + m = cnt (mayP h nr) nm → SMk h h1 nm nr fr k g → Ev (d + 1) 243 82 [.ref 216, .int v, .int (zI k), .null] [] g (fun r g' => r = some (.int v) ∧ SMk h h1 nm nr fr (cnt (mayP h nr) nm) g')
  | 0, k, g, e, S => by
    have kl := K_le I
    have bh := I.iho.1
    have ek : k = cnt (mayP h nr) nm := by omega
    subst ek
    exact ws243_82 _ _ (S.1.1.lay L1) ⟨fun _ => ⟨rfl, S⟩, fun z => absurd (by rw [S.2.2.2.1]; exact (zI_le (by omega) (by omega)).mpr (Nat.le_refl _)) z⟩
  | m + 1, k, g, e, S => by
    have bm := I.ime.1
    have bh := I.iho.1
    have br := I.iri.1
    have kl := K_le I
    have hk : k < cnt (mayP h nr) nm := by omega
    obtain ⟨F, V, A, e61, W⟩ := S
    have Lg := F.1.lay L1
    obtain ⟨a1, a2, a3⟩ := A k hk
    obtain ⟨m1, m2, m3⟩ := memF_k (h := h) bm hk
    have f1 := R.1.1 k hk
    obtain ⟨r1, _⟩ := rk_s I hk
    have d0 : am_gi g 216 0 = am_gi h 216 0 := (F.2 216 0 (Or.inr (by decide))).1.trans e0
    have i24 : am_in (zI k) 24 := in_zI (by omega) (by decide)
    have oe : ownF h nr k = ownM h nr (memF h nr k) := rfl
    refine ws243_82 _ _ Lg ⟨fun z => absurd ?_ (show ¬ cnt (mayP h nr) nm ≤ k by omega), fun _ => ?_⟩
    · rw [e61] at z; exact (zI_le (by omega) (by omega)).mp z
    rw [zI_tn (show k < 2147483648 by omega), a3, zI_succ]
    -- whose wishes go
    have wi : ∀ x, x < 24 → ¬ x = memF h nr k → ((cnt (mayP h nr) x < k + 1 ∧ mvM h nr fr x = true) ↔ (cnt (mayP h nr) x < k ∧ mvM h nr fr x = true)) := fun x hx ne => ⟨fun y => ⟨by
      by_cases u : cnt (mayP h nr) x = k
      · exact absurd (cnt_inj (mvM_i.mp y.2).1 m2 (u.trans m3.symm)) ne
      · omega, y.2⟩, fun y => ⟨by omega, y.2⟩⟩
    by_cases z : fr k = ownF h nr k
    · rw [if_pos z]
      refine ⟨i24, fun _ => l243b I R L1 e0 hr m (k + 1) g (by omega) ⟨F, by rw [cm_s0 z, show gK h nr fr (k + 1) = gK h nr fr k from if_pos z]; exact V, A, e61, fun x hx => ?_⟩, fun y => absurd rfl y⟩
      rw [W x hx]
      by_cases y : x = memF h nr k
      · subst y
        have nm' : ¬ mvM h nr fr (memF h nr k) = true := fun u => by
          have := (mvM_i.mp u).2
          rw [m3] at this; exact this z
        rw [if_neg (fun u => nm' u.2), if_neg (fun u => nm' u.2)]
      · by_cases u : cnt (mayP h nr) x < k ∧ mvM h nr fr x = true
        · rw [if_pos u, if_pos ((wi x hx y).mpr u)]
        · rw [if_neg u, if_neg (fun t => u ((wi x hx y).mp t))]
    · rw [if_neg z]
      have cmu : cm (ownF h nr) fr k + 1 ≤ cm (ownF h nr) fr (cnt (mayP h nr) nm) := by rw [← cm_s1 z]; exact cnt_up _ (by omega)
      have i60 : am_in (zI (rk h nr k)) 60 := in_zI (by omega) (by decide)
      have fa := (gK_f I fr k (by omega)).1 _ r1
      refine ⟨i24, fun y => absurd y (zI_ne1 (by omega)), fun _ => ?_⟩
      rw [zI_tn (show rk h nr k < 2147483648 by omega), d0]
      refine ⟨i60, fun g3 e3 => ⟨i60, i24, i60, i60, ?_⟩⟩
      have V3 : vMR g3 (nr + cm (ownF h nr) fr k) (gEnd (gK h nr fr k) (rk h nr k) (am_gi h 216 0)) := by rw [e3]; exact V.end (by omega) _
      have O3 : OM [4] g g3 := by rw [e3]; exact (OM.rf [4] g).si (by omega) (List.mem_singleton.mpr rfl)
      have L3 := O3.lay Lg
      have d3 : am_gi g3 216 0 = am_gi h 216 0 := by rw [e3, gi_ne (by omega)]; exact d0
      have ge : ∀ x, ¬ x = 5 → gEnd (gK h nr fr k) (rk h nr k) (am_gi h 216 0) x (rk h nr k) = rR h x (rk h nr k) := fun x hx => by unfold gEnd; rw [if_neg (fun y => hx y.1)]; exact fa x hx
      rw [show am_gi g3 228 (rk h nr k) = rR h 0 (rk h nr k) from (V3.2.2 _ (by omega) 0 (by decide)).trans (ge 0 (by decide)), show am_gi g3 230 (rk h nr k) = rR h 2 (rk h nr k) from (V3.2.2 _ (by omega) 2 (by decide)).trans (ge 2 (by decide)), show am_gi g3 231 (rk h nr k) = rR h 3 (rk h nr k) from (V3.2.2 _ (by omega) 3 (by decide)).trans (ge 3 (by decide)), show am_gi g3 258 k = zI (fr k) from by rw [e3, gi_ne (by omega)]; exact a2]
      refine Cl.qi (m175 L3 V3 (by omega) (rR h 0 (rk h nr k)) (zI (fr k)) (rR h 2 (rk h nr k)) (rR h 3 (rk h nr k)) (-1)) (by omega) (fun g8 q => ⟨q.2.lay L3, i24, ?_⟩)
      obtain ⟨V8, O8⟩ := q
      rw [d3] at V8
      have F8 : FMm h1 g8 := (F.om O3 (by decide)).om O8 (by decide)
      have s8 : ∀ a i, tp a i = 0 ∨ tp a i = 3 → am_gi g8 a i = am_gi g a i := fun a i y => by
        have n4 : tp a i ∉ [4] := fun w => by have := List.mem_singleton.mp w; omega
        rw [(O8.2 a i (Or.inr n4)).1, (O3.2 a i (Or.inr n4)).1]
      rw [s8 256 k (Or.inl rfl), a1, zI_tn (show memF h nr k < 2147483648 by omega)]
      refine ⟨in_zI (by omega) (by decide), fun g13 e13 => ?_⟩
      refine l243b I R L1 e0 hr m (k + 1) g13 (by omega) ⟨?_, ?_, fun j hj => ?_, ?_, fun x hx => ?_⟩
      · rw [e13]
        refine ⟨F8.1.si _ _ _, fun a i y => ?_⟩
        have ne : ¬ (a = 226) := by omega
        rw [gi_ne (Or.inl ne)]; exact F8.2 a i y
      · rw [cm_s1 z, show gK h nr fr (k + 1) = _ from if_neg z, e13]
        exact V8.si (by omega)
      · rw [e13, gi_ne (by omega), gi_ne (by omega), gi_ne (by omega), s8 256 j (Or.inl rfl), s8 258 j (Or.inl rfl), s8 260 j (Or.inl rfl)]; exact A j hj
      · rw [e13, gi_ne (by omega), s8 216 61 (Or.inl rfl)]; exact e61
      · rw [e13]
        by_cases y : x = memF h nr k
        · subst y
          rw [gi_eq, if_pos ⟨by omega, mvM_i.mpr ⟨m2, by rw [m3]; exact z⟩⟩]
        · rw [gi_ne (by omega), s8 226 x (Or.inr rfl), W x hx]
          by_cases u : cnt (mayP h nr) x < k ∧ mvM h nr fr x = true
          · rw [if_pos u, if_pos ((wi x hx y).mpr u)]
          · rw [if_neg u, if_neg (fun t => u ((wi x hx y).mp t))]
theorem l243a {L : Nat} {xs : Nat → Int32} {c : Nat} {h h1 g0 : AH} {nh nm nr na nt nc d : Nat} (I : InvN L xs c h nh nm nr na nt nc) {fr : Nat → Nat} (Z : RZ h h1 nh nm nr fr g0) {v : Int32} {Q : Option Value → AH → Prop} (K : ∀ g, Sm g0 g → (∀ a k, ¬ a = 260 → am_gi g a k = am_gi g0 a k) → (∀ a k, am_gl g a k = am_gl g0 a k) → (∀ j, j < cnt (mayP h nr) nm → am_gi g 260 j = if fr j = ownF h nr j then -1 else zI (rk h nr j)) → Ev (d + 2) 243 82 [.ref 216, .int v, .int 0, .null] [] g Q) : ∀ m k g, k + m = cnt (mayP h nr) nm → Sm g0 g → (∀ a k, ¬ a = 260 → am_gi g a k = am_gi g0 a k) → (∀ a k, am_gl g a k = am_gl g0 a k) → (∀ j, j < k → am_gi g 260 j = if fr j = ownF h nr j then -1 else zI (rk h nr j)) → Ev (d + 2) 243 27 [.ref 216, .int v, .int (zI k), .null] [] g Q
  | 0, k, g, e, S, F, W, J => by
    have kl := K_le I
    have bh := I.iho.1
    have ek : k = cnt (mayP h nr) nm := by omega
    subst ek
    refine ws243_27 (d := d + 1) _ _ (S.lay (Z.2.1.1.lay I.lay)) ⟨fun _ => K g S F W J, fun z => absurd ?_ z⟩
    rw [F _ _ (by omega), Z.2.1.2.1]; exact (zI_le (by omega) (by omega)).mpr (Nat.le_refl _)
  | m + 1, k, g, e, S, F, W, J => by
    have kl := K_le I
    have bh := I.iho.1
    have bm := I.ime.1
    have hk : k < cnt (mayP h nr) nm := by omega
    have Lg := S.lay (Z.2.1.1.lay I.lay)
    obtain ⟨q1, q2⟩ := Z.2.1.2.2.2 k hk
    have q3 := Z.2.2.1 k hk
    have f1 := Z.1.1.1 k hk
    have o1 := (own_inj I).1 k hk
    have i24 : am_in (zI k) 24 := in_zI (by omega) (by decide)
    have nx : ∀ g' x, g' = am_si g 260 k x → x = (if fr k = ownF h nr k then -1 else zI (rk h nr k)) → Ev (d + 2) 243 27 [.ref 216, .int v, .int (zI (k + 1)), .null] [] g' Q := fun g' x e' ex => by
      refine l243a I Z K m (k + 1) g' (by omega) (by rw [e']; exact S.si _ _ _) (fun a i y => by rw [e', gi_ne (by omega)]; exact F a i y) (fun a i => by rw [e', gl_si]; exact W a i) (fun j hj => ?_)
      rw [e']
      by_cases y : j = k
      · subst y; rw [gi_eq]; exact ex
      · rw [gi_ne (by omega)]; exact J j (by omega)
    refine ws243_27 (d := d + 1) _ _ Lg ⟨fun z => absurd ?_ (show ¬ cnt (mayP h nr) nm ≤ k by omega), fun _ => ?_⟩
    · rw [F _ _ (by omega), Z.2.1.2.1] at z; exact (zI_le (by omega) (by omega)).mp z
    rw [zI_tn (show k < 2147483648 by omega), F 258 _ (by omega), F 257 _ (by omega), F 256 _ (by omega), q1, q2, q3, zI_succ]
    refine ⟨i24, i24, fun z => ⟨i24, fun g4 e4 => nx g4 _ e4 ?_⟩, fun z => ⟨i24, ?_⟩⟩
    · rw [if_pos ((zI_inj (by omega) (by omega)).mp z)]
    · have Xg : Er h h1 g := by
        refine ⟨Z.2.1.1.1, Z.2.1.1.2.1.trans S, fun a i y => ?_⟩
        have q := Z.2.1.1.2.2 a i y
        refine ⟨?_, (W a i).trans q.2⟩
        rw [F a i (fun w => by
          rcases y with y | y
          · omega
          · exact y (by rw [w]; exact List.mem_singleton.mpr rfl))]
        exact q.1
      have P := p174 Lg (Xg.vm I) (zI (memF h nr k)) (am_gi h 216 0)
      rw [(rk_s I hk).2.1] at P
      rw [(Xg.ag (t := 1) (by decide) 216 0 rfl).1]
      refine Cl.i P (by omega) Lg ⟨i24, fun g4 e4 => nx g4 _ e4 ?_⟩
      rw [if_neg (fun w => z (by rw [w]))]
theorem op_change {L : Nat} {xs : Nat → Int32} {c : Nat} {h : AH} {nh nm nr na nt nc : Nat} (I : InvN L xs c h nh nm nr na nt nc) : OPi 126 243 [] L xs c h := by
  have Ly := I.lay
  have bh := I.iho.1
  have bm := I.ime.1
  have br := I.iri.1
  have kl := K_le I
  obtain ⟨fr, R⟩ := RS_ex I
  have cl : cm (ownF h nr) fr (cnt (mayP h nr) nm) ≤ cnt (mayP h nr) nm := cnt_le' _ _
  -- the class's first half
  have room : ∀ g, OC [0] h g → PF 0 54 [.ref 9, .int (zI (cm (ownF h nr) fr (cnt (mayP h nr) nm)))] g (.int (bI (nr + cm (ownF h nr) fr (cnt (mayP h nr) nm) ≤ 60))) := fun g O => p54 (O.lay Ly) br (by rw [(O.ex.ag (t := 4) (by decide) 9 1 rfl).1]; exact I.iri.2.1) _ (by omega)
  by_cases hr : nr + cm (ownF h nr) fr (cnt (mayP h nr) nm) ≤ 60
  · refine OPi.gx (x := zI (cm (ownF h nr) fr (cnt (mayP h nr) nm))) (P := fun g => ∃ h1, GS nh (cnt (mayP h nr) nm) (ownF h nr) (memF h nr) fr h h1 ∧ SCi h h1 nr fr nm g) (d := 8) (ws126 (d := 7) Ly (Cl.qi (c164 I R) (Nat.le_refl _) (fun h1 G => ⟨G.1.lay Ly, Cl.i (room h1 G.1) (by decide) (G.1.lay Ly) ⟨fun _ => ?_, fun z => absurd (bI_n0.mpr hr) z⟩⟩))) (d' := 8) (fun g q => ?_)
    · refine Ev.mono (l126 (d := 7) I R G hr (by decide) nm 0 h1 (by omega) ⟨⟨Sm.rfl' _, fun _ _ _ => rfl, fun _ _ _ => rfl⟩, ?_, fun x hx => ?_⟩) (Nat.le_refl _) (fun r g' p => ⟨p.1, h1, G, p.2⟩)
      · exact (vCR.of I.iri).oc G.1 (by decide)
      · rw [if_neg (fun y => by omega), (G.1.ex.ag (t := 3) (by decide) (124 + x) 4 (tp_member hx)).1]
    · obtain ⟨h1, G, F, V, W⟩ := q
      have L1 := G.1.lay Ly
      have Lg := F.1.lay L1
      have cell : ∀ a k, 216 ≤ a → a < 263 → am_gi g a k = am_gi h a k ∧ am_gl g a k = am_gl h a k := fun a k a1 a2 => by
        rw [F.2.1 a k (by omega), F.2.2 a k (by omega)]; exact G.1.2 a k (Or.inl ⟨a1, a2⟩)
      have t4 : ∀ a, a = 9 ∨ (11 ≤ a ∧ a < 71) → ∀ k, tp a k = 4 := fun a ha k => by
        rcases ha with rfl | ha
        · rfl
        · obtain ⟨i, rfl⟩ : ∃ i, a = 11 + i := ⟨a - 11, by omega⟩
          exact tp_right (by omega)
      have Eg : Ex [0, 3, 4] h g := by
        refine ⟨G.1.1.trans F.1, fun a k z => ?_⟩
        have n9 : ¬ (a = 9 ∨ (11 ≤ a ∧ a < 71)) := fun y => z (by rw [t4 a y k]; decide)
        have n3 : ¬ (124 ≤ a ∧ a < 148 ∧ k = 4) := fun y => z (by
          obtain ⟨i, rfl⟩ : ∃ i, a = 124 + i := ⟨a - 124, by omega⟩
          rw [tp_member (by omega)]; decide)
        have q := G.1.2 a k (Or.inr (fun y => z (by rw [List.mem_singleton.mp y]; decide)))
        rw [F.2.1 a k (by omega), F.2.2 a k n9]; exact q
      refine ⟨Lg, I.ico.ex Eg (by decide), ?_⟩
      -- the reference reckons over a heap that has the class's rights ahead
      have Xm : Em h g := ⟨G.1.1.trans F.1, fun a k a1 a2 _ => cell a k a1 a2⟩
      refine ws243 (d := 7) Lg (Cl.qv (m240 I Xm) (by decide) (fun g1 q => ?_))
      obtain ⟨fr', Z⟩ := q
      have Z := Z.e (by omega) bh R
      have Z1 := Z.2.1.1
      have Lz := Z1.lay Ly
      rw [show (0 : Int32).toNatClampNeg = 0 from rfl, Z.2.2.2, (Z1.ag (t := 4) (by decide) 216 14 rfl).1, I.iri.2.2.1, zI_add]
      refine ⟨Lz, in_zI (i := 0) (by decide) (by decide), fun _ => ?_, fun z => absurd ((zI_le (n := 60) (by omega) (by decide)).mpr hr) z⟩
      refine l243a (d := 6) I Z (fun g2 S2 F2 W2 J2 => ?_) (cnt (mayP h nr) nm) 0 g1 (by omega) (Sm.rfl' _) (fun _ _ _ => rfl) (fun _ _ => rfl) (fun j hj => absurd hj (by omega))
      have O2 : OM [0] g g2 := by
        refine ⟨Z1.2.1.trans S2, fun a i y => ?_⟩
        have q := Z1.2.2 a i y
        refine ⟨?_, (W2 a i).trans q.2⟩
        rw [F2 a i (fun w => by
          rcases y with y | y
          · omega
          · exact y (by rw [w]; exact List.mem_singleton.mpr rfl))]
        exact q.1
      have X2 : Er h g g2 := ⟨Xm, O2⟩
      have e0g : am_gi g 216 0 = am_gi h 216 0 := (cell 216 0 (by decide) (by decide)).1
      refine Ev.mono (l243b (d := 7) I R Lg e0g hr (cnt (mayP h nr) nm) 0 g2 (by omega) ⟨⟨O2.1, fun a k y => O2.2 a k (y.imp id (fun w u => w.1 (by rw [List.mem_singleton.mp u]; decide)))⟩, X2.vm I, fun j hj => ⟨by rw [F2 _ _ (by omega)]; exact (Z.2.1.2.2.2 j hj).1, by rw [F2 _ _ (by omega)]; exact Z.2.2.1 j hj, J2 j hj⟩, by rw [F2 _ _ (by omega)]; exact Z.2.1.2.1, fun x hx => ?_⟩) (Nat.le_refl _) (fun r g3 p => ⟨p.1, ?_⟩)
      · rw [if_neg (fun y => by omega)]; exact (X2.ag (t := 3) (by decide) 226 x rfl).1
      obtain ⟨-, F3, V3, A3, e61, W3⟩ := p
      obtain ⟨w1, w2⟩ := gK_w I R
      have ET : Ex [0, 3, 4] h g3 := by
        refine Eg.tr ⟨F3.1, fun a k z => F3.2 a k ?_⟩
        by_cases y : a < 216 ∨ 263 ≤ a
        · exact Or.inl y
        · refine Or.inr ⟨fun w => z ?_, fun w => z ?_⟩
          · rcases List.mem_cons.mp w with w | w
            · rw [w]; decide
            · rw [List.mem_singleton.mp w]; decide
          · rw [w]; show 3 ∈ _; decide
      have ed : am_gi g3 216 0 = am_gi h 216 0 := (ET.ag (t := 1) (by decide) 216 0 rfl).1
      have cc : ∀ a k, a < 216 ∨ 263 ≤ a → am_gi g3 a k = am_gi g a k ∧ am_gl g3 a k = am_gl g a k := fun a k y => F3.2 a k (Or.inl y)
      have VC : vCR g3 (nr + cm (ownF h nr) fr (cnt (mayP h nr) nm)) (gK h nr fr (cnt (mayP h nr) nm)) := ⟨V.1, by rw [(cc 9 1 (by omega)).1]; exact V.2.1, fun i hi k hk => by have := V.1; rw [(cc (11 + i) k (by omega)).1]; exact V.2.2 i hi k hk⟩
      have m3 : ∀ a k, 222 ≤ a → a ≤ 227 → ¬ a = 226 → am_gi g3 a k = am_gi h a k ∧ am_gl g3 a k = am_gl h a k := fun a k a1 a2 a3 => by
        have q := F3.2 a k (Or.inr ⟨by
          have : tp a k = 3 := by unfold tp; (repeat' (first | rw [if_pos (by omega)] | rw [if_neg (by omega)]))
          rw [this]; decide, a3⟩)
        have r := cell a k (by omega) (by omega)
        exact ⟨q.1.trans r.1, q.2.trans r.2⟩
      have c3' : ∀ i k, i < 24 → ¬ k = 4 → am_gi g3 (124 + i) k = am_gi h (124 + i) k := fun i k hi hk => by
        rw [(cc (124 + i) k (by omega)).1, F.2.1 _ _ (by omega), (G.1.ex.ag (t := 3) (by decide) (124 + i) k (tp_member hi)).1]
      have wish : ∀ x, x < 24 → am_gi g3 (124 + x) 4 = am_gi g3 226 x := fun x hx => by
        rw [(cc (124 + x) 4 (by omega)).1, W x hx, W3 x hx, (I.ime.2.2.2.1 x hx).1]
        by_cases u : mvM h nr fr x = true
        · by_cases v : x < nm
          · have := cnt_up (mayP h nr) (show x + 1 ≤ nm by omega)
            rw [cnt_s1 (mvM_i.mp u).1] at this
            rw [if_pos ⟨v, u⟩, if_pos ⟨by omega, u⟩]
          · have := cnt_up (mayP h nr) (show nm ≤ x by omega)
            rw [if_neg (fun w => v w.1), if_neg (fun w => by omega)]
        · rw [if_neg (fun w => u w.2), if_neg (fun w => u w.2)]
      refine ⟨nh, nm, nr + cm (ownF h nr) fr (cnt (mayP h nr) nm), na, nt, nc, I.up ET (g3 := Or.inr ?_) (g4 := Or.inr (IRi.mk VC V3)) (gx1 := Or.inr ?_) (gx2 := Or.inr ?_) (gx3 := Or.inr (IX3.mk V3 w1 ed)) (gx4 := Or.inr (IX4.mk V3 w2 ed (fun i => (ET.ag (t := 2) (by decide) 220 i rfl).1))) (g11 := Or.inr (I.itr.rt ET (by omega) (by decide) (by decide) (fun r hr2 => ?_)))⟩
      · refine ⟨bm, ?_, ?_, fun i hi => ⟨wish i hi, ?_, ?_⟩, fun i hi => ?_, fun i h1 hi => ?_⟩
        · rw [(cc 6 4 (by omega)).1, F.2.1 _ _ (by omega), (G.1.ex.ag (t := 3) (by decide) 6 4 rfl).1]; exact I.ime.2.1
        · rw [(F3.2 216 7 (Or.inr (by decide))).1, (cell 216 7 (by decide) (by decide)).1]; exact I.ime.2.2.1
        · rw [W3 i hi]
          by_cases u : cnt (mayP h nr) i < cnt (mayP h nr) nm ∧ mvM h nr fr i = true
          · rw [if_pos u]; decide
          · rw [if_neg u]; exact (I.ime.2.2.2.1 i hi).2.1
        · rw [(cc (124 + i) 5 (by omega)).2, F.2.2 _ _ (by omega), (G.1.ex.ag (t := 3) (by decide) (124 + i) 5 (tp_member hi)).2, (m3 227 i (by decide) (by decide) (by decide)).2]; exact (I.ime.2.2.2.1 i hi).2.2
        · rw [c3' i 0 (by omega) (by decide), c3' i 1 (by omega) (by decide), c3' i 2 (by omega) (by decide), c3' i 3 (by omega) (by decide), (m3 222 i (by decide) (by decide) (by decide)).1, (m3 223 i (by decide) (by decide) (by decide)).1, (m3 224 i (by decide) (by decide) (by decide)).1, (m3 225 i (by decide) (by decide) (by decide)).1]; exact I.ime.2.2.2.2.1 i hi
        · rw [c3' i 2 hi (by decide), c3' i 3 hi (by decide)]; exact I.ime.2.2.2.2.2 i h1 hi
      · intro j hj; rw [(m3 223 j (by decide) (by decide) (by decide)).1, (m3 224 j (by decide) (by decide) (by decide)).1, (m3 225 j (by decide) (by decide) (by decide)).1, ed]; exact I.ix1 j hj
      · intro i hi j hj; rw [(m3 224 j (by decide) (by decide) (by decide)).1, (ET.ag (t := 2) (by decide) (112 + i) 4 (tp_home hi)).1, (ET.ag (t := 2) (by decide) 221 i rfl).1]; exact I.ix2 i hi j hj
      · have fa := (gK_f I fr _ (Nat.le_refl _)).1 r hr2
        exact ⟨(V3.2.2 r (by omega) 0 (by decide)).trans (fa 0 (by decide)), (V3.2.2 r (by omega) 1 (by decide)).trans (fa 1 (by decide))⟩
  · refine OPi.gx (x := -4) (P := fun g => OC [0] h g) (d := 8) (ws126 (d := 7) Ly (Cl.qi (c164 I R) (Nat.le_refl _) (fun h1 G => ⟨G.1.lay Ly, Cl.i (room h1 G.1) (by decide) (G.1.lay Ly) ⟨fun z => absurd (bI_n0.mp z) hr, fun _ => ⟨rfl, G.1⟩⟩⟩))) (d' := 6) (fun h1 G => ?_)
    have L1 := G.lay Ly
    refine ⟨L1, I.ico.ex G.ex (by decide), ws243 (d := 5) L1 (Cl.qv (m240 I G.ex.em) (Nat.le_refl _) (fun g q => ?_))⟩
    obtain ⟨fr', Z⟩ := q
    have Z := Z.e (by omega) bh R
    rw [show (0 : Int32).toNatClampNeg = 0 from rfl, Z.2.2.2, (Z.2.1.1.ag (t := 4) (by decide) 216 14 rfl).1, I.iri.2.2.1, zI_add]
    exact ⟨Z.2.1.1.lay Ly, in_zI (i := 0) (by decide) (by decide), fun z => absurd ((zI_le (n := 60) (by omega) (by decide)).mp z) hr, fun _ => ⟨rfl, I.sc (G.ex.tr Z.2.1.1.2.ex)⟩⟩
