/-! RUNS OF THE SMALL MACHINE, goal first -/
theorem am_ex_more {mt : Nat → MR} : ∀ {n d M pc : Nat} {loc st : List Value} {h : AH} {x : Option Value × AH}, am_ex mt n d M pc loc st h = some x → ∀ {n' d' : Nat}, n ≤ n' → d ≤ d' → am_ex mt n' d' M pc loc st h = some x := by
  intro n
  induction n with
  | zero => intro d M pc loc st h x hp; cases hp
  | succ n ih =>
    intro d M pc loc st h x hp n' d' hn hd
    obtain ⟨n', rfl⟩ : ∃ k, n' = k + 1 := ⟨n' - 1, by omega⟩
    rw [am_ex_s] at hp ⊢
    cases hf : (mt M).2.2.2.2.2 pc with
    | none => rw [hf] at hp; cases hp
    | some en =>
      rw [hf] at hp
      dsimp only at hp ⊢
      by_cases h1 : am_isr en.1 = true
      · rw [if_pos h1] at hp ⊢; exact hp
      · rw [if_neg h1] at hp ⊢
        by_cases h2 : am_isc en.1 = true
        · rw [if_pos h2] at hp ⊢
          by_cases h3 : 4 ≤ en.2.2.2.2.2.1
          · rw [if_pos h3] at hp ⊢
            obtain ⟨q, hq, he⟩ := Option.bind_eq_some_iff.mp hp
            rw [hq, Option.bind_some]
            by_cases h4 : 8 < am_cats q.1
            · rw [if_pos h4] at he; cases he
            · rw [if_neg h4] at he ⊢
              exact ih he (by omega) hd
          · rw [if_neg h3] at hp ⊢
            by_cases h4 : st.length < en.2.2.2.2.1 ∨ 8 < am_cats (st.drop en.2.2.2.2.1) ∨ (mt en.2.2.2.1).2.2.2.1 < (am_arg (st.take en.2.2.2.2.1).reverse).length
            · rw [if_pos h4] at hp; cases hp
            · rw [if_neg h4] at hp ⊢
              cases d with
              | zero => cases hp
              | succ d =>
                obtain ⟨d', rfl⟩ : ∃ k, d' = k + 1 := ⟨d' - 1, by omega⟩
                dsimp only at hp ⊢
                by_cases h5 : ¬ en.2.2.2.2.2.1 = 1 ∧ ¬ (am_a1 (st.take en.2.2.2.2.1).reverse).map (fun q => am_kd h q.1) = some (mt en.2.2.2.1).1
                · rw [if_pos h5] at hp; cases hp
                · rw [if_neg h5] at hp ⊢
                  obtain ⟨q, hq, he⟩ := Option.bind_eq_some_iff.mp hp
                  rw [ih hq (by omega) (by omega), Option.bind_some]
                  exact ih he (by omega) hd
        · rw [if_neg h2] at hp ⊢
          obtain ⟨q, hq, he⟩ := Option.bind_eq_some_iff.mp hp
          rw [hq, Option.bind_some]
          exact ih he (by omega) hd
/-- from here the run of method M ends, with Q of its answer and its heap -/
def Ev (d M pc : Nat) (loc st : List Value) (h : AH) (Q : Option Value → AH → Prop) : Prop := ∃ n r h', am_ex am_mt n d M pc loc st h = some (r, h') ∧ Q r h'
/-- a call of M -/
def Cl (d M : Nat) (vs : List Value) (h : AH) (Q : Option Value → AH → Prop) : Prop := Ev d M 0 (am_ent vs (am_mt M).2.2.2.1) [] h Q
theorem Ev.mono {d d' M pc : Nat} {loc st : List Value} {h : AH} {Q Q' : Option Value → AH → Prop} (H : Ev d M pc loc st h Q) (hd : d ≤ d') (hq : ∀ r h', Q r h' → Q' r h') : Ev d' M pc loc st h Q' := by
  obtain ⟨n, r, h', e, q⟩ := H
  exact ⟨n, r, h', am_ex_more e (Nat.le_refl _) hd, hq r h' q⟩
theorem Cl.mono {d d' M : Nat} {vs : List Value} {h : AH} {Q Q' : Option Value → AH → Prop} (H : Cl d M vs h Q) (hd : d ≤ d') (hq : ∀ r h', Q r h' → Q' r h') : Cl d' M vs h Q' := Ev.mono H hd hq
/-- k steps that neither read nor write the heap -/
def am_pr (f : Nat → Option EN) : Nat → Nat → List Value → List Value → Option (Nat × List Value × List Value)
  | 0, pc, loc, st => some (pc, loc, st)
  | k + 1, pc, loc, st => match f pc with
    | none => none
    | some e => match am_p1 e pc (am_msk e.2.2.1 loc) st with
      | none => none
      | some q => am_pr f k q.1 q.2.1 q.2.2
theorem am_p1_no {e : EN} {pc : Nat} {loc st : List Value} {q : Nat × List Value × List Value} (h : am_p1 e pc loc st = some q) : am_isr e.1 = false ∧ am_isc e.1 = false ∧ ∀ H : AH, am_s1 e pc loc st H = some (q.1, q.2.1, q.2.2, H) := by
  obtain ⟨i, rest⟩ := e
  cases i <;> first | (cases h; done) | exact ⟨rfl, rfl, fun H => by simp only [am_s1]; rw [h]; rfl⟩
theorem ev_p (k : Nat) {f : Nat → Option EN} {d M pc pc' : Nat} {loc st loc' st' : List Value} {h : AH} {Q : Option Value → AH → Prop} (hf : (am_mt M).2.2.2.2.2 = f) (e : am_pr f k pc loc st = some (pc', loc', st')) (H : Ev d M pc' loc' st' h Q) : Ev d M pc loc st h Q := by
  induction k generalizing pc loc st with
  | zero => cases e; exact H
  | succ k ih =>
    unfold am_pr at e
    split at e
    · cases e
    · rename_i en hen
      split at e
      · cases e
      · rename_i q hq
        obtain ⟨n, r, h', e1, q1⟩ := ih e
        obtain ⟨z1, z2, z3⟩ := am_p1_no hq
        refine ⟨n + 1, r, h', ?_, q1⟩
        rw [am_ex_s, hf, hen]
        dsimp only
        rw [if_neg (by rw [z1]; decide), if_neg (by rw [z2]; decide), z3 h]
        exact e1
theorem ev_s {f : Nat → Option EN} {d M pc pc' : Nat} {loc st loc' st' : List Value} {h h1 : AH} {Q : Option Value → AH → Prop} {en : EN} (hf : (am_mt M).2.2.2.2.2 = f) (hen : f pc = some en) (hi : am_isr en.1 = false) (hc : am_isc en.1 = false) (e : am_s1 en pc (am_msk en.2.2.1 loc) st h = some (pc', loc', st', h1)) (H : Ev d M pc' loc' st' h1 Q) : Ev d M pc loc st h Q := by
  obtain ⟨n, r, h', e1, q1⟩ := H
  refine ⟨n + 1, r, h', ?_, q1⟩
  rw [am_ex_s, hf, hen]
  dsimp only
  rw [if_neg (by rw [hi]; decide), if_neg (by rw [hc]; decide), e]
  exact e1
theorem ev_r {f : Nat → Option EN} {d M pc : Nat} {loc st : List Value} {h : AH} {Q : Option Value → AH → Prop} {en : EN} {v : Option Value} (hf : (am_mt M).2.2.2.2.2 = f) (hen : f pc = some en) (hi : am_isr en.1 = true) (hr : am_ret en.1 st = some v) (ho : am_rok (am_mt M).2.2.2.2.1 v = true) (H : Q v h) : Ev d M pc loc st h Q := by
  refine ⟨1, v, h, ?_, H⟩
  rw [am_ex_s, hf, hen]
  dsimp only
  rw [if_pos hi, hr, Option.bind_some, if_pos ho]
theorem ev_c {f : Nat → Option EN} {d M pc x2 x3 : Nat} {loc st rest vs : List Value} {h : AH} {Q : Option Value → AH → Prop} {en : EN} (x1 : Nat) (hf : (am_mt M).2.2.2.2.2 = f) (hen : f pc = some en) (hi : am_isr en.1 = false) (hc : am_isc en.1 = true) (h1 : en.2.2.2.1 = x1) (h2 : en.2.2.2.2.1 = x2) (h3 : en.2.2.2.2.2.1 = x3) (h4 : (Nat.ble 4 x3) = false) (hl : (Nat.ble x2 st.length) = true) (hv : (st.take x2).reverse = vs) (hr : st.drop x2 = rest) (h8 : (Nat.ble (am_cats rest) 8) = true) (ha : (Nat.ble (am_arg vs).length (am_mt x1).2.2.2.1) = true) (hk : x3 = 1 ∨ (am_a1 vs).map (fun q => am_kd h q.1) = some (am_mt x1).1)
    (H : Cl d x1 vs h (fun r h1 => Ev (d + 1) M (pc + 3) (am_msk en.2.2.1 loc) (r.toList ++ rest) h1 Q)) : Ev (d + 1) M pc loc st h Q := by
  obtain ⟨n, r, h', e1, n2, r2, h2', e2, q2⟩ := H
  subst h1 h2 h3 hv hr
  refine ⟨n + n2 + 1, r2, h2', ?_, q2⟩
  rw [am_ex_s, hf, hen]
  dsimp only
  have a1 : ¬ 4 ≤ en.2.2.2.2.2.1 := fun z => by rw [Nat.ble_eq_true_of_le z] at h4; cases h4
  have a2 := Nat.le_of_ble_eq_true hl
  have a3 := Nat.le_of_ble_eq_true h8
  have a4 := Nat.le_of_ble_eq_true ha
  rw [if_neg (by rw [hi]; decide), if_pos hc, if_neg a1, if_neg (by omega), if_neg (by
    rintro ⟨z1, z2⟩
    rcases hk with hk | hk
    · exact z1 hk
    · exact z2 hk)]
  rw [am_ex_more e1 (by omega) (Nat.le_refl _), Option.bind_some]
  exact am_ex_more e2 (by omega) (Nat.le_refl _)
theorem ev_b {f : Nat → Option EN} {d M pc : Nat} {loc st st' : List Value} {h h1 : AH} {Q : Option Value → AH → Prop} {en : EN} (hf : (am_mt M).2.2.2.2.2 = f) (hen : f pc = some en) (hi : am_isr en.1 = false) (hc : am_isc en.1 = true) (h4 : (Nat.ble 4 en.2.2.2.2.2.1) = true) (e : am_bi en.2.2.2.2.2.1 st h = some (st', h1)) (h8 : (Nat.ble (am_cats st') 8) = true) (H : Ev d M (pc + 3) (am_msk en.2.2.1 loc) st' h1 Q) : Ev d M pc loc st h Q := by
  obtain ⟨n, r, h', e1, q1⟩ := H
  refine ⟨n + 1, r, h', ?_, q1⟩
  rw [am_ex_s, hf, hen]
  dsimp only
  have a3 := Nat.le_of_ble_eq_true h8
  rw [if_neg (by rw [hi]; decide), if_pos hc, if_pos (Nat.le_of_ble_eq_true h4), e, Option.bind_some, if_neg (by show ¬ 8 < am_cats st'; omega)]
  exact e1
theorem ev_jc {f : Nat → Option EN} {d M pc t : Nat} {loc rest : List Value} {h : AH} {Q : Option Value → AH → Prop} {c : ClassFile.Cond} {off : Int} {x y : Int32} {len mask : Nat} {tl : Nat × Nat × Nat × Nat × Int} (hf : (am_mt M).2.2.2.2.2 = f) (hen : f pc = some (.if_icmp c off, len, mask, tl)) (ht : am_tgt pc off = t) (H1 : am_cmp c x y → Ev d M t (am_msk mask loc) rest h Q) (H2 : ¬ am_cmp c x y → Ev d M (pc + 3) (am_msk mask loc) rest h Q) : Ev d M pc loc (.int y :: .int x :: rest) h Q := by
  by_cases hq : am_cmp c x y
  · exact ev_s (pc' := t) (loc' := am_msk mask loc) (st' := rest) (h1 := h) hf hen rfl rfl (by show some (am_br c x y (am_tgt pc off) (pc + 3), _, _, _) = _; rw [ht]; unfold am_br; rw [if_pos hq]) (H1 hq)
  · exact ev_s (pc' := pc + 3) (loc' := am_msk mask loc) (st' := rest) (h1 := h) hf hen rfl rfl (by show some (am_br c x y (am_tgt pc off) (pc + 3), _, _, _) = _; unfold am_br; rw [if_neg hq]) (H2 hq)
theorem ev_jz {f : Nat → Option EN} {d M pc t : Nat} {loc rest : List Value} {h : AH} {Q : Option Value → AH → Prop} {c : ClassFile.Cond} {off : Int} {x : Int32} {len mask : Nat} {tl : Nat × Nat × Nat × Nat × Int} (hf : (am_mt M).2.2.2.2.2 = f) (hen : f pc = some (.ifCond c off, len, mask, tl)) (ht : am_tgt pc off = t) (H1 : am_cmp c x 0 → Ev d M t (am_msk mask loc) rest h Q) (H2 : ¬ am_cmp c x 0 → Ev d M (pc + 3) (am_msk mask loc) rest h Q) : Ev d M pc loc (.int x :: rest) h Q := by
  by_cases hq : am_cmp c x 0
  · exact ev_s (pc' := t) (loc' := am_msk mask loc) (st' := rest) (h1 := h) hf hen rfl rfl (by show some (am_br c x 0 (am_tgt pc off) (pc + 3), _, _, _) = _; rw [ht]; unfold am_br; rw [if_pos hq]) (H1 hq)
  · exact ev_s (pc' := pc + 3) (loc' := am_msk mask loc) (st' := rest) (h1 := h) hf hen rfl rfl (by show some (am_br c x 0 (am_tgt pc off) (pc + 3), _, _, _) = _; unfold am_br; rw [if_neg hq]) (H2 hq)
theorem ev_m {f : Nat → Option EN} {d M pc : Nat} {loc loc' st : List Value} {h : AH} {Q : Option Value → AH → Prop} {en : EN} (hf : (am_mt M).2.2.2.2.2 = f) (hen : f pc = some en) (hm : am_msk en.2.2.1 loc = am_msk en.2.2.1 loc') (H : Ev d M pc loc' st h Q) : Ev d M pc loc st h Q := by
  obtain ⟨n, r, h', e1, q1⟩ := H
  refine ⟨n, r, h', ?_, q1⟩
  cases n with
  | zero => cases e1
  | succ n =>
    rw [am_ex_s, hf, hen] at e1 ⊢
    dsimp only at e1 ⊢
    rw [hm]
    exact e1
theorem am_gf2 {α : Type} {h : AH} {a c k b : Nat} {f : Nat → α} (g : am_kd h a = c) (e : am_gr h a k = some b) : (if am_kd h a = c then (am_gr h a k).map f else none) = some (f b) := by rw [if_pos g, e]; rfl
theorem am_if_t {α : Type} {i : Int32} {n : Nat} {x : Option α} (h : am_in i n) : am_if i n x = x := if_pos h
theorem am_xx {α : Type} {p : Prop} {dp : Decidable p} {i : Int32} {n : Nat} {x : α} {y : Option α} (g : p) (g2 : am_in i n) : (@ite _ p dp (am_if i n (some x)) y) = some x := by rw [if_pos g, am_if_t g2]
theorem am_xa {α : Type} {p : Prop} {dp : Decidable p} {i : Int32} {n a k b : Nat} {h : AH} {f : Nat → α} (g : p) (g2 : am_in i n) (e : am_gr h a k = some b) : (@ite _ p dp (am_if i n ((am_gr h a k).map f)) none) = some (f b) := by rw [if_pos g, am_if_t g2, e]; rfl
theorem am_yz {α : Type} {h : AH} {a : Nat} {v i : Int32} {n : Nat} {x y : α} (g : am_kd h a = 103 ∧ (v = 0 ∨ v = 1)) (g2 : am_in i n) : (if am_kd h a = 102 ∧ 6 ≤ a then am_if i n (some y) else if am_kd h a = 103 ∧ (v = 0 ∨ v = 1) then am_if i n (some x) else none) = some x := by
  rw [if_neg (fun z => by have := z.1; have := g.1; omega), if_pos g, am_if_t g2]
theorem am_b6 {α : Type} {p : Prop} {dp : Decidable p} {i : Int32} {n : Nat} {x : α} (g : p) (g2 : am_in i n) : (@ite _ p dp (am_if i n (some x)) none) = some x := am_xx g g2
theorem am_tn {x k : Int32} {n : Int} (h : ¬ x = k) (hk : k.toInt = n) : x.toInt ≠ n := fun z => h (Int32.toInt_inj.mp (by rw [hk]; exact z))
theorem am_tso {α : Type} {d lo hi x : Int} {offs : Array Int} {f : Int → α} (h : x < lo ∨ hi < x) : (am_tab d lo hi offs x).map f = some (f d) := by unfold am_tab; rw [if_pos h]; rfl
theorem am_lso {α : Type} {d x : Int} {ps : List (Int × Int)} {f : Int → α} (h : Op.lookupswitch.offset ps d x = d) : some (f (Op.lookupswitch.offset ps d x)) = some (f d) := by rw [h]
