set_option maxHeartbeats 4000000 in
set_option maxRecDepth 100000 in
theorem am_s1_mono {en : EN} {pc pc' : Nat} {loc loc' st st' : List Value} {h h' : AH} (hp : am_s1 en pc loc st h = some (pc', loc', st', h')) : am_sz h ≤ am_sz h' ∧ am_sn h ≤ am_sn h' := by
  have h0 : ∀ {x : AH}, am_sz x ≤ am_sz x ∧ am_sn x ≤ am_sn x := fun {x} => ⟨Nat.le_refl _, Nat.le_refl _⟩
  have hn : ∀ {k a b}, am_sz h ≤ am_sz (am_nw h k a b) ∧ am_sn h ≤ am_sn (am_nw h k a b) := fun {k a b} => ⟨Nat.le_succ _, Nat.le_add_right _ _⟩
  have hm : ∀ {a b}, am_sz h ≤ am_sz (am_mna h a b) ∧ am_sn h ≤ am_sn (am_mna h a b) := by
    intro a b
    have e := am_rows_sz (am_nw h 109 a a) b a
    refine ⟨?_, ?_⟩
    · show am_sz h ≤ am_sz (am_rows _ _ _)
      rw [e.1]; show am_sz h ≤ am_sz h + 1 + a; omega
    · show am_sn h ≤ am_sn (am_rows _ _ _)
      rw [e.2]; show am_sn h ≤ am_sn h + a + a * b; omega
  have hb : ∀ {α : Type} {x : Option α} {f : α → Option (Nat × List Value × List Value × AH)}, (∀ y, f y = some (pc', loc', st', h') → am_sz h ≤ am_sz h' ∧ am_sn h ≤ am_sn h') → x.bind f = some (pc', loc', st', h') → am_sz h ≤ am_sz h' ∧ am_sn h ≤ am_sn h' := by
    intro α x f hf he
    obtain ⟨y, -, he⟩ := Option.bind_eq_some_iff.mp he
    exact hf y he
  have ho : ∀ {α : Type} {x : Option α} {f : α → (Nat × List Value × List Value × AH)}, (∀ y, (f y).2.2.2 = h) → x.map f = some (pc', loc', st', h') → am_sz h ≤ am_sz h' ∧ am_sn h ≤ am_sn h' := by
    intro α x f hf he
    obtain ⟨y, -, he⟩ := Option.map_eq_some_iff.mp he
    have := hf y
    rw [he] at this
    have e : h' = h := this
    rw [e]; exact h0
  have hi : ∀ {i : Int32} {n : Nat} {x : Option (Nat × List Value × List Value × AH)}, (x = some (pc', loc', st', h') → am_sz h ≤ am_sz h' ∧ am_sn h ≤ am_sn h') → am_if i n x = some (pc', loc', st', h') → am_sz h ≤ am_sz h' ∧ am_sn h ≤ am_sn h' := fun hx he => hx (am_if_s he).2
  obtain ⟨i, len, mask, x1, x2, x3, w, cst⟩ := en
  cases i <;> simp only [am_s1] at hp <;> first
    | exact ho (fun _ => rfl) hp
    | (cases hp; exact hn)
    | (refine hb (fun y hy => ?_) hp
       first
         | exact ho (fun _ => rfl) hy
         | (split at hy
            · cases hy
            · cases hy; exact h0)
         | (split at hy
            · first
                | (cases hy; first | exact h0 | exact hn | exact hm)
                | exact hi (fun z => by cases z; exact h0) hy
                | exact hi (fun z => ho (fun _ => rfl) z) hy
                | (split at hy <;> first | (cases hy; exact h0) | exact ho (fun _ => rfl) hy)
            · first
                | (cases hy; done)
                | (split at hy
                   · exact hi (fun z => by cases z; exact h0) hy
                   · cases hy)))
    | (split at hp <;> refine hb (fun y hy => ?_) hp <;> (split at hy <;> first | (cases hy; exact h0) | (cases hy; done)))
theorem am_bi_mono {k : Nat} {st st' : List Value} {h h' : AH} (hp : am_bi k st h = some (st', h')) : am_sz h ≤ am_sz h' ∧ am_sn h ≤ am_sn h' := by
  have h0 : ∀ {x : AH}, am_sz x ≤ am_sz x ∧ am_sn x ≤ am_sn x := fun {x} => ⟨Nat.le_refl _, Nat.le_refl _⟩
  unfold am_bi at hp
  split at hp
  · obtain ⟨y, -, he⟩ := Option.map_eq_some_iff.mp hp
    cases he; exact h0
  · obtain ⟨y, -, he⟩ := Option.bind_eq_some_iff.mp hp
    split at he <;> cases he; exact h0
  · obtain ⟨y, -, he⟩ := Option.bind_eq_some_iff.mp hp
    split at he
    · have := (am_if_s he).2; cases this; exact h0
    · cases he
  · obtain ⟨y, -, he⟩ := Option.bind_eq_some_iff.mp hp
    split at he <;> cases he; exact ⟨Nat.le_succ _, Nat.le_add_right _ _⟩
  · obtain ⟨y, -, he⟩ := Option.bind_eq_some_iff.mp hp
    split at he <;> cases he; exact ⟨Nat.le_succ _, Nat.le_add_right _ _⟩
  · split at hp
    · split at hp <;> cases hp; exact h0
    · cases hp
  · cases hp
theorem am_ex_s {mt : Nat → MR} {n d M pc : Nat} {loc st : List Value} {h : AH} : am_ex mt (n + 1) d M pc loc st h = match (mt M).2.2.2.2.2 pc with
    | none => none
    | some e => if am_isr e.1 then (am_ret e.1 st).bind fun v => if am_rok (mt M).2.2.2.2.1 v then some (v, h) else none
      else if am_isc e.1 then (if 4 ≤ e.2.2.2.2.2.1 then (am_bi e.2.2.2.2.2.1 st h).bind fun q => if 8 < am_cats q.1 then none else am_ex mt n d M (pc + 3) (am_msk e.2.2.1 loc) q.1 q.2
        else if st.length < e.2.2.2.2.1 ∨ 8 < am_cats (st.drop e.2.2.2.2.1) ∨ (mt e.2.2.2.1).2.2.2.1 < (am_arg (st.take e.2.2.2.2.1).reverse).length then none
        else match d with
          | 0 => none
          | d' + 1 => if ¬ e.2.2.2.2.2.1 = 1 ∧ ¬ (am_a1 (st.take e.2.2.2.2.1).reverse).map (fun q => am_kd h q.1) = some (mt e.2.2.2.1).1 then none
            else (am_ex mt n d' e.2.2.2.1 0 (am_ent (st.take e.2.2.2.2.1).reverse (mt e.2.2.2.1).2.2.2.1) [] h).bind fun q => am_ex mt n d M (pc + 3) (am_msk e.2.2.1 loc) (q.1.toList ++ st.drop e.2.2.2.2.1) q.2)
      else (am_s1 e pc (am_msk e.2.2.1 loc) st h).bind fun q => am_ex mt n d M q.1 q.2.1 q.2.2.1 q.2.2.2 := by
  cases d <;> rfl
theorem am_ex_mono {mt : Nat → MR} : ∀ {n d M pc : Nat} {loc st : List Value} {h : AH} {r : Option Value} {h' : AH}, am_ex mt n d M pc loc st h = some (r, h') → am_sz h ≤ am_sz h' ∧ am_sn h ≤ am_sn h' := by
  intro n
  induction n with
  | zero => intro d M pc loc st h r h' hp; cases hp
  | succ n ih =>
    intro d M pc loc st h r h' hp
    rw [am_ex_s] at hp
    split at hp
    · cases hp
    · split at hp
      · obtain ⟨v, -, he⟩ := Option.bind_eq_some_iff.mp hp
        split at he <;> cases he
        exact ⟨Nat.le_refl _, Nat.le_refl _⟩
      · split at hp
        · split at hp
          · obtain ⟨q, hq, he⟩ := Option.bind_eq_some_iff.mp hp
            split at he
            · cases he
            · have a := am_bi_mono hq
              have b := ih he
              exact ⟨Nat.le_trans a.1 b.1, Nat.le_trans a.2 b.2⟩
          · split at hp
            · cases hp
            · split at hp
              · cases hp
              · split at hp
                · cases hp
                · obtain ⟨q, hq, he⟩ := Option.bind_eq_some_iff.mp hp
                  have a := ih hq
                  have b := ih he
                  exact ⟨Nat.le_trans a.1 b.1, Nat.le_trans a.2 b.2⟩
        · obtain ⟨q, hq, he⟩ := Option.bind_eq_some_iff.mp hp
          have a := am_s1_mono hq
          have b := ih he
          exact ⟨Nat.le_trans a.1 b.1, Nat.le_trans a.2 b.2⟩
