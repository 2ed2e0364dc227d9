/-! CALLS, AND THE WHOLE OF IT -/
def am_MPROP : Prop := ∀ M, M < 267 → am_okM M = true ∧ plainFor (am_mt M).2.1 = true ∧ (am_mt M).2.2.2.1 ≤ 80
def am_PC (g : GV) (vs : List Value) (h : AH) : Array Value → State → Prop := fun v U => v = (vs.map (am_v g)).toArray ∧ am_R g h U.heap ∧ va_K (am_D g) am_cl (am_tys g) U ∧ am_N U ∧ am_E g U ∧ g.2.2.2.2.1 ≤ U.heap.size
def am_QC (g : GV) (r : Option Value) (h' : AH) : Array Value → State → Outcome → State → Prop := fun _ st o t => o = .returned (r.map (am_v g)) ∧ am_R g h' t.heap ∧ va_F (am_A g) st t
def am_wsM (M : Nat) : List Cond := .code (am_mt M).2.1 (am_mt M).2.2.1 (am_mt M).2.2.2.1 (am_mt M).2.2.2.2.1 :: am_ws
def am_rm (d dz dn : Nat) : Room := { frames := d + 8, cells := dz, slots := dn, locals := 100 * d + 800 }
theorem am_ofW {l : Launch} {y : MethodName} {ws ws' : List Cond} {rm : Room} {Pc : Array Value → State → Prop} {Qc : Array Value → State → Outcome → State → Prop} {mc ms : Nat} {free : Addr → Prop} {cc : ByteArray} {maxL : Nat} {ret : Option FieldType}
    (hy : plainFor y = true) (hw : ws = Cond.code y cc maxL ret :: ws')
    (body : ∀ p e s m args below meth c s₁, BodyLoose p l y (headSpec ws rm) cc maxL ret e s m args below meth c s₁ → c.maxLocals = maxL → Pc args s →
      W p l e (headSpec ws rm).room s m args below meth c s.heap [] 0 0 (MQ below Qc args s mc ms free) (entryFrame m args maxL)) : Met l y ws rm Pc Qc mc ms free := by
  refine MetFree.of_bodySF (code := cc) (maxLocals := maxL) (ret := ret) hy ?_ ?_
  · intro args s m h hn
    obtain ⟨meth, c, h1, h2, h3, h4, h5, h6, -, -⟩ := Cond.code_spec hn (atoms_spec (ws := ws) h _ (by rw [hw]; exact List.mem_cons_self))
    exact ⟨meth, c, h1, h2, h3, h4, h5, h6⟩
  · intro p e s m args below meth c s₁ B hml hP _
    have hh0 : s₁.heap = s.heap := by rw [B.state]; rfl
    obtain ⟨t, a1, o, b1, b2, b3⟩ := body p e s m args below meth c s₁ B hml hP s₁ hh0 (Stand.of_body B)
    exact ⟨t, o, a1, b1, b2, ⟨b3.1, b3.2⟩⟩
/-! what stays of the tables and of the start -/
theorem am_AOA.moved {u U : State} (hvm : u.vm.Alike U.vm) (h : am_AOA u) : am_AOA U := by
  have h1 : (Cond.arrayOver (.array .long)).before #[] (u.setVm U.vm) = true := by rw [Cond.arrayOver_setVmC hvm]; exact h
  exact h1
theorem am_N.warm {s U : State} (hW : s.WarmedH U.vm) (h : am_N s) : am_N U := by
  obtain ⟨h1, ⟨a1, a2, a3, a4, a5⟩, a6⟩ := h
  refine ⟨fun w hw hn => ?_, ⟨a1.moved hW.alike, a2.moved hW.alike, a3.moved hW.alike, a4.moved hW.alike, a5.moved hW.alike⟩, a6.moved hW.alike⟩
  have h2 := h1 w hw hn
  cases w <;> first | exact va_Nw.warmM hW h2 | exact va_Nw.warmC hW h2 | cases hn
theorem am_N.same {s U : State} (hv : s.vm = U.vm) (h : am_N s) : am_N U := by
  obtain ⟨h1, ⟨a1, a2, a3, a4, a5⟩, a6⟩ := h
  have hA : s.vm.Alike U.vm := by rw [hv]; exact Vm.Alike.refl U.vm
  refine ⟨fun w hw hn => ?_, ⟨a1.moved hA, a2.moved hA, a3.moved hA, a4.moved hA, a5.moved hA⟩, a6.moved hA⟩
  have h2 := h1 w hw hn
  cases w <;> first | exact va_Nw.same rfl hv h2 | cases hn
theorem am_E.to {g : GV} {s U : State} {H : Heap} {locs : List Loc} (hbs : g.2.2.2.2.1 ≤ s.heap.size) (hS : va_S (am_A g) s.heap H locs) (hA : s.vm.Alike U.vm) (hR : ∀ {own tx k a}, vk_R own k tx a s → vk_R own k tx a U) (hU : U.heap = H) (h : am_E g s) : am_E g U := by
  obtain ⟨⟨x1, x2⟩, ⟨z1, z2⟩, ⟨t1, r1⟩, ⟨t2, r2⟩, v1, c1, c2⟩ := h
  rw [← hU] at hS
  have k : ∀ a : Nat, a < s.heap.size → ¬ am_A g a → U.heap[a]? = s.heap[a]? := hS.2.1
  have q : ∀ a : Nat, a < g.2.2.2.2.1 → U.heap[a]? = s.heap[a]? := fun a ha => k a (by omega) (fun z => by have : g.2.2.2.2.1 ≤ a := z; omega)
  exact ⟨⟨(x1.moved hA).kept (q _ x2), x2⟩, ⟨(z1.moved hA).kept k, (z2.moved hA).kept k⟩, ⟨t1, hR r1⟩, ⟨t2, hR r2⟩, (v1.moved hA).kept k, (c1.moved hA).kept k, (c2.moved hA).kept k⟩
theorem am_PC_blind {g : GV} {vs : List Value} {h : AH} : FrameBlind (am_PC g vs h) := by
  intro a U gf mk hq
  obtain ⟨q0, q1, q2, q3, q4, q5⟩ := hq
  exact ⟨q0, q1, va_K.moved (u := U) (U := U.calling gf mk a) (Vm.Alike.refl U.vm) q2, am_N.same (s := U) (U := U.calling gf mk a) rfl q3, q4.to (H := U.heap) (locs := []) q5 va_S.rf (Vm.Alike.refl U.vm) (fun r => vk_R.same rfl r) rfl, q5⟩
theorem am_good {M : Nat} (h : am_okM M = true) : GoodIn am_ws (am_wsM M) := by
  intro w hw
  unfold am_okM at h
  simp only [Bool.and_eq_true] at h
  rcases List.mem_cons.mp hw with rfl | hw
  · exact ⟨am_w_mem h.1.1.1 rfl, Or.inl rfl⟩
  · exact ⟨hw, good_of_word (List.mem_filter.mp hw).2⟩
theorem am_args_m {g : GV} (vs : List Value) : ∀ (o i : Nat) (v : Value), (am_arg vs)[i]? = some v → v ≠ .null → (o + i, am_v g v) ∈ lv_args o (vs.map (am_v g)) := by
  induction vs with
  | nil => intro o i v h; simp [am_arg] at h
  | cons w r ih =>
    intro o i v h hv
    cases w
    case long x =>
      cases i with
      | zero => simp [am_arg] at h; subst h; exact List.mem_cons_self
      | succ i =>
        cases i with
        | zero => simp [am_arg] at h; exact absurd h.symm hv
        | succ i =>
          have h' : (am_arg r)[i]? = some v := by simpa [am_arg] using h
          have := ih (o + 2) i v h' hv
          refine List.mem_cons_of_mem _ ?_
          rw [show o + (i + 1 + 1) = o + 2 + i by omega]
          exact this
    case double x =>
      cases i with
      | zero => simp [am_arg] at h; subst h; exact List.mem_cons_self
      | succ i =>
        cases i with
        | zero => simp [am_arg] at h; exact absurd h.symm hv
        | succ i =>
          have h' : (am_arg r)[i]? = some v := by simpa [am_arg] using h
          have := ih (o + 2) i v h' hv
          refine List.mem_cons_of_mem _ ?_
          rw [show o + (i + 1 + 1) = o + 2 + i by omega]
          exact this
    all_goals
      cases i with
      | zero => simp [am_arg] at h; subst h; exact List.mem_cons_self
      | succ i =>
        have h' : (am_arg r)[i]? = some v := by simpa [am_arg] using h
        have := ih (o + 1) i v h' hv
        refine List.mem_cons_of_mem _ ?_
        rw [show o + (i + 1) = o + 1 + i by omega]
        exact this
theorem am_arg_len {g : GV} (vs : List Value) : (lg_sl (vs.map (am_v g))).length = (am_arg vs).length := by
  induction vs with
  | nil => rfl
  | cons w r ih =>
    have e : lg_sl ((w :: r).map (am_v g)) = (if (am_v g w).category = 2 then [Slot.val (am_v g w), Slot.second] else [Slot.val (am_v g w)]) ++ lg_sl (r.map (am_v g)) := rfl
    rw [e, List.length_append, ih]
    cases w <;> simp [am_arg, am_v, Value.category] <;> omega
theorem am_entry {g : GV} {vs : List Value} {n : Nat} (h : (am_arg vs).length ≤ n) : am_LH g ((lg_sl (vs.map (am_v g)) ++ List.replicate (n - (lg_sl (vs.map (am_v g))).length) Slot.unset).toArray) n (am_ent vs n) := by
  refine am_LH.of (lv_entry (vs.map (am_v g)) (n := n) (by rw [am_arg_len]; exact h)) (by unfold am_ent; rw [List.length_append, List.length_replicate]; omega) fun i v hi hv => ?_
  unfold am_ent at hi
  by_cases hl : i < (am_arg vs).length
  · rw [List.getElem?_append_left hl] at hi
    have := am_args_m (g := g) vs 0 i v hi hv
    rw [Nat.zero_add] at this
    exact this
  · rw [List.getElem?_append_right (by omega)] at hi
    exact absurd (List.eq_of_mem_replicate (List.mem_of_getElem? hi)) hv
