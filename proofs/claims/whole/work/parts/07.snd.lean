/-! EACH STEP OF THE SMALL MACHINE IS A STEP OF THE REAL ONE -/
def am_A (g : GV) : Nat → Prop := fun q => g.2.2.2.2.1 ≤ q
def am_isN : Cond → Bool
  | .methodLinkNest _ _ _ _ => true
  | .castable _ _ => true
  | _ => false
def am_AOA (U : State) : Prop := (Cond.arrayOver (.array .long)).before #[] U = true
def am_N (U : State) : Prop := (∀ w ∈ lw_tbl, am_isN w = true → va_Nw w U) ∧ (va_AO RX2 U ∧ va_AO RX3 U ∧ va_AO RX7 U ∧ va_AO RX9 U ∧ va_AO RX10 U) ∧ am_AOA U
/-- what the start holds, at any state of the run -/
def am_E (g : GV) (U : State) : Prop :=
  (va_X (am_ad g 0) g.2.2.2.2.2.1 g.2.2.2.2.2.2 U U.heap ∧ am_ad g 0 < g.2.2.2.2.1) ∧
  (va_Z RX5 "ALLOWED" "[I" (.ref (am_ad g 1)) (am_A g) U U.heap ∧ va_T .int (am_ad g 1) 4 (fun j => .int (am_at am_alw j)) (am_A g) U U.heap) ∧
  (∃ tx, vk_R RX11 87 tx (am_ad g 2) U) ∧ (∃ tx, vk_R RX5 115 tx (am_ad g 4) U) ∧
  vk_S 2 [42, 85] [am_by0, am_by1] (fun i => am_ad g (2 + 2 * i)) (fun i => am_ad g (3 + 2 * i)) (am_A g) U U.heap ∧
  (va_Z "java/lang/String" "COMPACT_STRINGS" "Z" (.int 1) (am_A g) U U.heap ∧ va_Zq "jdk/internal/util/Preconditions" "SIOOBE_FORMATTER" "Ljava/util/function/BiFunction;" (am_A g) U U.heap)
/-- a frame of method M, with room for d frames more -/
def am_C (p : Program) (R : Room) (s : State) (m : MethodId) (args : Array Value) (meth : Method) (c : Code) (g : GV) (M d : Nat) : Prop :=
  p.tables.exec = Jvm.exec ∧ c.code = (am_mt M).2.2.1 ∧ c.maxLocals = (am_mt M).2.2.2.1 ∧ meth.sig.returnType = (am_mt M).2.2.2.2.1 ∧ s.vm.findClass (am_on (am_mt M).1) = some m.cls ∧ (∀ w ∈ am_ws, w.before args s = true) ∧ meth.locks = false ∧ ((am_mt M).2.1.name = "<init>" → meth.name = "<init>") ∧ d + 8 ≤ R.frames ∧ 100 * d + 800 ≤ R.locals ∧ va_K (am_D g) am_cl (am_tys g) s ∧ am_N s ∧ am_E g s ∧ g.2.2.2.2.1 ≤ s.heap.size
theorem am_i1_s {st : List Value} {q : Int32 × List Value} (h : am_i1 st = some q) : st = .int q.1 :: q.2 := by
  unfold am_i1 at h; split at h <;> cases h; rfl
theorem am_l1_s {st : List Value} {q : Int64 × List Value} (h : am_l1 st = some q) : st = .long q.1 :: q.2 := by
  unfold am_l1 at h; split at h <;> cases h; rfl
theorem am_a1_s {st : List Value} {q : Nat × List Value} (h : am_a1 st = some q) : st = .ref q.1 :: q.2 := by
  unfold am_a1 at h; split at h <;> cases h; rfl
theorem am_i2_s {st : List Value} {q : Int32 × Int32 × List Value} (h : am_i2 st = some q) : st = .int q.2.1 :: .int q.1 :: q.2.2 := by
  unfold am_i2 at h; split at h <;> cases h; rfl
theorem am_l2_s {st : List Value} {q : Int64 × Int64 × List Value} (h : am_l2 st = some q) : st = .long q.2.1 :: .long q.1 :: q.2.2 := by
  unfold am_l2 at h; split at h <;> cases h; rfl
theorem am_li2_s {st : List Value} {q : Int64 × Int32 × List Value} (h : am_li2 st = some q) : st = .int q.2.1 :: .long q.1 :: q.2.2 := by
  unfold am_li2 at h; split at h <;> cases h; rfl
theorem am_ia_s {st : List Value} {q : Nat × Int32 × List Value} (h : am_ia st = some q) : st = .int q.2.1 :: .ref q.1 :: q.2.2 := by
  unfold am_ia at h; split at h <;> cases h; rfl
theorem am_iia_s {st : List Value} {q : Nat × Int32 × Int32 × List Value} (h : am_iia st = some q) : st = .int q.2.2.1 :: .int q.2.1 :: .ref q.1 :: q.2.2.2 := by
  unfold am_iia at h; split at h <;> cases h; rfl
theorem am_lia_s {st : List Value} {q : Nat × Int32 × Int64 × List Value} (h : am_lia st = some q) : st = .long q.2.2.1 :: .int q.2.1 :: .ref q.1 :: q.2.2.2 := by
  unfold am_lia at h; split at h <;> cases h; rfl
theorem am_aia_s {st : List Value} {q : Nat × Int32 × Nat × List Value} (h : am_aia st = some q) : st = .ref q.2.2.1 :: .int q.2.1 :: .ref q.1 :: q.2.2.2 := by
  unfold am_aia at h; split at h <;> cases h; rfl
theorem am_ix_s {st : List Value} {q : Int32 × Nat × List Value} (h : am_ix st = some q) : st = .int q.1 :: .ref q.2.1 :: q.2.2 := by
  unfold am_ix at h; split at h <;> cases h; rfl
theorem am_lx_s {st : List Value} {q : Int64 × Nat × List Value} (h : am_lx st = some q) : st = .long q.1 :: .ref q.2.1 :: q.2.2 := by
  unfold am_lx at h; split at h <;> cases h; rfl
theorem am_ax_s {st : List Value} {q : Nat × Nat × List Value} (h : am_ax st = some q) : st = .ref q.1 :: .ref q.2.1 :: q.2.2 := by
  unfold am_ax at h; split at h <;> cases h; rfl
theorem am_li_s {loc : List Value} {k : Nat} {x : Int32} (h : am_li loc k = some x) : loc[k]? = some (.int x) := by
  unfold am_li at h; split at h <;> cases h; assumption
theorem am_ll_s {loc : List Value} {k : Nat} {x : Int64} (h : am_ll loc k = some x) : loc[k]? = some (.long x) := by
  unfold am_ll at h; split at h <;> cases h; assumption
theorem am_la_s {loc : List Value} {k x : Nat} (h : am_la loc k = some x) : loc[k]? = some (.ref x) := by
  unfold am_la at h; split at h <;> cases h; assumption
theorem am_tgt_s {pc : Nat} {off : Int} (h : 0 ≤ (pc : Int) + off) : (pc : Int) + off = (am_tgt pc off : Int) := by unfold am_tgt; omega
theorem am_len1 {i : Instr} {n : Nat} {cc : ByteArray} {pc k : Nat} (hd : decode cc pc = .ok (i, n)) (h : (n == k) = true) : decode cc pc = .ok (i, k) := by
  have : n = k := by simpa using h
  rw [← this]; exact hd
section SND
variable {p : Program} {l : Launch} {e : Env} {R : Room} {s : State} {m : MethodId} {args : Array Value} {below : List Frame} {meth : Method} {c : Code} {H : Heap} {locs : List Loc} {cells slots : Nat} {Q : State → Prop}
variable {g : GV} {M d pc : Nat} {loc st : List Value} {ls : Array Slot} {h : AH}
set_option maxHeartbeats 4000000 in
set_option maxRecDepth 100000 in
theorem am_p1_snd {en : EN} {pc' : Nat} {loc' st' : List Value} (C : am_C p R s m args meth c g M d) (hS : va_S (am_A g) s.heap H locs) (hd : decode (am_mt M).2.2.1 pc = .ok (en.1, en.2.1)) (hl : am_len en.1 en.2.1 = true) (hk : am_okI M pc en = true) (hL : am_LH g ls (am_mt M).2.2.2.1 loc) (hp : am_p1 en pc loc st = some (pc', loc', st'))
    (kk : ∀ ls', am_LH g ls' (am_mt M).2.2.2.1 loc' → W p l e R s m args below meth c H locs cells slots Q (F0 m pc' ls' (st'.map (am_v g)))) : W p l e R s m args below meth c H locs cells slots Q (F0 m pc ls (st.map (am_v g))) := by
  obtain ⟨hx, hb, hml, hr, hown, hts, hlk, hin, hfr, hlo, hK, hN, hE, hbs⟩ := C
  obtain ⟨i, len, mask, x1, x2, x3, w, cst⟩ := en
  dsimp only at hd hl hk hp
  cases i <;> simp only [am_p1] at hp <;> first | (cases hp; done) | skip
  case iconst n =>
    cases hp
    exact lv_iconst hx hb (am_len1 hd hl) rfl (kk ls hL)
  case bipush n =>
    cases hp
    exact lv_bipush hx hb (am_len1 hd hl) rfl (kk ls hL)
  case sipush n =>
    cases hp
    exact lv_sipush hx hb (am_len1 hd hl) rfl (kk ls hL)
  case lconst n =>
    cases hp
    exact lv_lconst hx hb (am_len1 hd hl) rfl (kk ls hL)
  case ldc idx =>
    split at hp
    · cases hp
      have hw : am_w w (.constant (am_on (am_mt M).1) idx (Int32.ofInt cst)) = true := by simpa [am_okI] using hk
      exact lv_ldc hx hb hown (hts _ (am_w_mem hw rfl)) (am_len1 hd hl) (kk ls hL)
    · rename_i hne
      cases hp
      have hw : (x1 = 2 ∧ (am_mt M).1 = 11 ∧ idx = 87) ∨ (x1 = 4 ∧ (am_mt M).1 = 5 ∧ idx = 115) := by
        have h3 : x3 ≠ 0 := hne
        simpa [am_okI, h3] using hk
      obtain ⟨-, -, ⟨t1, z1⟩, ⟨t2, z2⟩, -⟩ := hE
      rcases hw with ⟨rfl, hM, rfl⟩ | ⟨rfl, hM, rfl⟩
      · rw [hM] at hown
        exact va_ldcS hx hb hown z1 (am_len1 hd hl) (kk ls hL)
      · rw [hM] at hown
        exact va_ldcS hx hb hown z2 (am_len1 hd hl) (kk ls hL)
  case ldc_w idx =>
    cases hp
    have hw : am_w w (.constant (am_on (am_mt M).1) idx (Int32.ofInt cst)) = true := by simpa [am_okI] using hk
    exact lv_ldcw hx hb hown (hts _ (am_w_mem hw rfl)) (am_len1 hd hl) (kk ls hL)
  case ldc2_w idx =>
    cases hp
    have hw : am_w w (.constantLong (am_on (am_mt M).1) idx (Int64.ofInt cst)) = true := by simpa [am_okI] using hk
    exact lv_ldc2 hx hb hown (hts _ (am_w_mem hw rfl)) (am_len1 hd hl) (kk ls hL)
  case iload_n k =>
    obtain ⟨x, hx1, he⟩ := Option.map_eq_some_iff.mp hp
    cases he
    have h1 := hL.2.2.2 _ _ (am_li_s hx1) (by simp)
    exact lv_iload_n hx hb (am_len1 hd hl) rfl h1 (kk ls hL)
  case iload k =>
    obtain ⟨x, hx1, he⟩ := Option.map_eq_some_iff.mp hp
    cases he
    have h1 := hL.2.2.2 _ _ (am_li_s hx1) (by simp)
    exact lv_iload hx hb (am_len1 hd hl) h1 (kk ls hL)
  case lload_n k =>
    obtain ⟨x, hx1, he⟩ := Option.map_eq_some_iff.mp hp
    cases he
    have h1 := hL.2.2.2 _ _ (am_ll_s hx1) (by simp)
    exact lv_lload_n hx hb (am_len1 hd hl) rfl h1 (kk ls hL)
  case lload k =>
    obtain ⟨x, hx1, he⟩ := Option.map_eq_some_iff.mp hp
    cases he
    have h1 := hL.2.2.2 _ _ (am_ll_s hx1) (by simp)
    exact lv_lload hx hb (am_len1 hd hl) h1 (kk ls hL)
  case aload_n k =>
    obtain ⟨x, hx1, he⟩ := Option.map_eq_some_iff.mp hp
    cases he
    have h1 := hL.2.2.2 _ _ (am_la_s hx1) (by simp)
    exact lv_aload_n hx hb (am_len1 hd hl) rfl h1 (kk ls hL)
  case aload k =>
    obtain ⟨x, hx1, he⟩ := Option.map_eq_some_iff.mp hp
    cases he
    have h1 := hL.2.2.2 _ _ (am_la_s hx1) (by simp)
    exact lv_aload hx hb (am_len1 hd hl) h1 (kk ls hL)
  case istore_n k =>
    obtain ⟨q, hq, he⟩ := Option.map_eq_some_iff.mp hp
    cases he
    rw [am_i1_s hq]
    have hb1 : (k : Nat) < (am_mt M).2.2.2.1 := by simpa [am_okI] using hk
    refine lv_istore_n (nL := (am_mt M).2.2.2.1) (lv := am_as g loc) hx hb (am_len1 hd hl) rfl hL.has hb1 rfl (fun ls' hl' => ?_)
    exact kk ls' (am_LH.st1 (v := .int q.1) hL hb1 hl')
  case istore k =>
    obtain ⟨q, hq, he⟩ := Option.map_eq_some_iff.mp hp
    cases he
    rw [am_i1_s hq]
    have hb1 : k < (am_mt M).2.2.2.1 := by simpa [am_okI] using hk
    refine lv_istore (nL := (am_mt M).2.2.2.1) (lv := am_as g loc) hx hb (am_len1 hd hl) hL.has hb1 rfl (fun ls' hl' => ?_)
    exact kk ls' (am_LH.st1 (v := .int q.1) hL hb1 hl')
  case astore_n k =>
    obtain ⟨q, hq, he⟩ := Option.map_eq_some_iff.mp hp
    cases he
    rw [am_a1_s hq]
    have hb1 : (k : Nat) < (am_mt M).2.2.2.1 := by simpa [am_okI] using hk
    refine lv_astore_n (nL := (am_mt M).2.2.2.1) (lv := am_as g loc) hx hb (am_len1 hd hl) rfl hL.has hb1 rfl (fun ls' hl' => ?_)
    exact kk ls' (am_LH.st1 (v := .ref q.1) hL hb1 hl')
  case astore k =>
    obtain ⟨q, hq, he⟩ := Option.map_eq_some_iff.mp hp
    cases he
    rw [am_a1_s hq]
    have hb1 : k < (am_mt M).2.2.2.1 := by simpa [am_okI] using hk
    refine lv_astore (nL := (am_mt M).2.2.2.1) (lv := am_as g loc) hx hb (am_len1 hd hl) hL.has hb1 rfl (fun ls' hl' => ?_)
    exact kk ls' (am_LH.st1 (v := .ref q.1) hL hb1 hl')
  case lstore_n k =>
    obtain ⟨q, hq, he⟩ := Option.map_eq_some_iff.mp hp
    cases he
    rw [am_l1_s hq]
    have hb1 : (k : Nat) + 1 < (am_mt M).2.2.2.1 := by simpa [am_okI] using hk
    refine lv_lstore_n (nL := (am_mt M).2.2.2.1) (lv := am_as g loc) hx hb (am_len1 hd hl) rfl hL.has hb1 rfl (fun ls' hl' => ?_)
    exact kk ls' (am_LH.st2 (v := .long q.1) hL hb1 hl')
  case lstore k =>
    obtain ⟨q, hq, he⟩ := Option.map_eq_some_iff.mp hp
    cases he
    rw [am_l1_s hq]
    have hb1 : k + 1 < (am_mt M).2.2.2.1 := by simpa [am_okI] using hk
    refine lv_lstore (nL := (am_mt M).2.2.2.1) (lv := am_as g loc) hx hb (am_len1 hd hl) hL.has hb1 rfl (fun ls' hl' => ?_)
    exact kk ls' (am_LH.st2 (v := .long q.1) hL hb1 hl')
  case iinc k n =>
    obtain ⟨x, hx1, he⟩ := Option.map_eq_some_iff.mp hp
    cases he
    have hb1 : k < (am_mt M).2.2.2.1 := by simpa [am_okI] using hk
    have hm : (k, Value.int x) ∈ am_as g loc := am_as_mem.mpr ⟨.int x, am_li_s hx1, by simp, rfl⟩
    obtain ⟨j, hj⟩ := List.getElem?_of_mem hm
    refine lv_iinc (nL := (am_mt M).2.2.2.1) (lv := am_as g loc) hx hb (am_len1 hd hl) hL.has hj rfl hb1 rfl (fun ls' hl' => ?_)
    exact kk ls' (am_LH.st1 (v := .int (x + Int32.ofInt n)) hL hb1 hl')
  case iadd =>
    obtain ⟨q, hq, he⟩ := Option.map_eq_some_iff.mp hp
    cases he
    rw [am_i2_s hq]
    exact lv_iadd hx hb (am_len1 hd hl) (kk ls hL)
  case isub =>
    obtain ⟨q, hq, he⟩ := Option.map_eq_some_iff.mp hp
    cases he
    rw [am_i2_s hq]
    exact lv_isub hx hb (am_len1 hd hl) (kk ls hL)
  case imul =>
    obtain ⟨q, hq, he⟩ := Option.map_eq_some_iff.mp hp
    cases he
    rw [am_i2_s hq]
    exact lv_imul hx hb (am_len1 hd hl) (kk ls hL)
  case iand =>
    obtain ⟨q, hq, he⟩ := Option.map_eq_some_iff.mp hp
    cases he
    rw [am_i2_s hq]
    exact lv_iand hx hb (am_len1 hd hl) (kk ls hL)
  case ior =>
    obtain ⟨q, hq, he⟩ := Option.map_eq_some_iff.mp hp
    cases he
    rw [am_i2_s hq]
    exact lv_ior hx hb (am_len1 hd hl) (kk ls hL)
  case ixor =>
    obtain ⟨q, hq, he⟩ := Option.map_eq_some_iff.mp hp
    cases he
    rw [am_i2_s hq]
    exact lv_ixor hx hb (am_len1 hd hl) (kk ls hL)
  case ishl =>
    obtain ⟨q, hq, he⟩ := Option.map_eq_some_iff.mp hp
    cases he
    rw [am_i2_s hq]
    exact lv_ishl hx hb (am_len1 hd hl) (kk ls hL)
  case ishr =>
    obtain ⟨q, hq, he⟩ := Option.map_eq_some_iff.mp hp
    cases he
    rw [am_i2_s hq]
    exact lv_ishr hx hb (am_len1 hd hl) (kk ls hL)
  case iushr =>
    obtain ⟨q, hq, he⟩ := Option.map_eq_some_iff.mp hp
    cases he
    rw [am_i2_s hq]
    exact lv_iushr hx hb (am_len1 hd hl) rfl (kk ls hL)
  case ladd =>
    obtain ⟨q, hq, he⟩ := Option.map_eq_some_iff.mp hp
    cases he
    rw [am_l2_s hq]
    exact lv_ladd hx hb (am_len1 hd hl) (kk ls hL)
  case lsub =>
    obtain ⟨q, hq, he⟩ := Option.map_eq_some_iff.mp hp
    cases he
    rw [am_l2_s hq]
    exact lv_lsub hx hb (am_len1 hd hl) (kk ls hL)
  case lmul =>
    obtain ⟨q, hq, he⟩ := Option.map_eq_some_iff.mp hp
    cases he
    rw [am_l2_s hq]
    exact lv_lmul hx hb (am_len1 hd hl) (kk ls hL)
  case land =>
    obtain ⟨q, hq, he⟩ := Option.map_eq_some_iff.mp hp
    cases he
    rw [am_l2_s hq]
    exact lv_land hx hb (am_len1 hd hl) (kk ls hL)
  case lor =>
    obtain ⟨q, hq, he⟩ := Option.map_eq_some_iff.mp hp
    cases he
    rw [am_l2_s hq]
    exact lv_lor hx hb (am_len1 hd hl) (kk ls hL)
  case lneg =>
    obtain ⟨q, hq, he⟩ := Option.map_eq_some_iff.mp hp
    cases he
    rw [am_l1_s hq]
    exact lv_lneg hx hb (am_len1 hd hl) (kk ls hL)
  case lshl =>
    obtain ⟨q, hq, he⟩ := Option.map_eq_some_iff.mp hp
    cases he
    rw [am_li2_s hq]
    exact lv_lshl hx hb (am_len1 hd hl) rfl (kk ls hL)
  case lshr =>
    obtain ⟨q, hq, he⟩ := Option.map_eq_some_iff.mp hp
    cases he
    rw [am_li2_s hq]
    exact lv_lshr hx hb (am_len1 hd hl) rfl (kk ls hL)
  case lushr =>
    obtain ⟨q, hq, he⟩ := Option.map_eq_some_iff.mp hp
    cases he
    rw [am_li2_s hq]
    exact lv_lushr hx hb (am_len1 hd hl) rfl (kk ls hL)
  case lcmp =>
    obtain ⟨q, hq, he⟩ := Option.map_eq_some_iff.mp hp
    cases he
    rw [am_l2_s hq]
    exact W.lcmp hx hb (am_len1 hd hl) (kk ls hL)
  case i2l =>
    obtain ⟨q, hq, he⟩ := Option.map_eq_some_iff.mp hp
    cases he
    rw [am_i1_s hq]
    exact lv_i2l hx hb (am_len1 hd hl) rfl (kk ls hL)
  case l2i =>
    obtain ⟨q, hq, he⟩ := Option.map_eq_some_iff.mp hp
    cases he
    rw [am_l1_s hq]
    exact lv_l2i hx hb (am_len1 hd hl) rfl (kk ls hL)
  case i2b =>
    obtain ⟨q, hq, he⟩ := Option.map_eq_some_iff.mp hp
    cases he
    rw [am_i1_s hq]
    exact lv_i2b hx hb (am_len1 hd hl) rfl (kk ls hL)
  case dup =>
    obtain ⟨q, hq, he⟩ := Option.map_eq_some_iff.mp hp
    cases he
    unfold am_dup at hq
    split at hq
    · cases hq
      exact lv_dup hx hb (am_len1 hd hl) rfl (kk ls hL)
    · cases hq
      exact lv_dup hx hb (am_len1 hd hl) rfl (kk ls hL)
    · cases hq
  case pop =>
    obtain ⟨q, hq, he⟩ := Option.map_eq_some_iff.mp hp
    cases he
    unfold am_pop at hq
    split at hq
    · cases hq
      exact lv_pop hx hb (am_len1 hd hl) rfl (kk ls hL)
    · cases hq
      exact lv_pop hx hb (am_len1 hd hl) rfl (kk ls hL)
    · cases hq
  case pop2 =>
    obtain ⟨q, hq, he⟩ := Option.map_eq_some_iff.mp hp
    cases he
    rw [am_l1_s hq]
    exact lv_pop2_2 hx hb (am_len1 hd hl) rfl (kk ls hL)
  case dup2 =>
    obtain ⟨q, hq, he⟩ := Option.map_eq_some_iff.mp hp
    cases he
    unfold am_dup2 at hq
    split at hq
    · cases hq
      exact lv_dup2_11 hx hb (am_len1 hd hl) rfl rfl (kk ls hL)
    · cases hq
      exact lv_dup2_2 hx hb (am_len1 hd hl) rfl (kk ls hL)
    · cases hq
  case goto off =>
    cases hp
    have h0 : 0 ≤ (pc : Int) + off := by simpa [am_okI] using hk
    exact lv_goto hx hb (am_len1 hd hl) (am_tgt_s h0) (kk ls hL)
  case getstatic idx =>
    cases hp
    have hw : (x1 = 1 ∧ (am_mt M).1 = 5) ∧ am_w w (.fieldLink (am_on (am_mt M).1) idx RX5 "ALLOWED" "[I") = true := by simpa [am_okI] using hk
    obtain ⟨⟨rfl, hM⟩, hw⟩ := hw
    exact va_gets hx hb hE.2.1.1 hS hown (hts _ (am_w_mem hw rfl)) (fun _ q => q) (am_len1 hd hl) (kk ls hL)
end SND
