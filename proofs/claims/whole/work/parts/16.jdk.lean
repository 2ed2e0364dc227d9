/-! THE JDK'S CALLS THAT ARE TAKEN WHOLE -/
def am_wj (y : MethodName) (b : ByteArray) (n : Nat) (r : Option FieldType) : List Cond := .code y b n r :: am_ws
theorem am_goodj {i : Nat} {y : MethodName} {b : ByteArray} {n : Nat} {r : Option FieldType} (h : am_w i (.code y b n r) = true) : GoodIn am_ws (am_wj y b n r) := by
  intro w hw
  rcases List.mem_cons.mp hw with rfl | hw
  · exact ⟨am_w_mem h rfl, Or.inl rfl⟩
  · exact ⟨hw, good_of_word (List.mem_filter.mp hw).2⟩
def am_SP (g : GV) (vs : List Value) : Array Value → State → Prop := fun v U => v = vs.toArray ∧ am_E g U ∧ g.2.2.2.2.1 ≤ U.heap.size
def am_Qh (r : Option Value) : Array Value → State → Outcome → State → Prop := fun _ st o t => o = .returned r ∧ t.heap = st.heap
abbrev am_rk (k : Nat) : Room := { frames := k, cells := 0, slots := 0, locals := 40 * k }
theorem am_SP_blind {g : GV} {vs : List Value} : FrameBlind (am_SP g vs) := by
  intro a U gf mk hq
  obtain ⟨q0, q4, q5⟩ := hq
  exact ⟨q0, q4.to (H := U.heap) (locs := []) q5 va_S.rf (Vm.Alike.refl U.vm) (fun r => vk_R.same rfl r) rfl, q5⟩
theorem am_callh {p : Program} {l : Launch} {e : Env} {R : Room} {s : State} {m : MethodId} {args : Array Value} {below : List Frame} {meth : Method} {c : Code} {H : Heap} {locs : List Loc} {cells slots : Nat} {Q : State → Prop} {gf : JFrame} {rest : List Value} {a : Array Value} {r : Option Value} (hr : CallRun p l e R s m args below meth c H locs cells slots 0 0 gf rest (am_Qh r a) (fun _ => False)) (kk : W p l e R s m args below meth c H locs cells slots Q { gf with pc := gf.pc + 3, stack := r.toList ++ rest }) : W p l e R s m args below meth c H locs cells slots Q gf := by
  intro T hT X
  obtain ⟨v, st₀, t, T', L, h0, X', hL, e1, ⟨hv, hh⟩, st⟩ := hr T hT X
  cases hv
  obtain ⟨t2, a1, b1⟩ := kk T' (by rw [e1, hh, h0]) (Stand.forget X' (fun q h => (hL q h).elim))
  exact ⟨t2, st t2 a1, b1⟩
theorem am_skeep {g : GV} {s : State} {H : Heap} {locs : List Loc} (hE : am_E g s) (hbs : g.2.2.2.2.1 ≤ s.heap.size) (hS : va_S (am_A g) s.heap H locs) (vs : List Value) (U : State) (hU : U.heap = H) (hW : s.WarmedH U.vm) : am_SP g vs vs.toArray U :=
  ⟨rfl, hE.to hbs hS hW.alike (fun r => vk_R.warm hW r) hU, by rw [hU]; exact Nat.le_trans hbs hS.1⟩
/-- the two String constants, by their places -/
def am_sN (i : Nat) : Nat := ([42, 85] : List Nat).getD i 0
def am_sB (i : Nat) : List Int32 := ([am_by0, am_by1] : List (List Int32)).getD i []
theorem am_jw1 : am_w 499 (.code yJ0_coder_7d493 cJ0_coder_7d493 1 (some .byte)) = true := by decide +kernel
theorem am_jw2 : am_w 509 (.code yJ0_isLatin1_aae02 cJ0_isLatin1_aae02 1 (some .boolean)) = true := by decide +kernel
theorem am_jw3 : am_w 495 (.code yJ0_length_8abf5 cJ0_length_8abf5 1 (some .int)) = true := by decide +kernel
theorem am_jw4 : am_w 505 (.code yJ0_charAt_5068e cJ0_charAt_5068e 2 (some .char)) = true := by decide +kernel
theorem am_jw5 : am_w 512 (.code yJ1_charAt_3b067 cJ1_charAt_3b067 2 (some .char)) = true := by decide +kernel
theorem am_jw6 : am_w 515 (.code yJ0_checkIndex_df160 cJ0_checkIndex_df160 2 none) = true := by decide +kernel
theorem am_jw7 : am_w 520 (.code yJ3_checkIndex_8e157 cJ3_checkIndex_8e157 3 (some .int)) = true := by decide +kernel
theorem am_jd : decode cJ0_coder_7d493 0 = .ok (.getstatic 38, 3) ∧ decode cJ0_coder_7d493 3 = .ok (.ifCond .eq 10, 3) ∧ decode cJ0_coder_7d493 6 = .ok (.aload_n 0, 1) ∧ decode cJ0_coder_7d493 7 = .ok (.getfield 15, 3) ∧ decode cJ0_coder_7d493 10 = .ok (.goto 4, 3) ∧ decode cJ0_coder_7d493 14 = .ok (.ireturn, 1) := by decide +kernel
theorem am_jd2 : decode cJ0_isLatin1_aae02 0 = .ok (.getstatic 38, 3) ∧ decode cJ0_isLatin1_aae02 3 = .ok (.ifCond .eq 14, 3) ∧ decode cJ0_isLatin1_aae02 6 = .ok (.aload_n 0, 1) ∧ decode cJ0_isLatin1_aae02 7 = .ok (.getfield 15, 3) ∧ decode cJ0_isLatin1_aae02 10 = .ok (.ifCond .ne 7, 3) ∧ decode cJ0_isLatin1_aae02 13 = .ok (.iconst 1, 1) ∧ decode cJ0_isLatin1_aae02 14 = .ok (.goto 4, 3) ∧ decode cJ0_isLatin1_aae02 18 = .ok (.ireturn, 1) := by decide +kernel
set_option maxHeartbeats 4000000 in
set_option maxRecDepth 100000 in
theorem am_c_coder (l : Launch) (g : GV) (i : Nat) (hi : i < 2) : Met l yJ0_coder_7d493 (am_wj yJ0_coder_7d493 cJ0_coder_7d493 1 (some .byte)) (am_rk 0) (am_SP g [.ref (am_ad g (2 + 2 * i))]) (am_Qh (some (.int 0))) 0 0 (fun _ => False) := by
  refine am_ofW (cc := cJ0_coder_7d493) (maxL := 1) (ret := some .byte) (by decide +kernel) rfl ?_
  intro p e s m args below meth c s₁ B hml hv
  obtain ⟨rfl, hE, hbs⟩ := hv
  have hx := B.exec
  have hb := B.bytes
  have hr := B.returns
  have hts0 := atoms_spec (ws := am_wj yJ0_coder_7d493 cJ0_coder_7d493 1 (some .byte)) B.pre
  have hts : ∀ w ∈ am_ws, w.before #[Value.ref (am_ad g (2 + 2 * i))] s = true := fun w hw => hts0 w (List.mem_cons_of_mem _ hw)
  have hown : s.vm.findClass "java/lang/String" = some m.cls := findClass_of_methodNamed B.named
  have hlocks := B.notSynchronized
  have hS : va_S (am_A g) s.heap s.heap [] := va_S.rf
  have hl := lv_entry ([.ref (am_ad g (2 + 2 * i))]) (n := 1) (Nat.le_of_ble_eq_true rfl)
  rw [lg_entry_eq]
  generalize (lg_sl ([.ref (am_ad g (2 + 2 * i))]) ++ List.replicate (1 - (lg_sl ([.ref (am_ad g (2 + 2 * i))])).length) Slot.unset).toArray = ls at hl ⊢
  obtain ⟨-, -, -, -, v1, c1, c2⟩ := hE
  obtain ⟨d0, d3, d6, d7, d10, d14⟩ := am_jd
  refine va_gets hx hb c1 hS hown (hts (.fieldLink "java/lang/String" 38 "java/lang/String" "COMPACT_STRINGS" "Z") (am_w_mem (i := 500) (by decide +kernel) rfl)) (fun _ q => q) d0 ?_
  refine lv_if_eq (tgt := 13) hx hb d3 (by decide) (fun q => absurd q (by decide)) (fun _ => ?_)
  refine lv_aload_n hx hb d6 rfl (lv_at hl 0 rfl) ?_
  refine vk_getf hx hb (v1.1 i hi).2.1 hS hown (hts (.fieldLink "java/lang/String" 15 "java/lang/String" "coder" "B") (am_w_mem (i := 1874) (by decide +kernel) rfl)) (fun _ q => q) d7 ?_
  refine lv_goto (tgt := 14) hx hb d10 (by decide) ?_
  exact W.zret hx hb hr (by decide) (fun t ht hW => ⟨rfl, ht⟩) (fun q h => by cases h) d14
set_option maxHeartbeats 4000000 in
set_option maxRecDepth 100000 in
theorem am_c_lat (l : Launch) (g : GV) (i : Nat) (hi : i < 2) : Met l yJ0_isLatin1_aae02 (am_wj yJ0_isLatin1_aae02 cJ0_isLatin1_aae02 1 (some .boolean)) (am_rk 0) (am_SP g [.ref (am_ad g (2 + 2 * i))]) (am_Qh (some (.int 1))) 0 0 (fun _ => False) := by
  refine am_ofW (cc := cJ0_isLatin1_aae02) (maxL := 1) (ret := some .boolean) (by decide +kernel) rfl ?_
  intro p e s m args below meth c s₁ B hml hv
  obtain ⟨rfl, hE, hbs⟩ := hv
  have hx := B.exec
  have hb := B.bytes
  have hr := B.returns
  have hts0 := atoms_spec (ws := am_wj yJ0_isLatin1_aae02 cJ0_isLatin1_aae02 1 (some .boolean)) B.pre
  have hts : ∀ w ∈ am_ws, w.before #[Value.ref (am_ad g (2 + 2 * i))] s = true := fun w hw => hts0 w (List.mem_cons_of_mem _ hw)
  have hown : s.vm.findClass "java/lang/String" = some m.cls := findClass_of_methodNamed B.named
  have hlocks := B.notSynchronized
  have hS : va_S (am_A g) s.heap s.heap [] := va_S.rf
  have hl := lv_entry ([.ref (am_ad g (2 + 2 * i))]) (n := 1) (Nat.le_of_ble_eq_true rfl)
  rw [lg_entry_eq]
  generalize (lg_sl ([.ref (am_ad g (2 + 2 * i))]) ++ List.replicate (1 - (lg_sl ([.ref (am_ad g (2 + 2 * i))])).length) Slot.unset).toArray = ls at hl ⊢
  obtain ⟨-, -, -, -, v1, c1, c2⟩ := hE
  obtain ⟨d0, d3, d6, d7, d10, d13, d14, d18⟩ := am_jd2
  refine va_gets hx hb c1 hS hown (hts (.fieldLink "java/lang/String" 38 "java/lang/String" "COMPACT_STRINGS" "Z") (am_w_mem (i := 500) (by decide +kernel) rfl)) (fun _ q => q) d0 ?_
  refine lv_if_eq (tgt := 17) hx hb d3 (by decide) (fun q => absurd q (by decide)) (fun _ => ?_)
  refine lv_aload_n hx hb d6 rfl (lv_at hl 0 rfl) ?_
  refine vk_getf hx hb (v1.1 i hi).2.1 hS hown (hts (.fieldLink "java/lang/String" 15 "java/lang/String" "coder" "B") (am_w_mem (i := 1874) (by decide +kernel) rfl)) (fun _ q => q) d7 ?_
  refine lv_if_ne (tgt := 17) hx hb d10 (by decide) (fun q => absurd rfl q) (fun _ => ?_)
  refine lv_iconst (v := 1) hx hb d13 (by decide) ?_
  refine lv_goto (tgt := 18) hx hb d14 (by decide) ?_
  exact W.zret hx hb hr (by decide) (fun t ht hW => ⟨rfl, ht⟩) (fun q h => by cases h) d18
theorem am_jd3 : decode cJ0_length_8abf5 0 = .ok (.aload_n 0, 1) ∧ decode cJ0_length_8abf5 1 = .ok (.getfield 9, 3) ∧ decode cJ0_length_8abf5 4 = .ok (.arraylength, 1) ∧ decode cJ0_length_8abf5 5 = .ok (.aload_n 0, 1) ∧ decode cJ0_length_8abf5 6 = .ok (.invokevirtual 335, 3) ∧ decode cJ0_length_8abf5 9 = .ok (.ishr, 1) ∧ decode cJ0_length_8abf5 10 = .ok (.ireturn, 1) := by decide +kernel
theorem am_jd7 : decode cJ3_checkIndex_8e157 0 = .ok (.iload_n 0, 1) ∧ decode cJ3_checkIndex_8e157 1 = .ok (.ifCond .lt 8, 3) ∧ decode cJ3_checkIndex_8e157 4 = .ok (.iload_n 0, 1) ∧ decode cJ3_checkIndex_8e157 5 = .ok (.iload_n 1, 1) ∧ decode cJ3_checkIndex_8e157 6 = .ok (.if_icmp .lt 10, 3) ∧ decode cJ3_checkIndex_8e157 16 = .ok (.iload_n 0, 1) ∧ decode cJ3_checkIndex_8e157 17 = .ok (.ireturn, 1) := by decide +kernel
theorem am_jd6 : decode cJ0_checkIndex_df160 0 = .ok (.iload_n 0, 1) ∧ decode cJ0_checkIndex_df160 1 = .ok (.iload_n 1, 1) ∧ decode cJ0_checkIndex_df160 2 = .ok (.getstatic 1053, 3) ∧ decode cJ0_checkIndex_df160 5 = .ok (.invokestatic 1059, 3) ∧ decode cJ0_checkIndex_df160 8 = .ok (.pop, 1) ∧ decode cJ0_checkIndex_df160 9 = .ok (.return_, 1) := by decide +kernel
theorem am_jd5 : decode cJ1_charAt_3b067 0 = .ok (.iload_n 1, 1) ∧ decode cJ1_charAt_3b067 1 = .ok (.aload_n 0, 1) ∧ decode cJ1_charAt_3b067 2 = .ok (.arraylength, 1) ∧ decode cJ1_charAt_3b067 3 = .ok (.invokestatic 9, 3) ∧ decode cJ1_charAt_3b067 6 = .ok (.aload_n 0, 1) ∧ decode cJ1_charAt_3b067 7 = .ok (.iload_n 1, 1) ∧ decode cJ1_charAt_3b067 8 = .ok (.baload, 1) ∧ decode cJ1_charAt_3b067 9 = .ok (.sipush 255, 3) ∧ decode cJ1_charAt_3b067 12 = .ok (.iand, 1) ∧ decode cJ1_charAt_3b067 13 = .ok (.i2c, 1) ∧ decode cJ1_charAt_3b067 14 = .ok (.ireturn, 1) := by decide +kernel
theorem am_jd4 : decode cJ0_charAt_5068e 0 = .ok (.aload_n 0, 1) ∧ decode cJ0_charAt_5068e 1 = .ok (.invokevirtual 492, 3) ∧ decode cJ0_charAt_5068e 4 = .ok (.ifCond .eq 12, 3) ∧ decode cJ0_charAt_5068e 7 = .ok (.aload_n 0, 1) ∧ decode cJ0_charAt_5068e 8 = .ok (.getfield 9, 3) ∧ decode cJ0_charAt_5068e 11 = .ok (.iload_n 1, 1) ∧ decode cJ0_charAt_5068e 12 = .ok (.invokestatic 495, 3) ∧ decode cJ0_charAt_5068e 15 = .ok (.ireturn, 1) := by decide +kernel
set_option maxHeartbeats 4000000 in
set_option maxRecDepth 100000 in
theorem am_c_len (l : Launch) (g : GV) (i : Nat) (hi : i < 2) : Met l yJ0_length_8abf5 (am_wj yJ0_length_8abf5 cJ0_length_8abf5 1 (some .int)) (am_rk 1) (am_SP g [.ref (am_ad g (2 + 2 * i))]) (am_Qh (some (.int (Int32.ofNat (am_sN i))))) 0 0 (fun _ => False) := by
  refine am_ofW (cc := cJ0_length_8abf5) (maxL := 1) (ret := some .int) (by decide +kernel) rfl ?_
  intro p e s m args below meth c s₁ B hml hv
  obtain ⟨rfl, hE, hbs⟩ := hv
  have hx := B.exec
  have hb := B.bytes
  have hr := B.returns
  have hts0 := atoms_spec (ws := am_wj yJ0_length_8abf5 cJ0_length_8abf5 1 (some .int)) B.pre
  have hts : ∀ w ∈ am_ws, w.before #[Value.ref (am_ad g (2 + 2 * i))] s = true := fun w hw => hts0 w (List.mem_cons_of_mem _ hw)
  have hown : s.vm.findClass "java/lang/String" = some m.cls := findClass_of_methodNamed B.named
  have hlocks := B.notSynchronized
  have hS : va_S (am_A g) s.heap s.heap [] := va_S.rf
  have hl := lv_entry ([.ref (am_ad g (2 + 2 * i))]) (n := 1) (Nat.le_of_ble_eq_true rfl)
  rw [lg_entry_eq]
  generalize (lg_sl ([.ref (am_ad g (2 + 2 * i))]) ++ List.replicate (1 - (lg_sl ([.ref (am_ad g (2 + 2 * i))])).length) Slot.unset).toArray = ls at hl ⊢
  have hE0 := hE
  obtain ⟨-, -, -, -, v1, c1, c2⟩ := hE
  obtain ⟨d0, d1, d4, d5, d6, d9, d10⟩ := am_jd3
  refine lv_aload_n hx hb d0 rfl (lv_at hl 0 rfl) ?_
  refine vk_getf hx hb (v1.1 i hi).2.2.1 hS hown (hts (.fieldLink "java/lang/String" 9 "java/lang/String" "value" "[B") (am_w_mem (i := 1873) (by decide +kernel) rfl)) (fun _ q => q) d1 ?_
  refine va_tlen hx hb (v1.1 i hi).2.2.2 hS rfl d4 ?_
  refine lv_aload_n hx hb d5 rfl (lv_at hl 0 rfl) ?_
  refine am_callh (W.runV (C := "java/lang/String") (b := am_ad g (2 + 2 * i)) (As := []) (rest := [.int (Int32.ofNat (am_sN i))]) (n := 0) ⟨hx, hb, hml, hown, hts⟩ (am_c_coder l g i hi) ⟨callB_of 0 hts (am_goodj am_jw1) rfl rfl rfl (hts (.initialized "java/lang/String") (am_w_mem (i := 118) (by decide +kernel) rfl)) (hts (.methodLink "java/lang/String" 335 yJ0_coder_7d493) (am_w_mem (i := 496) (by decide +kernel) rfl)) ⟨by decide +kernel, by decide +kernel, by decide +kernel⟩ ⟨Nat.le_of_ble_eq_true rfl, Nat.le_of_ble_eq_true rfl⟩, hts (.instanceMethod yJ0_coder_7d493) (am_w_mem (i := 497) (by decide +kernel) rfl), hts (.selects "java/lang/String" yJ0_coder_7d493 yJ0_coder_7d493) (am_w_mem (i := 498) (by decide +kernel) rfl)⟩ ⟨am_SP_blind, vk_recv (i := i) (adK := fun i => am_ad g (2 + 2 * i)) v1 hi hS, am_skeep hE0 hbs hS _⟩ rfl rfl hl.1 rfl (lv_room (Nat.le_of_ble_eq_true rfl)) d6 ⟨Nat.le_refl _, Nat.le_refl _⟩) ?_
  refine lv_ishr hx hb d9 ?_
  have ez : Int32.ofNat (am_sN i) >>> ((0 : Int32) &&& 31) = Int32.ofNat (am_sN i) := by
    rcases (show i = 0 ∨ i = 1 by omega) with rfl | rfl <;> decide
  rw [ez]
  exact W.iret hx hb hr (fun t ht hW => ⟨rfl, ht⟩) (fun q h => by cases h) d10
theorem am_len3 {i n : Int32} {v : Value} (hv0 : v.category = 1) : (lg_sl [.int i, .int n, v]).length ≤ 3 := by
  have h : lg_sl [v] = [Slot.val v] := by simp [lg_sl, hv0]
  show (lg_sl [v]).length + 1 + 1 ≤ 3
  rw [h]
  simp
set_option maxHeartbeats 4000000 in
set_option maxRecDepth 100000 in
theorem am_c_pre (l : Launch) (i n : Int32) (v : Value) (hv0 : v.category = 1) (h0 : ¬ i < 0) (h1 : i < n) : Met l yJ3_checkIndex_8e157 (am_wj yJ3_checkIndex_8e157 cJ3_checkIndex_8e157 3 (some .int)) (am_rk 0) (fun a _ => a = ([.int i, .int n, v] : List Value).toArray) (am_Qh (some (.int i))) 0 0 (fun _ => False) := by
  refine am_ofW (cc := cJ3_checkIndex_8e157) (maxL := 3) (ret := some .int) (by decide +kernel) rfl ?_
  intro p e s m args below meth c s₁ B hml hv
  subst hv
  have hx := B.exec
  have hb := B.bytes
  have hr := B.returns
  have hlocks := B.notSynchronized
  have hl := lv_entry ([.int i, .int n, v]) (n := 3) (am_len3 hv0)
  rw [lg_entry_eq]
  generalize (lg_sl ([.int i, .int n, v]) ++ List.replicate (3 - (lg_sl ([.int i, .int n, v])).length) Slot.unset).toArray = ls at hl ⊢
  obtain ⟨d0, d1, d4, d5, d6, d16, d17⟩ := am_jd7
  refine lv_iload_n hx hb d0 rfl (lv_at hl 0 rfl) ?_
  refine lv_if_lt (tgt := 9) hx hb d1 (by decide) (fun q => absurd q h0) (fun _ => ?_)
  refine lv_iload_n hx hb d4 rfl (lv_at hl 0 rfl) ?_
  refine lv_iload_n hx hb d5 rfl (lv_at hl 1 rfl) ?_
  refine lv_icmp_lt (tgt := 16) hx hb d6 (by decide) (fun _ => ?_) (fun q => absurd h1 q)
  refine lv_iload_n hx hb d16 rfl (lv_at hl 0 rfl) ?_
  exact W.iret hx hb hr (fun t ht hW => ⟨rfl, ht⟩) (fun q h => by cases h) d17
set_option maxHeartbeats 4000000 in
set_option maxRecDepth 100000 in
theorem am_c_chk (l : Launch) (g : GV) (i n : Int32) (h0 : ¬ i < 0) (h1 : i < n) : Met l yJ0_checkIndex_df160 (am_wj yJ0_checkIndex_df160 cJ0_checkIndex_df160 2 none) (am_rk 1) (am_SP g [.int i, .int n]) (am_Qh none) 0 0 (fun _ => False) := by
  refine am_ofW (cc := cJ0_checkIndex_df160) (maxL := 2) (ret := none) (by decide +kernel) rfl ?_
  intro p e s m args below meth c s₁ B hml hv
  obtain ⟨rfl, hE, hbs⟩ := hv
  have hx := B.exec
  have hb := B.bytes
  have hr := B.returns
  have hts0 := atoms_spec (ws := am_wj yJ0_checkIndex_df160 cJ0_checkIndex_df160 2 none) B.pre
  have hts : ∀ w ∈ am_ws, w.before ([Value.int i, Value.int n] : List Value).toArray s = true := fun w hw => hts0 w (List.mem_cons_of_mem _ hw)
  have hown : s.vm.findClass "java/lang/String" = some m.cls := findClass_of_methodNamed B.named
  have hlocks := B.notSynchronized
  have hS : va_S (am_A g) s.heap s.heap [] := va_S.rf
  have hl := lv_entry ([.int i, .int n]) (n := 2) (Nat.le_of_ble_eq_true rfl)
  rw [lg_entry_eq]
  generalize (lg_sl ([.int i, .int n]) ++ List.replicate (2 - (lg_sl ([.int i, .int n])).length) Slot.unset).toArray = ls at hl ⊢
  obtain ⟨-, -, -, -, v1, c1, c2⟩ := hE
  obtain ⟨d0, d1, d2, d5, d8, d9⟩ := am_jd6
  refine lv_iload_n hx hb d0 rfl (lv_at hl 0 rfl) ?_
  refine lv_iload_n hx hb d1 rfl (lv_at hl 1 rfl) ?_
  have key : ∀ v : Value, v.category = 1 → va_Z "jdk/internal/util/Preconditions" "SIOOBE_FORMATTER" "Ljava/util/function/BiFunction;" v (am_A g) s s.heap → W p l e (am_rk 1) s m ([Value.int i, Value.int n] : List Value).toArray below meth c s.heap [] 0 0 (MQ below (am_Qh none) ([Value.int i, Value.int n] : List Value).toArray s 0 0 (fun _ => False)) (F0 m 2 ls [.int n, .int i]) := by
    intro v hv0 hz
    refine va_gets hx hb hz hS hown (hts (.fieldLink "java/lang/String" 1053 "jdk/internal/util/Preconditions" "SIOOBE_FORMATTER" "Ljava/util/function/BiFunction;") (am_w_mem (i := 516) (by decide +kernel) rfl)) (fun _ q => q) d2 ?_
    refine am_callh (W.runS (As := [.int i, .int n, v]) (rest := []) (n := 3) ⟨hx, hb, hml, hown, hts⟩ (am_c_pre l i n v hv0 h0 h1) ⟨callB_of 3 hts (am_goodj am_jw7) rfl rfl rfl (hts (.initialized "jdk/internal/util/Preconditions") (am_w_mem (i := 120) (by decide +kernel) rfl)) (hts (.methodLink "java/lang/String" 1059 yJ3_checkIndex_8e157) (am_w_mem (i := 518) (by decide +kernel) rfl)) ⟨by decide +kernel, by decide +kernel, by decide +kernel⟩ ⟨Nat.le_of_ble_eq_true rfl, Nat.le_of_ble_eq_true rfl⟩, hts (.static yJ3_checkIndex_8e157) (am_w_mem (i := 519) (by decide +kernel) rfl)⟩ preEq rfl rfl hl.1 rfl (lv_room (Nat.le_of_ble_eq_true rfl)) d5 ⟨Nat.le_refl _, Nat.le_refl _⟩) ?_
    refine lv_pop hx hb d8 rfl ?_
    exact W.vret hx hb hr (fun t ht hW => ⟨rfl, ht⟩) (fun q h => by cases h) d9
  rcases c2 with c2 | ⟨t, c2⟩
  · exact key .null rfl c2
  · exact key (.ref t) rfl c2
theorem am_in_lt {i : Int32} {n : Nat} (hn : n < 2 ^ 31) (h : am_in i n) : ¬ i < 0 ∧ i < Int32.ofNat n := by
  obtain ⟨j, hj, rfl⟩ := vp_in_of h hn
  exact ⟨nI_pos (by omega), nI_lt hj hn⟩
set_option maxHeartbeats 4000000 in
set_option maxRecDepth 100000 in
theorem am_c_lch (l : Launch) (g : GV) (i : Nat) (hi : i < 2) (k : Int32) (hk : am_in k (am_sN i)) : Met l yJ1_charAt_3b067 (am_wj yJ1_charAt_3b067 cJ1_charAt_3b067 2 (some .char)) (am_rk 2) (am_SP g [.ref (am_ad g (3 + 2 * i)), .int k]) (am_Qh (some (.int ((am_sB i).getD k.toNatClampNeg 0 &&& 255)))) 0 0 (fun _ => False) := by
  refine am_ofW (cc := cJ1_charAt_3b067) (maxL := 2) (ret := some .char) (by decide +kernel) rfl ?_
  intro p e s m args below meth c s₁ B hml hv
  obtain ⟨rfl, hE, hbs⟩ := hv
  have hx := B.exec
  have hb := B.bytes
  have hr := B.returns
  have hts0 := atoms_spec (ws := am_wj yJ1_charAt_3b067 cJ1_charAt_3b067 2 (some .char)) B.pre
  have hts : ∀ w ∈ am_ws, w.before ([Value.ref (am_ad g (3 + 2 * i)), .int k] : List Value).toArray s = true := fun w hw => hts0 w (List.mem_cons_of_mem _ hw)
  have hown : s.vm.findClass "java/lang/StringLatin1" = some m.cls := findClass_of_methodNamed B.named
  have hlocks := B.notSynchronized
  have hS : va_S (am_A g) s.heap s.heap [] := va_S.rf
  have hl := lv_entry ([.ref (am_ad g (3 + 2 * i)), .int k]) (n := 2) (Nat.le_of_ble_eq_true rfl)
  rw [lg_entry_eq]
  generalize (lg_sl ([.ref (am_ad g (3 + 2 * i)), .int k]) ++ List.replicate (2 - (lg_sl ([.ref (am_ad g (3 + 2 * i)), .int k])).length) Slot.unset).toArray = ls at hl ⊢
  have hE0 := hE
  obtain ⟨-, -, -, -, v1, c1, c2⟩ := hE
  obtain ⟨d0, d1, d2, d3, d6, d7, d8, d9, d12, d13, d14⟩ := am_jd5
  have hsz : am_sN i < 2 ^ 31 := by rcases (show i = 0 ∨ i = 1 by omega) with rfl | rfl <;> decide
  obtain ⟨k0, k1⟩ := am_in_lt hsz hk
  refine lv_iload_n hx hb d0 rfl (lv_at hl 1 rfl) ?_
  refine lv_aload_n hx hb d1 rfl (lv_at hl 0 rfl) ?_
  refine va_tlen hx hb (v1.1 i hi).2.2.2 hS rfl d2 ?_
  refine am_callh (W.runS (As := [.int k, .int (Int32.ofNat (am_sN i))]) (rest := []) (n := 2) ⟨hx, hb, hml, hown, hts⟩ (am_c_chk l g k (Int32.ofNat (am_sN i)) k0 k1) ⟨callB_of 2 hts (am_goodj am_jw6) rfl rfl rfl (hts (.initialized "java/lang/String") (am_w_mem (i := 118) (by decide +kernel) rfl)) (hts (.methodLink "java/lang/StringLatin1" 9 yJ0_checkIndex_df160) (am_w_mem (i := 513) (by decide +kernel) rfl)) ⟨by decide +kernel, by decide +kernel, by decide +kernel⟩ ⟨Nat.le_of_ble_eq_true rfl, Nat.le_of_ble_eq_true rfl⟩, hts (.static yJ0_checkIndex_df160) (am_w_mem (i := 514) (by decide +kernel) rfl)⟩ ⟨am_SP_blind, am_skeep hE0 hbs hS _⟩ rfl rfl hl.1 rfl (lv_room (Nat.le_of_ble_eq_true rfl)) d3 ⟨Nat.le_refl _, Nat.le_refl _⟩) ?_
  refine lv_aload_n hx hb d6 rfl (lv_at hl 0 rfl) ?_
  refine lv_iload_n hx hb d7 rfl (lv_at hl 1 rfl) ?_
  refine va_tb hx hb (v1.1 i hi).2.2.2 hS hk rfl d8 ?_
  refine lv_sipush (v := 255) hx hb d9 (by decide) ?_
  refine lv_iand hx hb d12 ?_
  refine lv_i2c (v := (am_sB i).getD k.toNatClampNeg 0 &&& 255) hx hb d13 (sc_c2 _) ?_
  exact W.zret hx hb hr (sc_nar _) (fun t ht hW => ⟨rfl, ht⟩) (fun q h => by cases h) d14
set_option maxHeartbeats 4000000 in
set_option maxRecDepth 100000 in
theorem am_c_ch (l : Launch) (g : GV) (i : Nat) (hi : i < 2) (k : Int32) (hk : am_in k (am_sN i)) : Met l yJ0_charAt_5068e (am_wj yJ0_charAt_5068e cJ0_charAt_5068e 2 (some .char)) (am_rk 3) (am_SP g [.ref (am_ad g (2 + 2 * i)), .int k]) (am_Qh (some (.int ((am_sB i).getD k.toNatClampNeg 0 &&& 255)))) 0 0 (fun _ => False) := by
  refine am_ofW (cc := cJ0_charAt_5068e) (maxL := 2) (ret := some .char) (by decide +kernel) rfl ?_
  intro p e s m args below meth c s₁ B hml hv
  obtain ⟨rfl, hE, hbs⟩ := hv
  have hx := B.exec
  have hb := B.bytes
  have hr := B.returns
  have hts0 := atoms_spec (ws := am_wj yJ0_charAt_5068e cJ0_charAt_5068e 2 (some .char)) B.pre
  have hts : ∀ w ∈ am_ws, w.before ([Value.ref (am_ad g (2 + 2 * i)), .int k] : List Value).toArray s = true := fun w hw => hts0 w (List.mem_cons_of_mem _ hw)
  have hown : s.vm.findClass "java/lang/String" = some m.cls := findClass_of_methodNamed B.named
  have hlocks := B.notSynchronized
  have hS : va_S (am_A g) s.heap s.heap [] := va_S.rf
  have hl := lv_entry ([.ref (am_ad g (2 + 2 * i)), .int k]) (n := 2) (Nat.le_of_ble_eq_true rfl)
  rw [lg_entry_eq]
  generalize (lg_sl ([.ref (am_ad g (2 + 2 * i)), .int k]) ++ List.replicate (2 - (lg_sl ([.ref (am_ad g (2 + 2 * i)), .int k])).length) Slot.unset).toArray = ls at hl ⊢
  have hE0 := hE
  obtain ⟨-, -, -, -, v1, c1, c2⟩ := hE
  obtain ⟨d0, d1, d4, d7, d8, d11, d12, d15⟩ := am_jd4
  refine lv_aload_n hx hb d0 rfl (lv_at hl 0 rfl) ?_
  refine am_callh (W.runV (C := "java/lang/String") (b := am_ad g (2 + 2 * i)) (As := []) (rest := []) (n := 0) ⟨hx, hb, hml, hown, hts⟩ (am_c_lat l g i hi) ⟨callB_of 0 hts (am_goodj am_jw2) rfl rfl rfl (hts (.initialized "java/lang/String") (am_w_mem (i := 118) (by decide +kernel) rfl)) (hts (.methodLink "java/lang/String" 492 yJ0_isLatin1_aae02) (am_w_mem (i := 506) (by decide +kernel) rfl)) ⟨by decide +kernel, by decide +kernel, by decide +kernel⟩ ⟨Nat.le_of_ble_eq_true rfl, Nat.le_of_ble_eq_true rfl⟩, hts (.instanceMethod yJ0_isLatin1_aae02) (am_w_mem (i := 507) (by decide +kernel) rfl), hts (.selects "java/lang/String" yJ0_isLatin1_aae02 yJ0_isLatin1_aae02) (am_w_mem (i := 508) (by decide +kernel) rfl)⟩ ⟨am_SP_blind, vk_recv (i := i) (adK := fun i => am_ad g (2 + 2 * i)) v1 hi hS, am_skeep hE0 hbs hS _⟩ rfl rfl hl.1 rfl (lv_room (Nat.le_of_ble_eq_true rfl)) d1 ⟨Nat.le_refl _, Nat.le_refl _⟩) ?_
  refine W.eq (g2 := F0 m 4 ls [.int 1]) rfl ?_
  refine lv_if_eq (tgt := 16) hx hb d4 (by decide) (fun q => absurd q (by decide)) (fun _ => ?_)
  refine lv_aload_n hx hb d7 rfl (lv_at hl 0 rfl) ?_
  refine vk_getf hx hb (v1.1 i hi).2.2.1 hS hown (hts (.fieldLink "java/lang/String" 9 "java/lang/String" "value" "[B") (am_w_mem (i := 1873) (by decide +kernel) rfl)) (fun _ q => q) d8 ?_
  refine lv_iload_n hx hb d11 rfl (lv_at hl 1 rfl) ?_
  refine am_callh (W.runS (As := [.ref (am_ad g (3 + 2 * i)), .int k]) (rest := []) (n := 2) ⟨hx, hb, hml, hown, hts⟩ (am_c_lch l g i hi k hk) ⟨callB_of 2 hts (am_goodj am_jw5) rfl rfl rfl (hts (.initialized "java/lang/StringLatin1") (am_w_mem (i := 119) (by decide +kernel) rfl)) (hts (.methodLink "java/lang/String" 495 yJ1_charAt_3b067) (am_w_mem (i := 510) (by decide +kernel) rfl)) ⟨by decide +kernel, by decide +kernel, by decide +kernel⟩ ⟨Nat.le_of_ble_eq_true rfl, Nat.le_of_ble_eq_true rfl⟩, hts (.static yJ1_charAt_3b067) (am_w_mem (i := 511) (by decide +kernel) rfl)⟩ ⟨am_SP_blind, am_skeep hE0 hbs hS _⟩ rfl rfl hl.1 rfl (lv_room (Nat.le_of_ble_eq_true rfl)) d12 ⟨Nat.le_refl _, Nat.le_refl _⟩) ?_
  exact W.zret hx hb hr (sc_nar _) (fun t ht hW => ⟨rfl, ht⟩) (fun q h => by cases h) d15
