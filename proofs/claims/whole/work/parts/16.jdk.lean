/-! THE JDK'S CALLS THAT ARE TAKEN WHOLE -/
def am_wj (y : MethodName) (b : ByteArray) (n : Nat) (r : Option FieldType) : List Cond := .code y b n r :: am_ws
theorem am_goodj {i : Nat} {y : MethodName} {b : ByteArray} {n : Nat} {r : Option FieldType} (h : am_w i (.code y b n r) = true) : GoodIn am_ws (am_wj y b n r) := by
  intro w hw
  rcases List.mem_cons.mp hw with rfl | hw
  · exact ⟨am_w_mem h rfl, Or.inl rfl⟩
  · exact ⟨hw, good_of_word (List.mem_filter.mp hw).2⟩
def am_SP (g : GV) (vs : List Value) : Array Value → State → Prop := fun v U => v = vs.toArray ∧ am_E g U ∧ g.2.2.2.2.1 ≤ U.heap.size
def am_Qh (r : Option Value) : Array Value → State → Outcome → State → Prop := fun _ st o t => o = .returned r ∧ t.heap = st.heap
abbrev am_rk (k : Nat) : Room := { frames := k, cells := 0, slots := 0, locals := 40 * k }
theorem am_SP_blind {g : GV} {vs : List Value} : FrameBlind (am_SP g vs) := by
  intro a U gf mk hq
  obtain ⟨q0, q4, q5⟩ := hq
  exact ⟨q0, q4.to (H := U.heap) (locs := []) q5 va_S.rf (Vm.Alike.refl U.vm) (fun r => vk_R.same rfl r) rfl, q5⟩
theorem am_callh {p : Program} {l : Launch} {e : Env} {R : Room} {s : State} {m : MethodId} {args : Array Value} {below : List Frame} {meth : Method} {c : Code} {H : Heap} {locs : List Loc} {cells slots : Nat} {Q : State → Prop} {gf : JFrame} {rest : List Value} {a : Array Value} {r : Option Value} (hr : CallRun p l e R s m args below meth c H locs cells slots 0 0 gf rest (am_Qh r a) (fun _ => False)) (kk : W p l e R s m args below meth c H locs cells slots Q { gf with pc := gf.pc + 3, stack := r.toList ++ rest }) : W p l e R s m args below meth c H locs cells slots Q gf := by
  intro T hT X
  obtain ⟨v, st₀, t, T', L, h0, X', hL, e1, ⟨hv, hh⟩, st⟩ := hr T hT X
  cases hv
  obtain ⟨t2, a1, b1⟩ := kk T' (by rw [e1, hh, h0]) (Stand.forget X' (fun q h => (hL q h).elim))
  exact ⟨t2, st t2 a1, b1⟩
theorem am_skeep {g : GV} {s : State} {H : Heap} {locs : List Loc} (hE : am_E g s) (hbs : g.2.2.2.2.1 ≤ s.heap.size) (hS : va_S (am_A g) s.heap H locs) (vs : List Value) (U : State) (hU : U.heap = H) (hW : s.WarmedH U.vm) : am_SP g vs vs.toArray U :=
  ⟨rfl, hE.to hbs hS hW.alike (fun r => vk_R.warm hW r) hU, by rw [hU]; exact Nat.le_trans hbs hS.1⟩
/-- the two String constants, by their places -/
def am_sN (i : Nat) : Nat := ([42, 85] : List Nat).getD i 0
def am_sB (i : Nat) : List Int32 := ([am_by0, am_by1] : List (List Int32)).getD i []
theorem am_jw1 : am_w 499 (.code yJ0_coder_7d493 cJ0_coder_7d493 1 (some .byte)) = true := by decide +kernel
theorem am_jw2 : am_w 509 (.code yJ0_isLatin1_aae02 cJ0_isLatin1_aae02 1 (some .boolean)) = true := by decide +kernel
theorem am_jw3 : am_w 495 (.code yJ0_length_8abf5 cJ0_length_8abf5 1 (some .int)) = true := by decide +kernel
theorem am_jw4 : am_w 505 (.code yJ0_charAt_5068e cJ0_charAt_5068e 2 (some .char)) = true := by decide +kernel
theorem am_jw5 : am_w 512 (.code yJ1_charAt_3b067 cJ1_charAt_3b067 2 (some .char)) = true := by decide +kernel
theorem am_jw6 : am_w 515 (.code yJ0_checkIndex_df160 cJ0_checkIndex_df160 2 none) = true := by decide +kernel
theorem am_jw7 : am_w 520 (.code yJ3_checkIndex_8e157 cJ3_checkIndex_8e157 3 (some .int)) = true := by decide +kernel
theorem am_jd : decode cJ0_coder_7d493 0 = .ok (.getstatic 38, 3) ∧ decode cJ0_coder_7d493 3 = .ok (.ifCond .eq 10, 3) ∧ decode cJ0_coder_7d493 6 = .ok (.aload_n 0, 1) ∧ decode cJ0_coder_7d493 7 = .ok (.getfield 15, 3) ∧ decode cJ0_coder_7d493 10 = .ok (.goto 4, 3) ∧ decode cJ0_coder_7d493 14 = .ok (.ireturn, 1) := by decide +kernel
theorem am_jd2 : decode cJ0_isLatin1_aae02 0 = .ok (.getstatic 38, 3) ∧ decode cJ0_isLatin1_aae02 3 = .ok (.ifCond .eq 14, 3) ∧ decode cJ0_isLatin1_aae02 6 = .ok (.aload_n 0, 1) ∧ decode cJ0_isLatin1_aae02 7 = .ok (.getfield 15, 3) ∧ decode cJ0_isLatin1_aae02 10 = .ok (.ifCond .ne 7, 3) ∧ decode cJ0_isLatin1_aae02 13 = .ok (.iconst 1, 1) ∧ decode cJ0_isLatin1_aae02 14 = .ok (.goto 4, 3) ∧ decode cJ0_isLatin1_aae02 18 = .ok (.ireturn, 1) := by decide +kernel
set_option maxHeartbeats 4000000 in
set_option maxRecDepth 100000 in
theorem am_c_coder (l : Launch) (g : GV) (i : Nat) (hi : i < 2) : Met l yJ0_coder_7d493 (am_wj yJ0_coder_7d493 cJ0_coder_7d493 1 (some .byte)) (am_rk 0) (am_SP g [.ref (am_ad g (2 + 2 * i))]) (am_Qh (some (.int 0))) 0 0 (fun _ => False) := by
  refine am_ofW (cc := cJ0_coder_7d493) (maxL := 1) (ret := some .byte) (by decide +kernel) rfl ?_
  intro p e s m args below meth c s₁ B hml hv
  obtain ⟨rfl, hE, hbs⟩ := hv
  have hx := B.exec
  have hb := B.bytes
  have hr := B.returns
  have hts0 := atoms_spec (ws := am_wj yJ0_coder_7d493 cJ0_coder_7d493 1 (some .byte)) B.pre
  have hts : ∀ w ∈ am_ws, w.before #[Value.ref (am_ad g (2 + 2 * i))] s = true := fun w hw => hts0 w (List.mem_cons_of_mem _ hw)
  have hown : s.vm.findClass "java/lang/String" = some m.cls := findClass_of_methodNamed B.named
  have hlocks := B.notSynchronized
  have hS : va_S (am_A g) s.heap s.heap [] := va_S.rf
  have hl := lv_entry ([.ref (am_ad g (2 + 2 * i))]) (n := 1) (Nat.le_of_ble_eq_true rfl)
  rw [lg_entry_eq]
  generalize (lg_sl ([.ref (am_ad g (2 + 2 * i))]) ++ List.replicate (1 - (lg_sl ([.ref (am_ad g (2 + 2 * i))])).length) Slot.unset).toArray = ls at hl ⊢
  obtain ⟨-, -, -, -, v1, c1, c2⟩ := hE
  obtain ⟨d0, d3, d6, d7, d10, d14⟩ := am_jd
  refine va_gets hx hb c1 hS hown (hts (.fieldLink "java/lang/String" 38 "java/lang/String" "COMPACT_STRINGS" "Z") (am_w_mem (i := 500) (by decide +kernel) rfl)) (fun _ q => q) d0 ?_
  refine lv_if_eq (tgt := 13) hx hb d3 (by decide) (fun q => absurd q (by decide)) (fun _ => ?_)
  refine lv_aload_n hx hb d6 rfl (lv_at hl 0 rfl) ?_
  refine vk_getf hx hb (v1.1 i hi).2.1 hS hown (hts (.fieldLink "java/lang/String" 15 "java/lang/String" "coder" "B") (am_w_mem (i := 1874) (by decide +kernel) rfl)) (fun _ q => q) d7 ?_
  refine lv_goto (tgt := 14) hx hb d10 (by decide) ?_
  exact W.zret hx hb hr (by decide) (fun t ht hW => ⟨rfl, ht⟩) (fun q h => by cases h) d14
set_option maxHeartbeats 4000000 in
set_option maxRecDepth 100000 in
theorem am_c_lat (l : Launch) (g : GV) (i : Nat) (hi : i < 2) : Met l yJ0_isLatin1_aae02 (am_wj yJ0_isLatin1_aae02 cJ0_isLatin1_aae02 1 (some .boolean)) (am_rk 0) (am_SP g [.ref (am_ad g (2 + 2 * i))]) (am_Qh (some (.int 1))) 0 0 (fun _ => False) := by
  refine am_ofW (cc := cJ0_isLatin1_aae02) (maxL := 1) (ret := some .boolean) (by decide +kernel) rfl ?_
  intro p e s m args below meth c s₁ B hml hv
  obtain ⟨rfl, hE, hbs⟩ := hv
  have hx := B.exec
  have hb := B.bytes
  have hr := B.returns
  have hts0 := atoms_spec (ws := am_wj yJ0_isLatin1_aae02 cJ0_isLatin1_aae02 1 (some .boolean)) B.pre
  have hts : ∀ w ∈ am_ws, w.before #[Value.ref (am_ad g (2 + 2 * i))] s = true := fun w hw => hts0 w (List.mem_cons_of_mem _ hw)
  have hown : s.vm.findClass "java/lang/String" = some m.cls := findClass_of_methodNamed B.named
  have hlocks := B.notSynchronized
  have hS : va_S (am_A g) s.heap s.heap [] := va_S.rf
  have hl := lv_entry ([.ref (am_ad g (2 + 2 * i))]) (n := 1) (Nat.le_of_ble_eq_true rfl)
  rw [lg_entry_eq]
  generalize (lg_sl ([.ref (am_ad g (2 + 2 * i))]) ++ List.replicate (1 - (lg_sl ([.ref (am_ad g (2 + 2 * i))])).length) Slot.unset).toArray = ls at hl ⊢
  obtain ⟨-, -, -, -, v1, c1, c2⟩ := hE
  obtain ⟨d0, d3, d6, d7, d10, d13, d14, d18⟩ := am_jd2
  refine va_gets hx hb c1 hS hown (hts (.fieldLink "java/lang/String" 38 "java/lang/String" "COMPACT_STRINGS" "Z") (am_w_mem (i := 500) (by decide +kernel) rfl)) (fun _ q => q) d0 ?_
  refine lv_if_eq (tgt := 17) hx hb d3 (by decide) (fun q => absurd q (by decide)) (fun _ => ?_)
  refine lv_aload_n hx hb d6 rfl (lv_at hl 0 rfl) ?_
  refine vk_getf hx hb (v1.1 i hi).2.1 hS hown (hts (.fieldLink "java/lang/String" 15 "java/lang/String" "coder" "B") (am_w_mem (i := 1874) (by decide +kernel) rfl)) (fun _ q => q) d7 ?_
  refine lv_if_ne (tgt := 17) hx hb d10 (by decide) (fun q => absurd rfl q) (fun _ => ?_)
  refine lv_iconst (v := 1) hx hb d13 (by decide) ?_
  refine lv_goto (tgt := 18) hx hb d14 (by decide) ?_
  exact W.zret hx hb hr (by decide) (fun t ht hW => ⟨rfl, ht⟩) (fun q h => by cases h) d18
