theorem am_jp2 : decode cJ7_copyOf_9075b 0 = .ok (.iload_n 1, 1) ∧ decode cJ7_copyOf_9075b 1 = .ok (.aload_n 0, 1) ∧ decode cJ7_copyOf_9075b 2 = .ok (.arraylength, 1) ∧ decode cJ7_copyOf_9075b 3 = .ok (.if_icmp .ne 11, 3) ∧ decode cJ7_copyOf_9075b 6 = .ok (.aload_n 0, 1) ∧ decode cJ7_copyOf_9075b 7 = .ok (.invokevirtual 310, 3) ∧ decode cJ7_copyOf_9075b 10 = .ok (.checkcast 311, 3) ∧ decode cJ7_copyOf_9075b 13 = .ok (.areturn, 1) := by decide +kernel
theorem am_je2 : decode cJ7_copyOf_9075b 14 = .ok (.iload_n 1, 1) ∧ decode cJ7_copyOf_9075b 15 = .ok (.newarray .byte, 2) ∧ decode cJ7_copyOf_9075b 17 = .ok (.astore_n 2, 1) ∧ decode cJ7_copyOf_9075b 18 = .ok (.aload_n 0, 1) ∧ decode cJ7_copyOf_9075b 19 = .ok (.iconst 0, 1) ∧ decode cJ7_copyOf_9075b 20 = .ok (.aload_n 2, 1) ∧ decode cJ7_copyOf_9075b 21 = .ok (.iconst 0, 1) ∧ decode cJ7_copyOf_9075b 22 = .ok (.aload_n 0, 1) ∧ decode cJ7_copyOf_9075b 23 = .ok (.arraylength, 1) ∧ decode cJ7_copyOf_9075b 24 = .ok (.iload_n 1, 1) ∧ decode cJ7_copyOf_9075b 25 = .ok (.invokestatic 304, 3) ∧ decode cJ7_copyOf_9075b 28 = .ok (.invokestatic 150, 3) ∧ decode cJ7_copyOf_9075b 31 = .ok (.aload_n 2, 1) ∧ decode cJ7_copyOf_9075b 32 = .ok (.areturn, 1) := by decide +kernel
theorem am_jx2 : am_w 627 (.code yJ7_copyOf_9075b cJ7_copyOf_9075b 3 (some (.array .byte))) = true := by decide +kernel
set_option maxHeartbeats 4000000 in
set_option maxRecDepth 100000 in
theorem am_c_cp2 (l : Launch) (g : GV) (h : AH) (r : Nat) (n : Int32) (hk : am_kd h r = 102) (h6 : 6 ≤ r) (hn : ¬ n < 0) (hn1 : n.toNatClampNeg ≤ am_ln h r) (hn2 : am_ln h r ≤ 100000) (hft : ∀ j, j < am_ln h r → fits .byte (.int (am_gi h r j)) = true) : Met l yJ7_copyOf_9075b (am_wj yJ7_copyOf_9075b cJ7_copyOf_9075b 3 (some (.array .byte))) { frames := 2, cells := 1, slots := n.toNatClampNeg, locals := 100 } (am_PC g [.ref r, .int n] h) (am_QC g (some (.ref (am_sz h))) (am_sw (am_nw h 102 n.toNatClampNeg n.toNatClampNeg) (am_sz h) (am_gi h r))) 1 n.toNatClampNeg (am_A g) := by
  refine am_ofW (cc := cJ7_copyOf_9075b) (maxL := 3) (ret := some (.array .byte)) (by decide +kernel) rfl ?_
  intro p e s m args below meth c s₁ B hml hv
  obtain ⟨rfl, hR, hK, hN, hE, hbs⟩ := hv
  have hx := B.exec
  have hb := B.bytes
  have hr := B.returns
  have hts0 := atoms_spec (ws := am_wj yJ7_copyOf_9075b cJ7_copyOf_9075b 3 (some (.array .byte))) B.pre
  have hts : ∀ w ∈ am_ws, w.before (([.ref r, .int n] : List Value).map (am_v g)).toArray s = true := fun w hw => hts0 w (List.mem_cons_of_mem _ hw)
  have hown : s.vm.findClass "java/util/Arrays" = some m.cls := findClass_of_methodNamed B.named
  have hlocks := B.notSynchronized
  have hS : va_S (am_A g) s.heap s.heap [] := va_S.rf
  have hl := lv_entry ([.ref (am_ad g r), .int n]) (n := 3) (Nat.le_of_ble_eq_true rfl)
  have eargs : (([.ref r, .int n] : List Value).map (am_v g)).toArray = ([.ref (am_ad g r), .int n] : List Value).toArray := rfl
  rw [eargs, lg_entry_eq]
  generalize (lg_sl ([.ref (am_ad g r), .int n]) ++ List.replicate (3 - (lg_sl ([.ref (am_ad g r), .int n])).length) Slot.unset).toArray = ls at hl ⊢
  have hl : lv_has ls 3 [(0, .ref (am_ad g r)), (1, .int n)] := hl
  have hcell := am_arr_i hR (k := 2) hk (by omega) (by omega) h6
  have hAr : ArrOfT s (g.2.2.1 2) .byte := (hK.2 2 _ rfl).1
  have hNm : s.vm.findClass "[B" = some (g.2.2.1 2) := va_nm_byte (hK.2 2 _ rfl).2
  obtain ⟨d0, d1, d2, d3, d6, d7, d10, d13⟩ := am_jp2
  obtain ⟨d14, d15, d17, d18, d19, d20, d21, d22, d23, d24, d25, d28, d31, d32⟩ := am_je2
  obtain ⟨j, hj, rfl⟩ : ∃ j : Nat, j < 2 ^ 31 ∧ n = nI j := nI_of hn
  rw [nI_clamp hj] at hn1 ⊢
  -- the new cell, however it came
  have hend : ∀ (H1 : Heap), H1.size = s.heap.size + 1 → (∀ q, q < s.heap.size → H1[q]? = s.heap[q]?) → H1[s.heap.size]? = some (arrV (g.2.2.1 2) j (fun i => .int (am_gi h r i))) → am_R g (am_sw (am_nw h 102 j j) (am_sz h) (am_gi h r)) H1 := by
    intro H1 z1 o1 c1
    refine hR.push rfl (by show am_kd (am_nw h 102 j j) (am_sz h) < 13 ∨ (100 ≤ am_kd (am_nw h 102 j j) (am_sz h) ∧ am_kd (am_nw h 102 j j) (am_sz h) ≤ 109); rw [am_nw_kd0]; omega) (fun b hb => am_nw_kd (k := 102) (n := j) (w := j) hb) (fun b hb => am_nw_ln (k := 102) (n := j) (w := j) hb) (fun b hb => ?_) (fun b hb => am_nw_gl (k := 102) (n := j) (w := j) hb) (fun b hb => am_nw_gr (k := 102) (n := j) (w := j) hb) z1 o1 ?_
    · funext q
      show (if b = am_sz h then _ else _) = _
      rw [if_neg hb, am_nw_gi hb]
    · unfold am_ec am_ac
      have k1 : am_kd (am_sw (am_nw h 102 j j) (am_sz h) (am_gi h r)) (am_sz h) = 102 := am_nw_kd0 (k := 102) (n := j) (w := j)
      have k2 : am_ln (am_sw (am_nw h 102 j j) (am_sz h) (am_gi h r)) (am_sz h) = j := am_nw_ln0 (k := 102) (n := j) (w := j)
      have k3 : am_gi (am_sw (am_nw h 102 j j) (am_sz h) (am_gi h r)) (am_sz h) = am_gi h r := by funext q; exact if_pos rfl
      rw [k1, k2, k3, if_neg (by omega), if_neg (by omega), if_pos (by omega)]
      show H1[am_ad g (am_sz h)]? = some (vp_cell _ _)
      rw [hR.ad_new, c1]
      rfl
  have hSe : ∀ (H1 : Heap) (locs1 : List Loc), H1.size = s.heap.size + 1 → (∀ q, q < s.heap.size → H1[q]? = s.heap[q]?) → (∀ x ∈ locs1, x.base = s.heap.size) → va_S (am_A g) s.heap H1 locs1 := fun H1 locs1 z1 o1 hl1 => ⟨by omega, fun q h1 _ => o1 q h1, fun x hx1 => by rw [hl1 x hx1]; exact hbs⟩
  refine lv_iload_n hx hb d0 rfl (lv_at hl 1 rfl) ?_
  refine lv_aload_n hx hb d1 rfl (lv_at hl 0 rfl) ?_
  refine W.alen (n := nI (am_ln h r)) hx hb hcell (hAr _ _) (by rw [arrV_size] <;> rfl) rfl rfl d2 ?_
  refine W.eq (g2 := F0 m 3 ls [.int (nI (am_ln h r)), .int (nI j)]) rfl ?_
  refine lv_icmp_ne (tgt := 14) hx hb d3 (by decide) (fun hne => ?_) (fun heq => ?_)
  · have hlt : j < am_ln h r := by
      rcases Nat.lt_or_ge j (am_ln h r) with q | q
      · exact q
      · exact absurd (by rw [show j = am_ln h r by omega]) hne
    refine lv_iload_n hx hb d14 rfl (lv_at hl 1 rfl) ?_
    refine va_newaK hx hb (hts _ (am_arrW .byte (by decide))) rfl d15 rfl hn (nI_clamp hj) (by simp [newarray.typeOf, componentBytes]; omega) (Nat.le_refl _) (Nat.le_of_eq (Nat.zero_add _)) rfl fun H1 cA f1 z1 o1 _ hNm2 => ?_
    have ecA : cA = g.2.2.1 2 := Option.some.inj (hNm2.symm.trans (hK.2 2 _ rfl).2)
    subst ecA
    refine W.eq (g2 := F0 m 17 ls [.ref s.heap.size]) rfl ?_
    refine lv_astore_n (lv' := [(2, .ref s.heap.size), (0, .ref (am_ad g r)), (1, .int (nI j))]) hx hb d17 rfl hl (by decide) rfl (fun ls hl => ?_)
    refine lv_aload_n hx hb d18 rfl (lv_at hl 1 rfl) ?_
    refine lv_iconst (v := 0) hx hb d19 (by decide) ?_
    refine lv_aload_n hx hb d20 rfl (lv_at hl 0 rfl) ?_
    refine lv_iconst (v := 0) hx hb d21 (by decide) ?_
    refine lv_aload_n hx hb d22 rfl (lv_at hl 1 rfl) ?_
    have hlr : am_ad g r < s.heap.size := hR.lt h6 (by
      rcases Nat.lt_or_ge r (am_sz h) with q | q
      · exact q
      · have := hR.1.2.2.2.2.2.2.2.1 r q; omega)
    refine W.alen (n := nI (am_ln h r)) hx hb (by rw [o1 _ hlr]; exact hcell) (hAr _ _) (by rw [arrV_size] <;> rfl) rfl rfl d23 ?_
    refine W.eq (g2 := F0 m 24 ls [.int (nI (am_ln h r)), .int 0, .ref s.heap.size, .int 0, .ref (am_ad g r)]) rfl ?_
    refine lv_iload_n hx hb d24 rfl (lv_at hl 2 rfl) ?_
    refine va_mmin hx hb (hml.trans hl.1.symm) hown (hts (.methodLink "java/util/Arrays" 304 Lib.Math.min.name) (am_w_mem (i := 635) (by decide +kernel) rfl)) (hts (.static Lib.Math.min.name) (am_w_mem (i := 636) (by decide +kernel) rfl)) (hts (.initialized "java/lang/Math") (am_w_mem (i := 123) (by decide +kernel) rfl)) (hts (.code Lib.Math.min.name Lib.Math.min.code 2 (some .int)) (am_w_mem (i := 637) (by decide +kernel) rfl)) (Nat.le_of_ble_eq_true rfl) (Nat.le_of_ble_eq_true rfl) (Nat.le_refl _) (Nat.le_of_eq (Nat.zero_add _)) d25 ?_
    rw [if_pos (nI_lt hlt (by omega))]
    refine am_acopy (ty := .byte) hx hb (hml.trans hl.1.symm) hown (hts (.methodLink "java/util/Arrays" 150 arraycopyName) (am_w_mem (i := 638) (by decide +kernel) rfl)) (hts (.native arraycopyName) (am_w_mem (i := 640) (by decide +kernel) rfl)) (hts (.static arraycopyName) (am_w_mem (i := 639) (by decide +kernel) rfl)) (hts (.initialized "java/lang/System") (am_w_mem (i := 124) (by decide +kernel) rfl)) (f := am_gi h r) (g := fun _ => 0) (by rw [o1 _ hlr]; exact hcell) f1 hAr hAr rfl hn (by rw [nI_clamp hj]; omega) (by rw [nI_clamp hj]; exact Nat.le_refl _) (fun i hi => hft i (by rw [nI_clamp hj] at hi; omega)) (Nat.le_of_ble_eq_true rfl) (by show _ ≤ 100; decide +kernel) d28 (fun H2 locs2 g1 z2 o2 hl2 => ?_)
    refine W.eq (g2 := F0 m 31 ls []) rfl ?_
    refine lv_aload_n hx hb d31 rfl (lv_at hl 0 rfl) ?_
    have hz2 : H2.size = s.heap.size + 1 := by rw [z2, z1]
    have ho2 : ∀ q, q < s.heap.size → H2[q]? = s.heap[q]? := fun q hq => by rw [o2 q (by omega)]; exact o1 q hq
    have hlo2 : ∀ x ∈ locs2, x.base = s.heap.size := fun x hx1 => by
      rcases hl2 x hx1 with q | q
      · cases q
      · exact q
    have hc2 : H2[s.heap.size]? = some (arrV (g.2.2.1 2) j (fun i => .int (am_gi h r i))) := by
      rw [g1, nI_clamp hj]
      exact congrArg some (am_arr_ext (fun i hi => by simp [va_cpy, hi]))
    have hS2 := hSe H2 locs2 hz2 ho2 hlo2
    refine W.cs (cells := 0 + 1) (slots := 0 + j) (cells' := 1) (slots' := j) (Nat.zero_add 1) (Nat.zero_add j) ?_
    refine W.aret hx hb hr (Or.inr ⟨_, rfl⟩) (Or.inr ⟨_, rfl⟩) (fun t ht hW => ⟨?_, by rw [ht]; exact hend H2 hz2 ho2 hc2, hS2.F ht⟩) hS2.2.2 d32
    show Outcome.returned (some (.ref s.heap.size)) = .returned (some (.ref (am_ad g (am_sz h))))
    rw [hR.ad_new]
  · have hej : j = am_ln h r := (nI_eq hj (by omega)).mp heq
    refine lv_aload_n hx hb d6 rfl (lv_at hl 0 rfl) ?_
    refine am_clone (ty := .byte) hx hb (hml.trans hl.1.symm) hown (hts (.methodLink "java/util/Arrays" 310 ⟨"[B", "clone", "()Ljava/lang/Object;"⟩) (am_w_mem (i := 628) (by decide +kernel) rfl)) (hts (.sameMethod "[B" "java/lang/Object" "clone" "()Ljava/lang/Object;") (am_w_mem (i := 629) (by decide +kernel) rfl)) (hts (.native ⟨"java/lang/Object", "clone", "()Ljava/lang/Object;"⟩) (am_w_mem (i := 630) (by decide +kernel) rfl)) (hts (.instanceMethod ⟨"java/lang/Object", "clone", "()Ljava/lang/Object;"⟩) (am_w_mem (i := 631) (by decide +kernel) rfl)) (hts (.selects "[B" ⟨"[B", "clone", "()Ljava/lang/Object;"⟩ ⟨"java/lang/Object", "clone", "()Ljava/lang/Object;"⟩) (am_w_mem (i := 632) (by decide +kernel) rfl)) (hN.1 (.castable "[B" "java/lang/Cloneable") (am_w_tbl (i := 633) (by decide +kernel)) rfl) hcell hAr hNm hft (Nat.le_of_ble_eq_true rfl) (Nat.le_of_ble_eq_true rfl) (Nat.le_refl _) (by rw [hej]; exact Nat.le_of_eq (Nat.zero_add _)) d7 ?_
    generalize hH1 : s.heap.push (arrV (g.2.2.1 2) (am_ln h r) (fun j => .int (am_gi h r j))) = H1
    have z1 : H1.size = s.heap.size + 1 := by rw [← hH1, Array.size_push]
    have c1 : H1[s.heap.size]? = some (arrV (g.2.2.1 2) (am_ln h r) (fun j => .int (am_gi h r j))) := by rw [← hH1, Array.getElem?_push_size]
    have o1 : ∀ q : Nat, q < s.heap.size → H1[q]? = s.heap[q]? := fun q hq => by rw [← hH1, Array.getElem?_push, if_neg (Nat.ne_of_lt hq)]
    refine W.eq (g2 := F0 m 10 ls [.ref s.heap.size]) rfl ?_
    refine va_castE hx hb hown (hts (.classLink "java/util/Arrays" 311 "[B") (am_w_mem (i := 634) (by decide +kernel) rfl)) ⟨_, c1, rfl, hNm⟩ d10 ?_
    have hS2 := hSe H1 [] z1 o1 (fun x hx1 => by cases hx1)
    refine W.cs (cells := 0 + 1) (slots := 0 + am_ln h r) (cells' := 1) (slots' := j) (Nat.zero_add 1) (by omega) ?_
    refine W.aret hx hb hr (Or.inr ⟨_, rfl⟩) (Or.inr ⟨_, rfl⟩) (fun t ht hW => ⟨?_, by rw [ht]; exact hend H1 z1 o1 (by rw [hej]; exact c1), hS2.F ht⟩) hS2.2.2 d13
    show Outcome.returned (some (.ref s.heap.size)) = .returned (some (.ref (am_ad g (am_sz h))))
    rw [hR.ad_new]
theorem am_jp0 : decode cJ7_copyOf_59c91 0 = .ok (.iload_n 1, 1) ∧ decode cJ7_copyOf_59c91 1 = .ok (.aload_n 0, 1) ∧ decode cJ7_copyOf_59c91 2 = .ok (.arraylength, 1) ∧ decode cJ7_copyOf_59c91 3 = .ok (.if_icmp .ne 11, 3) ∧ decode cJ7_copyOf_59c91 6 = .ok (.aload_n 0, 1) ∧ decode cJ7_copyOf_59c91 7 = .ok (.invokevirtual 316, 3) ∧ decode cJ7_copyOf_59c91 10 = .ok (.checkcast 317, 3) ∧ decode cJ7_copyOf_59c91 13 = .ok (.areturn, 1) := by decide +kernel
theorem am_je0 : decode cJ7_copyOf_59c91 14 = .ok (.iload_n 1, 1) ∧ decode cJ7_copyOf_59c91 15 = .ok (.newarray .int, 2) ∧ decode cJ7_copyOf_59c91 17 = .ok (.astore_n 2, 1) ∧ decode cJ7_copyOf_59c91 18 = .ok (.aload_n 0, 1) ∧ decode cJ7_copyOf_59c91 19 = .ok (.iconst 0, 1) ∧ decode cJ7_copyOf_59c91 20 = .ok (.aload_n 2, 1) ∧ decode cJ7_copyOf_59c91 21 = .ok (.iconst 0, 1) ∧ decode cJ7_copyOf_59c91 22 = .ok (.aload_n 0, 1) ∧ decode cJ7_copyOf_59c91 23 = .ok (.arraylength, 1) ∧ decode cJ7_copyOf_59c91 24 = .ok (.iload_n 1, 1) ∧ decode cJ7_copyOf_59c91 25 = .ok (.invokestatic 304, 3) ∧ decode cJ7_copyOf_59c91 28 = .ok (.invokestatic 150, 3) ∧ decode cJ7_copyOf_59c91 31 = .ok (.aload_n 2, 1) ∧ decode cJ7_copyOf_59c91 32 = .ok (.areturn, 1) := by decide +kernel
theorem am_jx0 : am_w 643 (.code yJ7_copyOf_59c91 cJ7_copyOf_59c91 3 (some (.array .int))) = true := by decide +kernel
set_option maxHeartbeats 4000000 in
set_option maxRecDepth 100000 in
theorem am_c_cp0 (l : Launch) (g : GV) (h : AH) (r : Nat) (n : Int32) (hk : am_kd h r = 100) (h6 : 6 ≤ r) (hn : ¬ n < 0) (hn1 : n.toNatClampNeg ≤ am_ln h r) (hn2 : am_ln h r ≤ 100000) (hft : ∀ j, j < am_ln h r → fits .int (.int (am_gi h r j)) = true) : Met l yJ7_copyOf_59c91 (am_wj yJ7_copyOf_59c91 cJ7_copyOf_59c91 3 (some (.array .int))) { frames := 2, cells := 1, slots := n.toNatClampNeg, locals := 100 } (am_PC g [.ref r, .int n] h) (am_QC g (some (.ref (am_sz h))) (am_sw (am_nw h 100 n.toNatClampNeg n.toNatClampNeg) (am_sz h) (am_gi h r))) 1 n.toNatClampNeg (am_A g) := by
  refine am_ofW (cc := cJ7_copyOf_59c91) (maxL := 3) (ret := some (.array .int)) (by decide +kernel) rfl ?_
  intro p e s m args below meth c s₁ B hml hv
  obtain ⟨rfl, hR, hK, hN, hE, hbs⟩ := hv
  have hx := B.exec
  have hb := B.bytes
  have hr := B.returns
  have hts0 := atoms_spec (ws := am_wj yJ7_copyOf_59c91 cJ7_copyOf_59c91 3 (some (.array .int))) B.pre
  have hts : ∀ w ∈ am_ws, w.before (([.ref r, .int n] : List Value).map (am_v g)).toArray s = true := fun w hw => hts0 w (List.mem_cons_of_mem _ hw)
  have hown : s.vm.findClass "java/util/Arrays" = some m.cls := findClass_of_methodNamed B.named
  have hlocks := B.notSynchronized
  have hS : va_S (am_A g) s.heap s.heap [] := va_S.rf
  have hl := lv_entry ([.ref (am_ad g r), .int n]) (n := 3) (Nat.le_of_ble_eq_true rfl)
  have eargs : (([.ref r, .int n] : List Value).map (am_v g)).toArray = ([.ref (am_ad g r), .int n] : List Value).toArray := rfl
  rw [eargs, lg_entry_eq]
  generalize (lg_sl ([.ref (am_ad g r), .int n]) ++ List.replicate (3 - (lg_sl ([.ref (am_ad g r), .int n])).length) Slot.unset).toArray = ls at hl ⊢
  have hl : lv_has ls 3 [(0, .ref (am_ad g r)), (1, .int n)] := hl
  have hcell := am_arr_i hR (k := 0) hk (by omega) (by omega) h6
  have hAr : ArrOfT s (g.2.2.1 0) .int := (hK.2 0 _ rfl).1
  have hNm : s.vm.findClass "[I" = some (g.2.2.1 0) := va_nm_int (hK.2 0 _ rfl).2
  obtain ⟨d0, d1, d2, d3, d6, d7, d10, d13⟩ := am_jp0
  obtain ⟨d14, d15, d17, d18, d19, d20, d21, d22, d23, d24, d25, d28, d31, d32⟩ := am_je0
  obtain ⟨j, hj, rfl⟩ : ∃ j : Nat, j < 2 ^ 31 ∧ n = nI j := nI_of hn
  rw [nI_clamp hj] at hn1 ⊢
  -- the new cell, however it came
  have hend : ∀ (H1 : Heap), H1.size = s.heap.size + 1 → (∀ q, q < s.heap.size → H1[q]? = s.heap[q]?) → H1[s.heap.size]? = some (arrV (g.2.2.1 0) j (fun i => .int (am_gi h r i))) → am_R g (am_sw (am_nw h 100 j j) (am_sz h) (am_gi h r)) H1 := by
    intro H1 z1 o1 c1
    refine hR.push rfl (by show am_kd (am_nw h 100 j j) (am_sz h) < 13 ∨ (100 ≤ am_kd (am_nw h 100 j j) (am_sz h) ∧ am_kd (am_nw h 100 j j) (am_sz h) ≤ 109); rw [am_nw_kd0]; omega) (fun b hb => am_nw_kd (k := 100) (n := j) (w := j) hb) (fun b hb => am_nw_ln (k := 100) (n := j) (w := j) hb) (fun b hb => ?_) (fun b hb => am_nw_gl (k := 100) (n := j) (w := j) hb) (fun b hb => am_nw_gr (k := 100) (n := j) (w := j) hb) z1 o1 ?_
    · funext q
      show (if b = am_sz h then _ else _) = _
      rw [if_neg hb, am_nw_gi hb]
    · unfold am_ec am_ac
      have k1 : am_kd (am_sw (am_nw h 100 j j) (am_sz h) (am_gi h r)) (am_sz h) = 100 := am_nw_kd0 (k := 100) (n := j) (w := j)
      have k2 : am_ln (am_sw (am_nw h 100 j j) (am_sz h) (am_gi h r)) (am_sz h) = j := am_nw_ln0 (k := 100) (n := j) (w := j)
      have k3 : am_gi (am_sw (am_nw h 100 j j) (am_sz h) (am_gi h r)) (am_sz h) = am_gi h r := by funext q; exact if_pos rfl
      rw [k1, k2, k3, if_neg (by omega), if_neg (by omega), if_pos (by omega)]
      show H1[am_ad g (am_sz h)]? = some (vp_cell _ _)
      rw [hR.ad_new, c1]
      rfl
  have hSe : ∀ (H1 : Heap) (locs1 : List Loc), H1.size = s.heap.size + 1 → (∀ q, q < s.heap.size → H1[q]? = s.heap[q]?) → (∀ x ∈ locs1, x.base = s.heap.size) → va_S (am_A g) s.heap H1 locs1 := fun H1 locs1 z1 o1 hl1 => ⟨by omega, fun q h1 _ => o1 q h1, fun x hx1 => by rw [hl1 x hx1]; exact hbs⟩
  refine lv_iload_n hx hb d0 rfl (lv_at hl 1 rfl) ?_
  refine lv_aload_n hx hb d1 rfl (lv_at hl 0 rfl) ?_
  refine W.alen (n := nI (am_ln h r)) hx hb hcell (hAr _ _) (by rw [arrV_size] <;> rfl) rfl rfl d2 ?_
  refine W.eq (g2 := F0 m 3 ls [.int (nI (am_ln h r)), .int (nI j)]) rfl ?_
  refine lv_icmp_ne (tgt := 14) hx hb d3 (by decide) (fun hne => ?_) (fun heq => ?_)
  · have hlt : j < am_ln h r := by
      rcases Nat.lt_or_ge j (am_ln h r) with q | q
      · exact q
      · exact absurd (by rw [show j = am_ln h r by omega]) hne
    refine lv_iload_n hx hb d14 rfl (lv_at hl 1 rfl) ?_
    refine va_newaK hx hb (hts _ (am_arrW .int (by decide))) rfl d15 rfl hn (nI_clamp hj) (by simp [newarray.typeOf, componentBytes]; omega) (Nat.le_refl _) (Nat.le_of_eq (Nat.zero_add _)) rfl fun H1 cA f1 z1 o1 _ hNm2 => ?_
    have ecA : cA = g.2.2.1 0 := Option.some.inj (hNm2.symm.trans (hK.2 0 _ rfl).2)
    subst ecA
    refine W.eq (g2 := F0 m 17 ls [.ref s.heap.size]) rfl ?_
    refine lv_astore_n (lv' := [(2, .ref s.heap.size), (0, .ref (am_ad g r)), (1, .int (nI j))]) hx hb d17 rfl hl (by decide) rfl (fun ls hl => ?_)
    refine lv_aload_n hx hb d18 rfl (lv_at hl 1 rfl) ?_
    refine lv_iconst (v := 0) hx hb d19 (by decide) ?_
    refine lv_aload_n hx hb d20 rfl (lv_at hl 0 rfl) ?_
    refine lv_iconst (v := 0) hx hb d21 (by decide) ?_
    refine lv_aload_n hx hb d22 rfl (lv_at hl 1 rfl) ?_
    have hlr : am_ad g r < s.heap.size := hR.lt h6 (by
      rcases Nat.lt_or_ge r (am_sz h) with q | q
      · exact q
      · have := hR.1.2.2.2.2.2.2.2.1 r q; omega)
    refine W.alen (n := nI (am_ln h r)) hx hb (by rw [o1 _ hlr]; exact hcell) (hAr _ _) (by rw [arrV_size] <;> rfl) rfl rfl d23 ?_
    refine W.eq (g2 := F0 m 24 ls [.int (nI (am_ln h r)), .int 0, .ref s.heap.size, .int 0, .ref (am_ad g r)]) rfl ?_
    refine lv_iload_n hx hb d24 rfl (lv_at hl 2 rfl) ?_
    refine va_mmin hx hb (hml.trans hl.1.symm) hown (hts (.methodLink "java/util/Arrays" 304 Lib.Math.min.name) (am_w_mem (i := 635) (by decide +kernel) rfl)) (hts (.static Lib.Math.min.name) (am_w_mem (i := 636) (by decide +kernel) rfl)) (hts (.initialized "java/lang/Math") (am_w_mem (i := 123) (by decide +kernel) rfl)) (hts (.code Lib.Math.min.name Lib.Math.min.code 2 (some .int)) (am_w_mem (i := 637) (by decide +kernel) rfl)) (Nat.le_of_ble_eq_true rfl) (Nat.le_of_ble_eq_true rfl) (Nat.le_refl _) (Nat.le_of_eq (Nat.zero_add _)) d25 ?_
    rw [if_pos (nI_lt hlt (by omega))]
    refine am_acopy (ty := .int) hx hb (hml.trans hl.1.symm) hown (hts (.methodLink "java/util/Arrays" 150 arraycopyName) (am_w_mem (i := 638) (by decide +kernel) rfl)) (hts (.native arraycopyName) (am_w_mem (i := 640) (by decide +kernel) rfl)) (hts (.static arraycopyName) (am_w_mem (i := 639) (by decide +kernel) rfl)) (hts (.initialized "java/lang/System") (am_w_mem (i := 124) (by decide +kernel) rfl)) (f := am_gi h r) (g := fun _ => 0) (by rw [o1 _ hlr]; exact hcell) f1 hAr hAr rfl hn (by rw [nI_clamp hj]; omega) (by rw [nI_clamp hj]; exact Nat.le_refl _) (fun i hi => hft i (by rw [nI_clamp hj] at hi; omega)) (Nat.le_of_ble_eq_true rfl) (by show _ ≤ 100; decide +kernel) d28 (fun H2 locs2 g1 z2 o2 hl2 => ?_)
    refine W.eq (g2 := F0 m 31 ls []) rfl ?_
    refine lv_aload_n hx hb d31 rfl (lv_at hl 0 rfl) ?_
    have hz2 : H2.size = s.heap.size + 1 := by rw [z2, z1]
    have ho2 : ∀ q, q < s.heap.size → H2[q]? = s.heap[q]? := fun q hq => by rw [o2 q (by omega)]; exact o1 q hq
    have hlo2 : ∀ x ∈ locs2, x.base = s.heap.size := fun x hx1 => by
      rcases hl2 x hx1 with q | q
      · cases q
      · exact q
    have hc2 : H2[s.heap.size]? = some (arrV (g.2.2.1 0) j (fun i => .int (am_gi h r i))) := by
      rw [g1, nI_clamp hj]
      exact congrArg some (am_arr_ext (fun i hi => by simp [va_cpy, hi]))
    have hS2 := hSe H2 locs2 hz2 ho2 hlo2
    refine W.cs (cells := 0 + 1) (slots := 0 + j) (cells' := 1) (slots' := j) (Nat.zero_add 1) (Nat.zero_add j) ?_
    refine W.aret hx hb hr (Or.inr ⟨_, rfl⟩) (Or.inr ⟨_, rfl⟩) (fun t ht hW => ⟨?_, by rw [ht]; exact hend H2 hz2 ho2 hc2, hS2.F ht⟩) hS2.2.2 d32
    show Outcome.returned (some (.ref s.heap.size)) = .returned (some (.ref (am_ad g (am_sz h))))
    rw [hR.ad_new]
  · have hej : j = am_ln h r := (nI_eq hj (by omega)).mp heq
    refine lv_aload_n hx hb d6 rfl (lv_at hl 0 rfl) ?_
    refine am_clone (ty := .int) hx hb (hml.trans hl.1.symm) hown (hts (.methodLink "java/util/Arrays" 316 ⟨"[I", "clone", "()Ljava/lang/Object;"⟩) (am_w_mem (i := 644) (by decide +kernel) rfl)) (hts (.sameMethod "[I" "java/lang/Object" "clone" "()Ljava/lang/Object;") (am_w_mem (i := 645) (by decide +kernel) rfl)) (hts (.native ⟨"java/lang/Object", "clone", "()Ljava/lang/Object;"⟩) (am_w_mem (i := 630) (by decide +kernel) rfl)) (hts (.instanceMethod ⟨"java/lang/Object", "clone", "()Ljava/lang/Object;"⟩) (am_w_mem (i := 631) (by decide +kernel) rfl)) (hts (.selects "[I" ⟨"[I", "clone", "()Ljava/lang/Object;"⟩ ⟨"java/lang/Object", "clone", "()Ljava/lang/Object;"⟩) (am_w_mem (i := 646) (by decide +kernel) rfl)) (hN.1 (.castable "[I" "java/lang/Cloneable") (am_w_tbl (i := 647) (by decide +kernel)) rfl) hcell hAr hNm hft (Nat.le_of_ble_eq_true rfl) (Nat.le_of_ble_eq_true rfl) (Nat.le_refl _) (by rw [hej]; exact Nat.le_of_eq (Nat.zero_add _)) d7 ?_
    generalize hH1 : s.heap.push (arrV (g.2.2.1 0) (am_ln h r) (fun j => .int (am_gi h r j))) = H1
    have z1 : H1.size = s.heap.size + 1 := by rw [← hH1, Array.size_push]
    have c1 : H1[s.heap.size]? = some (arrV (g.2.2.1 0) (am_ln h r) (fun j => .int (am_gi h r j))) := by rw [← hH1, Array.getElem?_push_size]
    have o1 : ∀ q : Nat, q < s.heap.size → H1[q]? = s.heap[q]? := fun q hq => by rw [← hH1, Array.getElem?_push, if_neg (Nat.ne_of_lt hq)]
    refine W.eq (g2 := F0 m 10 ls [.ref s.heap.size]) rfl ?_
    refine va_castE hx hb hown (hts (.classLink "java/util/Arrays" 317 "[I") (am_w_mem (i := 648) (by decide +kernel) rfl)) ⟨_, c1, rfl, hNm⟩ d10 ?_
    have hS2 := hSe H1 [] z1 o1 (fun x hx1 => by cases hx1)
    refine W.cs (cells := 0 + 1) (slots := 0 + am_ln h r) (cells' := 1) (slots' := j) (Nat.zero_add 1) (by omega) ?_
    refine W.aret hx hb hr (Or.inr ⟨_, rfl⟩) (Or.inr ⟨_, rfl⟩) (fun t ht hW => ⟨?_, by rw [ht]; exact hend H1 z1 o1 (by rw [hej]; exact c1), hS2.F ht⟩) hS2.2.2 d13
    show Outcome.returned (some (.ref s.heap.size)) = .returned (some (.ref (am_ad g (am_sz h))))
    rw [hR.ad_new]
