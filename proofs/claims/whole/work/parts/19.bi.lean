theorem am_k200 {h : AH} (hX : am_X0 h) {a : Nat} (hk : am_kd h a = 200) : ∃ i, i < 2 ∧ a = 2 + 2 * i := by
  obtain ⟨x1, x2, x3, x4, x5, x6, x7, x8, x9⟩ := hX
  rcases Nat.lt_or_ge a 6 with q | q
  · rcases (show a = 0 ∨ a = 1 ∨ a = 2 ∨ a = 3 ∨ a = 4 ∨ a = 5 by omega) with rfl | rfl | rfl | rfl | rfl | rfl
    · omega
    · omega
    · exact ⟨0, by omega, rfl⟩
    · omega
    · exact ⟨1, by omega, rfl⟩
    · omega
  · rcases Nat.lt_or_ge a (am_sz h) with z | z
    · have := x9 a q z; omega
    · have := x8 a z; omega
theorem am_str_ln {g : GV} {h : AH} {H : Heap} (hR : am_R g h H) {i : Nat} (hi : i < 2) : am_ln h (2 + 2 * i + 1) = am_sN i ∧ ∀ j, am_gi h (2 + 2 * i + 1) j = (am_sB i).getD j 0 := by
  obtain ⟨-, -, ⟨-, -, ⟨y1, y2⟩, ⟨y3, y4⟩⟩, -⟩ := hR
  rcases (show i = 0 ∨ i = 1 by omega) with rfl | rfl
  · exact ⟨y1, fun j => by rw [show 2 + 2 * 0 + 1 = 3 from rfl, y2]; rfl⟩
  · exact ⟨y3, fun j => by rw [show 2 + 2 * 1 + 1 = 5 from rfl, y4]; rfl⟩
set_option maxHeartbeats 4000000 in
set_option maxRecDepth 100000 in
theorem am_bi_snd : am_BI := by
  intro p l e R s m args below meth c H locs Q g M d pc z0 n0 ls h h' st st' i idx k w C hR hS hls hz0 hn0 hd hsrt hw hp hcat hrc hrs kk
  have hC := C
  obtain ⟨hx, hb, hml, hrt, hown, hts, hlk, hin, hfr, hlo, hK, hN, hE, hbs⟩ := hC
  have hlink := hts _ (am_w_mem hw rfl)
  rcases hsrt with ⟨rfl, rfl⟩ | ⟨rfl | rfl, rfl⟩ | ⟨rfl | rfl | rfl, rfl⟩
  · unfold am_bi at hp
    obtain ⟨q, hq, he⟩ := Option.map_eq_some_iff.mp hp
    cases he
    rw [am_a1_s hq]
    have hc2 : ((q.2.map (am_v g)).map fun v => v.category).sum ≤ 8 := by rw [am_cats_v]; exact hcat
    refine W.objInit hx hb hown hlink (hts (.instanceMethod objectInit) (List.mem_filter.mpr ⟨by decide +kernel, rfl⟩)) (hts (.code objectInit ⟨#[0xb1]⟩ 1 none) (List.mem_filter.mpr ⟨by decide +kernel, rfl⟩)) rfl (hls.trans hml.symm) rfl hd (by omega) (by show 2 * 0 + _ + 12 ≤ _; omega) ?_
    exact kk H locs hR hS
  · unfold am_bi at hp
    obtain ⟨q, hq, he⟩ := Option.bind_eq_some_iff.mp hp
    split at he
    · rename_i hk2
      cases he
      rw [am_a1_s hq]
      obtain ⟨j, hj, hja⟩ := am_k200 hR.1 hk2
      obtain ⟨a, rest⟩ := q
      dsimp only at hja hk2 ⊢ kk
      subst hja
      have hc2 : ((rest.map (am_v g)).map fun v => v.category).sum ≤ 8 := by
        rw [am_cats_v]; have : am_cats (Value.int (Int32.ofNat (am_ln h (2 + 2 * j + 1))) :: rest) ≤ 8 := hcat
        unfold am_cats at this ⊢; simp at this; omega
      refine am_callh (W.runV (C := "java/lang/String") (b := am_ad g (2 + 2 * j)) (As := []) (rest := rest.map (am_v g)) (n := 0) ⟨hx, hb, hml, hown, hts⟩ (am_c_len l g j hj) ⟨callB_of 0 hts (am_goodj am_jw3) rfl rfl rfl (hts (.initialized "java/lang/String") (am_w_mem (i := 118) (by decide +kernel) rfl)) hlink ⟨by decide +kernel, by decide +kernel, by decide +kernel⟩ ⟨by show 1 + 1 ≤ _; omega, by show 8 + (1 + 11) + 40 ≤ _; omega⟩, hts (.instanceMethod yJ0_length_8abf5) (am_w_mem (i := 493) (by decide +kernel) rfl), hts (.selects "java/lang/String" yJ0_length_8abf5 yJ0_length_8abf5) (am_w_mem (i := 494) (by decide +kernel) rfl)⟩ ⟨am_SP_blind, vk_recv (i := j) (adK := fun i => am_ad g (2 + 2 * i)) hE.2.2.2.2.1 hj hS, am_skeep hE hbs hS _⟩ rfl rfl hls rfl (lv_room hc2) hd ⟨hrc, hrs⟩) ?_
      have := kk H locs hR hS
      rw [(am_str_ln hR hj).1] at this
      exact this
    · cases he
  · unfold am_bi at hp
    obtain ⟨q, hq, he⟩ := Option.bind_eq_some_iff.mp hp
    split at he
    · rename_i hk2
      obtain ⟨hin2, he⟩ := am_if_s he
      cases he
      rw [am_ia_s hq]
      obtain ⟨j, hj, hja⟩ := am_k200 hR.1 hk2
      obtain ⟨a, x, rest⟩ := q
      dsimp only at hja hk2 hin2 ⊢ kk
      subst hja
      rw [(am_str_ln hR hj).1] at hin2
      have hc2 : ((rest.map (am_v g)).map fun v => v.category).sum ≤ 8 := by
        rw [am_cats_v]; have : am_cats (Value.int (am_gi h (2 + 2 * j + 1) x.toNatClampNeg &&& 255) :: rest) ≤ 8 := hcat
        unfold am_cats at this ⊢; simp at this; omega
      refine am_callh (W.runV (C := "java/lang/String") (b := am_ad g (2 + 2 * j)) (As := [.int x]) (rest := rest.map (am_v g)) (n := 1) ⟨hx, hb, hml, hown, hts⟩ (am_c_ch l g j hj x hin2) ⟨callB_of 1 hts (am_goodj am_jw4) rfl rfl rfl (hts (.initialized "java/lang/String") (am_w_mem (i := 118) (by decide +kernel) rfl)) hlink ⟨by decide +kernel, by decide +kernel, by decide +kernel⟩ ⟨by show 3 + 1 ≤ _; omega, by show 8 + (2 + 11) + 120 ≤ _; omega⟩, hts (.instanceMethod yJ0_charAt_5068e) (am_w_mem (i := 503) (by decide +kernel) rfl), hts (.selects "java/lang/String" yJ0_charAt_5068e yJ0_charAt_5068e) (am_w_mem (i := 504) (by decide +kernel) rfl)⟩ ⟨am_SP_blind, vk_recv (i := j) (adK := fun i => am_ad g (2 + 2 * i)) hE.2.2.2.2.1 hj hS, am_skeep hE hbs hS _⟩ rfl rfl hls rfl (lv_room hc2) hd ⟨hrc, hrs⟩) ?_
      have := kk H locs hR hS
      rw [(am_str_ln hR hj).2] at this
      exact this
    · cases he
  · unfold am_bi at hp
    obtain ⟨q, hq, he⟩ := Option.bind_eq_some_iff.mp hp
    split at he
    · rename_i hk2
      cases he
      rw [am_ia_s hq]
      obtain ⟨a, x, rest⟩ := q
      dsimp only at hk2 hrc hrs ⊢ kk
      obtain ⟨k1, k2, k3, k4, k5⟩ := hk2
      have h6 : 6 ≤ a := am_six hR.1 (by omega) (by omega) (by omega)
      have hc2 : ((rest.map (am_v g)).map fun v => v.category).sum ≤ 8 := by
        rw [am_cats_v]; have : am_cats (Value.ref (am_sz h) :: rest) ≤ 8 := hcat
        unfold am_cats at this ⊢; simp at this; omega
      have e1 : am_sz (am_sw (am_nw h 102 x.toNatClampNeg x.toNatClampNeg) (am_sz h) (am_gi h a)) - z0 = am_sz h - z0 + 1 := by show am_sz h + 1 - z0 = _; omega
      have e2 : am_sn (am_sw (am_nw h 102 x.toNatClampNeg x.toNatClampNeg) (am_sz h) (am_gi h a)) - n0 = am_sn h - n0 + x.toNatClampNeg := by show am_sn h + _ - n0 = _; omega
      rw [e1] at hrc kk
      rw [e2] at hrs kk
      have hkeep : ∀ U : State, U.heap = H → s.WarmedH U.vm → am_PC g [.ref a, .int x] h (([.ref a, .int x] : List Value).map (am_v g)).toArray U := fun U hU hW => ⟨rfl, by rw [hU]; exact hR, va_K.moved hW.alike hK, hN.warm hW, hE.to hbs hS hW.alike (fun r => vk_R.warm hW r) hU, by rw [hU]; exact Nat.le_trans hbs hS.1⟩
      exact am_call (r := some (.ref (am_sz h))) (va_runS (As := [.ref (am_ad g a), .int x]) (rest := rest.map (am_v g)) (n := 2) ⟨hx, hb, hml, hown, hts⟩ (am_c_cp2 l g h a x k1 h6 k2 k3 k4 (fun j hj => by have := k5 j hj; simp [fits, this])) ⟨callB_of 2 hts (am_goodj am_jx2) rfl rfl rfl (hts (.initialized "java/util/Arrays") (am_w_mem (i := 122) (by decide +kernel) rfl)) hlink ⟨by decide +kernel, by decide +kernel, by decide +kernel⟩ ⟨by show 2 + 1 ≤ _; omega, by show 8 + (3 + 11) + 100 ≤ _; omega⟩, hts (.static yJ7_copyOf_9075b) (am_w_mem (i := 626) (by decide +kernel) rfl)⟩ ⟨am_PC_blind, hkeep⟩ rfl rfl hls rfl (lv_room hc2) hd ⟨hrc, hrs⟩) hS kk
    · cases he
  · unfold am_bi at hp
    obtain ⟨q, hq, he⟩ := Option.bind_eq_some_iff.mp hp
    split at he
    · rename_i hk2
      cases he
      rw [am_ia_s hq]
      obtain ⟨a, x, rest⟩ := q
      dsimp only at hk2 hrc hrs ⊢ kk
      obtain ⟨⟨k1, h6⟩, k2, k3, k4⟩ := hk2
      have hc2 : ((rest.map (am_v g)).map fun v => v.category).sum ≤ 8 := by
        rw [am_cats_v]; have : am_cats (Value.ref (am_sz h) :: rest) ≤ 8 := hcat
        unfold am_cats at this ⊢; simp at this; omega
      have e1 : am_sz (am_sw (am_nw h 100 x.toNatClampNeg x.toNatClampNeg) (am_sz h) (am_gi h a)) - z0 = am_sz h - z0 + 1 := by show am_sz h + 1 - z0 = _; omega
      have e2 : am_sn (am_sw (am_nw h 100 x.toNatClampNeg x.toNatClampNeg) (am_sz h) (am_gi h a)) - n0 = am_sn h - n0 + x.toNatClampNeg := by show am_sn h + _ - n0 = _; omega
      rw [e1] at hrc kk
      rw [e2] at hrs kk
      have hkeep : ∀ U : State, U.heap = H → s.WarmedH U.vm → am_PC g [.ref a, .int x] h (([.ref a, .int x] : List Value).map (am_v g)).toArray U := fun U hU hW => ⟨rfl, by rw [hU]; exact hR, va_K.moved hW.alike hK, hN.warm hW, hE.to hbs hS hW.alike (fun r => vk_R.warm hW r) hU, by rw [hU]; exact Nat.le_trans hbs hS.1⟩
      exact am_call (r := some (.ref (am_sz h))) (va_runS (As := [.ref (am_ad g a), .int x]) (rest := rest.map (am_v g)) (n := 2) ⟨hx, hb, hml, hown, hts⟩ (am_c_cp0 l g h a x k1 h6 k2 k3 k4 (fun j hj => rfl)) ⟨callB_of 2 hts (am_goodj am_jx0) rfl rfl rfl (hts (.initialized "java/util/Arrays") (am_w_mem (i := 122) (by decide +kernel) rfl)) hlink ⟨by decide +kernel, by decide +kernel, by decide +kernel⟩ ⟨by show 2 + 1 ≤ _; omega, by show 8 + (3 + 11) + 100 ≤ _; omega⟩, hts (.static yJ7_copyOf_59c91) (am_w_mem (i := 642) (by decide +kernel) rfl)⟩ ⟨am_PC_blind, hkeep⟩ rfl rfl hls rfl (lv_room hc2) hd ⟨hrc, hrs⟩) hS kk
    · cases he
  · simp only [am_bi] at hp
    split at hp
    · rename_i n dp dd sp ss r
      split at hp
      · rename_i hg
        cases hp
        obtain ⟨⟨g1, g2⟩, ⟨g3, g4⟩, g5, rfl, rfl, g6, g7, g8⟩ := hg
        have hc2 : ((st'.map (am_v g)).map fun v => v.category).sum ≤ 8 := by rw [am_cats_v]; exact hcat
        have c0 := am_arr_i hR (k := 0) g1 (by omega) (by omega) g2
        have c1 := am_arr_i hR (k := 0) g3 (by omega) (by omega) g4
        have hAr : ArrOfT s (g.2.2.1 0) .int := (hK.2 0 _ rfl).1
        have hnw : nativeFrameWords "java/lang/System" "arraycopy" 5 + 11 ≤ 100 := by decide +kernel
        refine am_acopy (ty := .int) (rest := st'.map (am_v g)) hx hb (hml.trans hls.symm) hown hlink (hts (.native arraycopyName) (am_w_mem (i := 640) (by decide +kernel) rfl)) (hts (.static arraycopyName) (am_w_mem (i := 639) (by decide +kernel) rfl)) (hts (.initialized "java/lang/System") (am_w_mem (i := 124) (by decide +kernel) rfl)) c0 c1 hAr hAr rfl g6 g7 g8 (fun _ _ => rfl) (by omega) (by omega) hd (fun H1 locs1 f1 z1 o1 hl1 => ?_)
        refine kk H1 locs1 ?_ ?_
        · refine hR.set (a := dd) g4 rfl rfl rfl (fun b hb => ?_) (fun _ _ => rfl) (fun _ _ => rfl) z1 o1 ?_
          · funext q
            show (if b = dd then _ else _) = _
            rw [if_neg hb]
          · unfold am_ec am_ac
            have k1 : am_kd (am_sw h dd (fun j => if j < n.toNatClampNeg then am_gi h ss j else am_gi h dd j)) dd = 100 := g3
            have k2 : am_ln (am_sw h dd (fun j => if j < n.toNatClampNeg then am_gi h ss j else am_gi h dd j)) dd = am_ln h dd := rfl
            have k3 : am_gi (am_sw h dd (fun j => if j < n.toNatClampNeg then am_gi h ss j else am_gi h dd j)) dd = fun j => if j < n.toNatClampNeg then am_gi h ss j else am_gi h dd j := by funext q; exact if_pos rfl
            rw [k1, k2, k3, if_neg (by omega), if_neg (by omega), if_pos (by omega)]
            show H1[am_ad g dd]? = some (vp_cell _ _)
            rw [f1]
            rw [vp_cell_i]
            refine congrArg some (am_arr_ext (fun j hj => ?_))
            by_cases hjn : j < n.toNatClampNeg
            · simp [va_cpy, hjn]
            · simp [va_cpy, hjn]
        · refine ⟨by rw [z1]; exact hS.1, fun q q1 q2 => ?_, fun x hx1 => ?_⟩
          · rw [o1 q (fun z => q2 (by rw [z]; show g.2.2.2.2.1 ≤ _; rw [am_ad_in g4]; omega))]
            exact hS.2.1 q q1 q2
          · rcases hl1 x hx1 with z | z
            · exact hS.2.2 x z
            · rw [z]; show g.2.2.2.2.1 ≤ _; rw [am_ad_in g4]; omega
      · cases hp
    · cases hp
