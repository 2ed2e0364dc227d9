theorem am_nw_gi {h : AH} {k n w b : Nat} (hb : b ≠ am_sz h) : am_gi (am_nw h k n w) b = am_gi h b := by
  funext j; show (if b = am_sz h then _ else _) = _; rw [if_neg hb]
theorem am_nw_gl {h : AH} {k n w b : Nat} (hb : b ≠ am_sz h) : am_gl (am_nw h k n w) b = am_gl h b := by
  funext j; show (if b = am_sz h then _ else _) = _; rw [if_neg hb]
theorem am_nw_gr {h : AH} {k n w b : Nat} (hb : b ≠ am_sz h) : am_gr (am_nw h k n w) b = am_gr h b := by
  funext j; show (if b = am_sz h then _ else _) = _; rw [if_neg hb]
theorem am_nw_kd {h : AH} {k n w b : Nat} (hb : b ≠ am_sz h) : am_kd (am_nw h k n w) b = am_kd h b := by
  show (if b = am_sz h then _ else _) = _; rw [if_neg hb]
theorem am_nw_ln {h : AH} {k n w b : Nat} (hb : b ≠ am_sz h) : am_ln (am_nw h k n w) b = am_ln h b := by
  show (if b = am_sz h then _ else _) = _; rw [if_neg hb]
theorem am_nw_kd0 {h : AH} {k n w : Nat} : am_kd (am_nw h k n w) (am_sz h) = k := if_pos rfl
theorem am_nw_ln0 {h : AH} {k n w : Nat} : am_ln (am_nw h k n w) (am_sz h) = n := if_pos rfl
theorem am_nw_gi0 {h : AH} {k n w : Nat} : am_gi (am_nw h k n w) (am_sz h) = fun _ => 0 := by funext j; exact if_pos rfl
theorem am_nw_gl0 {h : AH} {k n w : Nat} : am_gl (am_nw h k n w) (am_sz h) = fun _ => 0 := by funext j; exact if_pos rfl
theorem am_nw_gr0 {h : AH} {k n w : Nat} : am_gr (am_nw h k n w) (am_sz h) = fun _ => none := by funext j; exact if_pos rfl
/-- a new cell: what the kit's rows leave to be shown -/
theorem am_R.new {g : GV} {h : AH} {H H' : Heap} {k n w : Nat} (hR : am_R g h H) (hk : k < 13 ∨ (100 ≤ k ∧ k ≤ 109)) (z : H'.size = H.size + 1) (o : ∀ q, q < H.size → H'[q]? = H[q]?) (hc : va_at (am_D g) am_cl (am_ad g (am_sz h), am_ec g (am_nw h k n w) (am_sz h)) H') : am_R g (am_nw h k n w) H' :=
  hR.push rfl (by rw [am_nw_kd0]; exact hk) (fun _ hb => am_nw_kd hb) (fun _ hb => am_nw_ln hb) (fun _ hb => am_nw_gi hb) (fun _ hb => am_nw_gl hb) (fun _ hb => am_nw_gr hb) z o hc
theorem am_srtK : ((List.range 13).all fun ci => (List.range (am_nf ci)).all fun k => decide (am_srt (am_ty ci k) ≠ 9)) = true := by decide +kernel
theorem am_srt_ok {ci k : Nat} (h1 : ci < 13) (h2 : k < am_nf ci) : am_srt (am_ty ci k) ≠ 9 := of_decide_eq_true (List.all_eq_true.mp (List.all_eq_true.mp am_srtK ci (List.mem_range.mpr h1)) k (List.mem_range.mpr h2))
theorem am_dflt {t : FieldType} (h : am_srt t ≠ 9) : defaultValue t = match am_srt t with
    | 0 => .int 0
    | 1 => .long 0
    | 3 => .int 0
    | _ => .null := by
  cases t <;> first | rfl | exact absurd rfl h
section SNDN
variable {p : Program} {l : Launch} {e : Env} {R : Room} {s : State} {m : MethodId} {args : Array Value} {below : List Frame} {meth : Method} {c : Code} {H : Heap} {locs : List Loc} {cells slots : Nat} {Q : State → Prop}
variable {g : GV} {M d pc : Nat} {ls : Array Slot} {h : AH} {rest : List Value}
theorem am_bast_snd {a : Nat} {i x : Int32} (C : am_C p R s m args meth c g M d) (hR : am_R g h H) (hS : va_S (am_A g) s.heap H locs) (hd : decode (am_mt M).2.2.1 pc = .ok (.bastore, 1)) (hk : am_kd h a = 102) (hi : am_in i (am_ln h a))
    (kk : ∀ H' locs', am_R g (am_si h a i.toNatClampNeg x.toInt8.toInt32) H' → va_S (am_A g) s.heap H' locs' → W p l e R s m args below meth c H' locs' cells slots Q (F0 m (pc + 1) ls rest)) : W p l e R s m args below meth c H locs cells slots Q (F0 m pc ls (.int x :: .int i :: .ref (am_ad g a) :: rest)) := by
  obtain ⟨hx, hb, hml, hr, hown, hts, hlk, hin, hfr, hlo, hK, hN, hE, hbs⟩ := C
  have h6 : 6 ≤ a := am_six hR.1 (by omega) (by omega) (by omega)
  refine W.bast hx hb (am_arr_i hR (k := 2) hk (by omega) (by omega) h6) (am_ty_at hK rfl _ _) (fun q => by cases q) (by rw [arrV_size]; exact hi) rfl rfl hd fun H1 f1 z oq => ?_
  obtain ⟨u1, u2⟩ := am_setA (f := fun _ => .null) (cA := 0) (j := i.toNatClampNeg) (h' := am_si h a i.toNatClampNeg x.toInt8.toInt32) hR hS h6 (by omega) rfl rfl rfl (fun b hb => am_si_o hb) (fun _ _ => rfl) (fun _ _ => rfl) z oq (by
    rw [f1, arrV_store, hk, narrow_byte]
    unfold am_ac
    rw [if_neg (by show ¬ am_kd h a = 101; omega), if_pos (by show am_kd h a < 104; omega), vp_cell_i]
    congr 2
    funext q
    rw [am_si_gi]
    unfold updV
    by_cases hq : q = i.toNatClampNeg <;> simp [hq])
  exact kk H1 _ u1 u2
theorem am_nar01 {x : Int32} (h : x = 0 ∨ x = 1) : narrow .boolean (.int x) = .int x ∧ fits .boolean (.int x) = true := by
  rcases h with rfl | rfl <;> exact ⟨by decide, by decide⟩
theorem am_zast_snd {a : Nat} {i x : Int32} (C : am_C p R s m args meth c g M d) (hR : am_R g h H) (hS : va_S (am_A g) s.heap H locs) (hd : decode (am_mt M).2.2.1 pc = .ok (.bastore, 1)) (hk : am_kd h a = 103) (hx01 : x = 0 ∨ x = 1) (hi : am_in i (am_ln h a))
    (kk : ∀ H' locs', am_R g (am_si h a i.toNatClampNeg x) H' → va_S (am_A g) s.heap H' locs' → W p l e R s m args below meth c H' locs' cells slots Q (F0 m (pc + 1) ls rest)) : W p l e R s m args below meth c H locs cells slots Q (F0 m pc ls (.int x :: .int i :: .ref (am_ad g a) :: rest)) := by
  obtain ⟨hx, hb, hml, hr, hown, hts, hlk, hin, hfr, hlo, hK, hN, hE, hbs⟩ := C
  have h6 : 6 ≤ a := am_six hR.1 (by omega) (by omega) (by omega)
  refine W.zast hx hb (am_arr_i hR (k := 3) hk (by omega) (by omega) h6) (am_ty_at hK rfl _ _) (fun q => by cases q) (by rw [arrV_size]; exact hi) rfl rfl hd fun H1 f1 z oq => ?_
  obtain ⟨u1, u2⟩ := am_setA (f := fun _ => .null) (cA := 0) (j := i.toNatClampNeg) (h' := am_si h a i.toNatClampNeg x) hR hS h6 (by omega) rfl rfl rfl (fun b hb => am_si_o hb) (fun _ _ => rfl) (fun _ _ => rfl) z oq (by
    rw [f1, arrV_store, hk, (am_nar01 hx01).1]
    unfold am_ac
    rw [if_neg (by show ¬ am_kd h a = 101; omega), if_pos (by show am_kd h a < 104; omega), vp_cell_i]
    congr 2
    funext q
    rw [am_si_gi]
    unfold updV
    by_cases hq : q = i.toNatClampNeg <;> simp [hq])
  exact kk H1 _ u1 u2
theorem am_ot {k : Nat} (h1 : 4 ≤ k) (h2 : k ≤ 8) : ∃ C T N, (am_tys g)[k]? = some (g.2.2.1 k, .object C) ∧ am_cl[am_cmpn (100 + k)]? = some (C, T, N) := by
  rcases (show k = 4 ∨ k = 5 ∨ k = 6 ∨ k = 7 ∨ k = 8 by omega) with rfl | rfl | rfl | rfl | rfl <;> exact ⟨_, _, _, rfl, rfl⟩
theorem am_aast_snd {a b : Nat} {i : Int32} (C : am_C p R s m args meth c g M d) (hR : am_R g h H) (hS : va_S (am_A g) s.heap H locs) (hd : decode (am_mt M).2.2.1 pc = .ok (.aastore, 1)) (hk : 104 ≤ am_kd h a ∧ am_kd h a ≤ 108) (hkb : am_kd h b = am_cmpn (am_kd h a)) (hi : am_in i (am_ln h a))
    (kk : ∀ H' locs', am_R g (am_sr h a i.toNatClampNeg (some b)) H' → va_S (am_A g) s.heap H' locs' → W p l e R s m args below meth c H' locs' cells slots Q (F0 m (pc + 1) ls rest)) : W p l e R s m args below meth c H locs cells slots Q (F0 m pc ls (.ref (am_ad g b) :: .int i :: .ref (am_ad g a) :: rest)) := by
  obtain ⟨hx, hb, hml, hr, hown, hts, hlk, hin, hfr, hlo, hK, hN, hE, hbs⟩ := C
  have h6 : 6 ≤ a := am_six hR.1 (by omega) (by omega) (by omega)
  have hlt : i.toNatClampNeg < am_ln h a := Nat.not_le.mp fun q => hi (Or.inr q)
  have h0 : ¬ i < 0 := fun q => hi (Or.inl q)
  obtain ⟨k, hk'⟩ : ∃ k, am_kd h a = 100 + k := ⟨am_kd h a - 100, by omega⟩
  obtain ⟨CC, T, N, ht, hc⟩ := am_ot (g := g) (k := k) (by omega) (by omega)
  rw [hk'] at hkb
  have hci : am_cmpn (100 + k) < 13 := (List.getElem?_eq_some_iff.mp hc).1
  obtain ⟨-, -, r', hr', cellV, g1, g2, g3, -⟩ := hR.obj hkb hci
  have hcls := (hK.1 _ _ hc).2
  obtain ⟨kA, comp, k1, k2, k3, -⟩ := (hK.2 k _ ht).2
  have hcomp : comp = (am_D g).1 (am_cmpn (100 + k)) := Option.some.inj (k3.symm.trans hcls.1)
  subst hcomp
  obtain ⟨kC, hkC, -⟩ := hcls.2
  refine W.aast hx hb (am_arr_r hR hk' (by omega) (by omega) h6) (fun q h => by cases h) (fun h => by cases h) k1 k2 rfl hkC ⟨h0, by rw [arrV_size]; exact hlt⟩ g1 (fun q h => by rw [g3] at h; cases h) (by rw [g2]; exact hkC) (by rw [g2]; exact va_assign hcls) rfl rfl hd fun H1 f1 z oq => ?_
  obtain ⟨u1, u2⟩ := am_setA (f := fun _ => .null) (cA := 0) (j := i.toNatClampNeg) (h' := am_sr h a i.toNatClampNeg (some b)) hR hS h6 (by omega) rfl rfl rfl (fun _ _ => rfl) (fun _ _ => rfl) (fun b hb => am_sr_o hb) z oq (by
    rw [f1, arrV_store, hk', show 100 + k - 100 = k by omega]
    unfold am_ac
    rw [if_neg (by show ¬ am_kd h a = 101; omega), if_neg (by show ¬ am_kd h a < 104; omega), vp_cell_q]
    congr 2
    funext q
    rw [am_sr_gr]
    unfold updV
    by_cases hq : q = i.toNatClampNeg <;> simp [hq, va_rf])
  exact kk H1 _ u1 u2
theorem am_S_new (hS : va_S (am_A g) s.heap H locs) {H' : Heap} (z : H'.size = H.size + 1) (o : ∀ q, q < H.size → H'[q]? = H[q]?) : va_S (am_A g) s.heap H' locs :=
  ⟨Nat.le_trans hS.1 (by omega), fun x h1 h2 => (o x (Nat.lt_of_lt_of_le h1 hS.1)).trans (hS.2.1 x h1 h2), hS.2.2⟩
theorem am_new_snd {idx ci n w : Nat} (C : am_C p R s m args meth c g M d) (hR : am_R g h H) (hS : va_S (am_A g) s.heap H locs) (hd : decode (am_mt M).2.2.1 pc = .ok (.new idx, 3))
    (hok : (match am_cl[ci]? with | some (C, _, N) => decide (n = N) && am_w w (.classLink (am_on (am_mt M).1) idx C) | none => false) = true) (hcells : cells + 1 ≤ R.cells) (hslots : slots + n ≤ R.slots)
    (kk : ∀ H', am_R g (am_nw h ci 0 n) H' → va_S (am_A g) s.heap H' locs → W p l e R s m args below meth c H' locs (cells + 1) (slots + n) Q (F0 m (pc + 3) ls (.ref (am_ad g (am_sz h)) :: rest))) : W p l e R s m args below meth c H locs cells slots Q (F0 m pc ls rest) := by
  obtain ⟨hx, hb, hml, hr, hown, hts, hlk, hin, hfr, hlo, hK, hN, hE, hbs⟩ := C
  cases hc : am_cl[ci]? with
  | none => rw [hc] at hok; cases hok
  | some q =>
    obtain ⟨CC, T, N⟩ := q
    rw [hc] at hok
    simp only [Bool.and_eq_true, decide_eq_true_eq] at hok
    obtain ⟨rfl, hw⟩ := hok
    have hci : ci < 13 := (List.getElem?_eq_some_iff.mp hc).1
    obtain ⟨hty, hnm, hnf, hon⟩ := am_cl_ty hc
    have hKn := hK.1 ci _ hc
    refine W.newcK hx hb hown (hts _ (am_w_mem hw rfl)) (hts _ (am_inst hc).1) (hts _ (am_inst hc).2) rfl hd hcells hslots hKn.2.1 hR.ad_new.symm fun H1 kC hkC f1 z1 o1 => ?_
    rw [hR.ad_new] at z1 o1
    refine kk H1 (hR.new (Or.inl hci) z1 o1 ?_) (am_S_new hS z1 o1)
    unfold am_ec
    rw [am_nw_kd0, if_pos hci, hnf]
    refine ⟨_, hc, (u_born (am_ty ci) hts (am_uw hc) hKn hkC f1 hty).to (fun j hj => ?_)⟩
    rw [am_vpV hj]
    unfold am_fv
    rw [am_nw_gi0, am_nw_gl0, am_nw_gr0]
    rw [am_dflt (am_srt_ok hci (by rw [hnf]; exact hj))]
    rfl
theorem am_newa_snd {t : ArrayType} {x : Int32} {k : Nat} (C : am_C p R s m args meth c g M d) (hR : am_R g h H) (hS : va_S (am_A g) s.heap H locs) (hd : decode (am_mt M).2.2.1 pc = .ok (.newarray t, 2)) (hok : k = am_akn t ∧ 100 ≤ k) (hn : ¬ x < 0) (hn2 : x.toNatClampNeg ≤ 100000) (hcells : cells + 1 ≤ R.cells) (hslots : slots + x.toNatClampNeg ≤ R.slots)
    (kk : ∀ H', am_R g (am_nw h k x.toNatClampNeg x.toNatClampNeg) H' → va_S (am_A g) s.heap H' locs → W p l e R s m args below meth c H' locs (cells + 1) (slots + x.toNatClampNeg) Q (F0 m (pc + 2) ls (.ref (am_ad g (am_sz h)) :: rest))) : W p l e R s m args below meth c H locs cells slots Q (F0 m pc ls (.int x :: rest)) := by
  obtain ⟨hx, hb, hml, hr, hown, hts, hlk, hin, hfr, hlo, hK, hN, hE, hbs⟩ := C
  obtain ⟨rfl, hk⟩ := hok
  refine va_newaK hx hb (hts _ (am_arrW t hk)) rfl hd rfl hn rfl (by cases t <;> simp [newarray.typeOf, componentBytes] <;> omega) hcells hslots hR.ad_new.symm fun H1 cA f1 z1 o1 _ hNm => ?_
  rw [hR.ad_new] at z1 o1
  refine kk H1 (hR.new (Or.inr ⟨hk, by cases t <;> decide⟩) z1 o1 ?_) (am_S_new hS z1 o1)
  unfold am_ec am_ac
  rw [am_nw_kd0, am_nw_ln0, am_nw_gi0, am_nw_gl0, if_neg (by omega)]
  show H1[am_ad g (am_sz h)]? = some (vp_cell _ _)
  rw [f1]
  cases t
  case int =>
    have := (hK.2 0 _ rfl).2
    rw [show cA = g.2.2.1 0 from Option.some.inj (hNm.symm.trans this)]; rfl
  case long =>
    have := (hK.2 1 _ rfl).2
    rw [show cA = g.2.2.1 1 from Option.some.inj (hNm.symm.trans this)]; rfl
  case byte =>
    have := (hK.2 2 _ rfl).2
    rw [show cA = g.2.2.1 2 from Option.some.inj (hNm.symm.trans this)]; rfl
  case boolean =>
    have := (hK.2 3 _ rfl).2
    rw [show cA = g.2.2.1 3 from Option.some.inj (hNm.symm.trans this)]; rfl
  all_goals exact absurd hk (by decide)
theorem am_aow {s : State} (hN : am_N s) {k : Nat} (h1 : 104 ≤ k) (h2 : k ≤ 108) : va_AO (am_on (am_cmpn k)) s := by
  obtain ⟨-, ⟨a1, a2, a3, a4, a5⟩, -⟩ := hN
  rcases (show k = 104 ∨ k = 105 ∨ k = 106 ∨ k = 107 ∨ k = 108 by omega) with rfl | rfl | rfl | rfl | rfl
  · exact a1
  · exact a2
  · exact a3
  · exact a4
  · exact a5
theorem am_anew_snd {idx k w : Nat} {x : Int32} (C : am_C p R s m args meth c g M d) (hR : am_R g h H) (hS : va_S (am_A g) s.heap H locs) (hd : decode (am_mt M).2.2.1 pc = .ok (.anewarray idx, 3)) (h1 : 104 ≤ k) (h2 : k ≤ 108) (hw : am_w w (.classLink (am_on (am_mt M).1) idx (am_on (am_cmpn k))) = true) (hn : ¬ x < 0) (hn2 : x.toNatClampNeg ≤ 100000) (hcells : cells + 1 ≤ R.cells) (hslots : slots + x.toNatClampNeg ≤ R.slots)
    (kk : ∀ H', am_R g (am_nw h k x.toNatClampNeg x.toNatClampNeg) H' → va_S (am_A g) s.heap H' locs → W p l e R s m args below meth c H' locs (cells + 1) (slots + x.toNatClampNeg) Q (F0 m (pc + 3) ls (.ref (am_ad g (am_sz h)) :: rest))) : W p l e R s m args below meth c H locs cells slots Q (F0 m pc ls (.int x :: rest)) := by
  obtain ⟨hx, hb, hml, hr, hown, hts, hlk, hin, hfr, hlo, hK, hN, hE, hbs⟩ := C
  refine W.anew hx hb hown (hts _ (am_w_mem hw rfl)) (va_AO.use (am_aow hN h1 h2)) rfl hd rfl hn (by omega) hcells hslots fun cA kA comp f1 f2 f3 f4 => ?_
  generalize hH1 : H.push ({ cls := cA, slots := Array.replicate x.toNatClampNeg .null, vm := .none } : Cell) = H1
  have z1 : H1.size = H.size + 1 := by rw [← hH1, Array.size_push]
  have e1 : H1[H.size]? = some (arrV cA x.toNatClampNeg (fun _ => .null)) := by rw [← hH1, Array.getElem?_push_size, ← arrV_new]
  have o1 : ∀ q : Nat, q < H.size → H1[q]? = H[q]? := fun q hq => by rw [← hH1, Array.getElem?_push, if_neg (Nat.ne_of_lt hq)]
  rw [← hR.ad_new]
  refine kk H1 (hR.new (Or.inr ⟨by omega, by omega⟩) z1 o1 ?_) (am_S_new hS z1 o1)
  unfold am_ec am_ac
  rw [am_nw_kd0, am_nw_ln0, am_nw_gr0, if_neg (by omega), if_neg (by omega), if_neg (by omega)]
  show H1[am_ad g (am_sz h)]? = some (vp_cell _ _)
  rw [hR.ad_new, e1]
  rcases (show k = 104 ∨ k = 105 ∨ k = 106 ∨ k = 107 ∨ k = 108 by omega) with rfl | rfl | rfl | rfl | rfl
  · obtain ⟨_, _, _, _, _, q5⟩ := (hK.2 4 _ rfl).2
    rw [show cA = g.2.2.1 4 from Option.some.inj (f1.symm.trans q5)]; rfl
  · obtain ⟨_, _, _, _, _, q5⟩ := (hK.2 5 _ rfl).2
    rw [show cA = g.2.2.1 5 from Option.some.inj (f1.symm.trans q5)]; rfl
  · obtain ⟨_, _, _, _, _, q5⟩ := (hK.2 6 _ rfl).2
    rw [show cA = g.2.2.1 6 from Option.some.inj (f1.symm.trans q5)]; rfl
  · obtain ⟨_, _, _, _, _, q5⟩ := (hK.2 7 _ rfl).2
    rw [show cA = g.2.2.1 7 from Option.some.inj (f1.symm.trans q5)]; rfl
  · obtain ⟨_, _, _, _, _, q5⟩ := (hK.2 8 _ rfl).2
    rw [show cA = g.2.2.1 8 from Option.some.inj (f1.symm.trans q5)]; rfl
end SNDN
