theorem am_si_gi (h : AH) (a k : Nat) (v : Int32) (b j : Nat) : am_gi (am_si h a k v) b j = if b = a ∧ j = k then v else am_gi h b j := rfl
theorem am_sl_gl (h : AH) (a k : Nat) (v : Int64) (b j : Nat) : am_gl (am_sl h a k v) b j = if b = a ∧ j = k then v else am_gl h b j := rfl
theorem am_sr_gr (h : AH) (a k : Nat) (v : Option Nat) (b j : Nat) : am_gr (am_sr h a k v) b j = if b = a ∧ j = k then v else am_gr h b j := rfl
theorem am_si_o {h : AH} {a k : Nat} {v : Int32} {b : Nat} (hb : b ≠ a) : am_gi (am_si h a k v) b = am_gi h b := by
  funext j; rw [am_si_gi, if_neg (fun q => hb q.1)]
theorem am_sl_o {h : AH} {a k : Nat} {v : Int64} {b : Nat} (hb : b ≠ a) : am_gl (am_sl h a k v) b = am_gl h b := by
  funext j; rw [am_sl_gl, if_neg (fun q => hb q.1)]
theorem am_sr_o {h : AH} {a k : Nat} {v : Option Nat} {b : Nat} (hb : b ≠ a) : am_gr (am_sr h a k v) b = am_gr h b := by
  funext j; rw [am_sr_gr, if_neg (fun q => hb q.1)]
theorem am_vpV {g : GV} {h : AH} {a ci N j : Nat} (hj : j < N) : vp_V (am_fs g h a ci N) j = am_fv g h a ci j := by
  simp [vp_V, am_fs, List.getD, hj]
section SNDH
variable {p : Program} {l : Launch} {e : Env} {R : Room} {s : State} {m : MethodId} {args : Array Value} {below : List Frame} {meth : Method} {c : Code} {H : Heap} {locs : List Loc} {cells slots : Nat} {Q : State → Prop}
variable {g : GV} {M d pc : Nat} {ls : Array Slot} {h : AH} {rest : List Value}
theorem am_get_snd {idx ci k w a : Nat} (C : am_C p R s m args meth c g M d) (hR : am_R g h H) (hd : decode (am_mt M).2.2.1 pc = .ok (.getfield idx, 3)) (hF : am_okF (am_on (am_mt M).1) idx ci k w = true) (hk : am_kd h a = ci)
    (kk : W p l e R s m args below meth c H locs cells slots Q (F0 m (pc + 3) ls (am_fv g h a ci k :: rest))) : W p l e R s m args below meth c H locs cells slots Q (F0 m pc ls (.ref (am_ad g a) :: rest)) := by
  obtain ⟨hx, hb, hml, hr, hown, hts, hlk, hin, hfr, hlo, hK, hN, hE, hbs⟩ := C
  unfold am_okF at hF
  cases hc : am_cl[ci]? with
  | none => rw [hc] at hF; cases hF
  | some q =>
    obtain ⟨CC, T, N⟩ := q
    rw [hc] at hF
    simp only [Bool.and_eq_true, decide_eq_true_eq] at hF
    obtain ⟨⟨hkN, hw⟩, hT⟩ := hF
    have hci : ci < 13 := (List.getElem?_eq_some_iff.mp hc).1
    obtain ⟨h6, hsz, hat⟩ := hR.obj hk hci
    have hnf : am_nf ci = N := (am_cl_ty hc).2.2.1
    rw [hnf] at hat
    have hP : va_P (am_D g) am_cl [(am_ad g a, .inr (ci, am_fs g h a ci N))] H := by
      intro j q hq
      have hz : j < 1 := (List.getElem?_eq_some_iff.mp hq).1
      rw [show j = 0 by omega] at hq
      cases hq
      exact hat
    exact va_get (D := am_D g) (C := CC) (T := T) (N := N) (ref := CC) hx hb hts (am_uw hc) hown hK hP 0 rfl hc k hkN (hts _ (am_w_mem hw rfl)) (fun x h9 => by rw [hT] at h9; exact h9) (v := am_fv g h a ci k) (by simp [am_fs, hkN]) hd kk
theorem am_put_snd {idx ci k w a : Nat} {v : Value} {h' : AH} (C : am_C p R s m args meth c g M d) (hR : am_R g h H) (hS : va_S (am_A g) s.heap H locs) (hd : decode (am_mt M).2.2.1 pc = .ok (.putfield idx, 3)) (hF : am_okF (am_on (am_mt M).1) idx ci k w = true)
    (hfin : (match am_cl[ci]? with | some (_, T, _) => !(T k).2.2.2 || (decide ((am_mt M).1 = ci) && decide ((am_mt M).2.1.name = "<init>")) | none => false) = true) (hk : am_kd h a = ci) (hv : narrow (am_ty ci k) v = v ∧ fits (am_ty ci k) v = true)
    (e1 : am_sz h' = am_sz h) (e2 : am_kd h' = am_kd h) (e3 : am_ln h' = am_ln h) (e4 : ∀ b, b ≠ a → am_gi h' b = am_gi h b) (e5 : ∀ b, b ≠ a → am_gl h' b = am_gl h b) (e6 : ∀ b, b ≠ a → am_gr h' b = am_gr h b) (e7 : ∀ j, am_fv g h' a ci j = if j = k then v else am_fv g h a ci j)
    (kk : ∀ H' locs', am_R g h' H' → va_S (am_A g) s.heap H' locs' → W p l e R s m args below meth c H' locs' cells slots Q (F0 m (pc + 3) ls rest)) : W p l e R s m args below meth c H locs cells slots Q (F0 m pc ls (v :: .ref (am_ad g a) :: rest)) := by
  obtain ⟨hx, hb, hml, hr, hown, hts, hlk, hin, hfr, hlo, hK, hN, hE, hbs⟩ := C
  unfold am_okF at hF
  cases hc : am_cl[ci]? with
  | none => rw [hc] at hF; cases hF
  | some q =>
    obtain ⟨CC, T, N⟩ := q
    rw [hc] at hF hfin
    simp only [Bool.and_eq_true, decide_eq_true_eq] at hF
    obtain ⟨⟨hkN, hw⟩, hT⟩ := hF
    have hci : ci < 13 := (List.getElem?_eq_some_iff.mp hc).1
    obtain ⟨h6, hsz, hat⟩ := hR.obj hk hci
    obtain ⟨hty, hnm, hnf, hon⟩ := am_cl_ty hc
    rw [hnf] at hat
    have hap := va_apart (own := CC) hts (am_uw hc) (am_ty ci) hty hnm hK hc
    obtain ⟨r, h1, cell, q1, q2, q3, q4⟩ := hat
    have hr : r = (CC, T, N) := Option.some.inj (h1.symm.trans hc)
    subst hr
    obtain ⟨hSl, hfc, kC, hkC, hkind⟩ := hK.1 ci _ hc
    obtain ⟨cf, kf, fi, f, hi, hsl⟩ := hSl k hkN
    have hi' : s.fieldFound? CC (T k).2.1 (T k).2.2.1 = some (cf, kf, fi, f) := by rw [← hT]; exact hi
    have hst := (u_facts hfc hkC (u_lays hts (am_uw hc) hkN) hi).1
    have hlink := hts _ (am_w_mem hw rfl)
    have hend : ∀ H' : Heap, H'[am_ad g a]? = some (cell.setSlot f.slot v) → H'.size = H.size → (∀ q, q ≠ am_ad g a → H'[q]? = H[q]?) → W p l e R s m args below meth c H' (locs ++ [⟨am_ad g a, f.slot⟩]) cells slots Q (F0 m (pc + 3) ls rest) := by
      intro H' f1 f2 f3
      rw [hsl] at f1 ⊢
      refine kk H' _ (hR.set h6 e1 e2 e3 e4 e5 e6 f2 f3 ?_) (hS.put f2 f3 (by show g.2.2.2.2.1 ≤ _; rw [am_ad_in h6]; omega))
      unfold am_ec
      rw [e2, hk, if_pos hci]
      refine ⟨_, hc, t_OB.to (V := updV (vp_V (am_fs g h a ci N)) k v) ⟨_, f1, q2, q3, t_set q4 hap hkN v⟩ (fun j hj => ?_)⟩
      rw [hnf, am_vpV hj, e7 j]
      unfold updV
      by_cases ej : j = k
      · rw [if_pos ej, if_pos ej]
      · rw [if_neg ej, if_neg ej, am_vpV hj]
    by_cases hf : (T k).2.2.2 = true
    · simp only [hf, Bool.not_true, Bool.false_or, Bool.and_eq_true, decide_eq_true_eq] at hfin
      have hlay := hts _ (am_uw hc _ (u_in_lay hkN))
      unfold u_lay at hlay
      rw [if_pos hf] at hlay
      have hcf : m.cls = cf := by
        obtain ⟨_, _, c', _, _, _, -, -, hf', -, -, -, hown2, -⟩ := Cond.laysFinal_spec hlay
        have z1 : c' = cf := by have := hi.symm.trans hf'; simp at this; exact this.1.symm
        rw [hT, ← hon, ← hfin.1] at hown2
        rw [← z1]; exact Option.some.inj (hown.symm.trans hown2)
      have h6' := u_fits hfc hkC hkind (Or.inr hlay) hi (hty k hkN) hv.1 hv.2
      exact W.putFinK hx hb hown hlink hi' hst hcf (hin hfin.2) (by rw [q2]; exact h6') q1 q3 (by rw [hsl]; exact k2_hasslot (q4 k hkN)) rfl rfl hd hend
    · have hlay := hts _ (am_uw hc _ (u_in_lay hkN))
      unfold u_lay at hlay
      rw [if_neg hf] at hlay
      have h6' := u_store hfc hkC hkind hlay hi (hty k hkN) hv.1 hv.2
      exact W.putK hx hb (f := f) ⟨hown, hlink, ⟨_, _, _, hi'⟩, hst⟩ (by rw [q2]; exact h6') q1 q3 (by rw [hsl]; exact k2_hasslot (q4 k hkN)) rfl rfl hd hend
theorem am_ty_at {s : State} (hK : va_K (am_D g) am_cl (am_tys g) s) {k : Nat} {ty : FieldType} (h : (am_tys g)[k]? = some (g.2.2.1 k, ty)) (n : Nat) (z : Nat → Value) : s.isArrayOf (arrV (g.2.2.1 k) n z) ty := (hK.2 k _ h).1 n z
theorem am_arr_i (hR : am_R g h H) {a k : Nat} (hk : am_kd h a = 100 + k) (hk1 : k < 4) (hk2 : k ≠ 1) (h6 : 6 ≤ a) : H[am_ad g a]? = some (arrV (g.2.2.1 k) (am_ln h a) (fun j => .int (am_gi h a j))) := by
  obtain ⟨-, z⟩ := hR.arr (a := a) (by omega) h6
  rw [z]
  unfold am_ac
  rw [if_neg (by omega), if_pos (by omega), hk, show 100 + k - 100 = k by omega]
  rfl
theorem am_arr_l (hR : am_R g h H) {a : Nat} (hk : am_kd h a = 101) (h6 : 6 ≤ a) : H[am_ad g a]? = some (arrV (g.2.2.1 1) (am_ln h a) (fun j => .long (am_gl h a j))) := by
  obtain ⟨-, z⟩ := hR.arr (a := a) (by omega) h6
  rw [z]
  unfold am_ac
  rw [if_pos hk, hk]
  rfl
theorem am_arr_r (hR : am_R g h H) {a k : Nat} (hk : am_kd h a = 100 + k) (hk1 : 4 ≤ k) (hk2 : k ≤ 9) (h6 : 6 ≤ a) : H[am_ad g a]? = some (arrV (g.2.2.1 k) (am_ln h a) (fun j => va_rf ((am_gr h a j).map (am_ad g)))) := by
  obtain ⟨-, z⟩ := hR.arr (a := a) (by omega) h6
  rw [z]
  unfold am_ac
  rw [if_neg (by omega), if_neg (by omega), hk, show 100 + k - 100 = k by omega]
  rfl
theorem am_six {h : AH} (hX : am_X0 h) {a : Nat} (h1 : am_kd h a ≠ 100) (h2 : am_kd h a ≠ 200) (h3 : am_kd h a ≠ 201) : 6 ≤ a := by
  obtain ⟨x1, x2, x3, x4, x5, x6, x7, x8, x9⟩ := hX
  rcases Nat.lt_or_ge a 6 with q | q
  · rcases (show a = 0 ∨ a = 1 ∨ a = 2 ∨ a = 3 ∨ a = 4 ∨ a = 5 by omega) with rfl | rfl | rfl | rfl | rfl | rfl <;> omega
  · exact q
theorem am_iald_snd {a : Nat} {i : Int32} (C : am_C p R s m args meth c g M d) (hR : am_R g h H) (hS : va_S (am_A g) s.heap H locs) (hd : decode (am_mt M).2.2.1 pc = .ok (.iaload, 1)) (hk : am_kd h a = 100) (hi : am_in i (am_ln h a))
    (kk : W p l e R s m args below meth c H locs cells slots Q (F0 m (pc + 1) ls (.int (am_gi h a i.toNatClampNeg) :: rest))) : W p l e R s m args below meth c H locs cells slots Q (F0 m pc ls (.int i :: .ref (am_ad g a) :: rest)) := by
  obtain ⟨hx, hb, hml, hr, hown, hts, hlk, hin, hfr, hlo, hK, hN, hE, hbs⟩ := C
  by_cases h6 : 6 ≤ a
  · have hlt : i.toNatClampNeg < am_ln h a := Nat.not_le.mp fun q => hi (Or.inr q)
    exact W.iald (v := .int (am_gi h a i.toNatClampNeg)) hx hb (am_arr_i hR (k := 0) hk (by omega) (by omega) h6) (am_ty_at hK rfl _ _) (fun q => by cases q) (by rw [arrV_size]; exact hi) (by rw [arrV_read _ _ hlt]) rfl rfl hd kk
  · obtain ⟨⟨x1, x2, x3, x4, x5, x6, x7, x8, x9⟩, -, ⟨⟨y1, y2⟩, ⟨y3, y4⟩, -⟩, -⟩ := hR
    rcases (show a = 0 ∨ a = 1 ∨ a = 2 ∨ a = 3 ∨ a = 4 ∨ a = 5 by omega) with rfl | rfl | rfl | rfl | rfl | rfl <;> try omega
    · rw [y1] at hi
      rw [y2] at kk
      exact va_sld hx hb hE.1.1 (Nat.lt_of_lt_of_le hE.1.2 hbs) (fun q => Nat.lt_irrefl _ (Nat.lt_of_le_of_lt q hE.1.2)) hS hi hd kk
    · rw [y3] at hi
      rw [y4] at kk
      exact va_ti hx hb hE.2.1.2 hS hi rfl hd kk
theorem am_lald_snd {a : Nat} {i : Int32} (C : am_C p R s m args meth c g M d) (hR : am_R g h H) (hd : decode (am_mt M).2.2.1 pc = .ok (.laload, 1)) (hk : am_kd h a = 101) (hi : am_in i (am_ln h a))
    (kk : W p l e R s m args below meth c H locs cells slots Q (F0 m (pc + 1) ls (.long (am_gl h a i.toNatClampNeg) :: rest))) : W p l e R s m args below meth c H locs cells slots Q (F0 m pc ls (.int i :: .ref (am_ad g a) :: rest)) := by
  obtain ⟨hx, hb, hml, hr, hown, hts, hlk, hin, hfr, hlo, hK, hN, hE, hbs⟩ := C
  have h6 : 6 ≤ a := am_six hR.1 (by omega) (by omega) (by omega)
  have hlt : i.toNatClampNeg < am_ln h a := Nat.not_le.mp fun q => hi (Or.inr q)
  exact W.lald (v := .long (am_gl h a i.toNatClampNeg)) hx hb (am_arr_l hR hk h6) (am_ty_at hK rfl _ _) (fun q => by cases q) (by rw [arrV_size]; exact hi) (by rw [arrV_read _ _ hlt]) rfl rfl hd kk
theorem am_bald_snd {a : Nat} {i : Int32} (C : am_C p R s m args meth c g M d) (hR : am_R g h H) (hd : decode (am_mt M).2.2.1 pc = .ok (.baload, 1)) (hk : am_kd h a = 102 ∨ am_kd h a = 103) (hi : am_in i (am_ln h a))
    (kk : W p l e R s m args below meth c H locs cells slots Q (F0 m (pc + 1) ls (.int (am_gi h a i.toNatClampNeg) :: rest))) : W p l e R s m args below meth c H locs cells slots Q (F0 m pc ls (.int i :: .ref (am_ad g a) :: rest)) := by
  obtain ⟨hx, hb, hml, hr, hown, hts, hlk, hin, hfr, hlo, hK, hN, hE, hbs⟩ := C
  have h6 : 6 ≤ a := am_six hR.1 (by omega) (by omega) (by omega)
  have hlt : i.toNatClampNeg < am_ln h a := Nat.not_le.mp fun q => hi (Or.inr q)
  rcases hk with hk | hk
  · exact W.bald (v := .int (am_gi h a i.toNatClampNeg)) hx hb (am_arr_i hR (k := 2) hk (by omega) (by omega) h6) (am_ty_at hK rfl _ _) (fun q => by cases q) (by rw [arrV_size]; exact hi) (by rw [arrV_read _ _ hlt]) rfl rfl hd kk
  · exact W.zald (v := .int (am_gi h a i.toNatClampNeg)) hx hb (am_arr_i hR (k := 3) hk (by omega) (by omega) h6) (am_ty_at hK rfl _ _) (fun q => by cases q) (by rw [arrV_size]; exact hi) (by rw [arrV_read _ _ hlt]) rfl rfl hd kk
theorem am_rt {k : Nat} (h1 : 4 ≤ k) (h2 : k ≤ 9) : ∃ ty, (am_tys g)[k]? = some (g.2.2.1 k, ty) ∧ ty.isReference = true := by
  rcases (show k = 4 ∨ k = 5 ∨ k = 6 ∨ k = 7 ∨ k = 8 ∨ k = 9 by omega) with rfl | rfl | rfl | rfl | rfl | rfl <;> exact ⟨_, rfl, rfl⟩
theorem am_aald_snd {a b : Nat} {i : Int32} (C : am_C p R s m args meth c g M d) (hR : am_R g h H) (hd : decode (am_mt M).2.2.1 pc = .ok (.aaload, 1)) (hk : 104 ≤ am_kd h a ∧ am_kd h a ≤ 109) (hi : am_in i (am_ln h a)) (hb1 : am_gr h a i.toNatClampNeg = some b)
    (kk : W p l e R s m args below meth c H locs cells slots Q (F0 m (pc + 1) ls (.ref (am_ad g b) :: rest))) : W p l e R s m args below meth c H locs cells slots Q (F0 m pc ls (.int i :: .ref (am_ad g a) :: rest)) := by
  obtain ⟨hx, hb, hml, hr, hown, hts, hlk, hin, hfr, hlo, hK, hN, hE, hbs⟩ := C
  have h6 : 6 ≤ a := am_six hR.1 (by omega) (by omega) (by omega)
  have hlt : i.toNatClampNeg < am_ln h a := Nat.not_le.mp fun q => hi (Or.inr q)
  obtain ⟨k, hk'⟩ : ∃ k, am_kd h a = 100 + k := ⟨am_kd h a - 100, by omega⟩
  obtain ⟨ty, ht1, ht2⟩ := am_rt (g := g) (k := k) (by omega) (by omega)
  exact W.aald (v := .ref (am_ad g b)) (ty := ty) hx hb (am_arr_r hR hk' (by omega) (by omega) h6) (am_ty_at hK ht1 _ _) ht2 (fun q => by cases q) (by rw [arrV_size]; exact hi) (by rw [arrV_read _ _ hlt, hb1]; rfl) rfl rfl hd kk
theorem am_alen_snd {a : Nat} (C : am_C p R s m args meth c g M d) (hR : am_R g h H) (hS : va_S (am_A g) s.heap H locs) (hd : decode (am_mt M).2.2.1 pc = .ok (.arraylength, 1)) (hk : 100 ≤ am_kd h a ∧ am_kd h a ≤ 109)
    (kk : W p l e R s m args below meth c H locs cells slots Q (F0 m (pc + 1) ls (.int (Int32.ofNat (am_ln h a)) :: rest))) : W p l e R s m args below meth c H locs cells slots Q (F0 m pc ls (.ref (am_ad g a) :: rest)) := by
  obtain ⟨hx, hb, hml, hr, hown, hts, hlk, hin, hfr, hlo, hK, hN, hE, hbs⟩ := C
  by_cases h6 : 6 ≤ a
  · obtain ⟨k, hk'⟩ : ∃ k, am_kd h a = 100 + k := ⟨am_kd h a - 100, by omega⟩
    rcases (show k = 1 ∨ (k < 4 ∧ k ≠ 1) ∨ (4 ≤ k ∧ k ≤ 9) by omega) with rfl | ⟨z1, z2⟩ | ⟨z1, z2⟩
    · exact W.alen (n := Int32.ofNat (am_ln h a)) hx hb (am_arr_l hR hk' h6) (am_ty_at hK rfl _ _) (by rw [arrV_size] <;> rfl) rfl rfl hd kk
    · rcases (show k = 0 ∨ k = 2 ∨ k = 3 by omega) with rfl | rfl | rfl
      · exact W.alen (n := Int32.ofNat (am_ln h a)) hx hb (am_arr_i hR hk' z1 z2 h6) (am_ty_at hK rfl _ _) (by rw [arrV_size] <;> rfl) rfl rfl hd kk
      · exact W.alen (n := Int32.ofNat (am_ln h a)) hx hb (am_arr_i hR hk' z1 z2 h6) (am_ty_at hK rfl _ _) (by rw [arrV_size] <;> rfl) rfl rfl hd kk
      · exact W.alen (n := Int32.ofNat (am_ln h a)) hx hb (am_arr_i hR hk' z1 z2 h6) (am_ty_at hK rfl _ _) (by rw [arrV_size] <;> rfl) rfl rfl hd kk
    · obtain ⟨ty, ht1, ht2⟩ := am_rt (g := g) z1 z2
      exact W.alen (n := Int32.ofNat (am_ln h a)) hx hb (am_arr_r hR hk' z1 z2 h6) (am_ty_at hK ht1 _ _) (by rw [arrV_size] <;> rfl) rfl rfl hd kk
  · obtain ⟨⟨x1, x2, x3, x4, x5, x6, x7, x8, x9⟩, -, ⟨⟨y1, y2⟩, ⟨y3, y4⟩, -⟩, -⟩ := hR
    rcases (show a = 0 ∨ a = 1 ∨ a = 2 ∨ a = 3 ∨ a = 4 ∨ a = 5 by omega) with rfl | rfl | rfl | rfl | rfl | rfl <;> try omega
    · rw [y1] at kk
      exact va_slen hx hb hE.1.1 (Nat.lt_of_lt_of_le hE.1.2 hbs) (fun q => Nat.lt_irrefl _ (Nat.lt_of_le_of_lt q hE.1.2)) hS hd kk
    · rw [y3] at kk
      exact va_tlen hx hb hE.2.1.2 hS rfl hd kk
/-- a place of a row of ints is written -/
theorem am_setA (hR : am_R g h H) (hS : va_S (am_A g) s.heap H locs) {a j : Nat} {h' : AH} {H' : Heap} {f : Nat → Value} {cA : ClassId} (h6 : 6 ≤ a) (hk : ¬ am_kd h a < 13) (e1 : am_sz h' = am_sz h) (e2 : am_kd h' = am_kd h) (e3 : am_ln h' = am_ln h) (e4 : ∀ b, b ≠ a → am_gi h' b = am_gi h b) (e5 : ∀ b, b ≠ a → am_gl h' b = am_gl h b) (e6 : ∀ b, b ≠ a → am_gr h' b = am_gr h b)
    (z : H'.size = H.size) (oq : ∀ q, q ≠ am_ad g a → H'[q]? = H[q]?) (hc : H'[am_ad g a]? = some (vp_cell (g.2.2.1 (am_kd h a - 100)) (am_ln h a, am_ac g h' a))) : am_R g h' H' ∧ va_S (am_A g) s.heap H' (locs ++ [⟨am_ad g a, j⟩]) := by
  refine ⟨hR.set h6 e1 e2 e3 e4 e5 e6 z oq ?_, hS.put z oq (by show g.2.2.2.2.1 ≤ _; rw [am_ad_in h6]; omega)⟩
  unfold am_ec
  rw [e2, e3, if_neg hk]
  exact hc
theorem am_iast_snd {a : Nat} {i x : Int32} (C : am_C p R s m args meth c g M d) (hR : am_R g h H) (hS : va_S (am_A g) s.heap H locs) (hd : decode (am_mt M).2.2.1 pc = .ok (.iastore, 1)) (hk : am_kd h a = 100) (h6 : 6 ≤ a) (hi : am_in i (am_ln h a))
    (kk : ∀ H' locs', am_R g (am_si h a i.toNatClampNeg x) H' → va_S (am_A g) s.heap H' locs' → W p l e R s m args below meth c H' locs' cells slots Q (F0 m (pc + 1) ls rest)) : W p l e R s m args below meth c H locs cells slots Q (F0 m pc ls (.int x :: .int i :: .ref (am_ad g a) :: rest)) := by
  obtain ⟨hx, hb, hml, hr, hown, hts, hlk, hin, hfr, hlo, hK, hN, hE, hbs⟩ := C
  refine W.iast hx hb (am_arr_i hR (k := 0) hk (by omega) (by omega) h6) (am_ty_at hK rfl _ _) (fun q => by cases q) (by rw [arrV_size]; exact hi) rfl rfl hd fun H1 f1 z oq => ?_
  obtain ⟨u1, u2⟩ := am_setA (f := fun _ => .null) (cA := 0) (j := i.toNatClampNeg) (h' := am_si h a i.toNatClampNeg x) hR hS h6 (by omega) rfl rfl rfl (fun b hb => am_si_o hb) (fun _ _ => rfl) (fun _ _ => rfl) z oq (by
    rw [f1, arrV_store, hk]
    unfold am_ac
    rw [if_neg (by show ¬ am_kd h a = 101; omega), if_pos (by show am_kd h a < 104; omega), vp_cell_i]
    congr 2
    funext q
    rw [am_si_gi]
    unfold updV
    by_cases hq : q = i.toNatClampNeg <;> simp [hq])
  exact kk H1 _ u1 u2
theorem am_last_snd {a : Nat} {i : Int32} {x : Int64} (C : am_C p R s m args meth c g M d) (hR : am_R g h H) (hS : va_S (am_A g) s.heap H locs) (hd : decode (am_mt M).2.2.1 pc = .ok (.lastore, 1)) (hk : am_kd h a = 101) (hi : am_in i (am_ln h a))
    (kk : ∀ H' locs', am_R g (am_sl h a i.toNatClampNeg x) H' → va_S (am_A g) s.heap H' locs' → W p l e R s m args below meth c H' locs' cells slots Q (F0 m (pc + 1) ls rest)) : W p l e R s m args below meth c H locs cells slots Q (F0 m pc ls (.long x :: .int i :: .ref (am_ad g a) :: rest)) := by
  obtain ⟨hx, hb, hml, hr, hown, hts, hlk, hin, hfr, hlo, hK, hN, hE, hbs⟩ := C
  have h6 : 6 ≤ a := am_six hR.1 (by omega) (by omega) (by omega)
  refine W.last hx hb (am_arr_l hR hk h6) (am_ty_at hK rfl _ _) (fun q => by cases q) (by rw [arrV_size]; exact hi) rfl rfl hd fun H1 f1 z oq => ?_
  obtain ⟨u1, u2⟩ := am_setA (f := fun _ => .null) (cA := 0) (j := i.toNatClampNeg) (h' := am_sl h a i.toNatClampNeg x) hR hS h6 (by omega) rfl rfl rfl (fun _ _ => rfl) (fun b hb => am_sl_o hb) (fun _ _ => rfl) z oq (by
    rw [f1, arrV_store, hk]
    unfold am_ac
    rw [if_pos (by show am_kd h a = 101; omega), vp_cell_l]
    congr 2
    funext q
    rw [am_sl_gl]
    unfold updV
    by_cases hq : q = i.toNatClampNeg <;> simp [hq])
  exact kk H1 _ u1 u2
end SNDH
