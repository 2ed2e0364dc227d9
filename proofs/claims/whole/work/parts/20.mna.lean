theorem am_rows_old {h : AH} {k n b : Nat} (hb : b < am_sz h ∨ am_sz h + n ≤ b) : am_kd (am_rows h k n) b = am_kd h b ∧ am_ln (am_rows h k n) b = am_ln h b ∧ am_gi (am_rows h k n) b = am_gi h b ∧ am_gl (am_rows h k n) b = am_gl h b ∧ am_gr (am_rows h k n) b = am_gr h b := by
  induction n with
  | zero => exact ⟨rfl, rfl, rfl, rfl, rfl⟩
  | succ n ih =>
    have e := (am_rows_sz h k n).1
    have hne : b ≠ am_sz (am_rows h k n) := by omega
    obtain ⟨i1, i2, i3, i4, i5⟩ := ih (by omega)
    show am_kd (am_nw (am_rows h k n) 101 k k) b = _ ∧ am_ln (am_nw (am_rows h k n) 101 k k) b = _ ∧ am_gi (am_nw (am_rows h k n) 101 k k) b = _ ∧ am_gl (am_nw (am_rows h k n) 101 k k) b = _ ∧ am_gr (am_nw (am_rows h k n) 101 k k) b = _
    exact ⟨(am_nw_kd hne).trans i1, (am_nw_ln hne).trans i2, (am_nw_gi hne).trans i3, (am_nw_gl hne).trans i4, (am_nw_gr hne).trans i5⟩
theorem am_rows_new {h : AH} {k n j : Nat} (hj : j < n) : am_kd (am_rows h k n) (am_sz h + j) = 101 ∧ am_ln (am_rows h k n) (am_sz h + j) = k ∧ am_gl (am_rows h k n) (am_sz h + j) = fun _ => 0 := by
  induction n with
  | zero => omega
  | succ n ih =>
    have e := (am_rows_sz h k n).1
    show am_kd (am_nw (am_rows h k n) 101 k k) _ = _ ∧ am_ln (am_nw (am_rows h k n) 101 k k) _ = _ ∧ am_gl (am_nw (am_rows h k n) 101 k k) _ = _
    by_cases hjn : j = n
    · subst hjn
      rw [← e]
      exact ⟨am_nw_kd0, am_nw_ln0, am_nw_gl0⟩
    · obtain ⟨i1, i2, i3⟩ := ih (by omega)
      have hne : am_sz h + j ≠ am_sz (am_rows h k n) := by omega
      exact ⟨(am_nw_kd hne).trans i1, (am_nw_ln hne).trans i2, (am_nw_gl hne).trans i3⟩
theorem am_outer (c : ClassId) (N h0 : Nat) : ∀ i : Nat, Jvm.Free.Multi.outerC c N h0 i = arrV c N (fun j => va_rf (if j < i then some (h0 + 1 + j) else none))
  | 0 => by
    show ({ cls := c, slots := Array.replicate N .null, vm := .none } : Cell) = _
    rw [arrV_new]
    refine congrArg (arrV c N) (funext fun j => ?_)
    simp [va_rf]
  | i + 1 => by
    show (Jvm.Free.Multi.outerC c N h0 i).setSlot i (.ref (h0 + 1 + i)) = _
    rw [am_outer c N h0 i, arrV_store]
    refine congrArg (arrV c N) (funext fun j => ?_)
    by_cases e : j = i
    · subst e
      simp [updV, va_rf]
    · by_cases h : j < i
      · simp [updV, e, h, Nat.lt_succ_of_lt h]
      · simp [updV, e, h, show ¬ j < i + 1 by omega]
theorem am_mna_R {g : GV} {h : AH} {H F : Heap} {n k : Nat} (hR : am_R g h H) (z : F.size = H.size + 1 + n) (o : ∀ q, q < H.size → F[q]? = H[q]?) (c1 : F[H.size]? = some (arrV (g.2.2.1 9) n (fun j => va_rf (if j < n then some (H.size + 1 + j) else none)))) (c2 : ∀ j, j < n → F[H.size + 1 + j]? = some (arrV (g.2.2.1 1) k (fun _ => .long 0))) : am_R g (am_mna h n k) F := by
  have hnew := hR.ad_new
  have hsz := (am_rows_sz (am_nw h 109 n n) k n).1
  have hs1 : am_sz (am_nw h 109 n n) = am_sz h + 1 := rfl
  have hsm : am_sz (am_mna h n k) = am_sz h + 1 + n := hsz
  -- what was there, is there
  have old : ∀ b, b < am_sz h ∨ am_sz h + 1 + n ≤ b → am_kd (am_mna h n k) b = am_kd h b ∧ am_ln (am_mna h n k) b = am_ln h b ∧ am_gi (am_mna h n k) b = am_gi h b ∧ am_gl (am_mna h n k) b = am_gl h b ∧ am_gr (am_mna h n k) b = am_gr h b := by
    intro b hb
    obtain ⟨i1, i2, i3, i4, i5⟩ := am_rows_old (h := am_nw h 109 n n) (k := k) (n := n) (b := b) (by rw [hs1]; omega)
    have hne : b ≠ am_sz h := by omega
    refine ⟨i1.trans (am_nw_kd hne), i2.trans (am_nw_ln hne), i3.trans (am_nw_gi hne), i4.trans (am_nw_gl hne), ?_⟩
    funext q
    show (if b = am_sz h then _ else _) = _
    rw [if_neg hne]
    exact congrFun (i5.trans (am_nw_gr hne)) q
  have k0 : am_kd (am_mna h n k) (am_sz h) = 109 := ((am_rows_old (h := am_nw h 109 n n) (k := k) (n := n) (b := am_sz h) (by rw [hs1]; omega)).1).trans am_nw_kd0
  have l0 : am_ln (am_mna h n k) (am_sz h) = n := ((am_rows_old (h := am_nw h 109 n n) (k := k) (n := n) (b := am_sz h) (by rw [hs1]; omega)).2.1).trans am_nw_ln0
  have r0 : am_gr (am_mna h n k) (am_sz h) = fun j => if j < n then some (am_sz h + 1 + j) else none := by funext q; exact if_pos rfl
  have kj : ∀ j, j < n → am_kd (am_mna h n k) (am_sz h + 1 + j) = 101 ∧ am_ln (am_mna h n k) (am_sz h + 1 + j) = k ∧ am_gl (am_mna h n k) (am_sz h + 1 + j) = fun _ => 0 := fun j hj => am_rows_new (h := am_nw h 109 n n) hj
  obtain ⟨⟨x1, x2, x3, x4, x5, x6, x7, x8, x9⟩, r2, rx, r3⟩ := hR
  have ex : ∀ b, b < 6 → am_kd (am_mna h n k) b = am_kd h b ∧ am_ln (am_mna h n k) b = am_ln h b ∧ am_gi (am_mna h n k) b = am_gi h b ∧ am_gl (am_mna h n k) b = am_gl h b ∧ am_gr (am_mna h n k) b = am_gr h b := fun b hb => old b (by omega)
  refine ⟨⟨by omega, by rw [(ex 0 (by omega)).1]; exact x2, by rw [(ex 1 (by omega)).1]; exact x3, by rw [(ex 2 (by omega)).1]; exact x4, by rw [(ex 3 (by omega)).1]; exact x5, by rw [(ex 4 (by omega)).1]; exact x6, by rw [(ex 5 (by omega)).1]; exact x7, fun a ha => by rw [(old a (by omega)).1]; exact x8 a (by omega), fun a h6 ha => ?_⟩, by omega, ?_, fun a h6 ha => ?_⟩
  · rcases Nat.lt_or_ge a (am_sz h) with q | q
    · rw [(old a (by omega)).1]; exact x9 a h6 q
    · by_cases e : a = am_sz h
      · rw [e, k0]; omega
      · obtain ⟨j, rfl⟩ : ∃ j, a = am_sz h + 1 + j := ⟨a - am_sz h - 1, by omega⟩
        rw [(kj j (by omega)).1]; omega
  · unfold am_HX
    rw [(ex 0 (by omega)).2.1, (ex 0 (by omega)).2.2.1, (ex 1 (by omega)).2.1, (ex 1 (by omega)).2.2.1, (ex 3 (by omega)).2.1, (ex 3 (by omega)).2.2.1, (ex 5 (by omega)).2.1, (ex 5 (by omega)).2.2.1]
    exact rx
  · rcases Nat.lt_or_ge a (am_sz h) with q | q
    · obtain ⟨i1, i2, i3, i4, i5⟩ := old a (by omega)
      rw [am_ec_eq i1 i2 i3 i4 i5]
      exact (r3 a h6 q).kept (o _ (by show am_ad g a < H.size; rw [am_ad_in h6]; omega))
    · by_cases e : a = am_sz h
      · subst e
        unfold am_ec am_ac
        rw [k0, l0, r0, if_neg (by omega), if_neg (by omega), if_neg (by omega)]
        show F[am_ad g (am_sz h)]? = some (vp_cell _ _)
        rw [hnew, c1, vp_cell_q]
        refine congrArg some (am_arr_ext (fun j hj => ?_))
        rw [if_pos hj]
        show _ = va_rf (Option.map (am_ad g) (if j < n then some (am_sz h + 1 + j) else none))
        rw [if_pos hj]
        show _ = va_rf (some (am_ad g (am_sz h + 1 + j)))
        rw [am_ad_in (by omega)]
        have : am_ad g (am_sz h) = g.2.2.2.2.1 + (am_sz h - 6) := am_ad_in (by omega)
        rw [show g.2.2.2.2.1 + (am_sz h + 1 + j - 6) = H.size + 1 + j by omega]
      · obtain ⟨j, rfl⟩ : ∃ j, a = am_sz h + 1 + j := ⟨a - am_sz h - 1, by omega⟩
        obtain ⟨i1, i2, i3⟩ := kj j (by omega)
        unfold am_ec am_ac
        rw [i1, i2, i3, if_neg (by omega), if_pos rfl]
        show F[am_ad g (am_sz h + 1 + j)]? = some (vp_cell _ _)
        rw [am_ad_in (by omega), show g.2.2.2.2.1 + (am_sz h + 1 + j - 6) = H.size + 1 + j by omega, c2 j (by omega)]
        rfl
set_option maxHeartbeats 4000000 in
theorem am_mna_snd : am_MNA := by
  intro p l e R s m args below meth c H locs cells slots Q g M d pc ls h rest idx w n k C hR hS hd hw hn hn1 hk hk1 hcells hslots kk
  obtain ⟨hx, hb, hml, hrt, hown, hts, hlk, hin, hfr, hlo, hK, hN, hE, hbs⟩ := C
  have es : "[" ++ (FieldType.array .long).toString = "[[J" := by decide +kernel
  have hcl : (Cond.classLink (am_on (am_mt M).1) idx ("[" ++ (FieldType.array .long).toString)).before args s = true := by rw [es]; exact hts _ (am_w_mem hw rfl)
  intro T hT X
  obtain ⟨vm₁, cA, comp, -, fA, fC, hO, -, X', step⟩ := X.multianewarray2F hx hown hcl hN.2.2 (hts _ (am_arrW .long (by decide))) (g := F0 m pc ls (.int k :: .int n :: rest)) rfl (by rw [hb]; exact hd) rfl hn hk (by omega) (by simp [componentBytes]; omega) (by omega) rfl rfl hcells hslots
  have ecA : cA = g.2.2.1 9 := Option.some.inj (fA.symm.trans (hK.2 9 _ rfl).2)
  have ecC : comp = g.2.2.1 1 := Option.some.inj (fC.symm.trans (hK.2 1 _ rfl).2)
  subst ecA ecC
  generalize hF : Jvm.Free.Multi.fill (T.setVm vm₁) (g.2.2.1 9) (g.2.2.1 1) n.toNatClampNeg k.toNatClampNeg (defaultValue .long) n.toNatClampNeg = F at X' step
  have hTh : (T.setVm vm₁).heap = H := hT
  obtain ⟨f1, f2, -, -⟩ := Jvm.Free.Multi.fill_facts (T.setVm vm₁) (g.2.2.1 9) (g.2.2.1 1) n.toNatClampNeg k.toNatClampNeg (defaultValue .long) n.toNatClampNeg
  rw [hF, hTh] at f1 f2
  have hold : ∀ x : Nat, x < H.size → F.heap[x]? = H[x]? := fun x hx => by
    have := Jvm.Free.Multi.fill_old (T.setVm vm₁) (g.2.2.1 9) (g.2.2.1 1) n.toNatClampNeg k.toNatClampNeg (defaultValue .long) (a := x) (by rw [hTh]; exact hx) n.toNatClampNeg
    rw [hF, hTh] at this
    exact this
  have hrow : ∀ j : Nat, j < n.toNatClampNeg → F.heap[H.size + 1 + j]? = some (arrV (g.2.2.1 1) k.toNatClampNeg (fun _ => .long 0)) := fun j hj => by
    have := Jvm.Free.Multi.fill_inner (T.setVm vm₁) (g.2.2.1 9) (g.2.2.1 1) n.toNatClampNeg k.toNatClampNeg (defaultValue .long) n.toNatClampNeg j hj
    rw [hF, hTh] at this
    rw [this]
    exact congrArg some (arrV_new _ _ _)
  rw [am_outer] at f2
  obtain ⟨t, a1, b1⟩ := kk F.heap (am_mna_R hR f1 hold f2 hrow) ⟨by rw [f1]; have := hS.1; omega, fun x h1 h2 => (hold x (Nat.lt_of_lt_of_le h1 hS.1)).trans (hS.2.1 x h1 h2), hS.2.2⟩ F rfl X'
  refine ⟨t, step t ?_, b1⟩
  rw [hT, ← hR.ad_new]
  exact a1
