/-- new long[n][k]: told here, shown in a part of its own -/
def am_MNA : Prop := ∀ (p : Program) (l : Launch) (e : Env) (R : Room) (s : State) (m : MethodId) (args : Array Value) (below : List Frame) (meth : Method) (c : Code) (H : Heap) (locs : List Loc) (cells slots : Nat) (Q : State → Prop) (g : GV) (M d pc : Nat) (ls : Array Slot) (h : AH) (rest : List Value) (idx w : Nat) (n k : Int32),
  am_C p R s m args meth c g M d → am_R g h H → va_S (am_A g) s.heap H locs → decode (am_mt M).2.2.1 pc = .ok (.multianewarray idx 2, 4) → am_w w (.classLink (am_on (am_mt M).1) idx "[[J") = true → ¬ n < 0 → n.toNatClampNeg ≤ 1000 → ¬ k < 0 → k.toNatClampNeg ≤ 1000 → cells + (1 + n.toNatClampNeg) ≤ R.cells → slots + (n.toNatClampNeg + n.toNatClampNeg * k.toNatClampNeg) ≤ R.slots →
  (∀ H', am_R g (am_mna h n.toNatClampNeg k.toNatClampNeg) H' → va_S (am_A g) s.heap H' locs → W p l e R s m args below meth c H' locs (cells + 1 + n.toNatClampNeg) (slots + n.toNatClampNeg + n.toNatClampNeg * k.toNatClampNeg) Q (F0 m (pc + 4) ls (.ref (am_ad g (am_sz h)) :: rest))) →
  W p l e R s m args below meth c H locs cells slots Q (F0 m pc ls (.int k :: .int n :: rest))
theorem am_rows_sz (h : AH) (k n : Nat) : am_sz (am_rows h k n) = am_sz h + n ∧ am_sn (am_rows h k n) = am_sn h + n * k := by
  induction n with
  | zero => exact ⟨rfl, by rw [Nat.zero_mul]; rfl⟩
  | succ n ih =>
    refine ⟨?_, ?_⟩
    · show am_sz (am_rows h k n) + 1 = _
      rw [ih.1]; omega
    · show am_sn (am_rows h k n) + k = _
      rw [ih.2, Nat.succ_mul]; omega
theorem am_if_s {α : Type} {i : Int32} {n : Nat} {x : Option α} {y : α} (h : am_if i n x = some y) : am_in i n ∧ x = some y := by
  unfold am_if at h
  by_cases hq : am_in i n
  · rw [if_pos hq] at h; exact ⟨hq, h⟩
  · rw [if_neg hq] at h; cases h
section SNDS
variable {p : Program} {l : Launch} {e : Env} {R : Room} {s : State} {m : MethodId} {args : Array Value} {below : List Frame} {meth : Method} {c : Code} {H : Heap} {locs : List Loc} {cells slots : Nat} {Q : State → Prop}
variable {g : GV} {M d pc : Nat} {loc st : List Value} {ls : Array Slot} {h : AH}
theorem am_br_snd {c0 : ClassFile.Cond} {off : Int} {x y : Int32} {rest : List Value} (hx : p.tables.exec = Jvm.exec) (hb : c.code = (am_mt M).2.2.1) (hd : decode (am_mt M).2.2.1 pc = .ok (.if_icmp c0 off, 3)) (h0 : 0 ≤ (pc : Int) + off)
    (kk : W p l e R s m args below meth c H locs cells slots Q (F0 m (am_br c0 x y (am_tgt pc off) (pc + 3)) ls rest)) : W p l e R s m args below meth c H locs cells slots Q (F0 m pc ls (.int y :: .int x :: rest)) := by
  cases c0
  case eq =>
    refine lv_icmp_eq hx hb hd (am_tgt_s h0) (fun hq => ?_) (fun hq => ?_)
    · rw [show am_br .eq x y (am_tgt pc off) (pc + 3) = am_tgt pc off from if_pos hq] at kk
      exact kk
    · rw [show am_br .eq x y (am_tgt pc off) (pc + 3) = pc + 3 from if_neg (hq)] at kk
      exact kk
  case ne =>
    refine lv_icmp_ne hx hb hd (am_tgt_s h0) (fun hq => ?_) (fun hq => ?_)
    · rw [show am_br .ne x y (am_tgt pc off) (pc + 3) = am_tgt pc off from if_pos hq] at kk
      exact kk
    · rw [show am_br .ne x y (am_tgt pc off) (pc + 3) = pc + 3 from if_neg (fun z => z hq)] at kk
      exact kk
  case lt =>
    refine lv_icmp_lt hx hb hd (am_tgt_s h0) (fun hq => ?_) (fun hq => ?_)
    · rw [show am_br .lt x y (am_tgt pc off) (pc + 3) = am_tgt pc off from if_pos hq] at kk
      exact kk
    · rw [show am_br .lt x y (am_tgt pc off) (pc + 3) = pc + 3 from if_neg (hq)] at kk
      exact kk
  case ge =>
    refine lv_icmp_ge hx hb hd (am_tgt_s h0) (fun hq => ?_) (fun hq => ?_)
    · rw [show am_br .ge x y (am_tgt pc off) (pc + 3) = am_tgt pc off from if_pos hq] at kk
      exact kk
    · rw [show am_br .ge x y (am_tgt pc off) (pc + 3) = pc + 3 from if_neg (hq)] at kk
      exact kk
  case gt =>
    refine lv_icmp_gt hx hb hd (am_tgt_s h0) (fun hq => ?_) (fun hq => ?_)
    · rw [show am_br .gt x y (am_tgt pc off) (pc + 3) = am_tgt pc off from if_pos hq] at kk
      exact kk
    · rw [show am_br .gt x y (am_tgt pc off) (pc + 3) = pc + 3 from if_neg (hq)] at kk
      exact kk
  case le =>
    refine lv_icmp_le hx hb hd (am_tgt_s h0) (fun hq => ?_) (fun hq => ?_)
    · rw [show am_br .le x y (am_tgt pc off) (pc + 3) = am_tgt pc off from if_pos hq] at kk
      exact kk
    · rw [show am_br .le x y (am_tgt pc off) (pc + 3) = pc + 3 from if_neg (hq)] at kk
      exact kk
theorem am_bz_snd {c0 : ClassFile.Cond} {off : Int} {x : Int32} {rest : List Value} (hx : p.tables.exec = Jvm.exec) (hb : c.code = (am_mt M).2.2.1) (hd : decode (am_mt M).2.2.1 pc = .ok (.ifCond c0 off, 3)) (h0 : 0 ≤ (pc : Int) + off)
    (kk : W p l e R s m args below meth c H locs cells slots Q (F0 m (am_br c0 x 0 (am_tgt pc off) (pc + 3)) ls rest)) : W p l e R s m args below meth c H locs cells slots Q (F0 m pc ls (.int x :: rest)) := by
  cases c0
  case eq =>
    refine lv_if_eq hx hb hd (am_tgt_s h0) (fun hq => ?_) (fun hq => ?_)
    · rw [show am_br .eq x 0 (am_tgt pc off) (pc + 3) = am_tgt pc off from if_pos hq] at kk
      exact kk
    · rw [show am_br .eq x 0 (am_tgt pc off) (pc + 3) = pc + 3 from if_neg (hq)] at kk
      exact kk
  case ne =>
    refine lv_if_ne hx hb hd (am_tgt_s h0) (fun hq => ?_) (fun hq => ?_)
    · rw [show am_br .ne x 0 (am_tgt pc off) (pc + 3) = am_tgt pc off from if_pos hq] at kk
      exact kk
    · rw [show am_br .ne x 0 (am_tgt pc off) (pc + 3) = pc + 3 from if_neg (fun z => z hq)] at kk
      exact kk
  case lt =>
    refine lv_if_lt hx hb hd (am_tgt_s h0) (fun hq => ?_) (fun hq => ?_)
    · rw [show am_br .lt x 0 (am_tgt pc off) (pc + 3) = am_tgt pc off from if_pos hq] at kk
      exact kk
    · rw [show am_br .lt x 0 (am_tgt pc off) (pc + 3) = pc + 3 from if_neg (hq)] at kk
      exact kk
  case ge =>
    refine lv_if_ge hx hb hd (am_tgt_s h0) (fun hq => ?_) (fun hq => ?_)
    · rw [show am_br .ge x 0 (am_tgt pc off) (pc + 3) = am_tgt pc off from if_pos hq] at kk
      exact kk
    · rw [show am_br .ge x 0 (am_tgt pc off) (pc + 3) = pc + 3 from if_neg (hq)] at kk
      exact kk
  case gt =>
    refine lv_if_gt hx hb hd (am_tgt_s h0) (fun hq => ?_) (fun hq => ?_)
    · rw [show am_br .gt x 0 (am_tgt pc off) (pc + 3) = am_tgt pc off from if_pos hq] at kk
      exact kk
    · rw [show am_br .gt x 0 (am_tgt pc off) (pc + 3) = pc + 3 from if_neg (hq)] at kk
      exact kk
  case le =>
    refine lv_if_le hx hb hd (am_tgt_s h0) (fun hq => ?_) (fun hq => ?_)
    · rw [show am_br .le x 0 (am_tgt pc off) (pc + 3) = am_tgt pc off from if_pos hq] at kk
      exact kk
    · rw [show am_br .le x 0 (am_tgt pc off) (pc + 3) = pc + 3 from if_neg (hq)] at kk
      exact kk
theorem am_tb_snd {dflt lo hi o : Int} {offs : Array Int} {len : Nat} {x : Int32} {rest : List Value} (hx : p.tables.exec = Jvm.exec) (hb : c.code = (am_mt M).2.2.1) (hd : decode (am_mt M).2.2.1 pc = .ok (.tableswitch dflt lo hi offs, len)) (h0 : 0 ≤ (pc : Int) + dflt) (h1 : ∀ o ∈ offs.toList, 0 ≤ (pc : Int) + o) (ho : am_tab dflt lo hi offs x.toInt = some o)
    (kk : W p l e R s m args below meth c H locs cells slots Q (F0 m (am_tgt pc o) ls rest)) : W p l e R s m args below meth c H locs cells slots Q (F0 m pc ls (.int x :: rest)) := by
  unfold am_tab at ho
  by_cases hq : x.toInt < lo ∨ hi < x.toInt
  · rw [if_pos hq] at ho
    cases ho
    exact lv_tableOut hx hb hd hq (am_tgt_s h0) kk
  · rw [if_neg hq] at ho
    exact lv_tableIn hx hb hd (fun q => hq (Or.inl q)) (fun q => hq (Or.inr q)) ho (am_tgt_s (h1 o (by rw [← Array.getElem?_toList] at ho; exact List.mem_of_getElem? ho))) kk
theorem am_lk_off {ps : List (Int × Int)} {dflt x : Int} {pc : Nat} (h0 : 0 ≤ (pc : Int) + dflt) (h1 : ∀ o ∈ ps, 0 ≤ (pc : Int) + o.2) : 0 ≤ (pc : Int) + Op.lookupswitch.offset ps dflt x := by
  induction ps with
  | nil => simpa [Op.lookupswitch.offset] using h0
  | cons q r ih =>
    obtain ⟨a, o⟩ := q
    unfold Op.lookupswitch.offset
    split
    · exact h1 (a, o) List.mem_cons_self
    · exact ih (fun o ho => h1 o (List.mem_cons_of_mem _ ho))
theorem am_okF_srt {own : String} {idx ci k w : Nat} (h : am_okF own idx ci k w = true) : am_srt (am_ty ci k) = 0 ∨ am_srt (am_ty ci k) = 1 ∨ am_srt (am_ty ci k) = 2 ∨ am_srt (am_ty ci k) = 3 := by
  unfold am_okF at h
  cases hc : am_cl[ci]? with
  | none => rw [hc] at h; cases h
  | some q =>
    obtain ⟨CC, T, N⟩ := q
    rw [hc] at h
    simp only [Bool.and_eq_true, decide_eq_true_eq] at h
    have h9 := am_srt_ok (ci := ci) (k := k) (List.getElem?_eq_some_iff.mp hc).1 (by rw [(am_cl_ty hc).2.2.1]; exact h.1.1)
    generalize am_ty ci k = t at h9 ⊢
    cases t <;> first | exact Or.inl rfl | exact Or.inr (Or.inl rfl) | exact Or.inr (Or.inr (Or.inl rfl)) | exact Or.inr (Or.inr (Or.inr rfl)) | exact absurd rfl h9
theorem am_hv0 {t : FieldType} {x : Int32} (h : am_srt t = 0) : narrow t (.int x) = .int x ∧ fits t (.int x) = true := by
  cases t <;> first | exact ⟨rfl, rfl⟩ | cases h
theorem am_hv1 {t : FieldType} {x : Int64} (h : am_srt t = 1) : narrow t (.long x) = .long x ∧ fits t (.long x) = true := by
  cases t <;> first | exact ⟨rfl, rfl⟩ | cases h
theorem am_hv2 {t : FieldType} {x : Nat} (h : am_srt t = 2) : narrow t (.ref x) = .ref x ∧ fits t (.ref x) = true := by
  cases t <;> first | exact ⟨rfl, rfl⟩ | cases h
theorem am_hv3 {t : FieldType} {x : Int32} (h : am_srt t = 3) (hx : x = 0 ∨ x = 1) : narrow t (.int x) = .int x ∧ fits t (.int x) = true := by
  cases t <;> first | exact am_nar01 hx | cases h
set_option maxHeartbeats 4000000 in
set_option maxRecDepth 100000 in
theorem am_s1_snd (hMN : am_MNA) {en : EN} {pc' z0 n0 : Nat} {loc' st' : List Value} {h' : AH} (C : am_C p R s m args meth c g M d) (hR : am_R g h H) (hS : va_S (am_A g) s.heap H locs) (hz0 : z0 ≤ am_sz h) (hn0 : n0 ≤ am_sn h) (hd : decode (am_mt M).2.2.1 pc = .ok (en.1, en.2.1)) (hl : am_len en.1 en.2.1 = true) (hk : am_okI M pc en = true) (hL : am_LH g ls (am_mt M).2.2.2.1 loc) (hp : am_s1 en pc loc st h = some (pc', loc', st', h'))
    (hrc : am_sz h' - z0 ≤ R.cells) (hrs : am_sn h' - n0 ≤ R.slots)
    (kk : ∀ ls' H' locs', am_LH g ls' (am_mt M).2.2.2.1 loc' → am_R g h' H' → va_S (am_A g) s.heap H' locs' → W p l e R s m args below meth c H' locs' (am_sz h' - z0) (am_sn h' - n0) Q (F0 m pc' ls' (st'.map (am_v g)))) : W p l e R s m args below meth c H locs (am_sz h - z0) (am_sn h - n0) Q (F0 m pc ls (st.map (am_v g))) := by
  have hpure : (am_p1 en pc loc st).map (fun q => (q.1, q.2.1, q.2.2, h)) = some (pc', loc', st', h') → W p l e R s m args below meth c H locs (am_sz h - z0) (am_sn h - n0) Q (F0 m pc ls (st.map (am_v g))) := by
    intro hp
    obtain ⟨q, hq, he⟩ := Option.map_eq_some_iff.mp hp
    cases he
    exact am_p1_snd C hS hd hl hk hL hq (fun ls' hL' => kk ls' H locs hL' hR hS)
  have C0 := C
  obtain ⟨hx, hb, hml, hr, hown, hts, hlk, hin, hfr, hlo, hK, hN, hE, hbs⟩ := C0
  obtain ⟨i, len, mask, x1, x2, x3, w, cst⟩ := en
  dsimp only at hd hl hk
  cases i <;> simp only [am_s1] at hp <;> first | exact hpure hp | skip
  case ifCond c0 off =>
    obtain ⟨q, hq, he⟩ := Option.map_eq_some_iff.mp hp
    cases he
    rw [am_i1_s hq]
    exact am_bz_snd hx hb (am_len1 hd hl) (by simpa [am_okI] using hk) (kk ls H locs hL hR hS)
  case if_icmp c0 off =>
    obtain ⟨q, hq, he⟩ := Option.map_eq_some_iff.mp hp
    cases he
    rw [am_i2_s hq]
    exact am_br_snd hx hb (am_len1 hd hl) (by simpa [am_okI] using hk) (kk ls H locs hL hR hS)
  case tableswitch dflt lo hi offs =>
    obtain ⟨q, hq, he⟩ := Option.bind_eq_some_iff.mp hp
    obtain ⟨o, ho, he⟩ := Option.map_eq_some_iff.mp he
    cases he
    rw [am_i1_s hq]
    have hk2 : 0 ≤ (pc : Int) + dflt ∧ ∀ o ∈ offs.toList, 0 ≤ (pc : Int) + o := by
      unfold am_okI at hk
      simp only [Bool.and_eq_true, decide_eq_true_eq, List.all_eq_true] at hk
      exact hk
    exact am_tb_snd hx hb hd hk2.1 hk2.2 ho (kk ls H locs hL hR hS)
  case lookupswitch dflt ps =>
    obtain ⟨q, hq, he⟩ := Option.map_eq_some_iff.mp hp
    cases he
    rw [am_i1_s hq]
    have hk2 : (0 ≤ (pc : Int) + dflt ∧ ∀ o ∈ ps.toList, 0 ≤ (pc : Int) + o.2) ∧ (ps.toList.zip (ps.toList.drop 1)).all (fun (a, next) => a.1 < next.1) = true := by
      unfold am_okI at hk
      simp only [Bool.and_eq_true, decide_eq_true_eq, List.all_eq_true] at hk ⊢
      exact ⟨⟨hk.1.1, hk.1.2⟩, hk.2⟩
    exact lv_lookup hx hb hd hk2.2 rfl (am_tgt_s (am_lk_off hk2.1.1 hk2.1.2)) (kk ls H locs hL hR hS)
  case idiv =>
    obtain ⟨q, hq, he⟩ := Option.bind_eq_some_iff.mp hp
    split at he
    · cases he
    · rename_i hne
      cases he
      rw [am_i2_s hq]
      exact lv_idiv hx hb (am_len1 hd hl) hne (kk ls H locs hL hR hS)
  case irem =>
    obtain ⟨q, hq, he⟩ := Option.bind_eq_some_iff.mp hp
    split at he
    · cases he
    · rename_i hne
      cases he
      rw [am_i2_s hq]
      exact lv_irem hx hb (am_len1 hd hl) hne (kk ls H locs hL hR hS)
  case ldiv =>
    obtain ⟨q, hq, he⟩ := Option.bind_eq_some_iff.mp hp
    split at he
    · cases he
    · rename_i hne
      cases he
      rw [am_l2_s hq]
      exact lv_ldiv hx hb (am_len1 hd hl) hne (kk ls H locs hL hR hS)
  case lrem =>
    obtain ⟨q, hq, he⟩ := Option.bind_eq_some_iff.mp hp
    split at he
    · cases he
    · rename_i hne
      cases he
      rw [am_l2_s hq]
      exact lv_lrem hx hb (am_len1 hd hl) hne (kk ls H locs hL hR hS)
  case getfield idx =>
    obtain ⟨q, hq, he⟩ := Option.bind_eq_some_iff.mp hp
    rw [am_a1_s hq]
    split at he
    · rename_i hkd
      have hk2 : am_okF (am_on (am_mt M).1) idx x1 x2 w = true ∧ x3 = (if am_srt (am_ty x1 x2) = 3 then 0 else am_srt (am_ty x1 x2)) := by simpa [am_okI] using hk
      obtain ⟨hF, ht⟩ := hk2
      have hfs := am_okF_srt hF
      refine am_get_snd C hR (am_len1 hd hl) hF hkd ?_
      unfold am_fv
      rcases hfs with z | z | z | z
      · rw [z] at ht; subst ht; rw [z]; cases he; exact kk ls H locs hL hR hS
      · rw [z] at ht; subst ht; rw [z]; cases he; exact kk ls H locs hL hR hS
      · rw [z] at ht; subst ht; rw [z]
        obtain ⟨b, hb1, he⟩ := Option.map_eq_some_iff.mp he
        cases he
        rw [hb1]
        exact kk ls H locs hL hR hS
      · rw [z] at ht; subst ht; rw [z]; cases he; exact kk ls H locs hL hR hS
    · cases he
  case putfield idx =>
    have hk2 : (am_okF (am_on (am_mt M).1) idx x1 x2 w = true ∧ x3 = am_srt (am_ty x1 x2)) ∧ (match am_cl[x1]? with | some (_, T, _) => !(T x2).2.2.2 || (decide ((am_mt M).1 = x1) && decide ((am_mt M).2.1.name = "<init>")) | none => false) = true := by
      unfold am_okI at hk
      simp only [Bool.and_eq_true, decide_eq_true_eq] at hk
      exact hk
    obtain ⟨⟨hF, ht⟩, hfi⟩ := hk2
    have hfs := am_okF_srt hF
    rcases hfs with z | z | z | z
    · rw [z] at ht
      subst ht
      obtain ⟨q, hq, he⟩ := Option.bind_eq_some_iff.mp hp
      rw [am_ix_s hq]
      split at he
      · rename_i hkd
        cases he
        refine am_put_snd (v := .int q.1) (h' := am_si h q.2.1 x2 q.1) C hR hS (am_len1 hd hl) hF hfi hkd (am_hv0 z) rfl rfl rfl (fun b hb => am_si_o hb) (fun _ _ => rfl) (fun _ _ => rfl) (fun j => ?_) (fun H' locs' a1 a2 => kk ls H' locs' hL a1 a2)
        unfold am_fv
        rw [am_si_gi]
        by_cases hj : j = x2
        · subst hj; rw [z, if_pos ⟨rfl, rfl⟩, if_pos rfl]; rfl
        · rw [if_neg (fun z => hj z.2), if_neg hj]; rfl
      · cases he
    · rw [z] at ht
      subst ht
      obtain ⟨q, hq, he⟩ := Option.bind_eq_some_iff.mp hp
      rw [am_lx_s hq]
      split at he
      · rename_i hkd
        cases he
        refine am_put_snd (v := .long q.1) (h' := am_sl h q.2.1 x2 q.1) C hR hS (am_len1 hd hl) hF hfi hkd (am_hv1 z) rfl rfl rfl (fun _ _ => rfl) (fun b hb => am_sl_o hb) (fun _ _ => rfl) (fun j => ?_) (fun H' locs' a1 a2 => kk ls H' locs' hL a1 a2)
        unfold am_fv
        rw [am_sl_gl]
        by_cases hj : j = x2
        · subst hj; rw [z, if_pos ⟨rfl, rfl⟩, if_pos rfl]; rfl
        · rw [if_neg (fun z => hj z.2), if_neg hj]; rfl
      · cases he
    · rw [z] at ht
      subst ht
      obtain ⟨q, hq, he⟩ := Option.bind_eq_some_iff.mp hp
      rw [am_ax_s hq]
      split at he
      · rename_i hkd
        cases he
        refine am_put_snd (v := .ref (am_ad g q.1)) (h' := am_sr h q.2.1 x2 (some q.1)) C hR hS (am_len1 hd hl) hF hfi hkd (am_hv2 z) rfl rfl rfl (fun _ _ => rfl) (fun _ _ => rfl) (fun b hb => am_sr_o hb) (fun j => ?_) (fun H' locs' a1 a2 => kk ls H' locs' hL a1 a2)
        unfold am_fv
        rw [am_sr_gr]
        by_cases hj : j = x2
        · subst hj; rw [z, if_pos ⟨rfl, rfl⟩, if_pos rfl]; rfl
        · rw [if_neg (fun z => hj z.2), if_neg hj]; rfl
      · cases he
    · rw [z] at ht
      subst ht
      obtain ⟨q, hq, he⟩ := Option.bind_eq_some_iff.mp hp
      rw [am_ix_s hq]
      split at he
      · rename_i hkd
        cases he
        refine am_put_snd (v := .int q.1) (h' := am_si h q.2.1 x2 q.1) C hR hS (am_len1 hd hl) hF hfi hkd.1 (am_hv3 z hkd.2) rfl rfl rfl (fun b hb => am_si_o hb) (fun _ _ => rfl) (fun _ _ => rfl) (fun j => ?_) (fun H' locs' a1 a2 => kk ls H' locs' hL a1 a2)
        unfold am_fv
        rw [am_si_gi]
        by_cases hj : j = x2
        · subst hj; rw [z, if_pos ⟨rfl, rfl⟩, if_pos rfl]; rfl
        · rw [if_neg (fun z => hj z.2), if_neg hj]; rfl
      · cases he
  case iaload =>
    obtain ⟨q, hq, he⟩ := Option.bind_eq_some_iff.mp hp
    rw [am_ia_s hq]
    split at he
    · rename_i hkd
      obtain ⟨hi, he⟩ := am_if_s he
      cases he
      exact am_iald_snd C hR hS (am_len1 hd hl) hkd hi (kk ls H locs hL hR hS)
    · cases he
  case laload =>
    obtain ⟨q, hq, he⟩ := Option.bind_eq_some_iff.mp hp
    rw [am_ia_s hq]
    split at he
    · rename_i hkd
      obtain ⟨hi, he⟩ := am_if_s he
      cases he
      exact am_lald_snd C hR (am_len1 hd hl) hkd hi (kk ls H locs hL hR hS)
    · cases he
  case baload =>
    obtain ⟨q, hq, he⟩ := Option.bind_eq_some_iff.mp hp
    rw [am_ia_s hq]
    split at he
    · rename_i hkd
      obtain ⟨hi, he⟩ := am_if_s he
      cases he
      exact am_bald_snd C hR (am_len1 hd hl) hkd hi (kk ls H locs hL hR hS)
    · cases he
  case aaload =>
    obtain ⟨q, hq, he⟩ := Option.bind_eq_some_iff.mp hp
    rw [am_ia_s hq]
    split at he
    · rename_i hkd
      obtain ⟨hi, he⟩ := am_if_s he
      obtain ⟨b, hb1, he⟩ := Option.map_eq_some_iff.mp he
      cases he
      exact am_aald_snd C hR (am_len1 hd hl) hkd hi hb1 (kk ls H locs hL hR hS)
    · cases he
  case arraylength =>
    obtain ⟨q, hq, he⟩ := Option.bind_eq_some_iff.mp hp
    rw [am_a1_s hq]
    split at he
    · rename_i hkd
      cases he
      exact am_alen_snd C hR hS (am_len1 hd hl) hkd (kk ls H locs hL hR hS)
    · cases he
  case iastore =>
    obtain ⟨q, hq, he⟩ := Option.bind_eq_some_iff.mp hp
    rw [am_iia_s hq]
    split at he
    · rename_i hkd
      obtain ⟨hi, he⟩ := am_if_s he
      cases he
      exact am_iast_snd C hR hS (am_len1 hd hl) hkd.1 hkd.2 hi (fun H' locs' a1 a2 => kk ls H' locs' hL a1 a2)
    · cases he
  case lastore =>
    obtain ⟨q, hq, he⟩ := Option.bind_eq_some_iff.mp hp
    rw [am_lia_s hq]
    split at he
    · rename_i hkd
      obtain ⟨hi, he⟩ := am_if_s he
      cases he
      exact am_last_snd C hR hS (am_len1 hd hl) hkd hi (fun H' locs' a1 a2 => kk ls H' locs' hL a1 a2)
    · cases he
  case bastore =>
    obtain ⟨q, hq, he⟩ := Option.bind_eq_some_iff.mp hp
    rw [am_iia_s hq]
    split at he
    · rename_i hkd
      obtain ⟨hi, he⟩ := am_if_s he
      cases he
      exact am_bast_snd C hR hS (am_len1 hd hl) hkd.1 hi (fun H' locs' a1 a2 => kk ls H' locs' hL a1 a2)
    · split at he
      · rename_i hkd
        obtain ⟨hi, he⟩ := am_if_s he
        cases he
        exact am_zast_snd C hR hS (am_len1 hd hl) hkd.1 hkd.2 hi (fun H' locs' a1 a2 => kk ls H' locs' hL a1 a2)
      · cases he
  case aastore =>
    obtain ⟨q, hq, he⟩ := Option.bind_eq_some_iff.mp hp
    rw [am_aia_s hq]
    split at he
    · rename_i hkd
      obtain ⟨hi, he⟩ := am_if_s he
      cases he
      exact am_aast_snd C hR hS (am_len1 hd hl) ⟨hkd.1, hkd.2.1⟩ hkd.2.2 hi (fun H' locs' a1 a2 => kk ls H' locs' hL a1 a2)
    · cases he
  case new idx =>
    cases hp
    have e1 : am_sz (am_nw h x1 0 x2) - z0 = am_sz h - z0 + 1 := by show am_sz h + 1 - z0 = _; omega
    have e2 : am_sn (am_nw h x1 0 x2) - n0 = am_sn h - n0 + x2 := by show am_sn h + x2 - n0 = _; omega
    rw [e1] at hrc kk
    rw [e2] at hrs kk
    exact am_new_snd C hR hS (am_len1 hd hl) (by unfold am_okI at hk; exact hk) hrc hrs (fun H' a1 a2 => kk ls H' locs hL a1 a2)
  case newarray t =>
    obtain ⟨q, hq, he⟩ := Option.bind_eq_some_iff.mp hp
    rw [am_i1_s hq]
    split at he
    · rename_i hn1
      cases he
      have e1 : am_sz (am_nw h x1 q.1.toNatClampNeg q.1.toNatClampNeg) - z0 = am_sz h - z0 + 1 := by show am_sz h + 1 - z0 = _; omega
      have e2 : am_sn (am_nw h x1 q.1.toNatClampNeg q.1.toNatClampNeg) - n0 = am_sn h - n0 + q.1.toNatClampNeg := by show am_sn h + _ - n0 = _; omega
      rw [e1] at hrc kk
      rw [e2] at hrs kk
      exact am_newa_snd C hR hS (am_len1 hd hl) (by simpa [am_okI] using hk) hn1.1 hn1.2 hrc hrs (fun H' a1 a2 => kk ls H' locs hL a1 a2)
    · cases he
  case anewarray idx =>
    obtain ⟨q, hq, he⟩ := Option.bind_eq_some_iff.mp hp
    rw [am_i1_s hq]
    split at he
    · rename_i hn1
      cases he
      have e1 : am_sz (am_nw h x1 q.1.toNatClampNeg q.1.toNatClampNeg) - z0 = am_sz h - z0 + 1 := by show am_sz h + 1 - z0 = _; omega
      have e2 : am_sn (am_nw h x1 q.1.toNatClampNeg q.1.toNatClampNeg) - n0 = am_sn h - n0 + q.1.toNatClampNeg := by show am_sn h + _ - n0 = _; omega
      rw [e1] at hrc kk
      rw [e2] at hrs kk
      have hk2 : (104 ≤ x1 ∧ x1 ≤ 108) ∧ am_w w (.classLink (am_on (am_mt M).1) idx (am_on (am_cmpn x1))) = true := by simpa [am_okI] using hk
      exact am_anew_snd C hR hS (am_len1 hd hl) hk2.1.1 hk2.1.2 hk2.2 hn1.1 hn1.2 hrc hrs (fun H' a1 a2 => kk ls H' locs hL a1 a2)
    · cases he
  case multianewarray idx dims =>
    obtain ⟨q, hq, he⟩ := Option.bind_eq_some_iff.mp hp
    rw [am_i2_s hq]
    split at he
    · rename_i hn1
      cases he
      have hk2 : dims = 2 ∧ am_w w (.classLink (am_on (am_mt M).1) idx "[[J") = true := by simpa [am_okI] using hk
      obtain ⟨rfl, hw⟩ := hk2
      have e1 : am_sz (am_mna h q.1.toNatClampNeg q.2.1.toNatClampNeg) - z0 = am_sz h - z0 + 1 + q.1.toNatClampNeg := by
        show am_sz (am_rows (am_nw h 109 _ _) _ _) - z0 = _
        rw [(am_rows_sz _ _ _).1]
        show am_sz h + 1 + _ - z0 = _
        omega
      have e2 : am_sn (am_mna h q.1.toNatClampNeg q.2.1.toNatClampNeg) - n0 = am_sn h - n0 + q.1.toNatClampNeg + q.1.toNatClampNeg * q.2.1.toNatClampNeg := by
        show am_sn (am_rows (am_nw h 109 _ _) _ _) - n0 = _
        rw [(am_rows_sz _ _ _).2]
        show am_sn h + _ + _ - n0 = _
        omega
      rw [e1] at hrc kk
      rw [e2] at hrs kk
      exact hMN p l e R s m args below meth c H locs _ _ Q g M d pc ls h _ idx w q.1 q.2.1 C hR hS (am_len1 hd hl) hw hn1.1.1 hn1.1.2 hn1.2.1 hn1.2.2 (by omega) (by omega) (fun H' a1 a2 => kk ls H' locs hL a1 a2)
    · cases he
end SNDS
