/-- the JDK's calls that are taken whole: told here, shown in a part of its own -/
def am_BI : Prop := ∀ (p : Program) (l : Launch) (e : Env) (R : Room) (s : State) (m : MethodId) (args : Array Value) (below : List Frame) (meth : Method) (c : Code) (H : Heap) (locs : List Loc) (Q : State → Prop) (g : GV) (M d pc z0 n0 : Nat) (ls : Array Slot) (h h' : AH) (st st' : List Value) (i : Instr) (idx k w : Nat),
  am_C p R s m args meth c g M d → am_R g h H → va_S (am_A g) s.heap H locs → ls.size = (am_mt M).2.2.2.1 → z0 ≤ am_sz h → n0 ≤ am_sn h → decode (am_mt M).2.2.1 pc = .ok (i, 3) → ((k = 4 ∧ i = .invokespecial idx) ∨ ((k = 5 ∨ k = 6) ∧ i = .invokevirtual idx) ∨ ((k = 7 ∨ k = 8 ∨ k = 9) ∧ i = .invokestatic idx)) → am_w w (.methodLink (am_on (am_mt M).1) idx (am_bn k)) = true → am_bi k st h = some (st', h') → am_cats st' ≤ 8 → am_sz h' - z0 ≤ R.cells → am_sn h' - n0 ≤ R.slots →
  (∀ H' locs', am_R g h' H' → va_S (am_A g) s.heap H' locs' → W p l e R s m args below meth c H' locs' (am_sz h' - z0) (am_sn h' - n0) Q (F0 m (pc + 3) ls (st'.map (am_v g)))) →
  W p l e R s m args below meth c H locs (am_sz h - z0) (am_sn h - n0) Q (F0 m pc ls (st.map (am_v g)))
/-- what the walk of a frame owes -/
def am_goal (l : Launch) (g : GV) (n : Nat) : Prop := ∀ (d M pc : Nat) (loc st : List Value) (h : AH) (r : Option Value) (h' : AH), M < 268 → am_ex am_mt n d M pc loc st h = some (r, h') →
  ∀ (p : Program) (e : Env) (R : Room) (s : State) (m : MethodId) (args : Array Value) (below : List Frame) (meth : Method) (c : Code) (H : Heap) (locs : List Loc) (Q : State → Prop) (z0 n0 : Nat) (ls : Array Slot),
    am_C p R s m args meth c g M d → am_R g h H → va_S (am_A g) s.heap H locs → am_LH g ls (am_mt M).2.2.2.1 loc → z0 ≤ am_sz h → n0 ≤ am_sn h → am_sz h' - z0 ≤ R.cells → am_sn h' - n0 ≤ R.slots →
    (∀ (H' : Heap) (locs' : List Loc) (ls' : Array Slot) (pc' : Nat) (st' : List Value) (i : Instr), decode (am_mt M).2.2.1 pc' = .ok (i, 1) → am_isr i = true → am_ret i st' = some r → am_rok (am_mt M).2.2.2.2.1 r = true → am_R g h' H' → va_S (am_A g) s.heap H' locs' → W p l e R s m args below meth c H' locs' (am_sz h' - z0) (am_sn h' - n0) Q (F0 m pc' ls' (st'.map (am_v g)))) →
    W p l e R s m args below meth c H locs (am_sz h - z0) (am_sn h - n0) Q (F0 m pc ls (st.map (am_v g)))
section RET
variable {p : Program} {l : Launch} {e : Env} {R : Room} {s : State} {m : MethodId} {args : Array Value} {below : List Frame} {meth : Method} {c : Code} {H : Heap} {locs : List Loc} {cells slots : Nat} {Q : State → Prop}
variable {g : GV} {M d pc : Nat} {ls : Array Slot} {h : AH}
theorem am_ret_snd {st : List Value} {i : Instr} {r : Option Value} (C : am_C p R s m args meth c g M d) (hR : am_R g h H) (hS : va_S (am_A g) s.heap H locs) (hd : decode (am_mt M).2.2.1 pc = .ok (i, 1)) (hi : am_isr i = true) (hr : am_ret i st = some r) (ho : am_rok (am_mt M).2.2.2.2.1 r = true) :
    W p l e R s m args below meth c H locs cells slots (MQ below (am_QC g r h) args s cells slots (am_A g)) (F0 m pc ls (st.map (am_v g))) := by
  obtain ⟨hx, hb, hml, hrt, hown, hts, hlk, hin, hfr, hlo, hK, hN, hE, hbs⟩ := C
  cases i <;> first | (cases hi; done) | skip
  case ireturn =>
    unfold am_ret at hr
    dsimp only at hr
    split at hr
    · cases hr
      rename_i x
      unfold am_rok at ho
      split at ho <;> first | (cases ho; done) | skip
      · rename_i heq; cases heq
      · rename_i h1 h2
        exact W.iret hx hb (by rw [hrt, h1]) (fun t ht hW => ⟨rfl, by rw [ht]; exact hR, hS.F ht⟩) hS.2.2 hd hlk
      · rename_i x' h1 h2
        cases h2
        exact W.zret hx hb (by rw [hrt, h1]) (am_nar01 (of_decide_eq_true ho)).1 (fun t ht hW => ⟨rfl, by rw [ht]; exact hR, hS.F ht⟩) hS.2.2 hd hlk
      · rename_i h1 h2; cases h2
    · cases hr
  case lreturn =>
    unfold am_ret at hr
    dsimp only at hr
    split at hr
    · cases hr
      unfold am_rok at ho
      split at ho <;> first | (cases ho; done) | skip
      · rename_i heq; cases heq
      · rename_i h1 h2; cases h2
      · rename_i h1 h2; cases h2
      · rename_i h1 h2
        exact W.lret hx hb (by rw [hrt, h1]) (fun t ht hW => ⟨rfl, by rw [ht]; exact hR, hS.F ht⟩) hS.2.2 hd hlk
    · cases hr
  case return_ =>
    unfold am_ret at hr
    dsimp only at hr
    split at hr
    · cases hr
      unfold am_rok at ho
      split at ho <;> first | (cases ho; done) | skip
      · rename_i h1 h2
        exact W.vret hx hb (by rw [hrt, h1]) (fun t ht hW => ⟨rfl, by rw [ht]; exact hR, hS.F ht⟩) hS.2.2 hd hlk
      · rename_i h1 h2; cases h2
      · rename_i h1 h2; cases h2
      · rename_i h1 h2; cases h2
    · cases hr
/-- behind a call -/
theorem am_call {rest st0 : List Value} {r : Option Value} {h1 : AH} {mc ms : Nat} {a : Array Value} (hr : va_Run p l e R s m args below meth c H locs cells slots mc ms (F0 m pc ls st0) rest (am_QC g r h1 a) (am_A g)) (hS : va_S (am_A g) s.heap H locs)
    (kk : ∀ H1 locs1, am_R g h1 H1 → va_S (am_A g) s.heap H1 locs1 → W p l e R s m args below meth c H1 locs1 (cells + mc) (slots + ms) Q (F0 m (pc + 3) ls ((r.map (am_v g)).toList ++ rest))) : W p l e R s m args below meth c H locs cells slots Q (F0 m pc ls st0) := by
  intro T hT X
  obtain ⟨v, st₀, t, T', L, h0, X', hL, e1, e2, ⟨hv, hR1, hz, hk⟩, st⟩ := hr T hT X
  cases hv
  rw [h0] at hz hk
  rw [← e1] at hR1
  obtain ⟨t2, a1, b1⟩ := kk T'.heap (locs ++ L) hR1
    ⟨Nat.le_trans hS.1 (by rw [e1]; exact hz), fun q h1 h2 => by rw [e1, hk q (Nat.lt_of_lt_of_le h1 hS.1) h2]; exact hS.2.1 q h1 h2, fun q hq => by
      rcases List.mem_append.mp hq with h | h
      · exact hS.2.2 q h
      · exact hL q h⟩ T' rfl X'
  exact ⟨t2, st t2 a1, b1⟩
end RET
theorem am_met {l : Launch} {g : GV} {n : Nat} (ih : am_goal l g n) (hMP : am_MPROP) {d M : Nat} {vs : List Value} {h h1 : AH} {r : Option Value} (hM : M < 267) (hv : (am_arg vs).length ≤ (am_mt M).2.2.2.1) (hx : am_ex am_mt n d M 0 (am_ent vs (am_mt M).2.2.2.1) [] h = some (r, h1)) :
    Met l (am_mt M).2.1 (am_wsM M) (am_rm d (am_sz h1 - am_sz h) (am_sn h1 - am_sn h)) (am_PC g vs h) (am_QC g r h1) (am_sz h1 - am_sz h) (am_sn h1 - am_sn h) (am_A g) := by
  obtain ⟨hok, hpl, hmx⟩ := hMP M hM
  refine am_ofW (cc := (am_mt M).2.2.1) (maxL := (am_mt M).2.2.2.1) (ret := (am_mt M).2.2.2.2.1) hpl rfl ?_
  intro p e s m args below meth c s₁ B hml hPc
  obtain ⟨rfl, q1, q2, q3, q4, q5⟩ := hPc
  have hts := atoms_spec (ws := am_wsM M) B.pre
  have hcls : (am_mt M).2.1.cls = am_on (am_mt M).1 := by
    unfold am_okM at hok
    simp only [Bool.and_eq_true, decide_eq_true_eq] at hok
    exact hok.2
  have C : am_C p (headSpec (am_wsM M) (am_rm d (am_sz h1 - am_sz h) (am_sn h1 - am_sn h))).room s m (vs.map (am_v g)).toArray meth c g M d :=
    ⟨B.exec, B.bytes, hml, B.returns, by rw [← hcls]; exact findClass_of_methodNamed B.named, fun w hw => hts w (List.mem_cons_of_mem _ hw), B.notSynchronized, fun q => by rw [(name_of_methodNamed B.named B.method).1]; exact q, Nat.le_refl _, Nat.le_refl _, q2, q3, q4, q5⟩
  have hmono := am_ex_mono hx
  rw [lg_entry_eq]
  have hW := ih d M 0 (am_ent vs (am_mt M).2.2.2.1) [] h r h1 (by omega) hx p e _ s m (vs.map (am_v g)).toArray below meth c s.heap [] (MQ below (am_QC g r h1) (vs.map (am_v g)).toArray s (am_sz h1 - am_sz h) (am_sn h1 - am_sn h) (am_A g)) (am_sz h) (am_sn h) _ C q1 va_S.rf (am_entry hv) (Nat.le_refl _) (Nat.le_refl _) (Nat.le_refl _) (Nat.le_refl _) (fun H' locs' ls' pc' st' i a1 a2 a3 a4 a5 a6 => am_ret_snd C a5 a6 a1 a2 a3 a4)
  rw [Nat.sub_self, Nat.sub_self] at hW
  exact hW
set_option maxHeartbeats 4000000 in
theorem am_snd (hMN : am_MNA) (hBI : am_BI) (hOK : ∀ M, M < 268 → ∀ pc, am_ok M pc = true) (hMP : am_MPROP) (l : Launch) (g : GV) : ∀ n, am_goal l g n := by
  intro n
  induction n with
  | zero => intro d M pc loc st h r h' _ hx; cases hx
  | succ n ih =>
    intro d M pc loc st h r h' hM8 hx p e R s m args below meth c H locs Q z0 n0 ls C hR hS hL hz0 hn0 hrc hrs hQ
    have hok := hOK M hM8 pc
    unfold am_ok at hok
    rw [am_ex_s] at hx
    cases hf : (am_mt M).2.2.2.2.2 pc with
    | none => rw [hf] at hx; cases hx
    | some en =>
      rw [hf] at hx hok
      simp only [Bool.and_eq_true, decide_eq_true_eq] at hok
      obtain ⟨⟨hl, hd⟩, hk⟩ := hok
      dsimp only at hx
      split at hx
      · rename_i hret
        obtain ⟨v, hv, he⟩ := Option.bind_eq_some_iff.mp hx
        split at he
        · rename_i hro
          cases he
          have h1 : en.2.1 = 1 := by
            obtain ⟨i, len, rest⟩ := en
            dsimp only at hl hret ⊢
            cases i <;> first | (cases hret; done) | (simpa [am_len] using hl)
          exact hQ H locs ls pc st en.1 (by rw [← h1]; exact hd) hret hv hro hR hS
        · cases he
      · split at hx
        · rename_i hnr hc
          have h3 : decode (am_mt M).2.2.1 pc = .ok (en.1, 3) := by
            obtain ⟨i, len, rest⟩ := en
            dsimp only at hl hc hd ⊢
            cases i <;> first | (cases hc; done) | (exact am_len1 hd hl)
          split at hx
          · rename_i h4
            obtain ⟨q, hq, he⟩ := Option.bind_eq_some_iff.mp hx
            split at he
            · cases he
            · rename_i h8
              have hm := am_ex_mono he
              have hb := am_bi_mono hq
              obtain ⟨i, len, mask, x1, x2, x3, w, cst⟩ := en
              dsimp only at hl hc hd hk h3 h4 hq he
              obtain ⟨idx, hsrt, hw⟩ : ∃ idx, ((x3 = 4 ∧ i = .invokespecial idx) ∨ ((x3 = 5 ∨ x3 = 6) ∧ i = .invokevirtual idx) ∨ ((x3 = 7 ∨ x3 = 8 ∨ x3 = 9) ∧ i = .invokestatic idx)) ∧ am_w w (.methodLink (am_on (am_mt M).1) idx (am_bn x3)) = true := by
                cases i <;> first | (cases hc; done) | skip
                all_goals
                  rename_i idx
                  unfold am_okI am_okC at hk
                  simp only [if_pos h4, Bool.and_eq_true, decide_eq_true_eq] at hk
                  refine ⟨idx, ?_, hk.1.2⟩
                  have z1 := hk.1.1
                  have z2 := hk.2
                  rcases (show x3 = 4 ∨ x3 = 5 ∨ x3 = 6 ∨ x3 = 7 ∨ x3 = 8 ∨ x3 = 9 by omega) with rfl | rfl | rfl | rfl | rfl | rfl <;> simp at z2 ⊢
              refine hBI p l e R s m args below meth c H locs Q g M d pc z0 n0 ls h q.2 st q.1 i idx x3 w C hR hS hL.2.1 hz0 hn0 h3 hsrt hw hq (by omega) (by omega) (by omega) (fun H' locs' a1 a2 => ?_)
              exact ih d M (pc + 3) _ q.1 q.2 r h' hM8 he p e R s m args below meth c H' locs' Q z0 n0 ls C a1 a2 (hL.msk _) (by omega) (by omega) hrc hrs hQ
          · rename_i h4
            split at hx
            · cases hx
            · rename_i hlen
              have hlen1 : ¬ st.length < en.2.2.2.2.1 := fun q => hlen (Or.inl q)
              have hlen2 : am_cats (st.drop en.2.2.2.2.1) ≤ 8 := by
                rcases Nat.lt_or_ge 8 (am_cats (st.drop en.2.2.2.2.1)) with q | q
                · exact absurd (Or.inr (Or.inl q)) hlen
                · exact q
              have hlen3 : (am_arg (st.take en.2.2.2.2.1).reverse).length ≤ (am_mt en.2.2.2.1).2.2.2.1 := by
                rcases Nat.lt_or_ge (am_mt en.2.2.2.1).2.2.2.1 (am_arg (st.take en.2.2.2.2.1).reverse).length with q | q
                · exact absurd (Or.inr (Or.inr q)) hlen
                · exact q
              clear hlen
              cases d with
              | zero => cases hx
              | succ d =>
                dsimp only at hx
                split at hx
                · cases hx
                · rename_i hrv
                  obtain ⟨q, hq, he⟩ := Option.bind_eq_some_iff.mp hx
                  have hm1 := am_ex_mono hq
                  have hm2 := am_ex_mono he
                  obtain ⟨i, len, mask, x1, x2, x3, w, cst⟩ := en
                  dsimp only at hl hc hd hk h3 h4 hq he hrv hlen1 hlen2 hlen3
                  have hst : st = ((st.take x2).reverse).reverse ++ st.drop x2 := by rw [List.reverse_reverse, List.take_append_drop]
                  generalize hvs : (st.take x2).reverse = vs at hst hq hrv hlen3
                  have hvl : vs.length = x2 := by rw [← hvs, List.length_reverse, List.length_take]; omega
                  generalize hre : st.drop x2 = rest at hst he hlen2
                  have hC := C
                  obtain ⟨hx0, hb, hml, hrt, hown, hts, hlk, hin, hfr, hlo, hK, hN, hE, hbs⟩ := hC
                  have hx1 : x1 < 267 := by
                    cases i <;> first | (cases hc; done) | skip
                    all_goals
                      unfold am_okI am_okC at hk
                      simp only [if_neg h4, Bool.and_eq_true, decide_eq_true_eq] at hk
                      exact hk.1
                  obtain ⟨hokM, hpl, hmx⟩ := hMP x1 hx1
                  have hMet := am_met ih hMP (g := g) hx1 hlen3 hq
                  have hkeep : ∀ U : State, U.heap = H → s.WarmedH U.vm → am_PC g vs h (vs.map (am_v g)).toArray U := fun U hU hW => ⟨rfl, by rw [hU]; exact hR, va_K.moved hW.alike hK, hN.warm hW, hE.to hbs hS hW.alike (fun r => vk_R.warm hW r) hU, by rw [hU]; exact Nat.le_trans hbs hS.1⟩
                  have hini : (Cond.initialized (am_mt x1).2.1.cls).before args s = true := by
                    have h9 := hokM
                    unfold am_okM at h9
                    simp only [Bool.and_eq_true] at h9
                    exact hts _ (am_w_mem h9.1.1.2 rfl)
                  have hplc : (am_mt x1).2.1.cls ≠ "java/lang/invoke/MethodHandle" ∧ (am_mt x1).2.1.cls ≠ "java/lang/invoke/VarHandle" := by
                    have h9 := hokM
                    unfold am_okM am_pl at h9
                    simp only [Bool.and_eq_true, decide_eq_true_eq] at h9
                    exact h9.1.2
                  have hroom : (am_rm d (am_sz q.2 - am_sz h) (am_sn q.2 - am_sn h)).frames + 1 ≤ R.frames ∧ 8 + ((am_mt x1).2.2.2.1 + 11) + (am_rm d (am_sz q.2 - am_sz h) (am_sn q.2 - am_sn h)).locals ≤ R.locals := by
                    show d + 8 + 1 ≤ R.frames ∧ 8 + ((am_mt x1).2.2.2.1 + 11) + (100 * d + 800) ≤ R.locals
                    omega
                  have hfit : am_sz h - z0 + (am_sz q.2 - am_sz h) ≤ R.cells ∧ am_sn h - n0 + (am_sn q.2 - am_sn h) ≤ R.slots := by omega
                  have hgo : ∀ H1 locs1, am_R g q.2 H1 → va_S (am_A g) s.heap H1 locs1 → W p l e R s m args below meth c H1 locs1 (am_sz h - z0 + (am_sz q.2 - am_sz h)) (am_sn h - n0 + (am_sn q.2 - am_sn h)) Q (F0 m (pc + 3) ls ((q.1.map (am_v g)).toList ++ rest.map (am_v g))) := by
                    intro H1 locs1 a1 a2
                    have hW := ih (d + 1) M (pc + 3) _ _ q.2 r h' hM8 he p e R s m args below meth c H1 locs1 Q z0 n0 ls C a1 a2 (hL.msk _) (by omega) (by omega) hrc hrs hQ
                    rw [List.map_append] at hW
                    rw [show am_sz h - z0 + (am_sz q.2 - am_sz h) = am_sz q.2 - z0 by omega, show am_sn h - n0 + (am_sn q.2 - am_sn h) = am_sn q.2 - n0 by omega]
                    have e1 : (q.1.map (am_v g)).toList = q.1.toList.map (am_v g) := by cases q.1 <;> rfl
                    rw [e1]
                    exact hW
                  have hroomW : 2 * (F0 m pc ls (st.map (am_v g))).monitorRoom + ((rest.map (am_v g)).map fun v => v.category).sum ≤ 8 := lv_room (by rw [am_cats_v]; exact hlen2)
                  have hstk : st.map (am_v g) = (vs.map (am_v g)).reverse ++ rest.map (am_v g) := by
                    rw [hst, List.map_append, List.map_reverse]
                  have hstm : F0 m pc ls (st.map (am_v g)) = F0 m pc ls ((vs.map (am_v g)).reverse ++ rest.map (am_v g)) := by rw [hstk]
                  rw [hstm] at hroomW ⊢
                  cases i <;> first | (cases hc; done) | skip
                  case invokestatic idx =>
                    unfold am_okI am_okC at hk
                    simp only [if_neg h4, Bool.and_eq_true, decide_eq_true_eq] at hk
                    have hk2 := hk.2
                    rcases (show x3 = 0 ∨ x3 = 1 ∨ x3 = 2 ∨ x3 = 3 by omega) with rfl | rfl | rfl | rfl
                    · simp at hk2
                    · simp only [Bool.and_eq_true, decide_eq_true_eq] at hk2
                      obtain ⟨⟨⟨-, w1⟩, w2⟩, w3⟩ := hk2
                      exact am_call (va_runS (As := vs.map (am_v g)) (n := x2) ⟨hx0, hb, hml, hown, hts⟩ hMet ⟨callB_of x2 hts (am_good hokM) rfl rfl rfl hini (hts _ (am_w_mem w1 rfl)) ⟨hplc.1, hplc.2, of_decide_eq_true w3⟩ hroom, hts _ (am_w_mem w2 rfl)⟩ ⟨am_PC_blind, hkeep⟩ rfl (by rw [List.length_map]; exact hvl) hL.2.1 rfl hroomW h3 hfit) hS hgo
                    · simp at hk2
                    · simp at hk2
                  case invokevirtual idx =>
                    unfold am_okI am_okC at hk
                    simp only [if_neg h4, Bool.and_eq_true, decide_eq_true_eq] at hk
                    have hk2 := hk.2
                    rcases (show x3 = 0 ∨ x3 = 1 ∨ x3 = 2 ∨ x3 = 3 by omega) with rfl | rfl | rfl | rfl
                    · simp only [Bool.and_eq_true, decide_eq_true_eq] at hk2
                      obtain ⟨⟨⟨⟨⟨⟨-, w1⟩, w2⟩, w3⟩, w4⟩, w5⟩, w6⟩ := hk2
                      have hrv2 : (am_a1 vs).map (fun q => am_kd h q.1) = some (am_mt x1).1 := Classical.byContradiction fun z => hrv ⟨by omega, z⟩
                      obtain ⟨y, hy, hy2⟩ := Option.map_eq_some_iff.mp hrv2
                      have hvs2 := am_a1_s hy
                      obtain ⟨a, vs'⟩ := y
                      dsimp only at hvs2 hy2
                      subst hvs2
                      obtain ⟨-, -, r', hr', cellV, g1, g2, g3, -⟩ := hR.obj hy2 w6
                      have hcl := am_cl_lt w6
                      obtain ⟨CC, T, N, hcc⟩ := hcl
                      have hon := (am_cl_ty hcc).2.2.2
                      have hcls := (hK.1 _ _ hcc).2
                      refine am_call (va_runV (C := am_on (am_mt x1).1) (b := am_ad g a) (As := vs'.map (am_v g)) (rest := rest.map (am_v g)) (n := x2 - 1) ⟨hx0, hb, hml, hown, hts⟩ hMet ⟨callB_of (x2 - 1) hts (am_good hokM) rfl rfl rfl hini (hts _ (am_w_mem w1 rfl)) ⟨hplc.1, hplc.2, of_decide_eq_true w4⟩ hroom, hts _ (am_w_mem w2 rfl), hts _ (am_w_mem w3 rfl)⟩ ⟨am_PC_blind, ⟨cellV, g1, by rw [g3]; rfl, by rw [hon, g2]; exact hcls.1⟩, hkeep⟩ rfl (by rw [List.length_map]; simp at hvl; omega) hL.2.1 ?_ hroomW h3 hfit) hS hgo
                      simp [am_v]
                    · simp at hk2
                    · simp at hk2
                    · simp at hk2
                  case invokespecial idx =>
                    unfold am_okI am_okC at hk
                    simp only [if_neg h4, Bool.and_eq_true, decide_eq_true_eq] at hk
                    have hk2 := hk.2
                    have hrv2 : ¬ x3 = 1 → ∃ (a : Nat) (vs' : List Value), vs = .ref a :: vs' := by
                      intro z
                      have hrv2 : (am_a1 vs).map (fun q => am_kd h q.1) = some (am_mt x1).1 := Classical.byContradiction fun z2 => hrv ⟨z, z2⟩
                      obtain ⟨y, hy, -⟩ := Option.map_eq_some_iff.mp hrv2
                      exact ⟨_, _, am_a1_s hy⟩
                    rcases (show x3 = 0 ∨ x3 = 1 ∨ x3 = 2 ∨ x3 = 3 by omega) with rfl | rfl | rfl | rfl
                    · simp at hk2
                    · simp at hk2
                    · simp only [Bool.and_eq_true, decide_eq_true_eq] at hk2
                      obtain ⟨⟨⟨⟨⟨⟨-, w1⟩, w2⟩, w3⟩, w4⟩, w5⟩, w6⟩ := hk2
                      obtain ⟨a, vs', rfl⟩ := hrv2 (by omega)
                      refine am_call (va_runI (b := am_ad g a) (As := vs'.map (am_v g)) (rest := rest.map (am_v g)) (n := x2 - 1) (bytes := (am_mt x1).2.2.1) (maxL := (am_mt x1).2.2.2.1) ⟨hx0, hb, hml, hown, hts⟩ hMet ⟨callB_of (ret := none) (x2 - 1) hts (am_good hokM) (by unfold am_wsM; rw [w6]) rfl rfl hini (hts _ (am_w_mem w1 rfl)) ⟨hplc.1, hplc.2, of_decide_eq_true w3⟩ hroom, w5, hts _ (am_w_mem w2 rfl)⟩ ⟨am_PC_blind, hkeep⟩ rfl (by rw [List.length_map]; simp at hvl; omega) hL.2.1 ?_ hroomW h3 hfit) hS hgo
                      simp [am_v]
                    · simp only [Bool.and_eq_true, decide_eq_true_eq] at hk2
                      obtain ⟨⟨⟨⟨⟨⟨-, w1⟩, w2⟩, w3⟩, w4⟩, w5⟩, w6⟩ := hk2
                      obtain ⟨a, vs', rfl⟩ := hrv2 (by omega)
                      refine am_call (va_runIN (b := am_ad g a) (As := vs'.map (am_v g)) (rest := rest.map (am_v g)) (n := x2 - 1) (bytes := (am_mt x1).2.2.1) (maxL := (am_mt x1).2.2.2.1) ⟨hx0, hb, hml, hown, hts⟩ hMet ⟨va_cnB (ret := none) (x2 - 1) hts (am_good hokM) (by unfold am_wsM; rw [w6]) rfl rfl (hN.1 _ (am_w_tbl w1) rfl) hini ⟨hplc.1, hplc.2, of_decide_eq_true w3⟩ hroom, w5, hts _ (am_w_mem w2 rfl)⟩ ⟨am_PC_blind, hkeep⟩ rfl (by rw [List.length_map]; simp at hvl; omega) hL.2.1 ?_ hroomW h3 hfit) hS hgo
                      simp [am_v]
        · obtain ⟨⟨pc1, loc1, st1, h1⟩, hq, he⟩ := Option.bind_eq_some_iff.mp hx
          dsimp only at he
          have hm := am_ex_mono he
          have hm1 := am_s1_mono hq
          refine am_s1_snd hMN C hR hS hz0 hn0 hd hl hk (hL.msk _) hq (by omega) (by omega) (fun ls' H' locs' a1 a2 a3 => ?_)
          exact ih d M pc1 loc1 st1 h1 r h' hM8 he p e R s m args below meth c H' locs' Q z0 n0 ls' C a2 a3 a1 (by omega) (by omega) hrc hrs hQ
