/-! THE LAW'S START, in the small machine -/
def am_h0 (L : Nat) (xs : Nat → Int32) : AH := (6, 0, fun a => match a with | 0 => 100 | 1 => 100 | 2 => 200 | 3 => 201 | 4 => 200 | 5 => 201 | _ => 999, fun a => match a with | 0 => L | 1 => 4 | 3 => 42 | 5 => 85 | _ => 0, fun a => match a with | 0 => xs | 1 => am_at am_alw | 3 => am_at am_by0 | 5 => am_at am_by1 | _ => fun _ => 0, fun _ _ => 0, fun _ _ => none)
/-- WHAT THE MATHEMATICS OWES: on every script of at most 2560 ints the law's run ends with 1, within the room -/
def am_LAWP : Prop := ∀ (L : Nat) (xs : Nat → Int32), L ≤ 2560 → Cl 800 267 [.ref 0] (am_h0 L xs) (fun r h' => r = some (.int 1) ∧ am_sz h' ≤ 600000 ∧ am_sn h' ≤ 7302250)
theorem am_h0_R {g : GV} {H : Heap} (hb : g.2.2.2.2.1 = H.size) : am_R g (am_h0 g.2.2.2.2.2.1 g.2.2.2.2.2.2) H := by
  refine ⟨⟨Nat.le_refl _, rfl, rfl, rfl, rfl, rfl, rfl, fun a ha => ?_, fun a h1 h2 => ?_⟩, by rw [hb]; rfl, ⟨⟨rfl, rfl⟩, ⟨rfl, rfl⟩, ⟨rfl, rfl⟩, ⟨rfl, rfl⟩⟩, fun a h1 h2 => ?_⟩
  · have h6 : 6 ≤ a := ha
    obtain ⟨k, rfl⟩ : ∃ k, a = k + 6 := ⟨a - 6, by omega⟩
    rfl
  · have : a < 6 := h2
    omega
  · have : a < 6 := h2
    omega
/-- the two String constants as terms -/
def am_tm (i : Nat) : Term := match i with
  | 0 => .string "HousingSociety" 87
  | _ => .string "HousingSociety$Reader" 115
abbrev am_fl : List Cond := flatC (Jvm.Cond.and given_1 narrow_1)
theorem am_el : ((List.range 2).all fun i => (List.range (([42, 85] : List Nat).getD i 0)).all fun j => decide (Cond.eq (.elem (.field (am_tm i) "java/lang/String" "value" "[B") (.int (Int32.ofNat j))) (.int ((([am_by0, am_by1] : List (List Int32)).getD i []).getD j 0)) ∈ am_fl)) = true := by decide +kernel
theorem am_s0 : ((List.range 2).all fun i => decide (Cond.exactly (am_tm i) "java/lang/String" ∈ am_fl) && decide (Cond.eq (.field (am_tm i) "java/lang/String" "coder" "B") (.int 0) ∈ am_fl) && decide (Cond.arrayOf (.field (am_tm i) "java/lang/String" "value" "[B") .byte ∈ am_fl) && decide (Cond.eq (.length (.field (am_tm i) "java/lang/String" "value" "[B")) (.int (Int32.ofNat (([42, 85] : List Nat).getD i 0))) ∈ am_fl)) = true := by decide +kernel
theorem am_sne : Cond.not (Cond.eq (am_tm 0) (am_tm 1)) ∈ am_fl ∨ Cond.not (Cond.eq (am_tm 1) (am_tm 0)) ∈ am_fl := by decide +kernel
theorem am_ale : ((List.range 4).all fun j => decide (Cond.eq (.elem (.static "HousingSociety$Reader" "ALLOWED" "[I") (.int (Int32.ofNat j))) (.int (am_at am_alw j)) ∈ am_fl)) = true := by decide +kernel
theorem am_arrK {s : State} {args : Array Value} {ty : FieldType} (h : (Cond.arrayClass ty).before args s = true) : ∃ cA, ArrOfT s cA ty ∧ s.vm.findClass ("[" ++ ty.toString) = some cA := by
  obtain ⟨c, k, comp, h1, h2, h3⟩ := Cond.arrayClass_spec h
  exact ⟨c, fun n z => ⟨(fun k h => by cases h), k, h2, comp, h3⟩, h1⟩
theorem am_arrO {s : State} {C : String} (h : va_AO C s) : ∃ cA, ArrOfT s cA (.object C) ∧ va_RA s cA (.object C) := by
  obtain ⟨comp, c, k, h1, h2, h3, h4, h5⟩ := Cond.arrayOver_spec h
  exact ⟨c, fun n z => ⟨(fun k h => by cases h), k, h3, comp, h4⟩, k, comp, h3, h4, h1, h5⟩
theorem am_arrA {s : State} (h : am_AOA s) : ∃ cA, ArrOfT s cA (.array .long) ∧ s.vm.findClass ("[" ++ (FieldType.array .long).toString) = some cA := by
  obtain ⟨comp, c, k, h1, h3, h4, h5⟩ := Cond.arrayOver_specA h
  exact ⟨c, fun n z => ⟨(fun k h => by cases h), k, h3, comp, h4⟩, h5⟩
set_option maxHeartbeats 4000000 in
set_option maxRecDepth 100000 in
theorem am_start (hOK : ∀ M, M < 268 → ∀ pc, am_ok M pc = true) (hMP : am_MPROP) (hLAW : am_LAWP) {p : Program} {e : Env} {s : State} {m : MethodId} {below : List Frame} {meth : Method} {c : Code} (l : Launch) {b L : Nat} {xs : Nat → Int32} (hL : L ≤ 2560) (C0 : lw_At p s m meth c b L xs) : W p l e room_1 s m #[Value.ref b] below meth c s.heap [] 0 0 (lw_Z below #[Value.ref b] s) (entryFrame m ([Value.ref b] : List Value).toArray 4) := by
  obtain ⟨hx, hb, hr, hml, hown, hts, hX, hbl, hlocks, hgv⟩ := C0
  have hfl := flat_of_before _ hgv
  have htw : ∀ w ∈ am_ws, w.before #[Value.ref b] s = true := fun w hw => hts w (List.mem_filter.mp hw).1
  -- the classes
  have hKn : ∀ k : Nat, ∃ q : ClassId × (Nat → Nat), ∀ r : vw_C, am_cl[k]? = some r → u_Kn s r.1 r.2.1 r.2.2 q.1 q.2 := by
    intro k
    cases hk : am_cl[k]? with
    | none => exact ⟨(0, fun _ => 0), fun r hr => by cases hr⟩
    | some r =>
      obtain ⟨CC, T, N⟩ := r
      obtain ⟨cC, iS, h9⟩ := u_known (C := CC) (T := T) (N := N) (n := N) htw (am_uw hk) (htw _ (am_inst hk).1)
      exact ⟨(cC, iS), fun r hr => by cases hr; exact h9⟩
  obtain ⟨dq, hdq⟩ := Classical.axiomOfChoice hKn
  -- the rows of objects and of numbers
  have hAO : ∀ C : String, Cond.arrayOver (.object C) ∈ lw_tbl → va_AO C s := fun C h => va_AO.of (hts _ h)
  have hN : am_N s := by
    refine ⟨fun w hw hn => ?_, ⟨hAO _ (by decide +kernel), hAO _ (by decide +kernel), hAO _ (by decide +kernel), hAO _ (by decide +kernel), hAO _ (by decide +kernel)⟩, hts (.arrayOver (.array .long)) (by decide +kernel)⟩
    have h2 := hts w hw
    cases w <;> first | exact va_Nw.of rfl h2 | cases hn
  obtain ⟨a0, p0, q0⟩ := am_arrK (ty := .int) (htw _ (am_arrW .int (by decide)))
  obtain ⟨a1, p1, q1⟩ := am_arrK (ty := .long) (htw _ (am_arrW .long (by decide)))
  obtain ⟨a2, p2, q2⟩ := am_arrK (ty := .byte) (htw _ (am_arrW .byte (by decide)))
  obtain ⟨a3, p3, q3⟩ := am_arrK (ty := .boolean) (htw _ (am_arrW .boolean (by decide)))
  obtain ⟨a4, p4, q4⟩ := am_arrO hN.2.1.1
  obtain ⟨a5, p5, q5⟩ := am_arrO hN.2.1.2.1
  obtain ⟨a6, p6, q6⟩ := am_arrO hN.2.1.2.2.1
  obtain ⟨a7, p7, q7⟩ := am_arrO hN.2.1.2.2.2.1
  obtain ⟨a8, p8, q8⟩ := am_arrO hN.2.1.2.2.2.2
  obtain ⟨a9, p9, q9⟩ := am_arrA hN.2.2
  -- what the start holds
  have hA0 : ∀ a : Nat, a < s.heap.size → ¬ (fun q : Nat => s.heap.size ≤ q) a := fun a h1 h2 => by have : s.heap.size ≤ a := h2; omega
  obtain ⟨t1, ht1, hT1⟩ := va_Tof (tm := .static "HousingSociety$Reader" "ALLOWED" "[I") (ty := .int) (N := 4) (f := fun j => .int (am_at am_alw j)) (A := fun q : Nat => s.heap.size ≤ q) (by decide) (hfl _ (by decide +kernel)) (va_eqt (hfl (.eq (.length (.static "HousingSociety$Reader" "ALLOWED" "[I")) (.int 4)) (by decide +kernel))) (fun j hj => va_eqt (hfl _ (of_decide_eq_true (List.all_eq_true.mp am_ale j (List.mem_range.mpr hj))))) hA0
  have hZ1 := va_Zof (C := "HousingSociety$Reader") (n := "ALLOWED") (d := "[I") (A := fun q : Nat => s.heap.size ≤ q) (hts (.laysStatic "HousingSociety$Reader" "ALLOWED" "[I") (by decide +kernel)) (hts (.initialized "HousingSociety$Reader") (by decide +kernel)) ht1 hA0
  have hs0 : ∀ i : Nat, i < 2 → _ := fun i hi => List.all_eq_true.mp am_s0 i (List.mem_range.mpr hi)
  simp only [Bool.and_eq_true, decide_eq_true_eq] at hs0
  obtain ⟨adK, adV, hV, hev⟩ := vk_Sof (N := 2) (tm := am_tm) (len := [42, 85]) (byt := [am_by0, am_by1]) (A := fun q : Nat => s.heap.size ≤ q) (args := #[Value.ref b]) (s := s) (fun i hi => by rcases (show i = 0 ∨ i = 1 by omega) with rfl | rfl <;> decide)
    (fun i hi => hfl _ (hs0 i hi).1.1.1) (fun i hi => hfl _ (hs0 i hi).1.1.2) (fun i hi => hfl _ (hs0 i hi).1.2) (fun i hi => hfl _ (hs0 i hi).2)
    (fun i hi j hj => hfl _ (of_decide_eq_true (List.all_eq_true.mp (List.all_eq_true.mp am_el i (List.mem_range.mpr hi)) j (List.mem_range.mpr hj))))
    (fun i j hi hj hne => by
      rcases (show (i = 0 ∧ j = 1) ∨ (i = 1 ∧ j = 0) by omega) with ⟨rfl, rfl⟩ | ⟨rfl, rfl⟩
      · exact am_sne.imp (fun z => hfl _ z) (fun z => hfl _ z)
      · exact (am_sne.imp (fun z => hfl _ z) (fun z => hfl _ z)).symm) hA0
  have hZc := va_Zof (C := "java/lang/String") (n := "COMPACT_STRINGS") (d := "Z") (A := fun q : Nat => s.heap.size ≤ q) (hts (.laysStatic "java/lang/String" "COMPACT_STRINGS" "Z") (by decide +kernel)) (hts (.initialized "java/lang/String") (by decide +kernel)) (va_eqi (z := 1) (hfl _ (by decide +kernel))) hA0
  have hZq := va_Zqof (C := "jdk/internal/util/Preconditions") (n := "SIOOBE_FORMATTER") (d := "Ljava/util/function/BiFunction;") (A := fun q : Nat => s.heap.size ≤ q) (hts (.laysStatic "jdk/internal/util/Preconditions" "SIOOBE_FORMATTER" "Ljava/util/function/BiFunction;") (by decide +kernel)) (hts (.initialized "jdk/internal/util/Preconditions") (by decide +kernel)) (hfl _ (by decide +kernel)) hA0
  have hr1 := hts (.stringRef "HousingSociety" 87 "points waits ; may 1 ; votes 1 ; costs 1 ;") (by decide +kernel)
  have hr2 := hts (.stringRef "HousingSociety$Reader" 115 "waits family rooms joined debt stair share members points may votes costs or and not ") (by decide +kernel)
  obtain ⟨g, hg⟩ : ∃ g : GV, g = (fun k => (dq k).1, fun k => (dq k).2, fun k => match k with | 0 => a0 | 1 => a1 | 2 => a2 | 3 => a3 | 4 => a4 | 5 => a5 | 6 => a6 | 7 => a7 | 8 => a8 | _ => a9, fun k => match k with | 0 => b | 1 => t1 | 2 => adK 0 | 3 => adV 0 | 4 => adK 1 | _ => adV 1, s.heap.size, L, xs) := ⟨_, rfl⟩
  have hK : va_K (am_D g) am_cl (am_tys g) s := by
    subst hg
    refine ⟨fun k r hr => hdq k r hr, fun k r hr => ?_⟩
    have hk : k < 10 := (List.getElem?_eq_some_iff.mp hr).1
    rcases (show k = 0 ∨ k = 1 ∨ k = 2 ∨ k = 3 ∨ k = 4 ∨ k = 5 ∨ k = 6 ∨ k = 7 ∨ k = 8 ∨ k = 9 by omega) with rfl | rfl | rfl | rfl | rfl | rfl | rfl | rfl | rfl | rfl <;> cases hr
    · exact ⟨p0, q0⟩
    · exact ⟨p1, q1⟩
    · exact ⟨p2, q2⟩
    · exact ⟨p3, q3⟩
    · exact ⟨p4, q4⟩
    · exact ⟨p5, q5⟩
    · exact ⟨p6, q6⟩
    · exact ⟨p7, q7⟩
    · exact ⟨p8, q8⟩
    · exact ⟨p9, q9⟩
  have hE : am_E g s := by
    subst hg
    refine ⟨⟨hX, hbl⟩, ⟨hZ1, hT1⟩, ⟨_, vk_R.of hr1 (hev 0 (by omega))⟩, ⟨_, vk_R.of hr2 (hev 1 (by omega))⟩, ⟨fun i hi => ?_, fun i j hi hj he => ?_⟩, hZc, hZq⟩
    · rcases (show i = 0 ∨ i = 1 by omega) with rfl | rfl
      · exact hV.1 0 (by omega)
      · exact hV.1 1 (by omega)
    · rcases (show i = 0 ∨ i = 1 by omega) with rfl | rfl <;> rcases (show j = 0 ∨ j = 1 by omega) with rfl | rfl
      · rfl
      · exact hV.2 0 1 hi hj he
      · exact hV.2 1 0 hi hj he
      · rfl
  have hgb : g.2.2.2.2.1 = s.heap.size := by rw [hg]
  have hgs : g.2.2.2.2.2.1 = L ∧ g.2.2.2.2.2.2 = xs := by rw [hg]; exact ⟨rfl, rfl⟩
  have hg0 : am_ad g 0 = b := by rw [hg]; rfl
  have C : am_C p room_1 s m #[Value.ref b] meth c g 267 800 := ⟨hx, hb, hml, hr, hown, htw, hlocks, fun q => absurd q (by decide +kernel), by decide, by decide, hK, hN, hE, Nat.le_of_eq hgb⟩
  obtain ⟨n, r, h', hex, hrr, hz, hs⟩ := hLAW L xs hL
  subst hrr
  have hR := am_h0_R (g := g) hgb
  rw [hgs.1, hgs.2] at hR
  have hent := am_entry (g := g) (vs := [.ref 0]) (n := 4) (by decide)
  rw [lg_entry_eq]
  have e0 : ([.ref 0] : List Value).map (am_v g) = [.ref b] := by show [Value.ref (am_ad g 0)] = _; rw [hg0]
  rw [e0] at hent
  have hW := am_snd am_mna_snd am_bi_snd hOK hMP l g n 800 267 0 (am_ent [.ref 0] 4) [] (am_h0 L xs) _ h' (by decide) hex p e room_1 s m #[Value.ref b] below meth c s.heap [] (lw_Z below #[Value.ref b] s) 6 0 _ C hR va_S.rf hent (Nat.le_refl _) (Nat.le_refl _) (by show am_sz h' - 6 ≤ 600000; omega) (by show am_sn h' - 0 ≤ 7302250; omega) (fun H' locs' ls' pc' st' i b1 b2 b3 b4 b5 b6 => by
    have hi : i = .ireturn ∧ st' = [.int 1] := by
      cases i <;> first | (cases b2; done) | skip
      · unfold am_ret at b3
        dsimp only at b3
        split at b3
        · cases b3; exact ⟨rfl, rfl⟩
        · cases b3
      · unfold am_ret at b3
        dsimp only at b3
        split at b3 <;> cases b3
      · unfold am_ret at b3
        dsimp only at b3
        split at b3 <;> cases b3
    obtain ⟨rfl, rfl⟩ := hi
    refine va_forget (fun q hq => by rw [← hgb]; exact b6.2.2 q hq) ?_
    refine W.widen (k := 600000) (n := 7302250) (by omega) (by omega) ?_
    exact lw_ret hx hb hr hlocks b1)
  exact hW
