/-! THE SMALL HEAP AND THE REAL ONE -/
/-- what a run takes as fixed: the classes, their fields' slots, the array classes, where the start's own things lie, where the new cells begin -/
abbrev GV : Type := (Nat → ClassId) × (Nat → Nat → Nat) × (Nat → ClassId) × (Nat → Nat) × Nat × Nat × (Nat → Int32)
def am_ad (g : GV) (a : Nat) : Nat := if a < 6 then g.2.2.2.1 a else g.2.2.2.2.1 + (a - 6)
def am_v (g : GV) (v : Value) : Value := match v with
  | .ref a => .ref (am_ad g a)
  | w => w
def am_nf (ci : Nat) : Nat := ((am_cl[ci]?).map (fun q => q.2.2)).getD 0
def am_fv (g : GV) (h : AH) (a ci k : Nat) : Value := match am_srt (am_ty ci k) with
  | 0 => .int (am_gi h a k)
  | 1 => .long (am_gl h a k)
  | 3 => .int (am_gi h a k)
  | _ => va_rf ((am_gr h a k).map (am_ad g))
def am_fs (g : GV) (h : AH) (a ci N : Nat) : List Value := (List.range N).map (am_fv g h a ci)
def am_ac (g : GV) (h : AH) (a : Nat) : (Nat → Int32) ⊕ (Nat → Int64) ⊕ (Nat → UInt32) ⊕ (Nat → UInt64) ⊕ (Nat → Option Nat) :=
  if am_kd h a = 101 then .inr (.inl (am_gl h a)) else if am_kd h a < 104 then .inl (am_gi h a) else .inr (.inr (.inr (.inr (fun j => (am_gr h a j).map (am_ad g)))))
def am_ec (g : GV) (h : AH) (a : Nat) : va_E :=
  if am_kd h a < 13 then .inr (am_kd h a, am_fs g h a (am_kd h a) (am_nf (am_kd h a))) else .inl (g.2.2.1 (am_kd h a - 100), am_ln h a, am_ac g h a)
abbrev am_D (g : GV) : va_G := (g.1, g.2.1)
/-- the bytes of the two String constants, and Reader.ALLOWED -/
def am_by0 : List Int32 := [112, 111, 105, 110, 116, 115, 32, 119, 97, 105, 116, 115, 32, 59, 32, 109, 97, 121, 32, 49, 32, 59, 32, 118, 111, 116, 101, 115, 32, 49, 32, 59, 32, 99, 111, 115, 116, 115, 32, 49, 32, 59]
def am_by1 : List Int32 := [119, 97, 105, 116, 115, 32, 102, 97, 109, 105, 108, 121, 32, 114, 111, 111, 109, 115, 32, 106, 111, 105, 110, 101, 100, 32, 100, 101, 98, 116, 32, 115, 116, 97, 105, 114, 32, 115, 104, 97, 114, 101, 32, 109, 101, 109, 98, 101, 114, 115, 32, 112, 111, 105, 110, 116, 115, 32, 109, 97, 121, 32, 118, 111, 116, 101, 115, 32, 99, 111, 115, 116, 115, 32, 111, 114, 32, 97, 110, 100, 32, 110, 111, 116, 32]
def am_alw : List Int32 := [127, 127, 128, 102]
def am_at (l : List Int32) (j : Nat) : Int32 := l.getD j 0
/-- the kinds of what the start holds, and of what there isn't yet -/
def am_HX (g : GV) (h : AH) : Prop := (am_ln h 0 = g.2.2.2.2.2.1 ∧ am_gi h 0 = g.2.2.2.2.2.2) ∧ (am_ln h 1 = 4 ∧ am_gi h 1 = am_at am_alw) ∧ (am_ln h 3 = 42 ∧ am_gi h 3 = am_at am_by0) ∧ (am_ln h 5 = 85 ∧ am_gi h 5 = am_at am_by1)
def am_X0 (h : AH) : Prop := 6 ≤ am_sz h ∧ am_kd h 0 = 100 ∧ am_kd h 1 = 100 ∧ am_kd h 2 = 200 ∧ am_kd h 3 = 201 ∧ am_kd h 4 = 200 ∧ am_kd h 5 = 201 ∧ (∀ a, am_sz h ≤ a → am_kd h a = 999) ∧ ∀ a, 6 ≤ a → a < am_sz h → am_kd h a < 13 ∨ (100 ≤ am_kd h a ∧ am_kd h a ≤ 109)
def am_R (g : GV) (h : AH) (H : Heap) : Prop := am_X0 h ∧ H.size + 6 = g.2.2.2.2.1 + am_sz h ∧ am_HX g h ∧ ∀ a, 6 ≤ a → a < am_sz h → va_at (am_D g) am_cl (am_ad g a, am_ec g h a) H
def am_tys (g : GV) : List (ClassId × FieldType) := [(g.2.2.1 0, .int), (g.2.2.1 1, .long), (g.2.2.1 2, .byte), (g.2.2.1 3, .boolean), (g.2.2.1 4, .object RX2), (g.2.2.1 5, .object RX3), (g.2.2.1 6, .object RX7), (g.2.2.1 7, .object RX9), (g.2.2.1 8, .object RX10), (g.2.2.1 9, .array .long)]
theorem am_ad_in {g : GV} {a : Nat} (h : 6 ≤ a) : am_ad g a = g.2.2.2.2.1 + (a - 6) := by unfold am_ad; rw [if_neg (by omega)]
theorem am_ad_ne {g : GV} {a b : Nat} (ha : 6 ≤ a) (hb : 6 ≤ b) (h : a ≠ b) : am_ad g a ≠ am_ad g b := by rw [am_ad_in ha, am_ad_in hb]; omega
theorem am_v_cat (g : GV) (v : Value) : (am_v g v).category = v.category := by cases v <;> rfl
theorem am_cats_v (g : GV) (st : List Value) : ((st.map (am_v g)).map fun v => v.category).sum = am_cats st := by
  unfold am_cats
  rw [List.map_map]
  congr 1
  apply List.map_congr_left
  intro v _
  exact am_v_cat g v
/-- a cell is told by its kind, length, ints, longs and references -/
theorem am_ec_eq {g : GV} {h h' : AH} {a : Nat} (h1 : am_kd h' a = am_kd h a) (h2 : am_ln h' a = am_ln h a) (h3 : am_gi h' a = am_gi h a) (h4 : am_gl h' a = am_gl h a) (h5 : am_gr h' a = am_gr h a) : am_ec g h' a = am_ec g h a := by
  have e : ∀ ci, am_fv g h' a ci = am_fv g h a ci := by
    intro ci
    funext k
    unfold am_fv
    rw [h3, h4, h5]
  unfold am_ec am_ac am_fs
  rw [h1, h2, h3, h4, h5]
  simp only [e]
theorem am_R.lt {g : GV} {h : AH} {H : Heap} (hR : am_R g h H) {a : Nat} (h1 : 6 ≤ a) (h2 : a < am_sz h) : am_ad g a < H.size := by
  rw [am_ad_in h1]; have := hR.2.1; omega
/-- one cell is changed -/
theorem am_R.set {g : GV} {h h' : AH} {H H' : Heap} (hR : am_R g h H) {a : Nat} (ha : 6 ≤ a) (h1 : am_sz h' = am_sz h) (h2 : am_kd h' = am_kd h) (h3 : am_ln h' = am_ln h) (h4 : ∀ b, b ≠ a → am_gi h' b = am_gi h b) (h5 : ∀ b, b ≠ a → am_gl h' b = am_gl h b) (h6 : ∀ b, b ≠ a → am_gr h' b = am_gr h b)
    (hz : H'.size = H.size) (ho : ∀ q, q ≠ am_ad g a → H'[q]? = H[q]?) (hc : va_at (am_D g) am_cl (am_ad g a, am_ec g h' a) H') : am_R g h' H' := by
  obtain ⟨⟨x1, x2⟩, r2, rx, r3⟩ := hR
  refine ⟨⟨by rw [h1]; exact x1, by rw [h2, h1]; exact x2⟩, by rw [hz, h1]; exact r2, by unfold am_HX; rw [h3, h4 0 (by omega), h4 1 (by omega), h4 3 (by omega), h4 5 (by omega)]; exact rx, fun b hb hb2 => ?_⟩
  by_cases e : b = a
  · subst e; exact hc
  · rw [am_ec_eq (h := h) (by rw [h2]) (by rw [h3]) (h4 b e) (h5 b e) (h6 b e)]
    exact (r3 b hb (by rw [← h1]; exact hb2)).kept (ho _ (am_ad_ne hb ha e))
/-- a cell more -/
theorem am_R.push {g : GV} {h h' : AH} {H H' : Heap} (hR : am_R g h H) (h1 : am_sz h' = am_sz h + 1) (hk : am_kd h' (am_sz h) < 13 ∨ (100 ≤ am_kd h' (am_sz h) ∧ am_kd h' (am_sz h) ≤ 109)) (h2 : ∀ b, b ≠ am_sz h → am_kd h' b = am_kd h b) (h3 : ∀ b, b ≠ am_sz h → am_ln h' b = am_ln h b) (h4 : ∀ b, b ≠ am_sz h → am_gi h' b = am_gi h b) (h5 : ∀ b, b ≠ am_sz h → am_gl h' b = am_gl h b) (h6 : ∀ b, b ≠ am_sz h → am_gr h' b = am_gr h b)
    (hz : H'.size = H.size + 1) (ho : ∀ q, q < H.size → H'[q]? = H[q]?) (hc : va_at (am_D g) am_cl (am_ad g (am_sz h), am_ec g h' (am_sz h)) H') : am_R g h' H' := by
  obtain ⟨⟨x1, x2, x3, x4, x5, x6, x7, x8, x9⟩, r2, rx, r3⟩ := hR
  refine ⟨⟨by omega, by rw [h2 0 (by omega)]; exact x2, by rw [h2 1 (by omega)]; exact x3, by rw [h2 2 (by omega)]; exact x4, by rw [h2 3 (by omega)]; exact x5, by rw [h2 4 (by omega)]; exact x6, by rw [h2 5 (by omega)]; exact x7, fun b hb => by rw [h2 b (by omega)]; exact x8 b (by omega), fun b hb hb2 => ?_⟩, by omega, by unfold am_HX; rw [h3 0 (by omega), h3 1 (by omega), h3 3 (by omega), h3 5 (by omega), h4 0 (by omega), h4 1 (by omega), h4 3 (by omega), h4 5 (by omega)]; exact rx, fun b hb hb2 => ?_⟩
  · by_cases e : b = am_sz h
    · subst e; exact hk
    · rw [h2 b e]; exact x9 b hb (by omega)
  · by_cases e : b = am_sz h
    · subst e; exact hc
    · rw [am_ec_eq (h := h) (h2 b e) (h3 b e) (h4 b e) (h5 b e) (h6 b e)]
      have hb3 : b < am_sz h := by omega
      exact (r3 b hb hb3).kept (ho _ (by show am_ad g b < H.size; rw [am_ad_in hb]; omega))
theorem am_R.ad_new {g : GV} {h : AH} {H : Heap} (hR : am_R g h H) : am_ad g (am_sz h) = H.size := by
  have := hR.1.1; have := hR.2.1; rw [am_ad_in (by omega)]; omega
/-- an object's cell -/
theorem am_R.obj {g : GV} {h : AH} {H : Heap} (hR : am_R g h H) {a ci : Nat} (hk : am_kd h a = ci) (hc : ci < 13) : 6 ≤ a ∧ a < am_sz h ∧ va_at (am_D g) am_cl (am_ad g a, .inr (ci, am_fs g h a ci (am_nf ci))) H := by
  obtain ⟨⟨x1, x2, x3, x4, x5, x6, x7, x8, x9⟩, r2, rx, r3⟩ := hR
  have ha : 6 ≤ a := by
    rcases Nat.lt_or_ge a 6 with q | q
    · rcases (show a = 0 ∨ a = 1 ∨ a = 2 ∨ a = 3 ∨ a = 4 ∨ a = 5 by omega) with rfl | rfl | rfl | rfl | rfl | rfl <;> omega
    · exact q
  have hb : a < am_sz h := by
    rcases Nat.lt_or_ge a (am_sz h) with q | q
    · exact q
    · have := x8 a q; omega
  refine ⟨ha, hb, ?_⟩
  have := r3 a ha hb
  unfold am_ec at this
  rw [if_pos (by omega), hk] at this
  exact this
/-- an array's cell -/
theorem am_R.arr {g : GV} {h : AH} {H : Heap} (hR : am_R g h H) {a : Nat} (hk : 100 ≤ am_kd h a ∧ am_kd h a ≤ 109) (h6 : 6 ≤ a) : a < am_sz h ∧ H[am_ad g a]? = some (vp_cell (g.2.2.1 (am_kd h a - 100)) (am_ln h a, am_ac g h a)) := by
  obtain ⟨⟨x1, x2, x3, x4, x5, x6, x7, x8, x9⟩, r2, rx, r3⟩ := hR
  have hb : a < am_sz h := by
    rcases Nat.lt_or_ge a (am_sz h) with q | q
    · exact q
    · have := x8 a q; omega
  refine ⟨hb, ?_⟩
  have := r3 a h6 hb
  unfold am_ec at this
  rw [if_neg (by omega)] at this
  exact this
/-- the locals -/
def am_LH (g : GV) (ls : Array Slot) (nL : Nat) (loc : List Value) : Prop := loc.length = nL ∧ ls.size = nL ∧ lv_wf ls ∧ ∀ (i : Nat) (v : Value), loc[i]? = some v → v ≠ Value.null → ls[i]? = some (Slot.val (am_v g v))
def am_as (g : GV) (loc : List Value) : List (Nat × Value) := (List.range loc.length).filterMap fun i => match (loc[i]? : Option Value) with
  | some Value.null => none
  | some v => some (i, am_v g v)
  | none => none
theorem am_as_mem {g : GV} {loc : List Value} {i : Nat} {w : Value} : (i, w) ∈ am_as g loc ↔ ∃ v : Value, loc[i]? = some v ∧ v ≠ Value.null ∧ am_v g v = w := by
  unfold am_as
  rw [List.mem_filterMap]
  constructor
  · rintro ⟨j, hj, h⟩
    split at h
    · cases h
    · rename_i v hn hv
      cases h
      exact ⟨v, hv, fun q => hn q, rfl⟩
    · cases h
  · rintro ⟨v, h1, h2, h3⟩
    refine ⟨i, List.mem_range.mpr (List.getElem?_eq_some_iff.mp h1).1, ?_⟩
    rw [h1]
    cases v <;> first | exact absurd rfl h2 | (rw [← h3])
theorem am_LH.has {g : GV} {ls : Array Slot} {nL : Nat} {loc : List Value} (h : am_LH g ls nL loc) : lv_has ls nL (am_as g loc) := by
  refine ⟨h.2.1, h.2.2.1, fun q hq => ?_⟩
  obtain ⟨v, h1, h2, h3⟩ := am_as_mem.mp (show (q.1, q.2) ∈ am_as g loc from hq)
  rw [← h3]
  exact h.2.2.2 q.1 v h1 h2
theorem am_LH.of {g : GV} {ls : Array Slot} {nL : Nat} {loc : List Value} {l : List (Nat × Value)} (h : lv_has ls nL l) (hn : loc.length = nL) (hm : ∀ (i : Nat) (v : Value), loc[i]? = some v → v ≠ Value.null → (i, am_v g v) ∈ l) : am_LH g ls nL loc := ⟨hn, h.1, h.2.1, fun i v h1 h2 => h.2.2 (i, am_v g v) (hm i v h1 h2)⟩
theorem am_cut_s (i : Nat) (loc : List Value) : am_cut (i + 1) loc = match loc[i]? with
    | some (.long _) => loc.set i .null
    | some (.double _) => loc.set i .null
    | _ => loc := rfl
theorem am_cut_len (i : Nat) (loc : List Value) : (am_cut i loc).length = loc.length := by
  cases i with
  | zero => rfl
  | succ i =>
    rw [am_cut_s]
    split
    · exact List.length_set
    · exact List.length_set
    · rfl
theorem am_set_null {loc : List Value} {i j : Nat} {v : Value} (h : (loc.set i .null)[j]? = some v) (hv : v ≠ .null) : j ≠ i ∧ loc[j]? = some v := by
  by_cases e : j = i
  · subst e
    rw [List.getElem?_set] at h
    simp at h
    exact absurd h.2.symm hv
  · rw [List.getElem?_set_ne (fun q => e q.symm)] at h
    exact ⟨e, h⟩
/-- what is left of the others: not the place itself, no long that ends there -/
theorem am_cut_at {i j : Nat} {loc : List Value} {v : Value} (h : (am_cut i loc)[j]? = some v) (hv : v ≠ .null) (hj : j ≠ i) : loc[j]? = some v ∧ ¬ (j + 1 = i ∧ v.category = 2) := by
  cases i with
  | zero => exact ⟨h, fun q => by omega⟩
  | succ i =>
    rw [am_cut_s] at h
    split at h
    · obtain ⟨e, h⟩ := am_set_null h hv
      exact ⟨h, fun q => e (by omega)⟩
    · obtain ⟨e, h⟩ := am_set_null h hv
      exact ⟨h, fun q => e (by omega)⟩
    · rename_i n1 n2
      refine ⟨h, fun q => ?_⟩
      have e : j = i := by omega
      subst e
      cases v <;> first | exact n1 _ h | exact n2 _ h | (exact absurd q.2 (by simp [Value.category]))
theorem am_LH.st1 {g : GV} {ls ls' : Array Slot} {nL i : Nat} {loc : List Value} {v : Value} (h : am_LH g ls nL loc) (hi : i < nL) (h' : lv_has ls' nL ((i, am_v g v) :: (am_as g loc).filter (fun q => !(q.1 == i) && !(q.1 + 1 == i && q.2.category == 2)))) : am_LH g ls' nL (am_st1 loc i v) := by
  refine am_LH.of h' (by unfold am_st1; rw [List.length_set, am_cut_len]; exact h.1) fun j w hj hw => ?_
  unfold am_st1 at hj
  by_cases e : j = i
  · subst e
    rw [List.getElem?_set] at hj
    have : (am_cut j loc).length = nL := by rw [am_cut_len]; exact h.1
    simp [this, hi] at hj
    rw [hj]
    exact List.mem_cons_self
  · rw [List.getElem?_set_ne (fun q => e q.symm)] at hj
    obtain ⟨h1, h2⟩ := am_cut_at hj hw e
    refine List.mem_cons_of_mem _ (List.mem_filter.mpr ⟨am_as_mem.mpr ⟨w, h1, hw, rfl⟩, ?_⟩)
    simp only [am_v_cat]
    by_cases h3 : j + 1 = i
    · have : ¬ w.category = 2 := fun q => h2 ⟨h3, q⟩
      simp [e, this]
    · simp [e, h3]
theorem am_LH.st2 {g : GV} {ls ls' : Array Slot} {nL i : Nat} {loc : List Value} {v : Value} (h : am_LH g ls nL loc) (hi : i + 1 < nL) (h' : lv_has ls' nL ((i, am_v g v) :: (am_as g loc).filter (fun q => !(q.1 == i) && (!(q.1 == i + 1) && !(q.1 + 1 == i && q.2.category == 2))))) : am_LH g ls' nL (am_st2 loc i v) := by
  refine am_LH.of h' (by unfold am_st2; rw [List.length_set, List.length_set, am_cut_len]; exact h.1) fun j w hj hw => ?_
  unfold am_st2 at hj
  have hl : (am_cut i loc).length = nL := by rw [am_cut_len]; exact h.1
  by_cases e2 : j = i + 1
  · subst e2
    rw [List.getElem?_set] at hj
    simp [hl, hi] at hj
    exact absurd hj.symm hw
  · rw [List.getElem?_set_ne (fun q => e2 q.symm)] at hj
    by_cases e : j = i
    · subst e
      rw [List.getElem?_set] at hj
      have : j < nL := by omega
      simp [hl, this] at hj
      rw [hj]
      exact List.mem_cons_self
    · rw [List.getElem?_set_ne (fun q => e q.symm)] at hj
      obtain ⟨h1, h2⟩ := am_cut_at hj hw e
      refine List.mem_cons_of_mem _ (List.mem_filter.mpr ⟨am_as_mem.mpr ⟨w, h1, hw, rfl⟩, ?_⟩)
      simp only [am_v_cat]
      by_cases h3 : j + 1 = i
      · have : ¬ w.category = 2 := fun q => h2 ⟨h3, q⟩
        simp [e, e2, this]
      · simp [e, e2, h3]
theorem am_mk_len (m : Nat) (loc : List Value) : (am_mk m loc).length = loc.length := by
  induction loc generalizing m with
  | nil => rfl
  | cons v r ih => simp [am_mk, ih]
theorem am_mk_at {m i : Nat} {loc : List Value} {v : Value} (h : (am_mk m loc)[i]? = some v) (hv : v ≠ .null) : loc[i]? = some v := by
  induction loc generalizing m i with
  | nil => exact h
  | cons w r ih =>
    cases i with
    | zero =>
      simp only [am_mk, List.getElem?_cons_zero] at h ⊢
      split at h
      · cases h; exact absurd rfl hv
      · exact h
    | succ i =>
      simp only [am_mk, List.getElem?_cons_succ] at h ⊢
      exact ih h
theorem am_LH.msk {g : GV} {ls : Array Slot} {nL : Nat} {loc : List Value} (h : am_LH g ls nL loc) (m : Nat) : am_LH g ls nL (am_msk m loc) := by
  cases m with
  | zero => exact h
  | succ m => exact ⟨(am_mk_len m loc).trans h.1, h.2.1, h.2.2.1, fun i v h1 h2 => h.2.2.2 i v (am_mk_at h1 h2) h2⟩
