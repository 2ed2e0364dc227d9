/-! ORDERS: the first of those that are in, again and again; and places -/
theorem cnt_mono {p q : Nat → Bool} : ∀ {n : Nat}, (∀ j, j < n → p j = true → q j = true) → cnt p n ≤ cnt q n
  | 0, _ => Nat.le_refl _
  | n + 1, h => by
    have ih := cnt_mono (n := n) (fun j hj => h j (by omega))
    show cnt p n + (if p n then 1 else 0) ≤ cnt q n + (if q n then 1 else 0)
    by_cases z : p n = true
    · rw [if_pos z, if_pos (h n (by omega) z)]; omega
    · rw [if_neg z]; split <;> omega
theorem cnt_add1 {p q : Nat → Bool} {f : Nat} : ∀ {n : Nat}, f < n → p f = false → q f = true → (∀ j, j < n → j ≠ f → q j = p j) → cnt q n = cnt p n + 1
  | 0, h, _, _, _ => by omega
  | n + 1, h, e1, e2, e3 => by
    show cnt q n + (if q n then 1 else 0) = cnt p n + (if p n then 1 else 0) + 1
    by_cases z : f = n
    · subst z
      rw [e1, e2, cnt_congr (p := q) (q := p) (fun j hj => e3 j (by omega) (by omega))]; rfl
    · rw [cnt_add1 (n := n) (by omega) e1 e2 (fun j hj => e3 j (by omega)), e3 n (by omega) (by omega)]; omega
theorem cnt_lt {p q : Nat → Bool} {f n : Nat} (hf : f < n) (e1 : p f = false) (e2 : q f = true) (h : ∀ j, j < n → p j = true → q j = true) : cnt p n < cnt q n := by
  have e := cnt_add1 (p := p) (q := fun j => if j = f then true else p j) hf e1 (by simp) (fun j _ hj => by simp [hj])
  have m := cnt_mono (p := fun j => if j = f then true else p j) (q := q) (n := n) (fun j hj z => by
    by_cases q1 : j = f
    · rw [q1]; exact e2
    · simp [q1] at z; exact h j hj z)
  omega
theorem cnt_0 {p : Nat → Bool} : ∀ {n : Nat}, cnt p n = 0 → ∀ j, j < n → p j = false
  | 0, _, j, hj => by omega
  | n + 1, h, j, hj => by
    have h' : cnt p n + (if p n then 1 else 0) = 0 := h
    by_cases z : p n = true
    · rw [if_pos z] at h'; omega
    · by_cases e : j = n
      · rw [e]; simpa using z
      · exact cnt_0 (n := n) (by omega) j (by omega)
/-- a strict total order -/
def STO (a : Nat → Nat → Bool) : Prop := (∀ x, a x x = false) ∧ (∀ x y z, a x y = true → a y z = true → a x z = true) ∧ (∀ x y, x ≠ y → a x y = true ∨ a y x = true)
theorem STO.as {a : Nat → Nat → Bool} (S : STO a) {x y : Nat} (h : a x y = true) : a y x = false := by
  cases z : a y x with
  | false => rfl
  | true => have := S.2.1 x y x h z; rw [S.1] at this; cases this
def fO (a : Nat → Nat → Bool) (q : Nat → Bool) : Nat → Option Nat
  | 0 => none
  | n + 1 => if q n then (match fO a q n with | none => some n | some f => if a n f then some n else some f) else fO a q n
def enc (o : Option Nat) : Int32 := match o with | none => -1 | some i => zI i
theorem fO_spec {a : Nat → Nat → Bool} (S : STO a) (q : Nat → Bool) : ∀ n, (fO a q n = none ∧ ∀ j, j < n → q j = false) ∨ ∃ f, fO a q n = some f ∧ f < n ∧ q f = true ∧ ∀ j, j < n → q j = true → j ≠ f → a f j = true
  | 0 => Or.inl ⟨rfl, fun j hj => by omega⟩
  | n + 1 => by
    unfold fO
    by_cases z : q n = true
    · rw [if_pos z]
      rcases fO_spec S q n with ⟨e, h⟩ | ⟨f, e, hf, hq, h⟩
      · rw [e]
        refine Or.inr ⟨n, rfl, by omega, z, fun j hj hj2 hj3 => ?_⟩
        have := h j (by omega); rw [this] at hj2; cases hj2
      · rw [e]
        by_cases w : a n f = true
        · refine Or.inr ⟨n, by simp [w], by omega, z, fun j hj hj2 hj3 => ?_⟩
          by_cases ej : j = f
          · rw [ej]; exact w
          · exact S.2.1 n f j w (h j (by omega) hj2 ej)
        · refine Or.inr ⟨f, by simp [w], by omega, hq, fun j hj hj2 hj3 => ?_⟩
          by_cases ej : j = n
          · rw [ej]; exact (S.2.2 n f (by omega)).elim (fun y => absurd y w) id
          · exact h j (by omega) hj2 hj3
    · rw [if_neg z]
      rcases fO_spec S q n with ⟨e, h⟩ | ⟨f, e, hf, hq, h⟩
      · refine Or.inl ⟨e, fun j hj => ?_⟩
        by_cases ej : j = n
        · rw [ej]; simpa using z
        · exact h j (by omega)
      · refine Or.inr ⟨f, e, by omega, hq, fun j hj hj2 hj3 => ?_⟩
        by_cases ej : j = n
        · rw [ej] at hj2; exact absurd hj2 z
        · exact h j (by omega) hj2 hj3
theorem fO_cg {a a' : Nat → Nat → Bool} {q q' : Nat → Bool} : ∀ {n : Nat}, (∀ j, j < n → q j = q' j) → (∀ i j, i < n → j < n → q i = true → q j = true → a i j = a' i j) → fO a q n = fO a' q' n ∧ ∀ f, fO a q n = some f → f < n ∧ q f = true
  | 0, _, _ => ⟨rfl, fun f h => by cases h⟩
  | n + 1, h1, h2 => by
    obtain ⟨ih, ih2⟩ := fO_cg (a := a) (a' := a') (q := q) (q' := q') (n := n) (fun j hj => h1 j (by omega)) (fun i j hi hj => h2 i j (by omega) (by omega))
    unfold fO
    rw [← h1 n (by omega), ← ih]
    by_cases z : q n = true
    · rw [if_pos z, if_pos z]
      cases e : fO a q n with
      | none => exact ⟨rfl, fun f hf => by cases hf; exact ⟨by omega, z⟩⟩
      | some f =>
        have f2 := ih2 f e
        show (if a n f = true then some n else some f) = (if a' n f = true then some n else some f) ∧ _
        rw [← h2 n f (by omega) (by omega) z f2.2]
        refine ⟨rfl, fun g hg => ?_⟩
        have hg' : (if a n f = true then some n else some f) = some g := hg
        split at hg'
        · cases hg'; exact ⟨by omega, z⟩
        · cases hg'; exact ⟨by omega, f2.2⟩
    · rw [if_neg z, if_neg z]
      exact ⟨rfl, fun f hf => by have := ih2 f hf; exact ⟨by omega, this.2⟩⟩
/-- the place of m: how many that are in stand ahead -/
def rnk (a : Nat → Nat → Bool) (q : Nat → Bool) (n m : Nat) : Nat := cnt (fun k => !decide (k = m) && q k && a k m) n
def rmv (q : Nat → Bool) (f : Nat) : Nat → Bool := fun j => q j && !decide (j = f)
/-- k times the first one taken away -/
def rmK (a : Nat → Nat → Bool) (n : Nat) : Nat → (Nat → Bool) → (Nat → Bool)
  | 0, q => q
  | k + 1, q => rmK a n k (match fO a q n with | none => q | some f => rmv q f)
theorem rnk_lt {a : Nat → Nat → Bool} {q : Nat → Bool} {n m : Nat} (hm : m < n) (hq : q m = true) : rnk a q n m < cnt q n :=
  cnt_lt hm (by simp) hq (fun j _ z => by simp at z; exact z.1.2)
theorem rnk_inj {a : Nat → Nat → Bool} (S : STO a) {q : Nat → Bool} {n x y : Nat} (hx : x < n) (hy : y < n) (qx : q x = true) (qy : q y = true) (e : rnk a q n x = rnk a q n y) : x = y := by
  have key : ∀ u v, u < n → v < n → q u = true → a u v = true → rnk a q n u < rnk a q n v := fun u v hu hv qu auv => by
    refine cnt_lt hu (by simp) ?_ (fun j hj z => ?_)
    · have : u ≠ v := fun e => by rw [e, S.1] at auv; cases auv
      simp [this, qu, auv]
    · simp at z
      have t := S.2.1 j u v z.2 auv
      have : j ≠ v := fun e => by rw [e, S.1] at t; cases t
      simp [this, z.1.2, t]
  by_cases h : x = y
  · exact h
  · rcases S.2.2 x y h with z | z
    · have := key x y hx hy qx z; omega
    · have := key y x hy hx qy z; omega
/-- what is taken away k times: its first one has place k -/
theorem rmK_spec {a : Nat → Nat → Bool} (S : STO a) {n : Nat} {q : Nat → Bool} : ∀ k j (r : Nat → Bool), (∀ i, i < n → r i = true → q i = true) → (∀ x y, x < n → y < n → q x = true → r x = false → r y = true → a x y = true) → cnt (fun i => q i && !r i) n = j → j + k < cnt q n → ∃ f, fO a (rmK a n k r) n = some f ∧ f < n ∧ q f = true ∧ rnk a q n f = j + k
  | 0, j, r, h1, h2, h3, h4 => by
    rcases fO_spec S r n with ⟨e, h⟩ | ⟨f, e, hf, hq, h⟩
    · exfalso
      have : cnt (fun i => q i && !r i) n = cnt q n := cnt_congr (fun i hi => by rw [h i hi]; simp)
      omega
    · refine ⟨f, e, hf, h1 f hf hq, ?_⟩
      show cnt _ n = _
      rw [Nat.add_zero, ← h3]
      refine cnt_congr (fun i hi => ?_)
      by_cases ei : i = f
      · subst ei; simp [hq]
      · have di : decide (i = f) = false := decide_eq_false_iff_not.mpr ei
        rw [di]
        cases qi : q i with
        | false => rfl
        | true =>
          cases ri : r i with
          | false => rw [h2 i f hi hf qi ri hq]; rfl
          | true => rw [S.as (h i hi ri ei)]; rfl
  | k + 1, j, r, h1, h2, h3, h4 => by
    rcases fO_spec S r n with ⟨e, h⟩ | ⟨f, e, hf, hq, h⟩
    · exfalso
      have : cnt (fun i => q i && !r i) n = cnt q n := cnt_congr (fun i hi => by rw [h i hi]; simp)
      omega
    · have er : rmK a n (k + 1) r = rmK a n k (rmv r f) := by show rmK a n k (match fO a r n with | none => r | some f => rmv r f) = _; rw [e]
      rw [er]
      have qf := h1 f hf hq
      obtain ⟨g, g1, g2, g3, g4⟩ := rmK_spec S k (j + 1) (rmv r f) (fun i hi z => by unfold rmv at z; simp at z; exact h1 i hi z.1) (fun x y hx hy qx rx ry => by
        unfold rmv at rx ry
        simp at ry
        by_cases ex : x = f
        · rw [ex]; exact h y hy ry.1 ry.2
        · have : r x = false := by simpa [ex] using rx
          exact h2 x y hx hy qx this ry.1) (by
        rw [cnt_add1 (p := fun i => q i && !r i) (q := fun i => q i && !rmv r f i) hf (by simp [hq]) (by simp [rmv, qf]) (fun i _ hi => by simp [rmv, hi]), h3]) (by omega)
      exact ⟨g, g1, g2, g3, by omega⟩
theorem cnt_false : ∀ n, cnt (fun _ => false) n = 0
  | 0 => rfl
  | n + 1 => by show cnt _ n + _ = 0; rw [cnt_false n]; rfl
/-- the k-th of an order -/
theorem ord_spec {a : Nat → Nat → Bool} (S : STO a) {n : Nat} (hn : n < 2147483648) (q : Nat → Bool) (k : Nat) : fst1 (fun m => q m && decide (rnk a q n m = k)) 0 n = if k < cnt q n then enc (fO a (rmK a n k q) n) else -1 := by
  by_cases hk : k < cnt q n
  · rw [if_pos hk]
    obtain ⟨f, e, hf, qf, rf⟩ := rmK_spec S (n := n) (q := q) k 0 q (fun i _ z => z) (fun x y _ _ qx rx _ => by rw [rx] at qx; cases qx) ((cnt_congr (q := fun _ => false) (fun i _ => by cases q i <;> rfl)).trans (cnt_false n)) (by omega)
    rw [e]
    rcases fst1_spec (fun m => q m && decide (rnk a q n m = k)) n 0 with ⟨_, z⟩ | ⟨g, _, g2, ge, gq, _⟩
    · have := z f (by omega) (by omega)
      simp only [qf, Bool.true_and, decide_eq_false_iff_not] at this
      exact absurd (by omega) this
    · rw [ge]
      simp at gq
      have : g = f := rnk_inj S (by omega) hf gq.1 qf (by omega)
      rw [this]; rfl
  · rw [if_neg hk]
    rcases fst1_spec (fun m => q m && decide (rnk a q n m = k)) n 0 with ⟨e, _⟩ | ⟨g, _, g2, ge, gq, _⟩
    · exact e
    · simp at gq
      have := rnk_lt (a := a) (show g < n by omega) gq.1
      omega
