/-! BEST 1: who gets which home, without machines. K who move, n homes, own k the home that k has, al k j whether k may move to j -/
def inj (K n : Nat) (f : Nat → Nat) : Prop := (∀ k, k < K → f k < n) ∧ ∀ i j, i < K → j < K → f i = f j → i = j
theorem inj.dn {K n : Nat} {f : Nat → Nat} (h : inj (K + 1) n f) : inj K n f := ⟨fun k hk => h.1 k (by omega), fun i j hi hj e => h.2 i j (by omega) (by omega) e⟩
/-- a sum over all homes against the sum over those that are got -/
theorem sI_inj {n : Nat} : ∀ (K : Nat) (f : Nat → Nat) (v : Nat → Int), inj K n f → (∀ j, j < n → v j ≤ 0) → sI v n ≤ sI (fun k => v (f k)) K
  | 0, f, v, _, hv => by
    have := sI_le (f := v) (g := fun _ => 0) (n := n) hv
    rw [sI_const] at this
    show sI v n ≤ 0
    omega
  | K + 1, f, v, hf, hv => by
    have lt := hf.1 K (by omega)
    have ih := sI_inj K f (wr v (f K) 0) hf.dn (fun j hj => by
      by_cases z : j = f K
      · rw [z, wr_eq]; exact Int.le_refl _
      · rw [wr_ne z]; exact hv j hj)
    have e1 : sI (wr v (f K) 0) n = sI v n + (if f K < n then wr v (f K) 0 (f K) - v (f K) else 0) := sI_upd (fun j _ hj => wr_ne hj)
    rw [if_pos lt, wr_eq] at e1
    have e2 : sI (fun k => wr v (f K) 0 (f k)) K = sI (fun k => v (f k)) K := sI_congr (fun k hk => wr_ne (fun z => by have := hf.2 k K (by omega) (by omega) z; omega))
    show sI v n ≤ sI (fun k => v (f k)) K + v (f K)
    omega
theorem sI_onto {n : Nat} : ∀ (K : Nat) (f : Nat → Nat) (v : Nat → Int), inj K n f → (∀ j, j < n → (∀ k, k < K → f k ≠ j) → v j = 0) → sI v n = sI (fun k => v (f k)) K
  | 0, f, v, _, hv => by
    show sI v n = 0
    rw [sI_congr (g := fun _ => (0 : Int)) (fun j hj => hv j hj (fun k hk => absurd hk (by omega))), sI_const, Int.mul_zero]
  | K + 1, f, v, hf, hv => by
    have lt := hf.1 K (by omega)
    have ih := sI_onto K f (wr v (f K) 0) hf.dn (fun j hj z => by
      by_cases y : j = f K
      · rw [y, wr_eq]
      · rw [wr_ne y]
        refine hv j hj (fun k hk => ?_)
        by_cases x : k = K
        · rw [x]; exact fun w => y w.symm
        · exact z k (by omega))
    have e1 : sI (wr v (f K) 0) n = sI v n + (if f K < n then wr v (f K) 0 (f K) - v (f K) else 0) := sI_upd (fun j _ hj => wr_ne hj)
    rw [if_pos lt, wr_eq] at e1
    have e2 : sI (fun k => wr v (f K) 0 (f k)) K = sI (fun k => v (f k)) K := sI_congr (fun k hk => wr_ne (fun z => by have := hf.2 k K (by omega) (by omega) z; omega))
    show sI v n = sI (fun k => v (f k)) K + v (f K)
    omega
/-- no more pigeons than holes -/
theorem pig {K n : Nat} {f : Nat → Nat} (h : inj K n f) : K ≤ n := by
  have := sI_inj K f (fun _ => -1) h (fun _ _ => by decide)
  rw [sI_const, sI_const] at this
  omega
/-- rents that fit all prices and meet the ones paid: no other way is cheaper -/
theorem dual {K n : Nat} {c : Nat → Nat → Int} {u v : Nat → Int} {f : Nat → Nat} (hf : inj K n f) (fe : ∀ k, k < K → ∀ j, j < n → u k + v j ≤ c k j) (ti : ∀ k, k < K → u k + v (f k) = c k (f k)) (vn : ∀ j, j < n → v j ≤ 0) (vz : ∀ j, j < n → (∀ k, k < K → f k ≠ j) → v j = 0) {g : Nat → Nat} (hg : inj K n g) : sI (fun k => c k (f k)) K ≤ sI (fun k => c k (g k)) K := by
  have add : ∀ (a b : Nat → Int) m, sI (fun k => a k + b k) m = sI a m + sI b m := fun a b m => by
    induction m with
    | zero => rfl
    | succ m ih => show sI (fun k => a k + b k) m + (a m + b m) = sI a m + a m + (sI b m + b m); omega
  have e1 : sI (fun k => c k (f k)) K = sI (fun k => u k + v (f k)) K := sI_congr (fun k hk => (ti k hk).symm)
  have e2 : sI (fun k => u k + v (g k)) K ≤ sI (fun k => c k (g k)) K := sI_le (fun k hk => fe k hk _ (hg.1 k hk))
  rw [e1]
  rw [add] at e2 ⊢
  have e3 := sI_onto K f v hf vz
  have e4 := sI_inj K g v hg vn
  omega
def num (d : Nat → Int) : Nat → Int
  | 0 => 0
  | k + 1 => 13 * num d k + d k
theorem num_b {d : Nat → Int} : ∀ {K : Nat}, (∀ k, k < K → 0 ≤ d k ∧ d k ≤ 12) → 0 ≤ num d K ∧ num d K < 13 ^ K
  | 0, _ => by show (0 : Int) ≤ 0 ∧ (0 : Int) < 13 ^ 0; decide
  | K + 1, h => by
    have ih := num_b (d := d) (K := K) (fun k hk => h k (by omega))
    have := h K (by omega)
    rw [Int.pow_succ]
    show 0 ≤ 13 * num d K + d K ∧ 13 * num d K + d K < _
    omega
theorem num_inj {d e : Nat → Int} : ∀ {K : Nat}, (∀ k, k < K → 0 ≤ d k ∧ d k ≤ 12) → (∀ k, k < K → 0 ≤ e k ∧ e k ≤ 12) → num d K = num e K → ∀ k, k < K → d k = e k
  | 0, _, _, _, k, hk => absurd hk (by omega)
  | K + 1, h1, h2, q, k, hk => by
    have a := h1 K (by omega)
    have b := h2 K (by omega)
    have q' : 13 * num d K + d K = 13 * num e K + e K := q
    by_cases z : k = K
    · rw [z]; omega
    · exact num_inj (K := K) (fun j hj => h1 j (by omega)) (fun j hj => h2 j (by omega)) (by omega) k (by omega)
theorem num_lt {d e : Nat → Int} {k0 : Nat} : ∀ {K : Nat}, (∀ k, k < K → 0 ≤ d k ∧ d k ≤ 12) → (∀ k, k < K → 0 ≤ e k ∧ e k ≤ 12) → k0 < K → (∀ j, j < k0 → d j = e j) → d k0 < e k0 → num d K < num e K
  | 0, _, _, h, _, _ => absurd h (by omega)
  | K + 1, h1, h2, h, ag, lt => by
    have a := h1 K (by omega)
    have b := h2 K (by omega)
    show 13 * num d K + d K < 13 * num e K + e K
    by_cases z : k0 = K
    · have eq : ∀ m, m ≤ k0 → num d m = num e m := fun m => by
        induction m with
        | zero => exact fun _ => rfl
        | succ m ih => intro hm; show 13 * num d m + d m = 13 * num e m + e m; rw [ih (by omega), ag m (by omega)]
      have := eq K (by omega)
      rw [z] at lt
      omega
    · have := num_lt (K := K) (fun j hj => h1 j (by omega)) (fun j hj => h2 j (by omega)) (by omega) ag lt
      omega
def dgt (own f : Nat → Nat) (k : Nat) : Int := if f k = own k then 12 else (f k : Int)
def mvd (own f : Nat → Nat) (k : Nat) : Int := if f k = own k then 0 else 1
def pri (own : Nat → Nat) (al : Nat → Nat → Bool) (k j : Nat) : Int := if own k = j then 12 * 13 ^ (11 - k) else if al k j then (j : Int) * 13 ^ (11 - k) - 13 ^ 12 else 10000000000000000
def alo (K : Nat) (own : Nat → Nat) (al : Nat → Nat → Bool) (f : Nat → Nat) : Prop := ∀ k, k < K → f k = own k ∨ al k (f k) = true
def cst (own : Nat → Nat) (al : Nat → Nat → Bool) (f : Nat → Nat) (K : Nat) : Int := sI (fun k => pri own al k (f k)) K
theorem dgt_b {own f : Nat → Nat} {K n : Nat} (hn : n ≤ 12) (hf : inj K n f) : ∀ k, k < K → 0 ≤ dgt own f k ∧ dgt own f k ≤ 12 := fun k hk => by
  have := hf.1 k hk
  unfold dgt
  by_cases z : f k = own k
  · rw [if_pos z]; decide
  · rw [if_neg z]; omega
theorem cst_n {own f : Nat → Nat} {al : Nat → Nat → Bool} : ∀ K, K ≤ 12 → alo K own al f → cst own al f K = num (dgt own f) K * 13 ^ (12 - K) - sI (mvd own f) K * 13 ^ 12
  | 0, _, _ => by show (0 : Int) = 0 * 13 ^ 12 - 0 * 13 ^ 12; rw [Int.zero_mul]; rfl
  | K + 1, hK, h => by
    have ih := cst_n (own := own) (f := f) (al := al) K (by omega) (fun k hk => h k (by omega))
    show cst own al f K + pri own al K (f K) = (13 * num (dgt own f) K + dgt own f K) * 13 ^ (12 - (K + 1)) - (sI (mvd own f) K + mvd own f K) * 13 ^ 12
    rw [ih, show 12 - K = (11 - K) + 1 by omega, show 12 - (K + 1) = 11 - K by omega, Int.pow_succ, Int.add_mul, Int.add_mul]
    have e : num (dgt own f) K * ((13 : Int) ^ (11 - K) * 13) = 13 * num (dgt own f) K * 13 ^ (11 - K) := by
      rw [Int.mul_comm 13 (num _ _), Int.mul_assoc, Int.mul_comm 13 (13 ^ (11 - K))]
    rw [e]
    unfold pri dgt mvd
    by_cases z : f K = own K
    · rw [if_pos z.symm, if_pos z, if_pos z]; omega
    · rw [if_neg (fun y => z y.symm), if_neg z, if_neg z, if_pos ((h K (by omega)).resolve_left z)]; omega
theorem mvd_b {own f : Nat → Nat} {K : Nat} : 0 ≤ sI (mvd own f) K := by
  have := sI_le (f := fun _ => 0) (g := mvd own f) (n := K) (fun k _ => by unfold mvd; split <;> decide)
  rw [sI_const] at this; omega
theorem pw13 {K : Nat} (h : K ≤ 12) : (0 : Int) < 13 ^ (12 - K) ∧ (13 : Int) ^ K * 13 ^ (12 - K) = 13 ^ 12 := by
  refine ⟨Int.pow_pos (by decide), ?_⟩
  rw [← Int.pow_add, show K + (12 - K) = 12 by omega]
/-- the coins of all digits are fewer than one move -/
theorem num_p {own f : Nat → Nat} {K n : Nat} (hK : K ≤ 12) (hn : n ≤ 12) (hf : inj K n f) : 0 ≤ num (dgt own f) K * 13 ^ (12 - K) ∧ num (dgt own f) K * 13 ^ (12 - K) < 13 ^ 12 := by
  obtain ⟨a, b⟩ := num_b (dgt_b (own := own) hn hf)
  obtain ⟨p, q⟩ := pw13 hK
  refine ⟨Int.mul_nonneg a (by omega), ?_⟩
  rw [← q]
  exact Int.mul_lt_mul_of_pos_right b p
theorem cst_u {own f g : Nat → Nat} {al : Nat → Nat → Bool} {K n : Nat} (hK : K ≤ 12) (hn : n ≤ 12) (hf : inj K n f) (hg : inj K n g) (af : alo K own al f) (ag : alo K own al g) (e : cst own al f K = cst own al g K) : ∀ k, k < K → f k = g k := by
  rw [cst_n K hK af, cst_n K hK ag] at e
  have a := num_p (own := own) hK hn hf
  have b := num_p (own := own) hK hn hg
  have P := pw13 hK
  generalize sI (mvd own f) K = x at e
  generalize sI (mvd own g) K = y at e
  have M : (13 : Int) ^ 12 = 23298085122481 := by decide
  rw [M] at e a b
  have exy : num (dgt own f) K * 13 ^ (12 - K) = num (dgt own g) K * 13 ^ (12 - K) := by omega
  have en : num (dgt own f) K = num (dgt own g) K := Int.eq_of_mul_eq_mul_right (by omega) exy
  intro k hk
  have q := num_inj (dgt_b hn hf) (dgt_b hn hg) en k hk
  have f1 := hf.1 k hk
  have g1 := hg.1 k hk
  unfold dgt at q
  by_cases z : f k = own k
  · by_cases w : g k = own k
    · rw [z, w]
    · rw [if_pos z, if_neg w] at q; omega
  · by_cases w : g k = own k
    · rw [if_neg z, if_pos w] at q; omega
    · rw [if_neg z, if_neg w] at q; omega
/-- who moves more, or as many and first to a lower home, pays less -/
theorem cst_l {own f g : Nat → Nat} {al : Nat → Nat → Bool} {K n : Nat} (hK : K ≤ 12) (hn : n ≤ 12) (hf : inj K n f) (hg : inj K n g) (af : alo K own al f) (ag : alo K own al g) (h : sI (mvd own g) K < sI (mvd own f) K ∨ (sI (mvd own g) K = sI (mvd own f) K ∧ ((∀ k, k < K → f k = g k) ∨ ∃ k, k < K ∧ (∀ j, j < k → f j = g j) ∧ dgt own f k < dgt own g k))) : cst own al f K ≤ cst own al g K := by
  rw [cst_n K hK af, cst_n K hK ag]
  have a := num_p (own := own) hK hn hf
  have b := num_p (own := own) hK hn hg
  have P := pw13 hK
  have M : (13 : Int) ^ 12 = 23298085122481 := by decide
  rcases h with h | ⟨h, h2⟩
  · rw [M] at a b ⊢; omega
  · rw [h]
    rcases h2 with h2 | ⟨k, hk, ag1, lt⟩
    · have : num (dgt own f) K = num (dgt own g) K := by
        have : ∀ m, m ≤ K → num (dgt own f) m = num (dgt own g) m := fun m => by
          induction m with
          | zero => exact fun _ => rfl
          | succ m ih =>
            intro hm
            show 13 * num (dgt own f) m + dgt own f m = 13 * num (dgt own g) m + dgt own g m
            rw [ih (by omega)]
            unfold dgt; rw [h2 m (by omega)]
        exact this K (Nat.le_refl _)
      rw [this]; exact Int.le_refl _
    · have := num_lt (dgt_b (own := own) hn hf) (dgt_b hn hg) hk (fun j hj => by unfold dgt; rw [ag1 j hj]) lt
      have := Int.mul_lt_mul_of_pos_right this P.1
      omega
/-- the cheapest way has no forbidden home in it -/
theorem pri_lo {own : Nat → Nat} {al : Nat → Nat → Bool} (k j : Nat) : -(13 ^ 12 : Int) ≤ pri own al k j := by
  have p : (0 : Int) ≤ 13 ^ (11 - k) := Int.le_of_lt (Int.pow_pos (by decide))
  have M : (13 : Int) ^ 12 = 23298085122481 := by decide
  unfold pri
  by_cases z : own k = j
  · rw [if_pos z, M]; omega
  · rw [if_neg z]
    by_cases y : al k j = true
    · rw [if_pos y]
      have : (0 : Int) ≤ (j : Int) * 13 ^ (11 - k) := Int.mul_nonneg (by omega) p
      omega
    · rw [if_neg y, M]; decide
theorem cst_f {own f : Nat → Nat} {al : Nat → Nat → Bool} {K n : Nat} (hK : K ≤ 12) (hn : n ≤ 12) (ho : inj K n own) (mn : ∀ g, inj K n g → cst own al f K ≤ cst own al g K) : alo K own al f := by
  intro k hk
  by_cases z : f k = own k ∨ al k (f k) = true
  · exact z
  · exfalso
    have M : (13 : Int) ^ 12 = 23298085122481 := by decide
    have c1 : cst own al own K < 13 ^ 12 := by
      rw [cst_n K hK (fun j _ => Or.inl rfl)]
      have := num_p (own := own) hK hn ho
      have := mvd_b (own := own) (f := own) (K := K)
      rw [M] at *
      omega
    have c2 := mn own ho
    have e1 : pri own al k (f k) = 10000000000000000 := by
      unfold pri; rw [if_neg (fun y => z (Or.inl y.symm)), if_neg (fun y => z (Or.inr y))]
    have e2 : sI (wr (fun j => pri own al j (f j)) k (-(13 ^ 12))) K = sI (fun j => pri own al j (f j)) K + (if k < K then wr (fun j => pri own al j (f j)) k (-(13 ^ 12)) k - pri own al k (f k) else 0) := sI_upd (fun j _ hj => wr_ne hj)
    rw [if_pos hk, wr_eq, e1] at e2
    have e3 := sI_le (f := fun _ => -(13 ^ 12 : Int)) (g := wr (fun j => pri own al j (f j)) k (-(13 ^ 12))) (n := K) (fun j hj => by
      by_cases y : j = k
      · rw [y, wr_eq]; exact Int.le_refl _
      · rw [wr_ne y]; exact pri_lo _ _)
    rw [sI_const] at e3
    have e4 : cst own al f K = sI (fun j => pri own al j (f j)) K := rfl
    rw [M] at *
    have : (K : Int) * -23298085122481 ≥ 12 * -23298085122481 := by omega
    omega
