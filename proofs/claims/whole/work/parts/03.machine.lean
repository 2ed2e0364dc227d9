/-! THE SMALL MACHINE. A heap of numbered cells (numbers below 6 are what the start holds: 0 the script, 1 Reader.ALLOWED, 2 and 4 the two String constants, 3 and 5 their bytes; they are read and never written). A cell: its kind (a class 0 .. 12, or a kind of array: 100 int, 101 long, 102 byte, 103 boolean, 104 .. 108 rows of objects, 109 rows of long rows), its length, its ints, its longs, its references. -/
abbrev AH : Type := Nat × Nat × (Nat → Nat) × (Nat → Nat) × (Nat → Nat → Int32) × (Nat → Nat → Int64) × (Nat → Nat → Option Nat)
def am_sz (h : AH) : Nat := h.1
def am_sn (h : AH) : Nat := h.2.1
def am_kd (h : AH) : Nat → Nat := h.2.2.1
def am_ln (h : AH) : Nat → Nat := h.2.2.2.1
def am_gi (h : AH) : Nat → Nat → Int32 := h.2.2.2.2.1
def am_gl (h : AH) : Nat → Nat → Int64 := h.2.2.2.2.2.1
def am_gr (h : AH) : Nat → Nat → Option Nat := h.2.2.2.2.2.2
def am_up {α : Type} (f : Nat → Nat → α) (a k : Nat) (v : α) : Nat → Nat → α := fun b j => if b = a ∧ j = k then v else f b j
def am_rw {α : Type} (f : Nat → Nat → α) (a : Nat) (g : Nat → α) : Nat → Nat → α := fun b j => if b = a then g j else f b j
def am_u1 {α : Type} (f : Nat → α) (a : Nat) (v : α) : Nat → α := fun b => if b = a then v else f b
def am_si (h : AH) (a k : Nat) (v : Int32) : AH := (am_sz h, am_sn h, am_kd h, am_ln h, am_up (am_gi h) a k v, am_gl h, am_gr h)
def am_sl (h : AH) (a k : Nat) (v : Int64) : AH := (am_sz h, am_sn h, am_kd h, am_ln h, am_gi h, am_up (am_gl h) a k v, am_gr h)
def am_sr (h : AH) (a k : Nat) (v : Option Nat) : AH := (am_sz h, am_sn h, am_kd h, am_ln h, am_gi h, am_gl h, am_up (am_gr h) a k v)
/-- the ints of a cell, all at once -/
def am_sw (h : AH) (a : Nat) (g : Nat → Int32) : AH := (am_sz h, am_sn h, am_kd h, am_ln h, am_rw (am_gi h) a g, am_gl h, am_gr h)
/-- a new cell of kind k, length n, w slots -/
def am_nw (h : AH) (k n w : Nat) : AH := (am_sz h + 1, am_sn h + w, am_u1 (am_kd h) (am_sz h) k, am_u1 (am_ln h) (am_sz h) n, am_rw (am_gi h) (am_sz h) (fun _ => 0), am_rw (am_gl h) (am_sz h) (fun _ => 0), am_rw (am_gr h) (am_sz h) (fun _ => none))
/-- an entry of a method's table: the instruction, its length, which locals live ahead of it (0: all; else 1 and a bit each), three numbers (a field's class, place, sort; a callee; ..), a word's place among lw_tbl, a constant -/
abbrev EN : Type := Instr × Nat × Nat × Nat × Nat × Nat × Nat × Int
def am_mk (m : Nat) : List Value → List Value
  | [] => []
  | v :: r => (match m % 2 with | 0 => .null | _ => v) :: am_mk (m / 2) r
def am_msk (m : Nat) (loc : List Value) : List Value := match m with
  | 0 => loc
  | m + 1 => am_mk m loc
/-- a long that ends where the new value comes is lost -/
def am_cut : Nat → List Value → List Value
  | 0, loc => loc
  | i + 1, loc => match loc[i]? with
    | some (.long _) => loc.set i .null
    | some (.double _) => loc.set i .null
    | _ => loc
def am_st1 (loc : List Value) (i : Nat) (v : Value) : List Value := (am_cut i loc).set i v
def am_st2 (loc : List Value) (i : Nat) (v : Value) : List Value := ((am_cut i loc).set i v).set (i + 1) .null
def am_tgt (pc : Nat) (off : Int) : Nat := ((pc : Int) + off).toNat
def am_li (loc : List Value) (k : Nat) : Option Int32 := match loc[k]? with
  | some (.int x) => some x
  | _ => none
def am_ll (loc : List Value) (k : Nat) : Option Int64 := match loc[k]? with
  | some (.long x) => some x
  | _ => none
def am_la (loc : List Value) (k : Nat) : Option Nat := match loc[k]? with
  | some (.ref x) => some x
  | _ => none
def am_i1 : List Value → Option (Int32 × List Value)
  | .int x :: r => some (x, r)
  | _ => none
def am_l1 : List Value → Option (Int64 × List Value)
  | .long x :: r => some (x, r)
  | _ => none
def am_a1 : List Value → Option (Nat × List Value)
  | .ref x :: r => some (x, r)
  | _ => none
def am_i2 : List Value → Option (Int32 × Int32 × List Value)
  | .int y :: .int x :: r => some (x, y, r)
  | _ => none
def am_l2 : List Value → Option (Int64 × Int64 × List Value)
  | .long y :: .long x :: r => some (x, y, r)
  | _ => none
def am_li2 : List Value → Option (Int64 × Int32 × List Value)
  | .int y :: .long x :: r => some (x, y, r)
  | _ => none
/-- an index over a row -/
def am_ia : List Value → Option (Nat × Int32 × List Value)
  | .int i :: .ref a :: r => some (a, i, r)
  | _ => none
def am_iia : List Value → Option (Nat × Int32 × Int32 × List Value)
  | .int x :: .int i :: .ref a :: r => some (a, i, x, r)
  | _ => none
def am_lia : List Value → Option (Nat × Int32 × Int64 × List Value)
  | .long x :: .int i :: .ref a :: r => some (a, i, x, r)
  | _ => none
def am_aia : List Value → Option (Nat × Int32 × Nat × List Value)
  | .ref x :: .int i :: .ref a :: r => some (a, i, x, r)
  | _ => none
def am_ix : List Value → Option (Int32 × Nat × List Value)
  | .int x :: .ref a :: r => some (x, a, r)
  | _ => none
def am_lx : List Value → Option (Int64 × Nat × List Value)
  | .long x :: .ref a :: r => some (x, a, r)
  | _ => none
def am_ax : List Value → Option (Nat × Nat × List Value)
  | .ref x :: .ref a :: r => some (x, a, r)
  | _ => none
def am_dup : List Value → Option (List Value)
  | .int x :: r => some (.int x :: .int x :: r)
  | .ref x :: r => some (.ref x :: .ref x :: r)
  | _ => none
def am_pop : List Value → Option (List Value)
  | .int _ :: r => some r
  | .ref _ :: r => some r
  | _ => none
def am_dup2 : List Value → Option (List Value)
  | .int y :: .ref x :: r => some (.int y :: .ref x :: .int y :: .ref x :: r)
  | .long x :: r => some (.long x :: .long x :: r)
  | _ => none
/-- instructions that neither read nor write the heap, and always go on -/
def am_p1 (e : EN) (pc : Nat) (loc st : List Value) : Option (Nat × List Value × List Value) := match e.1 with
  | .iconst n => some (pc + 1, loc, .int (Int32.ofInt n) :: st)
  | .bipush n => some (pc + 2, loc, .int (Int8.ofInt n).toInt32 :: st)
  | .sipush n => some (pc + 3, loc, .int (Int16.ofInt n).toInt32 :: st)
  | .lconst n => some (pc + 1, loc, .long (Int64.ofNat (n : Nat)) :: st)
  | .ldc _ => match e.2.2.2.2.2.1 with
    | 0 => some (pc + 2, loc, .int (Int32.ofInt e.2.2.2.2.2.2.2) :: st)
    | _ => some (pc + 2, loc, .ref e.2.2.2.1 :: st)
  | .ldc_w _ => some (pc + 3, loc, .int (Int32.ofInt e.2.2.2.2.2.2.2) :: st)
  | .ldc2_w _ => some (pc + 3, loc, .long (Int64.ofInt e.2.2.2.2.2.2.2) :: st)
  | .iload_n k => (am_li loc k).map fun x => (pc + 1, loc, .int x :: st)
  | .iload k => (am_li loc k).map fun x => (pc + 2, loc, .int x :: st)
  | .lload_n k => (am_ll loc k).map fun x => (pc + 1, loc, .long x :: st)
  | .lload k => (am_ll loc k).map fun x => (pc + 2, loc, .long x :: st)
  | .aload_n k => (am_la loc k).map fun x => (pc + 1, loc, .ref x :: st)
  | .aload k => (am_la loc k).map fun x => (pc + 2, loc, .ref x :: st)
  | .istore_n k => (am_i1 st).map fun q => (pc + 1, am_st1 loc k (.int q.1), q.2)
  | .istore k => (am_i1 st).map fun q => (pc + 2, am_st1 loc k (.int q.1), q.2)
  | .astore_n k => (am_a1 st).map fun q => (pc + 1, am_st1 loc k (.ref q.1), q.2)
  | .astore k => (am_a1 st).map fun q => (pc + 2, am_st1 loc k (.ref q.1), q.2)
  | .lstore_n k => (am_l1 st).map fun q => (pc + 1, am_st2 loc k (.long q.1), q.2)
  | .lstore k => (am_l1 st).map fun q => (pc + 2, am_st2 loc k (.long q.1), q.2)
  | .iinc k n => (am_li loc k).map fun x => (pc + 3, am_st1 loc k (.int (x + Int32.ofInt n)), st)
  | .iadd => (am_i2 st).map fun q => (pc + 1, loc, .int (q.1 + q.2.1) :: q.2.2)
  | .isub => (am_i2 st).map fun q => (pc + 1, loc, .int (q.1 - q.2.1) :: q.2.2)
  | .imul => (am_i2 st).map fun q => (pc + 1, loc, .int (q.1 * q.2.1) :: q.2.2)
  | .iand => (am_i2 st).map fun q => (pc + 1, loc, .int (q.1 &&& q.2.1) :: q.2.2)
  | .ior => (am_i2 st).map fun q => (pc + 1, loc, .int (q.1 ||| q.2.1) :: q.2.2)
  | .ixor => (am_i2 st).map fun q => (pc + 1, loc, .int (q.1 ^^^ q.2.1) :: q.2.2)
  | .ishl => (am_i2 st).map fun (q : Int32 × Int32 × List Value) => (pc + 1, loc, .int (q.1 <<< (q.2.1 &&& 31)) :: q.2.2)
  | .ishr => (am_i2 st).map fun (q : Int32 × Int32 × List Value) => (pc + 1, loc, .int (q.1 >>> (q.2.1 &&& 31)) :: q.2.2)
  | .iushr => (am_i2 st).map fun q => (pc + 1, loc, .int (q.1.toUInt32 >>> (q.2.1.toUInt32 &&& Int32.toUInt32 31)).toInt32 :: q.2.2)
  | .ladd => (am_l2 st).map fun q => (pc + 1, loc, .long (q.1 + q.2.1) :: q.2.2)
  | .lsub => (am_l2 st).map fun q => (pc + 1, loc, .long (q.1 - q.2.1) :: q.2.2)
  | .lmul => (am_l2 st).map fun q => (pc + 1, loc, .long (q.1 * q.2.1) :: q.2.2)
  | .land => (am_l2 st).map fun q => (pc + 1, loc, .long (q.1 &&& q.2.1) :: q.2.2)
  | .lor => (am_l2 st).map fun q => (pc + 1, loc, .long (q.1 ||| q.2.1) :: q.2.2)
  | .lneg => (am_l1 st).map fun q => (pc + 1, loc, .long (-q.1) :: q.2)
  | .lshl => (am_li2 st).map fun (q : Int64 × Int32 × List Value) => (pc + 1, loc, .long (q.1 <<< (q.2.1.toInt64 &&& 63)) :: q.2.2)
  | .lshr => (am_li2 st).map fun (q : Int64 × Int32 × List Value) => (pc + 1, loc, .long (q.1 >>> (q.2.1.toInt64 &&& 63)) :: q.2.2)
  | .lushr => (am_li2 st).map fun (q : Int64 × Int32 × List Value) => (pc + 1, loc, .long (q.1.toUInt64 >>> (q.2.1.toInt64.toUInt64 &&& Int64.toUInt64 63)).toInt64 :: q.2.2)
  | .lcmp => (am_l2 st).map fun q => (pc + 1, loc, .int (lg_cmp q.1 q.2.1) :: q.2.2)
  | .i2l => (am_i1 st).map fun q => (pc + 1, loc, .long q.1.toInt64 :: q.2)
  | .l2i => (am_l1 st).map fun q => (pc + 1, loc, .int q.1.toInt32 :: q.2)
  | .i2b => (am_i1 st).map fun q => (pc + 1, loc, .int q.1.toInt8.toInt32 :: q.2)
  | .dup => (am_dup st).map fun r => (pc + 1, loc, r)
  | .pop => (am_pop st).map fun r => (pc + 1, loc, r)
  | .pop2 => (am_l1 st).map fun q => (pc + 1, loc, q.2)
  | .dup2 => (am_dup2 st).map fun r => (pc + 1, loc, r)
  | .goto off => some (am_tgt pc off, loc, st)
  | .getstatic _ => some (pc + 3, loc, .ref e.2.2.2.1 :: st)
  | _ => none
def am_cmp (c : ClassFile.Cond) (x y : Int32) : Prop := match c with
  | .eq => x = y
  | .ne => ¬ x = y
  | .lt => x < y
  | .ge => y ≤ x
  | .gt => y < x
  | .le => x ≤ y
def am_cmpd (c : ClassFile.Cond) (x y : Int32) : Decidable (am_cmp c x y) := match c with
  | .eq => inferInstanceAs (Decidable (x = y))
  | .ne => inferInstanceAs (Decidable (¬ x = y))
  | .lt => inferInstanceAs (Decidable (x < y))
  | .ge => inferInstanceAs (Decidable (y ≤ x))
  | .gt => inferInstanceAs (Decidable (y < x))
  | .le => inferInstanceAs (Decidable (x ≤ y))
/-- a branch: where it goes, or on -/
def am_br (c : ClassFile.Cond) (x y : Int32) (t f : Nat) : Nat := @ite _ (am_cmp c x y) (am_cmpd c x y) t f
def am_tab (d lo hi : Int) (offs : Array Int) (x : Int) : Option Int := if x < lo ∨ hi < x then some d else offs[(x - lo).toNat]?
/-- within a row -/
def am_in (i : Int32) (n : Nat) : Prop := ¬ (i < 0 ∨ n ≤ i.toNatClampNeg)
def am_ind (i : Int32) (n : Nat) : Decidable (am_in i n) := inferInstanceAs (Decidable (¬ (i < 0 ∨ n ≤ i.toNatClampNeg)))
def am_if {α : Type} (i : Int32) (n : Nat) (x : Option α) : Option α := @ite _ (am_in i n) (am_ind i n) x none
/-- the class of what stands in a row of objects -/
def am_cmpn (k : Nat) : Nat := match k with
  | 104 => 2
  | 105 => 3
  | 106 => 7
  | 107 => 9
  | _ => 10
/-- n long rows of k, from the cell a on -/
def am_rows (h : AH) (k : Nat) : Nat → AH
  | 0 => h
  | n + 1 => am_nw (am_rows h k n) 101 k k
def am_mna (h : AH) (n k : Nat) : AH := (am_sz (am_rows (am_nw h 109 n n) k n), am_sn (am_rows (am_nw h 109 n n) k n), am_kd (am_rows (am_nw h 109 n n) k n), am_ln (am_rows (am_nw h 109 n n) k n), am_gi (am_rows (am_nw h 109 n n) k n), am_gl (am_rows (am_nw h 109 n n) k n), am_rw (am_gr (am_rows (am_nw h 109 n n) k n)) (am_sz h) (fun j => if j < n then some (am_sz h + 1 + j) else none))
/-- instructions on the heap, divisions, branches -/
def am_s1 (e : EN) (pc : Nat) (loc st : List Value) (h : AH) : Option (Nat × List Value × List Value × AH) := match e.1 with
  | .ifCond c off => (am_i1 st).map fun q => (am_br c q.1 0 (am_tgt pc off) (pc + 3), loc, q.2, h)
  | .if_icmp c off => (am_i2 st).map fun q => (am_br c q.1 q.2.1 (am_tgt pc off) (pc + 3), loc, q.2.2, h)
  | .tableswitch d lo hi offs => (am_i1 st).bind fun q => (am_tab d lo hi offs q.1.toInt).map fun o => (am_tgt pc o, loc, q.2, h)
  | .lookupswitch d ps => (am_i1 st).map fun q => (am_tgt pc (Op.lookupswitch.offset ps.toList d q.1.toInt), loc, q.2, h)
  | .idiv => (am_i2 st).bind fun q => if q.2.1 = 0 then none else some (pc + 1, loc, .int (q.1 / q.2.1) :: q.2.2, h)
  | .irem => (am_i2 st).bind fun q => if q.2.1 = 0 then none else some (pc + 1, loc, .int (q.1 - q.1 / q.2.1 * q.2.1) :: q.2.2, h)
  | .ldiv => (am_l2 st).bind fun q => if q.2.1 = 0 then none else some (pc + 1, loc, .long (q.1 / q.2.1) :: q.2.2, h)
  | .lrem => (am_l2 st).bind fun q => if q.2.1 = 0 then none else some (pc + 1, loc, .long (q.1 - q.1 / q.2.1 * q.2.1) :: q.2.2, h)
  | .getfield _ => (am_a1 st).bind fun q => if am_kd h q.1 = e.2.2.2.1 then (match e.2.2.2.2.2.1 with
      | 0 => some (pc + 3, loc, .int (am_gi h q.1 e.2.2.2.2.1) :: q.2, h)
      | 1 => some (pc + 3, loc, .long (am_gl h q.1 e.2.2.2.2.1) :: q.2, h)
      | _ => (am_gr h q.1 e.2.2.2.2.1).map fun b => (pc + 3, loc, .ref b :: q.2, h)) else none
  | .putfield _ => (match e.2.2.2.2.2.1 with
      | 0 => (am_ix st).bind fun q => if am_kd h q.2.1 = e.2.2.2.1 then some (pc + 3, loc, q.2.2, am_si h q.2.1 e.2.2.2.2.1 q.1) else none
      | 1 => (am_lx st).bind fun q => if am_kd h q.2.1 = e.2.2.2.1 then some (pc + 3, loc, q.2.2, am_sl h q.2.1 e.2.2.2.2.1 q.1) else none
      | 2 => (am_ax st).bind fun q => if am_kd h q.2.1 = e.2.2.2.1 then some (pc + 3, loc, q.2.2, am_sr h q.2.1 e.2.2.2.2.1 (some q.1)) else none
      | _ => (am_ix st).bind fun q => if am_kd h q.2.1 = e.2.2.2.1 ∧ (q.1 = 0 ∨ q.1 = 1) then some (pc + 3, loc, q.2.2, am_si h q.2.1 e.2.2.2.2.1 q.1) else none)
  | .iaload => (am_ia st).bind fun q => if am_kd h q.1 = 100 then am_if q.2.1 (am_ln h q.1) (some (pc + 1, loc, .int (am_gi h q.1 q.2.1.toNatClampNeg) :: q.2.2, h)) else none
  | .laload => (am_ia st).bind fun q => if am_kd h q.1 = 101 then am_if q.2.1 (am_ln h q.1) (some (pc + 1, loc, .long (am_gl h q.1 q.2.1.toNatClampNeg) :: q.2.2, h)) else none
  | .baload => (am_ia st).bind fun q => if am_kd h q.1 = 102 ∨ am_kd h q.1 = 103 then am_if q.2.1 (am_ln h q.1) (some (pc + 1, loc, .int (am_gi h q.1 q.2.1.toNatClampNeg) :: q.2.2, h)) else none
  | .aaload => (am_ia st).bind fun q => if 104 ≤ am_kd h q.1 ∧ am_kd h q.1 ≤ 109 then am_if q.2.1 (am_ln h q.1) ((am_gr h q.1 q.2.1.toNatClampNeg).map fun b => (pc + 1, loc, .ref b :: q.2.2, h)) else none
  | .iastore => (am_iia st).bind fun q => if am_kd h q.1 = 100 ∧ 6 ≤ q.1 then am_if q.2.1 (am_ln h q.1) (some (pc + 1, loc, q.2.2.2, am_si h q.1 q.2.1.toNatClampNeg q.2.2.1)) else none
  | .lastore => (am_lia st).bind fun q => if am_kd h q.1 = 101 then am_if q.2.1 (am_ln h q.1) (some (pc + 1, loc, q.2.2.2, am_sl h q.1 q.2.1.toNatClampNeg q.2.2.1)) else none
  | .bastore => (am_iia st).bind fun q => if am_kd h q.1 = 102 ∧ 6 ≤ q.1 then am_if q.2.1 (am_ln h q.1) (some (pc + 1, loc, q.2.2.2, am_si h q.1 q.2.1.toNatClampNeg q.2.2.1.toInt8.toInt32))
      else if am_kd h q.1 = 103 ∧ (q.2.2.1 = 0 ∨ q.2.2.1 = 1) then am_if q.2.1 (am_ln h q.1) (some (pc + 1, loc, q.2.2.2, am_si h q.1 q.2.1.toNatClampNeg q.2.2.1)) else none
  | .aastore => (am_aia st).bind fun q => if 104 ≤ am_kd h q.1 ∧ am_kd h q.1 ≤ 108 ∧ am_kd h q.2.2.1 = am_cmpn (am_kd h q.1) then am_if q.2.1 (am_ln h q.1) (some (pc + 1, loc, q.2.2.2, am_sr h q.1 q.2.1.toNatClampNeg (some q.2.2.1))) else none
  | .arraylength => (am_a1 st).bind fun q => if 100 ≤ am_kd h q.1 ∧ am_kd h q.1 ≤ 109 then some (pc + 1, loc, .int (Int32.ofNat (am_ln h q.1)) :: q.2, h) else none
  | .new _ => some (pc + 3, loc, .ref (am_sz h) :: st, am_nw h e.2.2.2.1 0 e.2.2.2.2.1)
  | .newarray _ => (am_i1 st).bind fun q => if ¬ q.1 < 0 ∧ q.1.toNatClampNeg ≤ 100000 then some (pc + 2, loc, .ref (am_sz h) :: q.2, am_nw h e.2.2.2.1 q.1.toNatClampNeg q.1.toNatClampNeg) else none
  | .anewarray _ => (am_i1 st).bind fun q => if ¬ q.1 < 0 ∧ q.1.toNatClampNeg ≤ 100000 then some (pc + 3, loc, .ref (am_sz h) :: q.2, am_nw h e.2.2.2.1 q.1.toNatClampNeg q.1.toNatClampNeg) else none
  | .multianewarray _ _ => (am_i2 st).bind fun q => if (¬ q.1 < 0 ∧ q.1.toNatClampNeg ≤ 1000) ∧ (¬ q.2.1 < 0 ∧ q.2.1.toNatClampNeg ≤ 1000) then some (pc + 4, loc, .ref (am_sz h) :: q.2.2, am_mna h q.1.toNatClampNeg q.2.1.toNatClampNeg) else none
  | _ => (am_p1 e pc loc st).map fun q => (q.1, q.2.1, q.2.2, h)
/-- the locals at a method's entry -/
def am_arg : List Value → List Value
  | [] => []
  | .long x :: r => .long x :: .null :: am_arg r
  | .double x :: r => .double x :: .null :: am_arg r
  | v :: r => v :: am_arg r
def am_ent (vs : List Value) (n : Nat) : List Value := am_arg vs ++ List.replicate (n - (am_arg vs).length) .null
/-- a method: its class's number, its name, its bytes, its locals, its answer, its table -/
abbrev MR : Type := Nat × MethodName × ByteArray × Nat × Option FieldType × (Nat → Option EN)
/-- what a method answers fits its type -/
def am_rok (ret : Option FieldType) (v : Option Value) : Bool := match ret, v with
  | none, none => true
  | some .int, some (.int _) => true
  | some .boolean, some (.int x) => decide (x = 0 ∨ x = 1)
  | some .long, some (.long _) => true
  | _, _ => false
/-- what is on the stack at a return -/
def am_ret (i : Instr) (st : List Value) : Option (Option Value) := match i with
  | .ireturn => match st with
    | [.int x] => some (some (.int x))
    | _ => none
  | .lreturn => match st with
    | [.long x] => some (some (.long x))
    | _ => none
  | .return_ => match st with
    | [] => some none
    | _ => none
  | _ => none
def am_isr (i : Instr) : Bool := match i with
  | .ireturn => true
  | .lreturn => true
  | .return_ => true
  | _ => false
def am_isc (i : Instr) : Bool := match i with
  | .invokevirtual _ => true
  | .invokespecial _ => true
  | .invokestatic _ => true
  | _ => false
/-- the JDK's own calls that are taken whole: String.length (5), String.charAt (6), Arrays.copyOf of bytes (7) and of ints (8), System.arraycopy of ints (9) -/
def am_bi (sort : Nat) (st : List Value) (h : AH) : Option (List Value × AH) := match sort with
  | 4 => (am_a1 st).map fun q => (q.2, h)
  | 5 => (am_a1 st).bind fun q => if am_kd h q.1 = 200 then some (.int (Int32.ofNat (am_ln h (q.1 + 1))) :: q.2, h) else none
  | 6 => (am_ia st).bind fun q => if am_kd h q.1 = 200 then am_if q.2.1 (am_ln h (q.1 + 1)) (some (.int (am_gi h (q.1 + 1) q.2.1.toNatClampNeg &&& 255) :: q.2.2, h)) else none
  | 7 => (am_ia st).bind fun q => if am_kd h q.1 = 102 ∧ ¬ q.2.1 < 0 ∧ q.2.1.toNatClampNeg ≤ am_ln h q.1 ∧ am_ln h q.1 ≤ 100000 ∧ (∀ j, j < am_ln h q.1 → (-128 : Int32) ≤ am_gi h q.1 j ∧ am_gi h q.1 j ≤ 127) then some (.ref (am_sz h) :: q.2.2, am_sw (am_nw h 102 q.2.1.toNatClampNeg q.2.1.toNatClampNeg) (am_sz h) (am_gi h q.1)) else none
  | 8 => (am_ia st).bind fun q => if (am_kd h q.1 = 100 ∧ 6 ≤ q.1) ∧ ¬ q.2.1 < 0 ∧ q.2.1.toNatClampNeg ≤ am_ln h q.1 ∧ am_ln h q.1 ≤ 100000 then some (.ref (am_sz h) :: q.2.2, am_sw (am_nw h 100 q.2.1.toNatClampNeg q.2.1.toNatClampNeg) (am_sz h) (am_gi h q.1)) else none
  | 9 => match st with
    | .int n :: .int dp :: .ref d :: .int sp :: .ref s :: r => if (am_kd h s = 100 ∧ 6 ≤ s) ∧ (am_kd h d = 100 ∧ 6 ≤ d) ∧ s ≠ d ∧ sp = 0 ∧ dp = 0 ∧ ¬ n < 0 ∧ n.toNatClampNeg ≤ am_ln h s ∧ n.toNatClampNeg ≤ am_ln h d then some (r, am_sw h d (fun j => if j < n.toNatClampNeg then am_gi h s j else am_gi h d j)) else none
    | _ => none
  | _ => none
def am_cats (st : List Value) : Nat := (st.map fun v => v.category).sum
/-- the machine itself: at most n steps deep, at most d frames -/
def am_ex (mt : Nat → MR) : Nat → Nat → Nat → Nat → List Value → List Value → AH → Option (Option Value × AH)
  | 0, _, _, _, _, _, _ => none
  | n + 1, d, M, pc, loc, st, h => match (mt M).2.2.2.2.2 pc with
    | none => none
    | some e => if am_isr e.1 then (am_ret e.1 st).bind fun v => if am_rok (mt M).2.2.2.2.1 v then some (v, h) else none
      else if am_isc e.1 then (if 4 ≤ e.2.2.2.2.2.1 then (am_bi e.2.2.2.2.2.1 st h).bind fun q => if 8 < am_cats q.1 then none else am_ex mt n d M (pc + 3) (am_msk e.2.2.1 loc) q.1 q.2
        else if st.length < e.2.2.2.2.1 ∨ 8 < am_cats (st.drop e.2.2.2.2.1) ∨ (mt e.2.2.2.1).2.2.2.1 < (am_arg (st.take e.2.2.2.2.1).reverse).length then none
        else match d with
          | 0 => none
          | d' + 1 => if ¬ e.2.2.2.2.2.1 = 1 ∧ ¬ (am_a1 (st.take e.2.2.2.2.1).reverse).map (fun q => am_kd h q.1) = some (mt e.2.2.2.1).1 then none
            else (am_ex mt n d' e.2.2.2.1 0 (am_ent (st.take e.2.2.2.2.1).reverse (mt e.2.2.2.1).2.2.2.1) [] h).bind fun q => am_ex mt n d M (pc + 3) (am_msk e.2.2.1 loc) (q.1.toList ++ st.drop e.2.2.2.2.1) q.2)
      else (am_s1 e pc (am_msk e.2.2.1 loc) st h).bind fun q => am_ex mt n d M q.1 q.2.1 q.2.2.1 q.2.2.2
