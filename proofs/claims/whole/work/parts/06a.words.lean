def am_fh : List (List Nat) := [[292, 294, 296, 298, 300, 302, 304, 306, 308, 310, 312, 314, 316, 318], [356, 358], [376, 378, 380, 382, 384], [404, 406, 408, 410, 412, 414], [335, 337, 339, 341, 343], [220, 222, 224, 226, 228, 230, 232, 234, 236, 238, 240, 242, 244], [188, 190], [171, 173, 175, 177, 179, 181], [259, 261, 263], [441, 443, 445, 447, 449, 451, 453, 455, 457], [474, 476, 478, 480, 482, 484, 486, 488], [677, 679, 681, 683, 685, 687, 689, 691, 693, 695, 697, 699, 701, 703, 705, 707, 709, 711, 713], [1423, 1425, 1427, 1429, 1431, 1433, 1435, 1437, 1439, 1441, 1443, 1445, 1447, 1449, 1451, 1453, 1455, 1457, 1459, 1461, 1463, 1465, 1467, 1469, 1471, 1473, 1475, 1477, 1479, 1481, 1483, 1485, 1487, 1489, 1491, 1493, 1495, 1497, 1499, 1501, 1503, 1505, 1507, 1509, 1511, 1513, 1515, 1517, 1519, 1521, 1523, 1525, 1527, 1529, 1531, 1533, 1535, 1537, 1539, 1541, 1543, 1545, 1547, 1549, 1551, 1553, 1555, 1557, 1559, 1561, 1563]]
def am_ws : List Cond := lw_tbl.filter goodWord
theorem am_w_tbl {i : Nat} {w : Cond} (h : am_w i w = true) : w ∈ lw_tbl := List.mem_of_getElem? (of_decide_eq_true h)
theorem am_w_mem {i : Nat} {w : Cond} (h : am_w i w = true) (hg : goodWord w = true) : w ∈ am_ws := List.mem_filter.mpr ⟨am_w_tbl h, hg⟩
def am_uwB (ci : Nat) : Bool := match am_cl[ci]? with
  | some (C, T, N) => (List.range N).all fun k => am_w (((am_fh[ci]?).getD []).getD k 0) (u_lay C T k) && goodWord (u_lay C T k)
  | none => true
theorem am_uwK : (List.range 13).all am_uwB = true := by decide +kernel
theorem am_uw {ci : Nat} {C : String} {T : u_T} {N : Nat} (h : am_cl[ci]? = some (C, T, N)) : ∀ w ∈ u_ws C T N, w ∈ am_ws := by
  have hl : ci < 13 := (List.getElem?_eq_some_iff.mp h).1
  have hB := List.all_eq_true.mp am_uwK ci (List.mem_range.mpr hl)
  unfold am_uwB at hB
  rw [h] at hB
  intro w hw
  obtain ⟨k, hk, rfl⟩ := List.mem_map.mp hw
  have h1 := List.all_eq_true.mp hB k hk
  rw [Bool.and_eq_true] at h1
  exact am_w_mem h1.1 h1.2
theorem am_cl_lt {ci : Nat} (h : ci < 13) : ∃ C T N, am_cl[ci]? = some (C, T, N) := by
  have : am_cl[ci]? = some (am_cl[ci]'h) := List.getElem?_eq_getElem h
  exact ⟨_, _, _, this⟩
theorem am_cl_ty {ci : Nat} {C : String} {T : u_T} {N : Nat} (h : am_cl[ci]? = some (C, T, N)) : (∀ k, k < N → parseFieldDescriptor (T k).2.2.1 = some (am_ty ci k)) ∧ (∀ a, a < N → ∀ b, b < N → a ≠ b → (T a).2.1 ≠ (T b).2.1) ∧ am_nf ci = N ∧ am_on ci = C := by
  have hl : ci < 13 := (List.getElem?_eq_some_iff.mp h).1
  have hn : am_nf ci = N := by unfold am_nf; rw [h]; rfl
  match ci, h, hl with
  | 0, h, _ => cases h; exact ⟨tyX0_ok, nmX0, hn, rfl⟩
  | 1, h, _ => cases h; exact ⟨tyX1_ok, nmX1, hn, rfl⟩
  | 2, h, _ => cases h; exact ⟨tyX2_ok, nmX2, hn, rfl⟩
  | 3, h, _ => cases h; exact ⟨tyX3_ok, nmX3, hn, rfl⟩
  | 4, h, _ => cases h; exact ⟨tyX4_ok, nmX4, hn, rfl⟩
  | 5, h, _ => cases h; exact ⟨tyX5_ok, nmX5, hn, rfl⟩
  | 6, h, _ => cases h; exact ⟨tyX6_ok, nmX6, hn, rfl⟩
  | 7, h, _ => cases h; exact ⟨tyX7_ok, nmX7, hn, rfl⟩
  | 8, h, _ => cases h; exact ⟨tyX8_ok, nmX8, hn, rfl⟩
  | 9, h, _ => cases h; exact ⟨tyX9_ok, nmX9, hn, rfl⟩
  | 10, h, _ => cases h; exact ⟨tyX10_ok, nmX10, hn, rfl⟩
  | 11, h, _ => cases h; exact ⟨tyX11_ok, nmX11, hn, rfl⟩
  | 12, h, _ => cases h; exact ⟨tyX12_ok, nmX12, hn, rfl⟩
def am_ih : List (Nat × Nat) := [(270, 111), (347, 113), (363, 114), (387, 115), (323, 112), (194, 109), (140, 107), (147, 108), (250, 110), (417, 116), (460, 117), (128, 106), (1272, 125)]
def am_inB (ci : Nat) : Bool := match am_cl[ci]? with
  | some (C, _, N) => am_w ((am_ih[ci]?).getD (0, 0)).1 (.instantiable C N) && am_w ((am_ih[ci]?).getD (0, 0)).2 (.initialized C)
  | none => true
theorem am_inK : (List.range 13).all am_inB = true := by decide +kernel
theorem am_inst {ci : Nat} {C : String} {T : u_T} {N : Nat} (h : am_cl[ci]? = some (C, T, N)) : Cond.instantiable C N ∈ am_ws ∧ Cond.initialized C ∈ am_ws := by
  have hl : ci < 13 := (List.getElem?_eq_some_iff.mp h).1
  have hB := List.all_eq_true.mp am_inK ci (List.mem_range.mpr hl)
  unfold am_inB at hB
  rw [h] at hB
  rw [Bool.and_eq_true] at hB
  exact ⟨am_w_mem hB.1 rfl, am_w_mem hB.2 rfl⟩
theorem am_arrW (t : ArrayType) (h : 100 ≤ am_akn t) : Cond.arrayClass (newarray.typeOf t) ∈ am_ws := by
  cases t <;> first | exact absurd h (by decide) | exact List.mem_filter.mpr ⟨by decide +kernel, rfl⟩
