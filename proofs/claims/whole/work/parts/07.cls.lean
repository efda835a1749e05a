theorem qgw_of {ws : List Cond} (ps : List Nat) (hp : ws = ps.filterMap (fun i => lw_tbl[i]?)) (h : ws.all goodWord = true) : ∀ w ∈ ws, w ∈ qgw := by
  intro w hw
  refine List.mem_filter.mpr ⟨?_, List.all_eq_true.mp h w hw⟩
  rw [hp] at hw
  obtain ⟨i, -, hi⟩ := List.mem_filterMap.mp hw
  exact List.mem_of_getElem? hi
theorem qtb_of {ws : List Cond} (ps : List Nat) (hp : ws = ps.filterMap (fun i => lw_tbl[i]?)) : ∀ w ∈ ws, w ∈ lw_tbl := by
  intro w hw
  rw [hp] at hw
  obtain ⟨i, -, hi⟩ := List.mem_filterMap.mp hw
  exact List.mem_of_getElem? hi
set_option maxRecDepth 20000 in
theorem qin0 : ∀ w ∈ u_ws RX0 TX0 7, w ∈ qgw := qgw_of [281, 283, 285, 287, 289, 291, 293] (by decide +kernel) (by decide +kernel)
set_option maxRecDepth 20000 in
theorem qin1 : ∀ w ∈ u_ws RX1 TX1 2, w ∈ qgw := qgw_of [306, 308] (by decide +kernel) (by decide +kernel)
set_option maxRecDepth 20000 in
theorem qin2 : ∀ w ∈ u_ws RX2 TX2 14, w ∈ qgw := qgw_of [336, 338, 340, 342, 344, 346, 348, 350, 352, 354, 356, 358, 360, 362] (by decide +kernel) (by decide +kernel)
set_option maxRecDepth 20000 in
theorem qin3 : ∀ w ∈ u_ws RX3 TX3 12, w ∈ qgw := qgw_of [428, 430, 432, 434, 436, 438, 440, 442, 444, 446, 448, 450] (by decide +kernel) (by decide +kernel)
set_option maxRecDepth 20000 in
theorem qin4 : ∀ w ∈ u_ws RX4 TX4 11, w ∈ qgw := qgw_of [204, 206, 208, 210, 212, 214, 216, 218, 220, 222, 224] (by decide +kernel) (by decide +kernel)
set_option maxRecDepth 20000 in
theorem qin5 : ∀ w ∈ u_ws RX5 TX5 1, w ∈ qgw := qgw_of [169] (by decide +kernel) (by decide +kernel)
set_option maxRecDepth 20000 in
theorem qin6 : ∀ w ∈ u_ws RX6 TX6 4, w ∈ qgw := qgw_of [461, 463, 465, 467] (by decide +kernel) (by decide +kernel)
set_option maxRecDepth 20000 in
theorem qin7 : ∀ w ∈ u_ws RX7 TX7 7, w ∈ qgw := qgw_of [247, 249, 251, 253, 255, 257, 259] (by decide +kernel) (by decide +kernel)
set_option maxRecDepth 20000 in
theorem qin8 : ∀ w ∈ u_ws RX8 TX8 4, w ∈ qgw := qgw_of [394, 396, 398, 400] (by decide +kernel) (by decide +kernel)
set_option maxRecDepth 20000 in
theorem qin9 : ∀ w ∈ u_ws RX9 TX9 4, w ∈ qgw := qgw_of [504, 506, 508, 510] (by decide +kernel) (by decide +kernel)
set_option maxRecDepth 20000 in
theorem qin10 : ∀ w ∈ u_ws RX10 TX10 63, w ∈ qgw := qgw_of [1507, 1509, 1511, 1513, 1515, 1517, 1519, 1521, 1523, 1525, 1527, 1529, 1531, 1533, 1535, 1537, 1539, 1541, 1543, 1545, 1547, 1549, 1551, 1553, 1555, 1557, 1559, 1561, 1563, 1565, 1567, 1569, 1571, 1573, 1575, 1577, 1579, 1581, 1583, 1585, 1587, 1589, 1591, 1593, 1595, 1597, 1599, 1601, 1603, 1605, 1607, 1609, 1611, 1613, 1615, 1617, 1619, 1621, 1623, 1625, 1627, 1629, 1631] (by decide +kernel) (by decide +kernel)
def qty (ci : Nat) : Nat → FieldType := match ci with
  | 0 => tyX0
  | 1 => tyX1
  | 2 => tyX2
  | 3 => tyX3
  | 4 => tyX4
  | 5 => tyX5
  | 6 => tyX6
  | 7 => tyX7
  | 8 => tyX8
  | 9 => tyX9
  | _ => tyX10
theorem qcl_ok : ∀ (ci : Nat) (q : vw_C), vwCl[ci]? = some q → (∀ w ∈ u_ws q.1 q.2.1 q.2.2, w ∈ qgw) ∧ (∀ k, k < q.2.2 → parseFieldDescriptor (q.2.1 k).2.2.1 = some (qty ci k)) ∧ ∀ a, a < q.2.2 → ∀ b, b < q.2.2 → a ≠ b → (q.2.1 a).2.1 ≠ (q.2.1 b).2.1
  | 0, _, h => by cases h; exact ⟨qin0, tyX0_ok, nmX0⟩
  | 1, _, h => by cases h; exact ⟨qin1, tyX1_ok, nmX1⟩
  | 2, _, h => by cases h; exact ⟨qin2, tyX2_ok, nmX2⟩
  | 3, _, h => by cases h; exact ⟨qin3, tyX3_ok, nmX3⟩
  | 4, _, h => by cases h; exact ⟨qin4, tyX4_ok, nmX4⟩
  | 5, _, h => by cases h; exact ⟨qin5, tyX5_ok, nmX5⟩
  | 6, _, h => by cases h; exact ⟨qin6, tyX6_ok, nmX6⟩
  | 7, _, h => by cases h; exact ⟨qin7, tyX7_ok, nmX7⟩
  | 8, _, h => by cases h; exact ⟨qin8, tyX8_ok, nmX8⟩
  | 9, _, h => by cases h; exact ⟨qin9, tyX9_ok, nmX9⟩
  | 10, _, h => by cases h; exact ⟨qin10, tyX10_ok, nmX10⟩
  | n + 11, _, h => by cases h
