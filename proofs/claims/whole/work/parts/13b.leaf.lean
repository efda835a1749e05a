/-! ===== leaves: small total methods as functions (printed by wip/whole/gen13b.py) ===== -/
theorem qup_s {σ : qS} {k j : Nat} {v : Int32} : qup σ k j v k j = v := by unfold qup; rw [if_pos rfl, if_pos rfl]
def qfa (a b c : Int32) : Int32 := if a = 0 then (if b = 0 then (if c = 0 then 0 else 3) else 2) else 1
theorem plX0_n : plainName RX0 = true := by decide +kernel
def plX0l : qPl := ([(14, 0, 0, false, 0), (20, 0, 1, false, 0), (23, 0, 2, false, 0), (26, 0, 3, false, 0), (29, 0, 4, false, 0), (32, 0, 5, false, 0), (38, 0, 6, false, 1), (50, 4, 7, true, 0), (69, 4, 9, true, 1), (76, 4, 4, true, 0)], [], [])
set_option maxRecDepth 100000 in
theorem plX0l_w : ∀ w ∈ plX0l.1.map (qFwd RX0), w ∈ lw_tbl := qtb_of [270, 271, 272, 274, 276, 277, 279, 191, 199, 185] (by decide +kernel)
set_option maxRecDepth 100000 in
theorem plX0l_b : plX0l.1.all (qFB RX0) = true := by decide +kernel
theorem plX0l_ok {g : qG} : qPlOk g RX0 plX0l := ⟨fun q hq => ⟨plX0l_w _ (List.mem_map.mpr ⟨q, hq, rfl⟩), List.all_eq_true.mp plX0l_b q hq⟩, fun _ h => absurd h List.not_mem_nil, fun _ h => absurd h List.not_mem_nil⟩
theorem plX3_n : plainName RX3 = true := by decide +kernel
def plX3l : qPl := ([(12, 3, 0, false, 0), (23, 3, 1, false, 0), (27, 3, 2, false, 0), (30, 3, 3, false, 0), (33, 3, 4, false, 0), (36, 3, 5, false, 0), (39, 3, 6, false, 0), (42, 3, 7, false, 0), (45, 3, 11, false, 1), (53, 3, 8, false, 1), (56, 3, 9, false, 1), (59, 3, 10, false, 1), (69, 8, 1, true, 0), (75, 8, 0, true, 0), (110, 8, 2, true, 0)], [], [])
set_option maxRecDepth 100000 in
theorem plX3l_w : ∀ w ∈ plX3l.1.map (qFwd RX3), w ∈ lw_tbl := qtb_of [405, 407, 409, 411, 413, 415, 417, 419, 426, 421, 423, 424, 389, 386, 392] (by decide +kernel)
set_option maxRecDepth 100000 in
theorem plX3l_b : plX3l.1.all (qFB RX3) = true := by decide +kernel
theorem plX3l_ok {g : qG} : qPlOk g RX3 plX3l := ⟨fun q hq => ⟨plX3l_w _ (List.mem_map.mpr ⟨q, hq, rfl⟩), List.all_eq_true.mp plX3l_b q hq⟩, fun _ h => absurd h List.not_mem_nil, fun _ h => absurd h List.not_mem_nil⟩
theorem plX4_n : plainName RX4 = true := by decide +kernel
def plX4l : qPl := ([(14, 4, 0, false, 0), (20, 4, 1, false, 0), (23, 4, 2, false, 0), (26, 4, 3, false, 0), (29, 4, 4, false, 0), (32, 4, 5, false, 0), (35, 4, 6, false, 0), (38, 4, 7, false, 0), (41, 4, 8, false, 0), (44, 4, 9, false, 1), (48, 4, 10, false, 1)], [], [])
set_option maxRecDepth 100000 in
theorem plX4l_w : ∀ w ∈ plX4l.1.map (qFwd RX4), w ∈ lw_tbl := qtb_of [173, 176, 177, 180, 183, 187, 189, 190, 193, 195, 200] (by decide +kernel)
set_option maxRecDepth 100000 in
theorem plX4l_b : plX4l.1.all (qFB RX4) = true := by decide +kernel
theorem plX4l_ok {g : qG} : qPlOk g RX4 plX4l := ⟨fun q hq => ⟨plX4l_w _ (List.mem_map.mpr ⟨q, hq, rfl⟩), List.all_eq_true.mp plX4l_b q hq⟩, fun _ h => absurd h List.not_mem_nil, fun _ h => absurd h List.not_mem_nil⟩
theorem plX7_n : plainName RX7 = true := by decide +kernel
def plX7l : qPl := ([(14, 7, 0, false, 0), (20, 7, 1, false, 0), (23, 7, 2, false, 1), (27, 7, 3, false, 1), (30, 7, 4, false, 1), (33, 7, 5, false, 1), (36, 7, 6, false, 1), (51, 4, 5, true, 0)], [], [])
set_option maxRecDepth 100000 in
theorem plX7l_w : ∀ w ∈ plX7l.1.map (qFwd RX7), w ∈ lw_tbl := qtb_of [235, 237, 238, 240, 241, 242, 245, 188] (by decide +kernel)
set_option maxRecDepth 100000 in
theorem plX7l_b : plX7l.1.all (qFB RX7) = true := by decide +kernel
theorem plX7l_ok {g : qG} : qPlOk g RX7 plX7l := ⟨fun q hq => ⟨plX7l_w _ (List.mem_map.mpr ⟨q, hq, rfl⟩), List.all_eq_true.mp plX7l_b q hq⟩, fun _ h => absurd h List.not_mem_nil, fun _ h => absurd h List.not_mem_nil⟩
theorem plX10_n : plainName RX10 = true := by decide +kernel
def plX10l : qPl := ([(1, 10, 0, false, 1), (7, 10, 1, false, 0), (11, 10, 2, false, 1), (32, 10, 3, false, 1), (35, 10, 4, false, 1), (38, 10, 5, false, 1), (41, 10, 6, false, 0), (44, 10, 7, false, 0), (47, 10, 8, false, 0), (50, 10, 9, false, 0), (53, 10, 10, false, 0), (56, 10, 11, false, 0), (59, 10, 12, false, 0), (62, 10, 13, false, 0), (65, 10, 14, false, 0), (69, 10, 15, false, 1), (72, 10, 16, false, 1), (75, 10, 17, false, 0), (78, 10, 18, false, 0), (81, 10, 19, false, 1), (84, 10, 20, false, 1), (87, 10, 21, false, 0), (90, 10, 22, false, 0), (93, 10, 23, false, 0), (96, 10, 24, false, 0), (99, 10, 25, false, 0), (102, 10, 26, false, 0), (105, 10, 27, false, 1), (108, 10, 28, false, 1), (111, 10, 29, false, 2), (115, 10, 30, false, 0), (118, 10, 31, false, 0), (121, 10, 32, false, 0), (124, 10, 33, false, 0), (127, 10, 34, false, 1), (130, 10, 35, false, 0), (133, 10, 36, false, 0), (172, 10, 37, false, 0), (176, 10, 38, false, 1), (179, 10, 39, false, 1), (182, 10, 40, false, 1), (185, 10, 41, false, 1), (188, 10, 42, false, 1), (191, 10, 43, false, 1), (194, 10, 44, false, 1), (197, 10, 45, false, 1), (200, 10, 46, false, 1), (203, 10, 47, false, 0), (206, 10, 48, false, 0), (209, 10, 49, false, 0), (212, 10, 50, false, 0), (215, 10, 51, false, 1), (218, 10, 52, false, 0), (221, 10, 53, false, 0), (224, 10, 54, false, 0), (227, 10, 55, false, 1), (230, 10, 56, false, 0), (233, 10, 57, false, 1), (236, 10, 58, false, 0), (239, 10, 59, false, 0), (242, 10, 60, false, 1), (245, 10, 61, false, 1), (248, 10, 62, false, 1)], [], [])
set_option maxRecDepth 100000 in
theorem plX10l_w : ∀ w ∈ plX10l.1.map (qFwd RX10), w ∈ lw_tbl := qtb_of [1444, 1445, 1446, 1447, 1448, 1449, 1450, 1451, 1452, 1453, 1454, 1455, 1456, 1457, 1458, 1459, 1460, 1461, 1462, 1463, 1464, 1465, 1466, 1467, 1468, 1469, 1470, 1471, 1472, 1473, 1474, 1475, 1476, 1477, 1478, 1479, 1480, 1481, 1482, 1483, 1484, 1485, 1486, 1487, 1488, 1489, 1490, 1491, 1492, 1493, 1494, 1495, 1496, 1497, 1498, 1499, 1500, 1501, 1502, 1503, 1504, 1505, 1506] (by decide +kernel)
set_option maxRecDepth 100000 in
theorem plX10l_b : plX10l.1.all (qFB RX10) = true := by decide +kernel
theorem plX10l_ok {g : qG} : qPlOk g RX10 plX10l := ⟨fun q hq => ⟨plX10l_w _ (List.mem_map.mpr ⟨q, hq, rfl⟩), List.all_eq_true.mp plX10l_b q hq⟩, fun _ h => absurd h List.not_mem_nil, fun _ h => absurd h List.not_mem_nil⟩
def kX10_first : qCode := [(0, .aload_n 0, 1), (1, .getfield 78, 3), (4, .iconst 0, 1), (5, .iaload, 1), (6, .ireturn, 1)]
set_option maxRecDepth 100000 in
theorem okX10_first : qCodeOk mX10_first kX10_first := by unfold qCodeOk; decide +kernel
def f_first : qFn := fun as σ => match as with
  | [.inr 86] => some (σ 98 0, σ)
  | _ => none
theorem c_first {g : qG} (hw : qWF g) : qFnOk g mX10_first f_first := by
  intro d as σ r σ' Q T hf hQ
  unfold f_first at hf
  split at hf
  · cases hf
    refine qC_of (Nat.le_of_ble_eq_true rfl) plX10_n hw (qleaf rfl okX10_first plX10l_ok 6 _ _ _ _ _ ?_)
    show (vp_in (0 : Int32) 401 ∧ Q (σ 98 (0 : Int32).toNatClampNeg) σ)
    exact ⟨vp_in_nI (n := 0) (by decide) (by decide), hQ⟩
  · cases hf
def kX10_ok : qCode := [(0, .aload_n 0, 1), (1, .getfield 197, 3), (4, .ifCond .ne 7, 3), (7, .iconst 1, 1), (8, .goto 4, 3), (11, .iconst 0, 1), (12, .ireturn, 1)]
set_option maxRecDepth 100000 in
theorem okX10_ok : qCodeOk mX10_ok kX10_ok := by unfold qCodeOk; decide +kernel
def f_ok : qFn := fun as σ => match as with
  | [.inr 86] => some (if σ 86 45 = 0 then 1 else 0, σ)
  | _ => none
theorem c_ok {g : qG} (hw : qWF g) : qFnOk g mX10_ok f_ok := by
  intro d as σ r σ' Q T hf hQ
  unfold f_ok at hf
  split at hf
  · cases hf
    refine qC_of (Nat.le_of_ble_eq_true rfl) plX10_n hw (qleaf rfl okX10_ok plX10l_ok 8 _ _ _ _ _ ?_)
    show ((¬ (σ 86 45) = 0 → (((0 : Int32) = (0 : Int32) ∨ (0 : Int32) = (1 : Int32)) ∧ Q (0 : Int32) σ)) ∧ (¬ (¬ (σ 86 45) = 0) → (((1 : Int32) = (0 : Int32) ∨ (1 : Int32) = (1 : Int32)) ∧ Q (1 : Int32) σ)))
    refine ⟨fun h => ⟨Or.inl rfl, ?_⟩, fun h => ⟨Or.inr rfl, ?_⟩⟩
    · rw [if_neg h] at hQ; exact hQ
    · rw [if_pos (Decidable.not_not.mp h)] at hQ; exact hQ
  · cases hf
def kX10_isFull : qCode := [(0, .aload_n 0, 1), (1, .getfield 69, 3), (4, .sipush 400, 3), (7, .if_icmp .ne 7, 3), (10, .iconst 1, 1), (11, .goto 4, 3), (14, .iconst 0, 1), (15, .ireturn, 1)]
set_option maxRecDepth 100000 in
theorem okX10_isFull : qCodeOk mX10_isFull kX10_isFull := by unfold qCodeOk; decide +kernel
def f_full : qFn := fun as σ => match as with
  | [.inr 86] => some (if σ 86 15 = 400 then 1 else 0, σ)
  | _ => none
theorem c_full {g : qG} (hw : qWF g) : qFnOk g mX10_isFull f_full := by
  intro d as σ r σ' Q T hf hQ
  unfold f_full at hf
  split at hf
  · cases hf
    refine qC_of (Nat.le_of_ble_eq_true rfl) plX10_n hw (qleaf rfl okX10_isFull plX10l_ok 9 _ _ _ _ _ ?_)
    show ((¬ (σ 86 15) = (400 : Int32) → (((0 : Int32) = (0 : Int32) ∨ (0 : Int32) = (1 : Int32)) ∧ Q (0 : Int32) σ)) ∧ (¬ (¬ (σ 86 15) = (400 : Int32)) → (((1 : Int32) = (0 : Int32) ∨ (1 : Int32) = (1 : Int32)) ∧ Q (1 : Int32) σ)))
    refine ⟨fun h => ⟨Or.inl rfl, ?_⟩, fun h => ⟨Or.inr rfl, ?_⟩⟩
    · rw [if_neg h] at hQ; exact hQ
    · rw [if_pos (Decidable.not_not.mp h)] at hQ; exact hQ
  · cases hf
def kX10_fails : qCode := [(0, .aload_n 0, 1), (1, .iload_n 1, 1), (2, .ifCond .eq 7, 3), (5, .iconst 1, 1), (6, .goto 20, 3), (9, .iload_n 2, 1), (10, .ifCond .eq 7, 3), (13, .iconst 2, 1), (14, .goto 12, 3), (17, .iload_n 3, 1), (18, .ifCond .eq 7, 3), (21, .iconst 3, 1), (22, .goto 4, 3), (25, .iconst 0, 1), (26, .putfield 1, 3), (29, .aload_n 0, 1), (30, .getfield 1, 3), (33, .ifCond .le 7, 3), (36, .iconst 1, 1), (37, .goto 4, 3), (40, .iconst 0, 1), (41, .ireturn, 1)]
set_option maxRecDepth 100000 in
theorem okX10_fails : qCodeOk mX10_fails kX10_fails := by unfold qCodeOk; decide +kernel
def f_fails : qFn := fun as σ => match as with
  | [.inr 86, .inl a, .inl b, .inl c] => some (if qfa a b c ≤ 0 then 0 else 1, qup σ 86 0 (qfa a b c))
  | _ => none
theorem c_fails {g : qG} (hw : qWF g) : qFnOk g mX10_fails f_fails := by
  intro d as σ r σ' Q T hf hQ
  unfold f_fails at hf
  split at hf
  · rename_i a b c
    cases hf
    refine qC_of (Nat.le_of_ble_eq_true rfl) plX10_n hw (qleaf rfl okX10_fails plX10l_ok 23 _ _ _ _ _ ?_)
    show ((a = 0 → ((b = 0 → ((c = 0 → ((((qup σ 86 0 (0 : Int32)) 86 0) ≤ 0 → (((0 : Int32) = (0 : Int32) ∨ (0 : Int32) = (1 : Int32)) ∧ Q (0 : Int32) (qup σ 86 0 (0 : Int32)))) ∧ (¬ ((qup σ 86 0 (0 : Int32)) 86 0) ≤ 0 → (((1 : Int32) = (0 : Int32) ∨ (1 : Int32) = (1 : Int32)) ∧ Q (1 : Int32) (qup σ 86 0 (0 : Int32)))))) ∧ (¬ c = 0 → ((((qup σ 86 0 (3 : Int32)) 86 0) ≤ 0 → (((0 : Int32) = (0 : Int32) ∨ (0 : Int32) = (1 : Int32)) ∧ Q (0 : Int32) (qup σ 86 0 (3 : Int32)))) ∧ (¬ ((qup σ 86 0 (3 : Int32)) 86 0) ≤ 0 → (((1 : Int32) = (0 : Int32) ∨ (1 : Int32) = (1 : Int32)) ∧ Q (1 : Int32) (qup σ 86 0 (3 : Int32)))))))) ∧ (¬ b = 0 → ((((qup σ 86 0 (2 : Int32)) 86 0) ≤ 0 → (((0 : Int32) = (0 : Int32) ∨ (0 : Int32) = (1 : Int32)) ∧ Q (0 : Int32) (qup σ 86 0 (2 : Int32)))) ∧ (¬ ((qup σ 86 0 (2 : Int32)) 86 0) ≤ 0 → (((1 : Int32) = (0 : Int32) ∨ (1 : Int32) = (1 : Int32)) ∧ Q (1 : Int32) (qup σ 86 0 (2 : Int32)))))))) ∧ (¬ a = 0 → ((((qup σ 86 0 (1 : Int32)) 86 0) ≤ 0 → (((0 : Int32) = (0 : Int32) ∨ (0 : Int32) = (1 : Int32)) ∧ Q (0 : Int32) (qup σ 86 0 (1 : Int32)))) ∧ (¬ ((qup σ 86 0 (1 : Int32)) 86 0) ≤ 0 → (((1 : Int32) = (0 : Int32) ∨ (1 : Int32) = (1 : Int32)) ∧ Q (1 : Int32) (qup σ 86 0 (1 : Int32)))))))
    unfold qfa at hQ
    refine ⟨fun ha => ⟨fun hb => ⟨fun hc => ⟨fun h => ⟨Or.inl rfl, ?_⟩, fun h => absurd (by rw [qup_s]; decide) h⟩, fun hc => ⟨fun h => absurd h (by rw [qup_s]; decide), fun h => ⟨Or.inr rfl, ?_⟩⟩⟩, fun hb => ⟨fun h => absurd h (by rw [qup_s]; decide), fun h => ⟨Or.inr rfl, ?_⟩⟩⟩, fun ha => ⟨fun h => absurd h (by rw [qup_s]; decide), fun h => ⟨Or.inr rfl, ?_⟩⟩⟩
    · rw [if_pos ha, if_pos hb, if_pos hc, if_pos (by decide)] at hQ; exact hQ
    · rw [if_pos ha, if_pos hb, if_neg hc, if_neg (by decide)] at hQ; exact hQ
    · rw [if_pos ha, if_neg hb, if_neg (by decide)] at hQ; exact hQ
    · rw [if_neg ha, if_neg (by decide)] at hQ; exact hQ
  · cases hf
def kX10_isSign : qCode := [(0, .aload_n 0, 1), (1, .getfield 182, 3), (4, .iconst 3, 1), (5, .if_icmp .ne 15, 3), (8, .aload_n 0, 1), (9, .getfield 191, 3), (12, .iload_n 1, 1), (13, .if_icmp .ne 7, 3), (16, .iconst 1, 1), (17, .goto 4, 3), (20, .iconst 0, 1), (21, .ireturn, 1)]
set_option maxRecDepth 100000 in
theorem okX10_isSign : qCodeOk mX10_isSign kX10_isSign := by unfold qCodeOk; decide +kernel
def f_sign : qFn := fun as σ => match as with
  | [.inr 86, .inl c] => some (if σ 86 40 = 3 ∧ σ 86 43 = c then 1 else 0, σ)
  | _ => none
theorem c_sign {g : qG} (hw : qWF g) : qFnOk g mX10_isSign f_sign := by
  intro d as σ r σ' Q T hf hQ
  unfold f_sign at hf
  split at hf
  · rename_i c
    cases hf
    refine qC_of (Nat.le_of_ble_eq_true rfl) plX10_n hw (qleaf rfl okX10_isSign plX10l_ok 13 _ _ _ _ _ ?_)
    show ((¬ (σ 86 40) = (3 : Int32) → (((0 : Int32) = (0 : Int32) ∨ (0 : Int32) = (1 : Int32)) ∧ Q (0 : Int32) σ)) ∧ (¬ (¬ (σ 86 40) = (3 : Int32)) → ((¬ (σ 86 43) = c → (((0 : Int32) = (0 : Int32) ∨ (0 : Int32) = (1 : Int32)) ∧ Q (0 : Int32) σ)) ∧ (¬ (¬ (σ 86 43) = c) → (((1 : Int32) = (0 : Int32) ∨ (1 : Int32) = (1 : Int32)) ∧ Q (1 : Int32) σ)))))
    refine ⟨fun h => ⟨Or.inl rfl, ?_⟩, fun h => ⟨fun h2 => ⟨Or.inl rfl, ?_⟩, fun h2 => ⟨Or.inr rfl, ?_⟩⟩⟩
    · rw [if_neg (fun z => h z.1)] at hQ; exact hQ
    · rw [if_neg (fun z => h2 z.2)] at hQ; exact hQ
    · rw [if_pos ⟨Decidable.not_not.mp h, Decidable.not_not.mp h2⟩] at hQ; exact hQ
  · cases hf
def kX10_isKeyword : qCode := [(0, .aload_n 0, 1), (1, .getfield 182, 3), (4, .iconst 1, 1), (5, .if_icmp .ne 15, 3), (8, .aload_n 0, 1), (9, .getfield 194, 3), (12, .iload_n 1, 1), (13, .if_icmp .ne 7, 3), (16, .iconst 1, 1), (17, .goto 4, 3), (20, .iconst 0, 1), (21, .ireturn, 1)]
set_option maxRecDepth 100000 in
theorem okX10_isKeyword : qCodeOk mX10_isKeyword kX10_isKeyword := by unfold qCodeOk; decide +kernel
def f_kw : qFn := fun as σ => match as with
  | [.inr 86, .inl c] => some (if σ 86 40 = 1 ∧ σ 86 44 = c then 1 else 0, σ)
  | _ => none
theorem c_kw {g : qG} (hw : qWF g) : qFnOk g mX10_isKeyword f_kw := by
  intro d as σ r σ' Q T hf hQ
  unfold f_kw at hf
  split at hf
  · rename_i c
    cases hf
    refine qC_of (Nat.le_of_ble_eq_true rfl) plX10_n hw (qleaf rfl okX10_isKeyword plX10l_ok 13 _ _ _ _ _ ?_)
    show ((¬ (σ 86 40) = (1 : Int32) → (((0 : Int32) = (0 : Int32) ∨ (0 : Int32) = (1 : Int32)) ∧ Q (0 : Int32) σ)) ∧ (¬ (¬ (σ 86 40) = (1 : Int32)) → ((¬ (σ 86 44) = c → (((0 : Int32) = (0 : Int32) ∨ (0 : Int32) = (1 : Int32)) ∧ Q (0 : Int32) σ)) ∧ (¬ (¬ (σ 86 44) = c) → (((1 : Int32) = (0 : Int32) ∨ (1 : Int32) = (1 : Int32)) ∧ Q (1 : Int32) σ)))))
    refine ⟨fun h => ⟨Or.inl rfl, ?_⟩, fun h => ⟨fun h2 => ⟨Or.inl rfl, ?_⟩, fun h2 => ⟨Or.inr rfl, ?_⟩⟩⟩
    · rw [if_neg (fun z => h z.1)] at hQ; exact hQ
    · rw [if_neg (fun z => h2 z.2)] at hQ; exact hQ
    · rw [if_pos ⟨Decidable.not_not.mp h, Decidable.not_not.mp h2⟩] at hQ; exact hQ
  · cases hf
def kX10_fail : qCode := [(0, .aload_n 0, 1), (1, .getfield 197, 3), (4, .ifCond .eq 4, 3), (7, .return_, 1), (8, .aload_n 0, 1), (9, .iload_n 1, 1), (10, .putfield 197, 3), (13, .aload_n 0, 1), (14, .aload_n 0, 1), (15, .getfield 185, 3), (18, .putfield 200, 3), (21, .return_, 1)]
set_option maxRecDepth 100000 in
theorem okX10_fail : qCodeOk mX10_fail kX10_fail := by unfold qCodeOk; decide +kernel
def f_fail : qFn := fun as σ => match as with
  | [.inr 86, .inl c] => some (0, if σ 86 45 = 0 then qup (qup σ 86 45 c) 86 46 (σ 86 41) else σ)
  | _ => none
theorem c_fail {g : qG} (hw : qWF g) : qFnOk g mX10_fail f_fail := by
  intro d as σ r σ' Q T hf hQ
  unfold f_fail at hf
  split at hf
  · rename_i c
    cases hf
    refine qC_of (Nat.le_of_ble_eq_true rfl) plX10_n hw (qleaf rfl okX10_fail plX10l_ok 13 _ _ _ _ _ ?_)
    show (((σ 86 45) = 0 → Q 0 (qup (qup σ 86 45 c) 86 46 ((qup σ 86 45 c) 86 41))) ∧ (¬ (σ 86 45) = 0 → Q 0 σ))
    refine ⟨fun h => ?_, fun h => ?_⟩
    · rw [if_pos h] at hQ; exact hQ
    · rw [if_neg h] at hQ; exact hQ
  · cases hf
def kX10_thrown : qCode := [(0, .aload_n 0, 1), (1, .getfield 1, 3), (4, .ireturn, 1)]
set_option maxRecDepth 100000 in
theorem okX10_thrown : qCodeOk mX10_thrown kX10_thrown := by unfold qCodeOk; decide +kernel
def f_thrown : qFn := fun as σ => match as with
  | [.inr 86] => some (σ 86 0, σ)
  | _ => none
theorem c_thrown {g : qG} (hw : qWF g) : qFnOk g mX10_thrown f_thrown := by
  intro d as σ r σ' Q T hf hQ
  unfold f_thrown at hf
  split at hf
  · cases hf
    refine qC_of (Nat.le_of_ble_eq_true rfl) plX10_n hw (qleaf rfl okX10_thrown plX10l_ok 4 _ _ _ _ _ ?_)
    show Q (σ 86 0) σ
    exact hQ
  · cases hf
def kX4_isFull : qCode := [(0, .aload_n 0, 1), (1, .getfield 44, 3), (4, .sipush 400, 3), (7, .if_icmp .lt 7, 3), (10, .iconst 1, 1), (11, .goto 4, 3), (14, .iconst 0, 1), (15, .ireturn, 1)]
set_option maxRecDepth 100000 in
theorem okX4_isFull : qCodeOk mX4_isFull kX4_isFull := by unfold qCodeOk; decide +kernel
def f_rfull : qFn := fun as σ => match as with
  | [.inr 2] => some (if σ 2 9 < 400 then 0 else 1, σ)
  | _ => none
theorem c_rfull {g : qG} (hw : qWF g) : qFnOk g mX4_isFull f_rfull := by
  intro d as σ r σ' Q T hf hQ
  unfold f_rfull at hf
  split at hf
  · cases hf
    refine qC_of (Nat.le_of_ble_eq_true rfl) plX4_n hw (qleaf rfl okX4_isFull plX4l_ok 9 _ _ _ _ _ ?_)
    show (((σ 2 9) < (400 : Int32) → (((0 : Int32) = (0 : Int32) ∨ (0 : Int32) = (1 : Int32)) ∧ Q (0 : Int32) σ)) ∧ (¬ (σ 2 9) < (400 : Int32) → (((1 : Int32) = (0 : Int32) ∨ (1 : Int32) = (1 : Int32)) ∧ Q (1 : Int32) σ)))
    refine ⟨fun h => ⟨Or.inl rfl, ?_⟩, fun h => ⟨Or.inr rfl, ?_⟩⟩
    · rw [if_pos h] at hQ; exact hQ
    · rw [if_neg h] at hQ; exact hQ
  · cases hf
def kX7_count : qCode := [(0, .aload_n 0, 1), (1, .getfield 27, 3), (4, .aload_n 0, 1), (5, .getfield 23, 3), (8, .isub, 1), (9, .iconst 1, 1), (10, .iadd, 1), (11, .ireturn, 1)]
set_option maxRecDepth 100000 in
theorem okX7_count : qCodeOk mX7_count kX7_count := by unfold qCodeOk; decide +kernel
def f_count : qFn := fun as σ => match as with
  | [.inr 21] => some (σ 21 3 - σ 21 2 + 1, σ)
  | _ => none
theorem c_count {g : qG} (hw : qWF g) : qFnOk g mX7_count f_count := by
  intro d as σ r σ' Q T hf hQ
  unfold f_count at hf
  split at hf
  · cases hf
    refine qC_of (Nat.le_of_ble_eq_true rfl) plX7_n hw (qleaf rfl okX7_count plX7l_ok 9 _ _ _ _ _ ?_)
    show Q (((σ 21 3) - (σ 21 2)) + (1 : Int32)) σ
    exact hQ
  · cases hf
def kX0_hasConsumer : qCode := [(0, .iload_n 1, 1), (1, .ifCond .lt 15, 3), (4, .iload_n 1, 1), (5, .aload_n 0, 1), (6, .getfield 38, 3), (9, .if_icmp .ge 7, 3), (12, .iconst 1, 1), (13, .goto 4, 3), (16, .iconst 0, 1), (17, .ireturn, 1)]
set_option maxRecDepth 100000 in
theorem okX0_hasConsumer : qCodeOk mX0_hasConsumer kX0_hasConsumer := by unfold qCodeOk; decide +kernel
def f_hasc : qFn := fun as σ => match as with
  | [.inr 26, .inl c] => some (if c < 0 ∨ σ 26 6 ≤ c then 0 else 1, σ)
  | _ => none
theorem c_hasc {g : qG} (hw : qWF g) : qFnOk g mX0_hasConsumer f_hasc := by
  intro d as σ r σ' Q T hf hQ
  unfold f_hasc at hf
  split at hf
  · rename_i c
    cases hf
    refine qC_of (Nat.le_of_ble_eq_true rfl) plX0_n hw (qleaf rfl okX0_hasConsumer plX0l_ok 11 _ _ _ _ _ ?_)
    show ((c < 0 → (((0 : Int32) = (0 : Int32) ∨ (0 : Int32) = (1 : Int32)) ∧ Q (0 : Int32) σ)) ∧ (¬ c < 0 → (((σ 26 6) ≤ c → (((0 : Int32) = (0 : Int32) ∨ (0 : Int32) = (1 : Int32)) ∧ Q (0 : Int32) σ)) ∧ (¬ (σ 26 6) ≤ c → (((1 : Int32) = (0 : Int32) ∨ (1 : Int32) = (1 : Int32)) ∧ Q (1 : Int32) σ)))))
    refine ⟨fun h => ⟨Or.inl rfl, ?_⟩, fun h => ⟨fun h2 => ⟨Or.inl rfl, ?_⟩, fun h2 => ⟨Or.inr rfl, ?_⟩⟩⟩
    · rw [if_pos (Or.inl h)] at hQ; exact hQ
    · rw [if_pos (Or.inr h2)] at hQ; exact hQ
    · rw [if_neg (fun z => z.elim h h2)] at hQ; exact hQ
  · cases hf
def kX3_fault : qCode := [(0, .aload_n 0, 1), (1, .iload_n 1, 1), (2, .putfield 59, 3), (5, .iconst 0, 1), (6, .ireturn, 1)]
set_option maxRecDepth 100000 in
theorem okX3_fault : qCodeOk mX3_fault kX3_fault := by unfold qCodeOk; decide +kernel
def f_fault : qFn := fun as σ => match as with
  | [.inr 63, .inl c] => some (0, qup σ 63 10 c)
  | _ => none
theorem c_fault {g : qG} (hw : qWF g) : qFnOk g mX3_fault f_fault := by
  intro d as σ r σ' Q T hf hQ
  unfold f_fault at hf
  split at hf
  · rename_i c
    cases hf
    refine qC_of (Nat.le_of_ble_eq_true rfl) plX3_n hw (qleaf rfl okX3_fault plX3l_ok 6 _ _ _ _ _ ?_)
    show (((0 : Int32) = (0 : Int32) ∨ (0 : Int32) = (1 : Int32)) ∧ Q (0 : Int32) (qup σ 63 10 c))
    exact ⟨Or.inl rfl, hQ⟩
  · cases hf
def kX4_mix : qCode := [(0, .bipush 31, 2), (2, .iload_n 0, 1), (3, .imul, 1), (4, .iload_n 1, 1), (5, .iadd, 1), (6, .i2s, 1), (7, .ireturn, 1)]
set_option maxRecDepth 100000 in
theorem okX4_mix : qCodeOk mX4_mix kX4_mix := by unfold qCodeOk; decide +kernel
def f_mix : qFn := fun as σ => match as with
  | [.inl a, .inl b] => some ((31 * a + b).toInt16.toInt32, σ)
  | _ => none
theorem c_mix {g : qG} (hw : qWF g) : qFnOk g mX4_mix f_mix := by
  intro d as σ r σ' Q T hf hQ
  unfold f_mix at hf
  split at hf
  · rename_i a b
    cases hf
    refine qC_of (Nat.le_of_ble_eq_true rfl) plX4_n hw (qleaf rfl okX4_mix plX4l_ok 8 _ _ _ _ _ ?_)
    show (narrow .short (.int ((((31 : Int32) * a) + b).toInt16.toInt32)) = .int ((((31 : Int32) * a) + b).toInt16.toInt32) ∧ Q ((((31 : Int32) * a) + b).toInt16.toInt32) σ)
    exact ⟨pk_ns _, hQ⟩
  · cases hf
def qsz (k c : Int32) : Int32 := if k < 0 ∨ 9 ≤ k then 0 else if k = 6 then qszs k.toNatClampNeg + c else qszs k.toNatClampNeg
def f_size : qFn := fun as σ => match as with
  | [.inl a, .inl b] => some (qsz a b, σ)
  | _ => none
theorem qin_sz : ∀ w ∈ [Jvm.Cond.fieldLinkNest RX4 51 "SharedLog" "SIZES" "[I" "SharedLog"], w ∈ lw_tbl := qtb_of [718] (by decide +kernel)
theorem c_size {g : qG} (hw : qWF g) : qFnOk g mX4_sizeOf f_size := by
  intro d as σ r σ' Q T hf hQ
  unfold f_size at hf
  split at hf
  · rename_i a b
    cases hf
    have hz : ∀ U, qK g U → ∃ a : Nat, va_Z "SharedLog" "SIZES" "[I" (.ref a) g.2.1 U U.heap ∧ va_T .int a 9 (fun j => .int (qszs j)) g.2.1 U U.heap := fun U h => h.2.2.1
    have hwd := qin_sz _ List.mem_cons_self
    refine qC_of (Nat.le_of_ble_eq_true rfl) plX4_n hw ?_
    refine qV_iload_n (k := 0) (v := a) (by decide +kernel) rfl ?_
    refine qV_if (cd := .lt) (off := 11) (tgt := 12) (by decide +kernel) rfl (fun h0 => ?_) (fun h0 => ?_)
    · refine qV_iconst (n := 0) (by decide +kernel) ?_
      refine qV_ret (ty := .int) rfl (by decide) rfl (by decide +kernel) ?_
      unfold qsz at hQ
      rw [if_pos (Or.inl (show a < 0 from h0))] at hQ
      exact hQ
    · refine qV_iload_n (k := 0) (v := a) (by decide +kernel) rfl ?_
      refine qV_gslen (n := 9) (f := qszs) (idx := 51) hz hwd (by decide +kernel) (by decide +kernel) ?_
      refine qV_icmp (cd := .lt) (off := 5) (tgt := 14) (by decide +kernel) rfl (fun h1 => ?_) (fun h1 => ?_)
      · have h0 : ¬ a < 0 := h0
        have h1 : a < nI 9 := h1
        have hin : ¬ (a < 0 ∨ (9 : Int32) ≤ a) := by
          rintro (h | h)
          · exact h0 h
          · rw [Int32.lt_iff_toInt_lt] at h1
            rw [Int32.le_iff_toInt_le] at h
            have e : (nI 9).toInt = (9 : Int32).toInt := rfl
            omega
        have hv : vp_in a 9 := by
          obtain ⟨j, hj, e, -⟩ := pk_mu (L := 9) h0 (fun h => hin (Or.inr h)) (by decide)
          rw [e]
          exact vp_in_nI hj (by decide)
        unfold qsz at hQ
        rw [if_neg hin] at hQ
        refine qV_iload_n (k := 0) (v := a) (by decide +kernel) rfl ?_
        refine qV_bipush (n := 6) (by decide +kernel) ?_
        refine qV_icmp (cd := .ne) (off := 13) (tgt := 30) (by decide +kernel) rfl (fun h2 => ?_) (fun h2 => ?_)
        · refine qV_gsld (n := 9) (f := qszs) (idx := 51) (k := 0) hz hwd (by decide +kernel) (by decide +kernel) (by decide +kernel) rfl hv ?_
          refine qV_ret (ty := .int) rfl (by decide) rfl (by decide +kernel) ?_
          rw [if_neg (show ¬ a = 6 from h2)] at hQ
          exact hQ
        · refine qV_gsld (n := 9) (f := qszs) (idx := 51) (k := 0) hz hwd (by decide +kernel) (by decide +kernel) (by decide +kernel) rfl hv ?_
          refine qV_iload_n (k := 1) (v := b) (by decide +kernel) rfl ?_
          refine qV_iadd (by decide +kernel) ?_
          refine qV_goto (off := 8) (tgt := 35) (by decide +kernel) rfl ?_
          refine qV_ret (ty := .int) rfl (by decide) rfl (by decide +kernel) ?_
          rw [if_pos (Decidable.not_not.mp (show ¬ ¬ a = 6 from h2))] at hQ
          exact hQ
      · refine qV_iconst (n := 0) (by decide +kernel) ?_
        refine qV_ret (ty := .int) rfl (by decide) rfl (by decide +kernel) ?_
        unfold qsz at hQ
        rw [if_pos (Or.inr (by have h1 : ¬ a < nI 9 := h1; rw [Int32.lt_iff_toInt_lt] at h1; rw [Int32.le_iff_toInt_le]; have e : (nI 9).toInt = (9 : Int32).toInt := rfl; omega))] at hQ
        exact hQ
  · cases hf
