/-! ===== the constructors of the class and of the reference: printed by wip/whole/gen26.py ===== -/
theorem katE {ws L : va_W} {k j : Nat} {x y : Nat × va_E} (h : L.length = j) : (ws.set k x ++ (L ++ [y]))[ws.length + j]? = some y := by
  rw [katL, List.getElem?_append_right (by omega), h, Nat.sub_self]
  rfl
theorem ksetE {ws L : va_W} {k j : Nat} {x y z : Nat × va_E} (h : L.length = j) : (ws.set k x ++ (L ++ [y])).set (ws.length + j) z = ws.set k x ++ (L ++ [z]) := by
  rw [ksetL, List.set_append_right _ _ (by omega), h, Nat.sub_self]
  rfl
section KE
variable {l : Launch} {A : Nat → Prop} {D : va_G} {cs : Nat → ClassId}
theorem kw10 : ∀ w ∈ ([.methodLink RX10 26 Lib.objectInit, .instanceMethod Lib.objectInit, .code Lib.objectInit ⟨#[0xb1]⟩ 1 none, .fieldLink RX10 1 RX10 "thrown" "I", .arrayClass .int, .fieldLink RX10 7 RX10 "buffer" "[I", .fieldLink RX10 11 RX10 "length" "I", .fieldLink RX10 32 RX10 "capacity" "I", .fieldLink RX10 35 RX10 "limit" "I", .fieldLink RX10 38 RX10 "mostSpilled" "I", .fieldLink RX10 41 RX10 "type" "[I", .fieldLink RX10 44 RX10 "beginOf" "[I", .fieldLink RX10 47 RX10 "one" "[I", .fieldLink RX10 50 RX10 "two" "[I", .fieldLink RX10 53 RX10 "three" "[I", .fieldLink RX10 56 RX10 "size" "[I", .fieldLink RX10 59 RX10 "effect" "[I", .fieldLink RX10 62 RX10 "segmentOf" "[I", .arrayClass .boolean, .fieldLink RX10 65 RX10 "isDamaged" "[Z", .fieldLink RX10 69 RX10 "next" "I", .fieldLink RX10 72 RX10 "durable" "I", .fieldLink RX10 75 RX10 "segmentNumber" "[I", .fieldLink RX10 78 RX10 "segmentFirst" "[I", .fieldLink RX10 81 RX10 "segmentCount" "I", .fieldLink RX10 84 RX10 "trimmed" "I", .fieldLink RX10 87 RX10 "txBegin" "[I", .fieldLink RX10 90 RX10 "visible" "[I", .fieldLink RX10 93 RX10 "visibleCount" "[I", .fieldLink RX10 96 RX10 "topicOf" "[I", .fieldLink RX10 99 RX10 "position" "[I", .fieldLink RX10 102 RX10 "isSpilled" "[Z", .fieldLink RX10 105 RX10 "consumerCount" "I", .fieldLink RX10 108 RX10 "checkpointAt" "I", .fieldLink RX10 111 RX10 "hasCheckpoint" "Z", .fieldLink RX10 115 RX10 "keptBlocks" "[I", .fieldLink RX10 118 RX10 "keptFiles" "[Z", .fieldLink RX10 121 RX10 "keptPositions" "[I", .fieldLink RX10 124 RX10 "readRow" "[I", .fieldLink RX10 127 RX10 "readCount" "I", .fieldLink RX10 130 RX10 "viewBlocks" "[I", .fieldLink RX10 133 RX10 "viewFiles" "[Z", .arrayClass .long, .constantLong RX10 (136 : Nat) (2268462 : Int64), .constantLong RX10 (138 : Nat) (116831540 : Int64), .constantLong RX10 (140 : Nat) (1130068 : Int64), .constantLong RX10 (142 : Nat) (24716933 : Int64), .constantLong RX10 (144 : Nat) (609664709 : Int64), .constantLong RX10 (146 : Nat) (114201 : Int64), .constantLong RX10 (148 : Nat) (628164 : Int64), .constantLong RX10 (150 : Nat) (343342 : Int64), .constantLong RX10 (152 : Nat) (594980 : Int64), .constantLong RX10 (154 : Nat) (6706792 : Int64), .constantLong RX10 (156 : Nat) (427595 : Int64), .constantLong RX10 (158 : Nat) (609752116 : Int64), .constantLong RX10 (160 : Nat) (762030 : Int64), .constantLong RX10 (162 : Nat) (302 : Int64), .constantLong RX10 (164 : Nat) (464660 : Int64), .constantLong RX10 (166 : Nat) (5018519941 : Int64), .constantLong RX10 (168 : Nat) (2937011 : Int64), .constantLong RX10 (170 : Nat) (719918116 : Int64), .fieldLink RX10 172 RX10 "keywords" "[J", .fieldLink RX10 176 RX10 "scanLength" "I", .fieldLink RX10 179 RX10 "scanAt" "I", .fieldLink RX10 182 RX10 "token" "I", .fieldLink RX10 185 RX10 "tokenStart" "I", .fieldLink RX10 188 RX10 "number" "I", .fieldLink RX10 191 RX10 "sign" "I", .fieldLink RX10 194 RX10 "keyword" "I", .fieldLink RX10 197 RX10 "code" "I", .fieldLink RX10 200 RX10 "codeAt" "I", .fieldLink RX10 203 RX10 "command" "[I", .fieldLink RX10 206 RX10 "place" "[I", .fieldLink RX10 209 RX10 "argument" "[I", .fieldLink RX10 212 RX10 "blockEnd" "[I", .fieldLink RX10 215 RX10 "commands" "I", .fieldLink RX10 218 RX10 "atomKind" "[I", .fieldLink RX10 221 RX10 "atomNumber" "[I", .fieldLink RX10 224 RX10 "atomSign" "[I", .fieldLink RX10 227 RX10 "atoms" "I", .fieldLink RX10 230 RX10 "opened" "[I", .fieldLink RX10 233 RX10 "levels" "I", .fieldLink RX10 236 RX10 "blockOf" "[I", .fieldLink RX10 239 RX10 "roundsLeft" "[I", .fieldLink RX10 242 RX10 "blocks" "I", .fieldLink RX10 245 RX10 "failure" "I", .fieldLink RX10 248 RX10 "failurePlace" "I"] : List Jvm.Cond), w ∈ qgw := qgw_of [1425, 148, 149, 1444, 172, 1445, 1446, 1447, 1448, 1449, 1450, 1451, 1452, 1453, 1454, 1455, 1456, 1457, 1634, 1458, 1459, 1460, 1461, 1462, 1463, 1464, 1465, 1466, 1467, 1468, 1469, 1470, 1471, 1472, 1473, 1474, 1475, 1476, 1477, 1478, 1479, 1480, 1635, 1426, 1427, 1428, 1429, 1430, 1431, 1432, 1433, 1434, 1435, 1436, 1437, 1438, 1439, 1440, 1441, 1442, 1443, 1481, 1482, 1483, 1484, 1485, 1486, 1487, 1488, 1489, 1490, 1491, 1492, 1493, 1494, 1495, 1496, 1497, 1498, 1499, 1500, 1501, 1502, 1503, 1504, 1505, 1506] (by decide +kernel) (by decide +kernel)
def kM (cs : Nat → ClassId) (u : Nat → Nat) : va_W := [((u 0), .inl (cs 0, 900, .inl (fun _ => 0))), ((u 1), .inl (cs 0, 400, .inl (fun _ => 0))), ((u 2), .inl (cs 0, 400, .inl (fun _ => 0))), ((u 3), .inl (cs 0, 400, .inl (fun _ => 0))), ((u 4), .inl (cs 0, 400, .inl (fun _ => 0))), ((u 5), .inl (cs 0, 400, .inl (fun _ => 0))), ((u 6), .inl (cs 0, 400, .inl (fun _ => 0))), ((u 7), .inl (cs 0, 400, .inl (fun _ => 0))), ((u 8), .inl (cs 0, 400, .inl (fun _ => 0))), ((u 9), .inl (cs 2, 400, .inl (fun _ => 0))), ((u 10), .inl (cs 0, 401, .inl (fun _ => 0))), ((u 11), .inl (cs 0, 401, .inl (fun _ => 0))), ((u 12), .inl (cs 0, 4, .inl (upd (upd (upd (upd (fun _ => 0) 0 (-1)) 1 (-1)) 2 (-1)) 3 (-1)))), ((u 13), .inl (cs 0, 1600, .inl (fun _ => 0))), ((u 14), .inl (cs 0, 4, .inl (fun _ => 0))), ((u 15), .inl (cs 0, 6, .inl (fun _ => 0))), ((u 16), .inl (cs 0, 6, .inl (fun _ => 0))), ((u 17), .inl (cs 2, 2400, .inl (fun _ => 0))), ((u 18), .inl (cs 0, 32, .inl (fun _ => 0))), ((u 19), .inl (cs 2, 8, .inl (fun _ => 0))), ((u 20), .inl (cs 0, 6, .inl (fun _ => 0))), ((u 21), .inl (cs 0, 150, .inl (fun _ => 0))), ((u 22), .inl (cs 0, 32, .inl (fun _ => 0))), ((u 23), .inl (cs 2, 8, .inl (fun _ => 0))), ((u 24), .inl (cs 3, 18, .inr (.inl (vp_updL (vp_updL (vp_updL (vp_updL (vp_updL (vp_updL (vp_updL (vp_updL (vp_updL (vp_updL (vp_updL (vp_updL (vp_updL (vp_updL (vp_updL (vp_updL (vp_updL (vp_updL (fun _ => 0) 0 2268462) 1 116831540) 2 1130068) 3 24716933) 4 609664709) 5 114201) 6 628164) 7 343342) 8 594980) 9 6706792) 10 427595) 11 609752116) 12 762030) 13 302) 14 464660) 15 5018519941) 16 2937011) 17 719918116)))), ((u 25), .inl (cs 0, 61, .inl (fun _ => 0))), ((u 26), .inl (cs 0, 61, .inl (fun _ => 0))), ((u 27), .inl (cs 0, 244, .inl (fun _ => 0))), ((u 28), .inl (cs 0, 61, .inl (fun _ => 0))), ((u 29), .inl (cs 0, 500, .inl (fun _ => 0))), ((u 30), .inl (cs 0, 500, .inl (fun _ => 0))), ((u 31), .inl (cs 0, 500, .inl (fun _ => 0))), ((u 32), .inl (cs 0, 5, .inl (fun _ => 0))), ((u 33), .inl (cs 0, 6, .inl (fun _ => 0))), ((u 34), .inl (cs 0, 6, .inl (fun _ => 0)))]
def kMf (u : Nat → Nat) : List Value := [.int 0, .ref (u 0), .int 0, .int 100, .int 300, .int 20, .ref (u 1), .ref (u 2), .ref (u 3), .ref (u 4), .ref (u 5), .ref (u 6), .ref (u 7), .ref (u 8), .ref (u 9), .int 0, .int 0, .ref (u 10), .ref (u 11), .int 1, .int 0, .ref (u 12), .ref (u 13), .ref (u 14), .ref (u 15), .ref (u 16), .ref (u 17), .int 0, .int 0, .int 0, .ref (u 18), .ref (u 19), .ref (u 20), .ref (u 21), .int 0, .ref (u 22), .ref (u 23), .ref (u 24), .int 0, .int 0, .int 0, .int 0, .int 0, .int 0, .int (-1), .int 0, .int (-1), .ref (u 25), .ref (u 26), .ref (u 27), .ref (u 28), .int 0, .ref (u 29), .ref (u 30), .ref (u 31), .int 0, .ref (u 32), .int 0, .ref (u 33), .ref (u 34), .int 0, .int 0, .int (-1)]
set_option maxRecDepth 100000 in
set_option maxHeartbeats 10000000 in
theorem k_10 {ws : va_W} {h0 k : Nat} (hk : ws[k]? = some (h0, .inr (10, [.int 0, .null, .int 0, .int 0, .int 0, .int 0, .null, .null, .null, .null, .null, .null, .null, .null, .null, .int 0, .int 0, .null, .null, .int 0, .int 0, .null, .null, .null, .null, .null, .null, .int 0, .int 0, .int 0, .null, .null, .null, .null, .int 0, .null, .null, .null, .int 0, .int 0, .int 0, .int 0, .int 0, .int 0, .int 0, .int 0, .int 0, .null, .null, .null, .null, .int 0, .null, .null, .null, .int 0, .null, .int 0, .null, .null, .int 0, .int 0, .int 0]))) : Met l yX10_init (.code yX10_init cX10_init 1 none :: qgw) (krm 35 11520 0) (va_Pc [.ref h0] (kPre A D cs ws)) (va_Qv (fun _ : Nat → Nat => True) (fun u t => kPost A D (ws.set k (h0, .inr (10, kMf u)) ++ kM cs u) t) A) 35 11520 A := by
  refine Met.ofW (cc := cX10_init) (maxL := 1) (ret := none) (by decide) rfl ?_
  intro p e s m args below meth c s₁ B hml hv
  obtain ⟨rfl, hP, hD, hK, hA, hN⟩ := hv
  have hx := B.exec
  have hb := B.bytes
  have hr := B.returns
  have hts0 := atoms_spec (ws := .code yX10_init cX10_init 1 none :: qgw) B.pre
  have hts : ∀ w ∈ qgw, w.before _ s = true := fun w hw => hts0 w (List.mem_cons_of_mem _ hw)
  have hown : s.vm.findClass RX10 = some m.cls := findClass_of_methodNamed B.named
  have hlocks := B.notSynchronized
  have hS : va_S A s.heap s.heap [] := va_S.rf
  have hl := lv_entry ([.ref h0]) (n := 1) (Nat.le_of_ble_eq_true rfl)
  rw [lg_entry_eq]
  generalize (lg_sl ([.ref h0]) ++ List.replicate (1 - (lg_sl ([.ref h0])).length) Slot.unset).toArray = ls at hl ⊢
  have hl : lv_has ls 1 [(0, .ref h0)] := hl
  have hin : meth.name = "<init>" := (name_of_methodNamed B.named B.method).1
  have hkl : k < ws.length := (List.getElem?_eq_some_iff.mp hk).1
  refine lv_aload_n (k := 0) hx hb (by decide +kernel : decode cX10_init 0 = .ok (.aload_n 0, 1)) rfl (lv_at hl 0 rfl) ?_
  refine W.objInit hx hb hown (hts _ (kw10 _ (List.mem_of_getElem? (i := 0) rfl))) (hts _ (kw10 _ (List.mem_of_getElem? (i := 1) rfl))) (hts _ (kw10 _ (List.mem_of_getElem? (i := 2) rfl))) rfl (by rw [hml]; exact hl.1) rfl (by decide +kernel : decode cX10_init 1 = .ok (.invokespecial 26, 3)) (Nat.le_of_ble_eq_true rfl) (Nat.le_of_ble_eq_true rfl) ?_
  refine W.eq (g2 := F0 m 4 ls []) rfl ?_
  obtain ⟨F_0, hF_0⟩ : ∃ F9 : List Value, F9 = [.int 0, .null, .int 0, .int 0, .int 0, .int 0, .null, .null, .null, .null, .null, .null, .null, .null, .null, .int 0, .int 0, .null, .null, .int 0, .int 0, .null, .null, .null, .null, .null, .null, .int 0, .int 0, .int 0, .null, .null, .null, .null, .int 0, .null, .null, .null, .int 0, .int 0, .int 0, .int 0, .int 0, .int 0, .int 0, .int 0, .int 0, .null, .null, .null, .null, .int 0, .null, .null, .null, .int 0, .null, .int 0, .null, .null, .int 0, .int 0, .int 0] := ⟨_, rfl⟩
  have lF_0 : F_0.length = 63 := by rw [hF_0]; rfl
  obtain ⟨L_0, hL_0⟩ : ∃ L9 : va_W, L9 = [] := ⟨_, rfl⟩
  have lL_0 : L_0.length = 0 := by rw [hL_0]; rfl
  rw [← hF_0] at hk
  have hP : va_P D vwCl (ws.set k (h0, .inr (10, F_0)) ++ L_0) s.heap := by rw [hL_0, List.append_nil, kset hk]; exact hP
  have hD : va_D A (ws.set k (h0, .inr (10, F_0)) ++ L_0) := by rw [hL_0, List.append_nil, kset hk]; exact hD
  refine lv_aload_n (k := 0) hx hb (by decide +kernel : decode cX10_init 4 = .ok (.aload_n 0, 1)) rfl (lv_at hl 0 rfl) ?_
  refine lv_iconst (v := 0) hx hb (by decide +kernel : decode cX10_init 5 = .ok (.iconst 0, 1)) (by decide) ?_
  refine va_put (D := D) (ci := 10) (v := .int 0) (ty := .int) (C := RX10) (T := TX10) (N := 63) hx hb hts qin10 tyX10 tyX10_ok nmX10 hown hK hP hD hS k (kat0 hkl) rfl 0 (Nat.le_of_ble_eq_true rfl) (hts _ (kw10 _ (List.mem_of_getElem? (i := 3) rfl))) (fun _ h9 => h9) rfl (by decide +kernel) rfl rfl (by rw [lF_0]; decide) (by decide +kernel : decode cX10_init 6 = .ok (.putfield 1, 3)) (fun H6 locs6 hP hD hS => ?_)
  rw [kset0 hkl] at hP hD
  obtain ⟨F_1, hF_1⟩ : ∃ F9 : List Value, F9 = [.int 0, .null, .int 0, .int 0, .int 0, .int 0, .null, .null, .null, .null, .null, .null, .null, .null, .null, .int 0, .int 0, .null, .null, .int 0, .int 0, .null, .null, .null, .null, .null, .null, .int 0, .int 0, .int 0, .null, .null, .null, .null, .int 0, .null, .null, .null, .int 0, .int 0, .int 0, .int 0, .int 0, .int 0, .int 0, .int 0, .int 0, .null, .null, .null, .null, .int 0, .null, .null, .null, .int 0, .null, .int 0, .null, .null, .int 0, .int 0, .int 0] := ⟨_, rfl⟩
  have lF_1 : F_1.length = 63 := by rw [hF_1]; rfl
  rw [show F_0.set 0 (.int 0) = F_1 by rw [hF_0, hF_1]; rfl] at hP hD
  refine lv_aload_n (k := 0) hx hb (by decide +kernel : decode cX10_init 9 = .ok (.aload_n 0, 1)) rfl (lv_at hl 0 rfl) ?_
  refine lv_sipush (v := nI 900) hx hb (by decide +kernel : decode cX10_init 10 = .ok (.sipush 900, 3)) (by decide) ?_
  refine va_newa (atype := .int) (ty := .int) (N' := 900) (a0 := (900, .inl (fun _ => 0))) hx hb (hts _ (kw10 _ (List.mem_of_getElem? (i := 4) rfl))) rfl hK hP hD hS hA (fun _ => rfl) (by decide) (by decide) (by decide) (Nat.le_of_ble_eq_true rfl) (Nat.le_of_ble_eq_true rfl) (by decide +kernel : decode cX10_init 13 = .ok (.newarray .int, 2)) (fun q0 cA H13 hK1 hP hD hS => ?_)
  have ec := kcs 0 (fun C h => by cases h) rfl hK1
  subst ec
  clear hK1
  rw [List.append_assoc] at hP hD
  obtain ⟨L_1, hL_1⟩ : ∃ L9 : va_W, L9 = [(q0, .inl (cs 0, 900, .inl (fun _ => 0)))] := ⟨_, rfl⟩
  have lL_1 : L_1.length = 1 := by rw [hL_1]; rfl
  rw [show L_0 ++ [(q0, .inl (cs 0, 900, .inl (fun _ => 0)))] = L_1 by rw [hL_0, hL_1]; rfl] at hP hD
  refine va_putF (D := D) (ci := 10) (v := .ref q0) (ty := .array .int) (C := RX10) (T := TX10) (N := 63) hx hb hts qin10 tyX10 tyX10_ok nmX10 hown hK hP hD hS k (kat0 hkl) rfl 1 (Nat.le_of_ble_eq_true rfl) (hts _ (kw10 _ (List.mem_of_getElem? (i := 5) rfl))) (fun _ h9 => h9) rfl hin rfl (by decide +kernel) rfl rfl (by rw [lF_1]; decide) (by decide +kernel : decode cX10_init 15 = .ok (.putfield 7, 3)) (fun H15 locs15 hP hD hS => ?_)
  rw [kset0 hkl] at hP hD
  obtain ⟨F_2, hF_2⟩ : ∃ F9 : List Value, F9 = [.int 0, .ref q0, .int 0, .int 0, .int 0, .int 0, .null, .null, .null, .null, .null, .null, .null, .null, .null, .int 0, .int 0, .null, .null, .int 0, .int 0, .null, .null, .null, .null, .null, .null, .int 0, .int 0, .int 0, .null, .null, .null, .null, .int 0, .null, .null, .null, .int 0, .int 0, .int 0, .int 0, .int 0, .int 0, .int 0, .int 0, .int 0, .null, .null, .null, .null, .int 0, .null, .null, .null, .int 0, .null, .int 0, .null, .null, .int 0, .int 0, .int 0] := ⟨_, rfl⟩
  have lF_2 : F_2.length = 63 := by rw [hF_2]; rfl
  rw [show F_1.set 1 (.ref q0) = F_2 by rw [hF_1, hF_2]; rfl] at hP hD
  refine lv_aload_n (k := 0) hx hb (by decide +kernel : decode cX10_init 18 = .ok (.aload_n 0, 1)) rfl (lv_at hl 0 rfl) ?_
  refine lv_iconst (v := 0) hx hb (by decide +kernel : decode cX10_init 19 = .ok (.iconst 0, 1)) (by decide) ?_
  refine va_put (D := D) (ci := 10) (v := .int 0) (ty := .int) (C := RX10) (T := TX10) (N := 63) hx hb hts qin10 tyX10 tyX10_ok nmX10 hown hK hP hD hS k (kat0 hkl) rfl 2 (Nat.le_of_ble_eq_true rfl) (hts _ (kw10 _ (List.mem_of_getElem? (i := 6) rfl))) (fun _ h9 => h9) rfl (by decide +kernel) rfl rfl (by rw [lF_2]; decide) (by decide +kernel : decode cX10_init 20 = .ok (.putfield 11, 3)) (fun H20 locs20 hP hD hS => ?_)
  rw [kset0 hkl] at hP hD
  obtain ⟨F_3, hF_3⟩ : ∃ F9 : List Value, F9 = [.int 0, .ref q0, .int 0, .int 0, .int 0, .int 0, .null, .null, .null, .null, .null, .null, .null, .null, .null, .int 0, .int 0, .null, .null, .int 0, .int 0, .null, .null, .null, .null, .null, .null, .int 0, .int 0, .int 0, .null, .null, .null, .null, .int 0, .null, .null, .null, .int 0, .int 0, .int 0, .int 0, .int 0, .int 0, .int 0, .int 0, .int 0, .null, .null, .null, .null, .int 0, .null, .null, .null, .int 0, .null, .int 0, .null, .null, .int 0, .int 0, .int 0] := ⟨_, rfl⟩
  have lF_3 : F_3.length = 63 := by rw [hF_3]; rfl
  rw [show F_2.set 2 (.int 0) = F_3 by rw [hF_2, hF_3]; rfl] at hP hD
  refine lv_aload_n (k := 0) hx hb (by decide +kernel : decode cX10_init 23 = .ok (.aload_n 0, 1)) rfl (lv_at hl 0 rfl) ?_
  refine lv_bipush (v := 100) hx hb (by decide +kernel : decode cX10_init 24 = .ok (.bipush 100, 2)) (by decide) ?_
  refine va_put (D := D) (ci := 10) (v := .int 100) (ty := .int) (C := RX10) (T := TX10) (N := 63) hx hb hts qin10 tyX10 tyX10_ok nmX10 hown hK hP hD hS k (kat0 hkl) rfl 3 (Nat.le_of_ble_eq_true rfl) (hts _ (kw10 _ (List.mem_of_getElem? (i := 7) rfl))) (fun _ h9 => h9) rfl (by decide +kernel) rfl rfl (by rw [lF_3]; decide) (by decide +kernel : decode cX10_init 26 = .ok (.putfield 32, 3)) (fun H26 locs26 hP hD hS => ?_)
  rw [kset0 hkl] at hP hD
  obtain ⟨F_4, hF_4⟩ : ∃ F9 : List Value, F9 = [.int 0, .ref q0, .int 0, .int 100, .int 0, .int 0, .null, .null, .null, .null, .null, .null, .null, .null, .null, .int 0, .int 0, .null, .null, .int 0, .int 0, .null, .null, .null, .null, .null, .null, .int 0, .int 0, .int 0, .null, .null, .null, .null, .int 0, .null, .null, .null, .int 0, .int 0, .int 0, .int 0, .int 0, .int 0, .int 0, .int 0, .int 0, .null, .null, .null, .null, .int 0, .null, .null, .null, .int 0, .null, .int 0, .null, .null, .int 0, .int 0, .int 0] := ⟨_, rfl⟩
  have lF_4 : F_4.length = 63 := by rw [hF_4]; rfl
  rw [show F_3.set 3 (.int 100) = F_4 by rw [hF_3, hF_4]; rfl] at hP hD
  refine lv_aload_n (k := 0) hx hb (by decide +kernel : decode cX10_init 29 = .ok (.aload_n 0, 1)) rfl (lv_at hl 0 rfl) ?_
  refine lv_sipush (v := 300) hx hb (by decide +kernel : decode cX10_init 30 = .ok (.sipush 300, 3)) (by decide) ?_
  refine va_put (D := D) (ci := 10) (v := .int 300) (ty := .int) (C := RX10) (T := TX10) (N := 63) hx hb hts qin10 tyX10 tyX10_ok nmX10 hown hK hP hD hS k (kat0 hkl) rfl 4 (Nat.le_of_ble_eq_true rfl) (hts _ (kw10 _ (List.mem_of_getElem? (i := 8) rfl))) (fun _ h9 => h9) rfl (by decide +kernel) rfl rfl (by rw [lF_4]; decide) (by decide +kernel : decode cX10_init 33 = .ok (.putfield 35, 3)) (fun H33 locs33 hP hD hS => ?_)
  rw [kset0 hkl] at hP hD
  obtain ⟨F_5, hF_5⟩ : ∃ F9 : List Value, F9 = [.int 0, .ref q0, .int 0, .int 100, .int 300, .int 0, .null, .null, .null, .null, .null, .null, .null, .null, .null, .int 0, .int 0, .null, .null, .int 0, .int 0, .null, .null, .null, .null, .null, .null, .int 0, .int 0, .int 0, .null, .null, .null, .null, .int 0, .null, .null, .null, .int 0, .int 0, .int 0, .int 0, .int 0, .int 0, .int 0, .int 0, .int 0, .null, .null, .null, .null, .int 0, .null, .null, .null, .int 0, .null, .int 0, .null, .null, .int 0, .int 0, .int 0] := ⟨_, rfl⟩
  have lF_5 : F_5.length = 63 := by rw [hF_5]; rfl
  rw [show F_4.set 4 (.int 300) = F_5 by rw [hF_4, hF_5]; rfl] at hP hD
  refine lv_aload_n (k := 0) hx hb (by decide +kernel : decode cX10_init 36 = .ok (.aload_n 0, 1)) rfl (lv_at hl 0 rfl) ?_
  refine lv_bipush (v := 20) hx hb (by decide +kernel : decode cX10_init 37 = .ok (.bipush 20, 2)) (by decide) ?_
  refine va_put (D := D) (ci := 10) (v := .int 20) (ty := .int) (C := RX10) (T := TX10) (N := 63) hx hb hts qin10 tyX10 tyX10_ok nmX10 hown hK hP hD hS k (kat0 hkl) rfl 5 (Nat.le_of_ble_eq_true rfl) (hts _ (kw10 _ (List.mem_of_getElem? (i := 9) rfl))) (fun _ h9 => h9) rfl (by decide +kernel) rfl rfl (by rw [lF_5]; decide) (by decide +kernel : decode cX10_init 39 = .ok (.putfield 38, 3)) (fun H39 locs39 hP hD hS => ?_)
  rw [kset0 hkl] at hP hD
  obtain ⟨F_6, hF_6⟩ : ∃ F9 : List Value, F9 = [.int 0, .ref q0, .int 0, .int 100, .int 300, .int 20, .null, .null, .null, .null, .null, .null, .null, .null, .null, .int 0, .int 0, .null, .null, .int 0, .int 0, .null, .null, .null, .null, .null, .null, .int 0, .int 0, .int 0, .null, .null, .null, .null, .int 0, .null, .null, .null, .int 0, .int 0, .int 0, .int 0, .int 0, .int 0, .int 0, .int 0, .int 0, .null, .null, .null, .null, .int 0, .null, .null, .null, .int 0, .null, .int 0, .null, .null, .int 0, .int 0, .int 0] := ⟨_, rfl⟩
  have lF_6 : F_6.length = 63 := by rw [hF_6]; rfl
  rw [show F_5.set 5 (.int 20) = F_6 by rw [hF_5, hF_6]; rfl] at hP hD
  refine lv_aload_n (k := 0) hx hb (by decide +kernel : decode cX10_init 42 = .ok (.aload_n 0, 1)) rfl (lv_at hl 0 rfl) ?_
  refine lv_sipush (v := nI 400) hx hb (by decide +kernel : decode cX10_init 43 = .ok (.sipush 400, 3)) (by decide) ?_
  refine va_newa (atype := .int) (ty := .int) (N' := 400) (a0 := (400, .inl (fun _ => 0))) hx hb (hts _ (kw10 _ (List.mem_of_getElem? (i := 4) rfl))) rfl hK hP hD hS hA (fun _ => rfl) (by decide) (by decide) (by decide) (Nat.le_of_ble_eq_true rfl) (Nat.le_of_ble_eq_true rfl) (by decide +kernel : decode cX10_init 46 = .ok (.newarray .int, 2)) (fun q1 cA H46 hK1 hP hD hS => ?_)
  have ec := kcs 0 (fun C h => by cases h) rfl hK1
  subst ec
  clear hK1
  rw [List.append_assoc] at hP hD
  obtain ⟨L_2, hL_2⟩ : ∃ L9 : va_W, L9 = [(q0, .inl (cs 0, 900, .inl (fun _ => 0))), (q1, .inl (cs 0, 400, .inl (fun _ => 0)))] := ⟨_, rfl⟩
  have lL_2 : L_2.length = 2 := by rw [hL_2]; rfl
  rw [show L_1 ++ [(q1, .inl (cs 0, 400, .inl (fun _ => 0)))] = L_2 by rw [hL_1, hL_2]; rfl] at hP hD
  refine va_putF (D := D) (ci := 10) (v := .ref q1) (ty := .array .int) (C := RX10) (T := TX10) (N := 63) hx hb hts qin10 tyX10 tyX10_ok nmX10 hown hK hP hD hS k (kat0 hkl) rfl 6 (Nat.le_of_ble_eq_true rfl) (hts _ (kw10 _ (List.mem_of_getElem? (i := 10) rfl))) (fun _ h9 => h9) rfl hin rfl (by decide +kernel) rfl rfl (by rw [lF_6]; decide) (by decide +kernel : decode cX10_init 48 = .ok (.putfield 41, 3)) (fun H48 locs48 hP hD hS => ?_)
  rw [kset0 hkl] at hP hD
  obtain ⟨F_7, hF_7⟩ : ∃ F9 : List Value, F9 = [.int 0, .ref q0, .int 0, .int 100, .int 300, .int 20, .ref q1, .null, .null, .null, .null, .null, .null, .null, .null, .int 0, .int 0, .null, .null, .int 0, .int 0, .null, .null, .null, .null, .null, .null, .int 0, .int 0, .int 0, .null, .null, .null, .null, .int 0, .null, .null, .null, .int 0, .int 0, .int 0, .int 0, .int 0, .int 0, .int 0, .int 0, .int 0, .null, .null, .null, .null, .int 0, .null, .null, .null, .int 0, .null, .int 0, .null, .null, .int 0, .int 0, .int 0] := ⟨_, rfl⟩
  have lF_7 : F_7.length = 63 := by rw [hF_7]; rfl
  rw [show F_6.set 6 (.ref q1) = F_7 by rw [hF_6, hF_7]; rfl] at hP hD
  refine lv_aload_n (k := 0) hx hb (by decide +kernel : decode cX10_init 51 = .ok (.aload_n 0, 1)) rfl (lv_at hl 0 rfl) ?_
  refine lv_sipush (v := nI 400) hx hb (by decide +kernel : decode cX10_init 52 = .ok (.sipush 400, 3)) (by decide) ?_
  refine va_newa (atype := .int) (ty := .int) (N' := 400) (a0 := (400, .inl (fun _ => 0))) hx hb (hts _ (kw10 _ (List.mem_of_getElem? (i := 4) rfl))) rfl hK hP hD hS hA (fun _ => rfl) (by decide) (by decide) (by decide) (Nat.le_of_ble_eq_true rfl) (Nat.le_of_ble_eq_true rfl) (by decide +kernel : decode cX10_init 55 = .ok (.newarray .int, 2)) (fun q2 cA H55 hK1 hP hD hS => ?_)
  have ec := kcs 0 (fun C h => by cases h) rfl hK1
  subst ec
  clear hK1
  rw [List.append_assoc] at hP hD
  obtain ⟨L_3, hL_3⟩ : ∃ L9 : va_W, L9 = [(q0, .inl (cs 0, 900, .inl (fun _ => 0))), (q1, .inl (cs 0, 400, .inl (fun _ => 0))), (q2, .inl (cs 0, 400, .inl (fun _ => 0)))] := ⟨_, rfl⟩
  have lL_3 : L_3.length = 3 := by rw [hL_3]; rfl
  rw [show L_2 ++ [(q2, .inl (cs 0, 400, .inl (fun _ => 0)))] = L_3 by rw [hL_2, hL_3]; rfl] at hP hD
  refine va_putF (D := D) (ci := 10) (v := .ref q2) (ty := .array .int) (C := RX10) (T := TX10) (N := 63) hx hb hts qin10 tyX10 tyX10_ok nmX10 hown hK hP hD hS k (kat0 hkl) rfl 7 (Nat.le_of_ble_eq_true rfl) (hts _ (kw10 _ (List.mem_of_getElem? (i := 11) rfl))) (fun _ h9 => h9) rfl hin rfl (by decide +kernel) rfl rfl (by rw [lF_7]; decide) (by decide +kernel : decode cX10_init 57 = .ok (.putfield 44, 3)) (fun H57 locs57 hP hD hS => ?_)
  rw [kset0 hkl] at hP hD
  obtain ⟨F_8, hF_8⟩ : ∃ F9 : List Value, F9 = [.int 0, .ref q0, .int 0, .int 100, .int 300, .int 20, .ref q1, .ref q2, .null, .null, .null, .null, .null, .null, .null, .int 0, .int 0, .null, .null, .int 0, .int 0, .null, .null, .null, .null, .null, .null, .int 0, .int 0, .int 0, .null, .null, .null, .null, .int 0, .null, .null, .null, .int 0, .int 0, .int 0, .int 0, .int 0, .int 0, .int 0, .int 0, .int 0, .null, .null, .null, .null, .int 0, .null, .null, .null, .int 0, .null, .int 0, .null, .null, .int 0, .int 0, .int 0] := ⟨_, rfl⟩
  have lF_8 : F_8.length = 63 := by rw [hF_8]; rfl
  rw [show F_7.set 7 (.ref q2) = F_8 by rw [hF_7, hF_8]; rfl] at hP hD
  refine lv_aload_n (k := 0) hx hb (by decide +kernel : decode cX10_init 60 = .ok (.aload_n 0, 1)) rfl (lv_at hl 0 rfl) ?_
  refine lv_sipush (v := nI 400) hx hb (by decide +kernel : decode cX10_init 61 = .ok (.sipush 400, 3)) (by decide) ?_
  refine va_newa (atype := .int) (ty := .int) (N' := 400) (a0 := (400, .inl (fun _ => 0))) hx hb (hts _ (kw10 _ (List.mem_of_getElem? (i := 4) rfl))) rfl hK hP hD hS hA (fun _ => rfl) (by decide) (by decide) (by decide) (Nat.le_of_ble_eq_true rfl) (Nat.le_of_ble_eq_true rfl) (by decide +kernel : decode cX10_init 64 = .ok (.newarray .int, 2)) (fun q3 cA H64 hK1 hP hD hS => ?_)
  have ec := kcs 0 (fun C h => by cases h) rfl hK1
  subst ec
  clear hK1
  rw [List.append_assoc] at hP hD
  obtain ⟨L_4, hL_4⟩ : ∃ L9 : va_W, L9 = [(q0, .inl (cs 0, 900, .inl (fun _ => 0))), (q1, .inl (cs 0, 400, .inl (fun _ => 0))), (q2, .inl (cs 0, 400, .inl (fun _ => 0))), (q3, .inl (cs 0, 400, .inl (fun _ => 0)))] := ⟨_, rfl⟩
  have lL_4 : L_4.length = 4 := by rw [hL_4]; rfl
  rw [show L_3 ++ [(q3, .inl (cs 0, 400, .inl (fun _ => 0)))] = L_4 by rw [hL_3, hL_4]; rfl] at hP hD
  refine va_putF (D := D) (ci := 10) (v := .ref q3) (ty := .array .int) (C := RX10) (T := TX10) (N := 63) hx hb hts qin10 tyX10 tyX10_ok nmX10 hown hK hP hD hS k (kat0 hkl) rfl 8 (Nat.le_of_ble_eq_true rfl) (hts _ (kw10 _ (List.mem_of_getElem? (i := 12) rfl))) (fun _ h9 => h9) rfl hin rfl (by decide +kernel) rfl rfl (by rw [lF_8]; decide) (by decide +kernel : decode cX10_init 66 = .ok (.putfield 47, 3)) (fun H66 locs66 hP hD hS => ?_)
  rw [kset0 hkl] at hP hD
  obtain ⟨F_9, hF_9⟩ : ∃ F9 : List Value, F9 = [.int 0, .ref q0, .int 0, .int 100, .int 300, .int 20, .ref q1, .ref q2, .ref q3, .null, .null, .null, .null, .null, .null, .int 0, .int 0, .null, .null, .int 0, .int 0, .null, .null, .null, .null, .null, .null, .int 0, .int 0, .int 0, .null, .null, .null, .null, .int 0, .null, .null, .null, .int 0, .int 0, .int 0, .int 0, .int 0, .int 0, .int 0, .int 0, .int 0, .null, .null, .null, .null, .int 0, .null, .null, .null, .int 0, .null, .int 0, .null, .null, .int 0, .int 0, .int 0] := ⟨_, rfl⟩
  have lF_9 : F_9.length = 63 := by rw [hF_9]; rfl
  rw [show F_8.set 8 (.ref q3) = F_9 by rw [hF_8, hF_9]; rfl] at hP hD
  refine lv_aload_n (k := 0) hx hb (by decide +kernel : decode cX10_init 69 = .ok (.aload_n 0, 1)) rfl (lv_at hl 0 rfl) ?_
  refine lv_sipush (v := nI 400) hx hb (by decide +kernel : decode cX10_init 70 = .ok (.sipush 400, 3)) (by decide) ?_
  refine va_newa (atype := .int) (ty := .int) (N' := 400) (a0 := (400, .inl (fun _ => 0))) hx hb (hts _ (kw10 _ (List.mem_of_getElem? (i := 4) rfl))) rfl hK hP hD hS hA (fun _ => rfl) (by decide) (by decide) (by decide) (Nat.le_of_ble_eq_true rfl) (Nat.le_of_ble_eq_true rfl) (by decide +kernel : decode cX10_init 73 = .ok (.newarray .int, 2)) (fun q4 cA H73 hK1 hP hD hS => ?_)
  have ec := kcs 0 (fun C h => by cases h) rfl hK1
  subst ec
  clear hK1
  rw [List.append_assoc] at hP hD
  obtain ⟨L_5, hL_5⟩ : ∃ L9 : va_W, L9 = [(q0, .inl (cs 0, 900, .inl (fun _ => 0))), (q1, .inl (cs 0, 400, .inl (fun _ => 0))), (q2, .inl (cs 0, 400, .inl (fun _ => 0))), (q3, .inl (cs 0, 400, .inl (fun _ => 0))), (q4, .inl (cs 0, 400, .inl (fun _ => 0)))] := ⟨_, rfl⟩
  have lL_5 : L_5.length = 5 := by rw [hL_5]; rfl
  rw [show L_4 ++ [(q4, .inl (cs 0, 400, .inl (fun _ => 0)))] = L_5 by rw [hL_4, hL_5]; rfl] at hP hD
  refine va_putF (D := D) (ci := 10) (v := .ref q4) (ty := .array .int) (C := RX10) (T := TX10) (N := 63) hx hb hts qin10 tyX10 tyX10_ok nmX10 hown hK hP hD hS k (kat0 hkl) rfl 9 (Nat.le_of_ble_eq_true rfl) (hts _ (kw10 _ (List.mem_of_getElem? (i := 13) rfl))) (fun _ h9 => h9) rfl hin rfl (by decide +kernel) rfl rfl (by rw [lF_9]; decide) (by decide +kernel : decode cX10_init 75 = .ok (.putfield 50, 3)) (fun H75 locs75 hP hD hS => ?_)
  rw [kset0 hkl] at hP hD
  obtain ⟨F_10, hF_10⟩ : ∃ F9 : List Value, F9 = [.int 0, .ref q0, .int 0, .int 100, .int 300, .int 20, .ref q1, .ref q2, .ref q3, .ref q4, .null, .null, .null, .null, .null, .int 0, .int 0, .null, .null, .int 0, .int 0, .null, .null, .null, .null, .null, .null, .int 0, .int 0, .int 0, .null, .null, .null, .null, .int 0, .null, .null, .null, .int 0, .int 0, .int 0, .int 0, .int 0, .int 0, .int 0, .int 0, .int 0, .null, .null, .null, .null, .int 0, .null, .null, .null, .int 0, .null, .int 0, .null, .null, .int 0, .int 0, .int 0] := ⟨_, rfl⟩
  have lF_10 : F_10.length = 63 := by rw [hF_10]; rfl
  rw [show F_9.set 9 (.ref q4) = F_10 by rw [hF_9, hF_10]; rfl] at hP hD
  refine lv_aload_n (k := 0) hx hb (by decide +kernel : decode cX10_init 78 = .ok (.aload_n 0, 1)) rfl (lv_at hl 0 rfl) ?_
  refine lv_sipush (v := nI 400) hx hb (by decide +kernel : decode cX10_init 79 = .ok (.sipush 400, 3)) (by decide) ?_
  refine va_newa (atype := .int) (ty := .int) (N' := 400) (a0 := (400, .inl (fun _ => 0))) hx hb (hts _ (kw10 _ (List.mem_of_getElem? (i := 4) rfl))) rfl hK hP hD hS hA (fun _ => rfl) (by decide) (by decide) (by decide) (Nat.le_of_ble_eq_true rfl) (Nat.le_of_ble_eq_true rfl) (by decide +kernel : decode cX10_init 82 = .ok (.newarray .int, 2)) (fun q5 cA H82 hK1 hP hD hS => ?_)
  have ec := kcs 0 (fun C h => by cases h) rfl hK1
  subst ec
  clear hK1
  rw [List.append_assoc] at hP hD
  obtain ⟨L_6, hL_6⟩ : ∃ L9 : va_W, L9 = [(q0, .inl (cs 0, 900, .inl (fun _ => 0))), (q1, .inl (cs 0, 400, .inl (fun _ => 0))), (q2, .inl (cs 0, 400, .inl (fun _ => 0))), (q3, .inl (cs 0, 400, .inl (fun _ => 0))), (q4, .inl (cs 0, 400, .inl (fun _ => 0))), (q5, .inl (cs 0, 400, .inl (fun _ => 0)))] := ⟨_, rfl⟩
  have lL_6 : L_6.length = 6 := by rw [hL_6]; rfl
  rw [show L_5 ++ [(q5, .inl (cs 0, 400, .inl (fun _ => 0)))] = L_6 by rw [hL_5, hL_6]; rfl] at hP hD
  refine va_putF (D := D) (ci := 10) (v := .ref q5) (ty := .array .int) (C := RX10) (T := TX10) (N := 63) hx hb hts qin10 tyX10 tyX10_ok nmX10 hown hK hP hD hS k (kat0 hkl) rfl 10 (Nat.le_of_ble_eq_true rfl) (hts _ (kw10 _ (List.mem_of_getElem? (i := 14) rfl))) (fun _ h9 => h9) rfl hin rfl (by decide +kernel) rfl rfl (by rw [lF_10]; decide) (by decide +kernel : decode cX10_init 84 = .ok (.putfield 53, 3)) (fun H84 locs84 hP hD hS => ?_)
  rw [kset0 hkl] at hP hD
  obtain ⟨F_11, hF_11⟩ : ∃ F9 : List Value, F9 = [.int 0, .ref q0, .int 0, .int 100, .int 300, .int 20, .ref q1, .ref q2, .ref q3, .ref q4, .ref q5, .null, .null, .null, .null, .int 0, .int 0, .null, .null, .int 0, .int 0, .null, .null, .null, .null, .null, .null, .int 0, .int 0, .int 0, .null, .null, .null, .null, .int 0, .null, .null, .null, .int 0, .int 0, .int 0, .int 0, .int 0, .int 0, .int 0, .int 0, .int 0, .null, .null, .null, .null, .int 0, .null, .null, .null, .int 0, .null, .int 0, .null, .null, .int 0, .int 0, .int 0] := ⟨_, rfl⟩
  have lF_11 : F_11.length = 63 := by rw [hF_11]; rfl
  rw [show F_10.set 10 (.ref q5) = F_11 by rw [hF_10, hF_11]; rfl] at hP hD
  refine lv_aload_n (k := 0) hx hb (by decide +kernel : decode cX10_init 87 = .ok (.aload_n 0, 1)) rfl (lv_at hl 0 rfl) ?_
  refine lv_sipush (v := nI 400) hx hb (by decide +kernel : decode cX10_init 88 = .ok (.sipush 400, 3)) (by decide) ?_
  refine va_newa (atype := .int) (ty := .int) (N' := 400) (a0 := (400, .inl (fun _ => 0))) hx hb (hts _ (kw10 _ (List.mem_of_getElem? (i := 4) rfl))) rfl hK hP hD hS hA (fun _ => rfl) (by decide) (by decide) (by decide) (Nat.le_of_ble_eq_true rfl) (Nat.le_of_ble_eq_true rfl) (by decide +kernel : decode cX10_init 91 = .ok (.newarray .int, 2)) (fun q6 cA H91 hK1 hP hD hS => ?_)
  have ec := kcs 0 (fun C h => by cases h) rfl hK1
  subst ec
  clear hK1
  rw [List.append_assoc] at hP hD
  obtain ⟨L_7, hL_7⟩ : ∃ L9 : va_W, L9 = [(q0, .inl (cs 0, 900, .inl (fun _ => 0))), (q1, .inl (cs 0, 400, .inl (fun _ => 0))), (q2, .inl (cs 0, 400, .inl (fun _ => 0))), (q3, .inl (cs 0, 400, .inl (fun _ => 0))), (q4, .inl (cs 0, 400, .inl (fun _ => 0))), (q5, .inl (cs 0, 400, .inl (fun _ => 0))), (q6, .inl (cs 0, 400, .inl (fun _ => 0)))] := ⟨_, rfl⟩
  have lL_7 : L_7.length = 7 := by rw [hL_7]; rfl
  rw [show L_6 ++ [(q6, .inl (cs 0, 400, .inl (fun _ => 0)))] = L_7 by rw [hL_6, hL_7]; rfl] at hP hD
  refine va_putF (D := D) (ci := 10) (v := .ref q6) (ty := .array .int) (C := RX10) (T := TX10) (N := 63) hx hb hts qin10 tyX10 tyX10_ok nmX10 hown hK hP hD hS k (kat0 hkl) rfl 11 (Nat.le_of_ble_eq_true rfl) (hts _ (kw10 _ (List.mem_of_getElem? (i := 15) rfl))) (fun _ h9 => h9) rfl hin rfl (by decide +kernel) rfl rfl (by rw [lF_11]; decide) (by decide +kernel : decode cX10_init 93 = .ok (.putfield 56, 3)) (fun H93 locs93 hP hD hS => ?_)
  rw [kset0 hkl] at hP hD
  obtain ⟨F_12, hF_12⟩ : ∃ F9 : List Value, F9 = [.int 0, .ref q0, .int 0, .int 100, .int 300, .int 20, .ref q1, .ref q2, .ref q3, .ref q4, .ref q5, .ref q6, .null, .null, .null, .int 0, .int 0, .null, .null, .int 0, .int 0, .null, .null, .null, .null, .null, .null, .int 0, .int 0, .int 0, .null, .null, .null, .null, .int 0, .null, .null, .null, .int 0, .int 0, .int 0, .int 0, .int 0, .int 0, .int 0, .int 0, .int 0, .null, .null, .null, .null, .int 0, .null, .null, .null, .int 0, .null, .int 0, .null, .null, .int 0, .int 0, .int 0] := ⟨_, rfl⟩
  have lF_12 : F_12.length = 63 := by rw [hF_12]; rfl
  rw [show F_11.set 11 (.ref q6) = F_12 by rw [hF_11, hF_12]; rfl] at hP hD
  refine lv_aload_n (k := 0) hx hb (by decide +kernel : decode cX10_init 96 = .ok (.aload_n 0, 1)) rfl (lv_at hl 0 rfl) ?_
  refine lv_sipush (v := nI 400) hx hb (by decide +kernel : decode cX10_init 97 = .ok (.sipush 400, 3)) (by decide) ?_
  refine va_newa (atype := .int) (ty := .int) (N' := 400) (a0 := (400, .inl (fun _ => 0))) hx hb (hts _ (kw10 _ (List.mem_of_getElem? (i := 4) rfl))) rfl hK hP hD hS hA (fun _ => rfl) (by decide) (by decide) (by decide) (Nat.le_of_ble_eq_true rfl) (Nat.le_of_ble_eq_true rfl) (by decide +kernel : decode cX10_init 100 = .ok (.newarray .int, 2)) (fun q7 cA H100 hK1 hP hD hS => ?_)
  have ec := kcs 0 (fun C h => by cases h) rfl hK1
  subst ec
  clear hK1
  rw [List.append_assoc] at hP hD
  obtain ⟨L_8, hL_8⟩ : ∃ L9 : va_W, L9 = [(q0, .inl (cs 0, 900, .inl (fun _ => 0))), (q1, .inl (cs 0, 400, .inl (fun _ => 0))), (q2, .inl (cs 0, 400, .inl (fun _ => 0))), (q3, .inl (cs 0, 400, .inl (fun _ => 0))), (q4, .inl (cs 0, 400, .inl (fun _ => 0))), (q5, .inl (cs 0, 400, .inl (fun _ => 0))), (q6, .inl (cs 0, 400, .inl (fun _ => 0))), (q7, .inl (cs 0, 400, .inl (fun _ => 0)))] := ⟨_, rfl⟩
  have lL_8 : L_8.length = 8 := by rw [hL_8]; rfl
  rw [show L_7 ++ [(q7, .inl (cs 0, 400, .inl (fun _ => 0)))] = L_8 by rw [hL_7, hL_8]; rfl] at hP hD
  refine va_putF (D := D) (ci := 10) (v := .ref q7) (ty := .array .int) (C := RX10) (T := TX10) (N := 63) hx hb hts qin10 tyX10 tyX10_ok nmX10 hown hK hP hD hS k (kat0 hkl) rfl 12 (Nat.le_of_ble_eq_true rfl) (hts _ (kw10 _ (List.mem_of_getElem? (i := 16) rfl))) (fun _ h9 => h9) rfl hin rfl (by decide +kernel) rfl rfl (by rw [lF_12]; decide) (by decide +kernel : decode cX10_init 102 = .ok (.putfield 59, 3)) (fun H102 locs102 hP hD hS => ?_)
  rw [kset0 hkl] at hP hD
  obtain ⟨F_13, hF_13⟩ : ∃ F9 : List Value, F9 = [.int 0, .ref q0, .int 0, .int 100, .int 300, .int 20, .ref q1, .ref q2, .ref q3, .ref q4, .ref q5, .ref q6, .ref q7, .null, .null, .int 0, .int 0, .null, .null, .int 0, .int 0, .null, .null, .null, .null, .null, .null, .int 0, .int 0, .int 0, .null, .null, .null, .null, .int 0, .null, .null, .null, .int 0, .int 0, .int 0, .int 0, .int 0, .int 0, .int 0, .int 0, .int 0, .null, .null, .null, .null, .int 0, .null, .null, .null, .int 0, .null, .int 0, .null, .null, .int 0, .int 0, .int 0] := ⟨_, rfl⟩
  have lF_13 : F_13.length = 63 := by rw [hF_13]; rfl
  rw [show F_12.set 12 (.ref q7) = F_13 by rw [hF_12, hF_13]; rfl] at hP hD
  refine lv_aload_n (k := 0) hx hb (by decide +kernel : decode cX10_init 105 = .ok (.aload_n 0, 1)) rfl (lv_at hl 0 rfl) ?_
  refine lv_sipush (v := nI 400) hx hb (by decide +kernel : decode cX10_init 106 = .ok (.sipush 400, 3)) (by decide) ?_
  refine va_newa (atype := .int) (ty := .int) (N' := 400) (a0 := (400, .inl (fun _ => 0))) hx hb (hts _ (kw10 _ (List.mem_of_getElem? (i := 4) rfl))) rfl hK hP hD hS hA (fun _ => rfl) (by decide) (by decide) (by decide) (Nat.le_of_ble_eq_true rfl) (Nat.le_of_ble_eq_true rfl) (by decide +kernel : decode cX10_init 109 = .ok (.newarray .int, 2)) (fun q8 cA H109 hK1 hP hD hS => ?_)
  have ec := kcs 0 (fun C h => by cases h) rfl hK1
  subst ec
  clear hK1
  rw [List.append_assoc] at hP hD
  obtain ⟨L_9, hL_9⟩ : ∃ L9 : va_W, L9 = [(q0, .inl (cs 0, 900, .inl (fun _ => 0))), (q1, .inl (cs 0, 400, .inl (fun _ => 0))), (q2, .inl (cs 0, 400, .inl (fun _ => 0))), (q3, .inl (cs 0, 400, .inl (fun _ => 0))), (q4, .inl (cs 0, 400, .inl (fun _ => 0))), (q5, .inl (cs 0, 400, .inl (fun _ => 0))), (q6, .inl (cs 0, 400, .inl (fun _ => 0))), (q7, .inl (cs 0, 400, .inl (fun _ => 0))), (q8, .inl (cs 0, 400, .inl (fun _ => 0)))] := ⟨_, rfl⟩
  have lL_9 : L_9.length = 9 := by rw [hL_9]; rfl
  rw [show L_8 ++ [(q8, .inl (cs 0, 400, .inl (fun _ => 0)))] = L_9 by rw [hL_8, hL_9]; rfl] at hP hD
  refine va_putF (D := D) (ci := 10) (v := .ref q8) (ty := .array .int) (C := RX10) (T := TX10) (N := 63) hx hb hts qin10 tyX10 tyX10_ok nmX10 hown hK hP hD hS k (kat0 hkl) rfl 13 (Nat.le_of_ble_eq_true rfl) (hts _ (kw10 _ (List.mem_of_getElem? (i := 17) rfl))) (fun _ h9 => h9) rfl hin rfl (by decide +kernel) rfl rfl (by rw [lF_13]; decide) (by decide +kernel : decode cX10_init 111 = .ok (.putfield 62, 3)) (fun H111 locs111 hP hD hS => ?_)
  rw [kset0 hkl] at hP hD
  obtain ⟨F_14, hF_14⟩ : ∃ F9 : List Value, F9 = [.int 0, .ref q0, .int 0, .int 100, .int 300, .int 20, .ref q1, .ref q2, .ref q3, .ref q4, .ref q5, .ref q6, .ref q7, .ref q8, .null, .int 0, .int 0, .null, .null, .int 0, .int 0, .null, .null, .null, .null, .null, .null, .int 0, .int 0, .int 0, .null, .null, .null, .null, .int 0, .null, .null, .null, .int 0, .int 0, .int 0, .int 0, .int 0, .int 0, .int 0, .int 0, .int 0, .null, .null, .null, .null, .int 0, .null, .null, .null, .int 0, .null, .int 0, .null, .null, .int 0, .int 0, .int 0] := ⟨_, rfl⟩
  have lF_14 : F_14.length = 63 := by rw [hF_14]; rfl
  rw [show F_13.set 13 (.ref q8) = F_14 by rw [hF_13, hF_14]; rfl] at hP hD
  refine lv_aload_n (k := 0) hx hb (by decide +kernel : decode cX10_init 114 = .ok (.aload_n 0, 1)) rfl (lv_at hl 0 rfl) ?_
  refine lv_sipush (v := nI 400) hx hb (by decide +kernel : decode cX10_init 115 = .ok (.sipush 400, 3)) (by decide) ?_
  refine va_newa (atype := .boolean) (ty := .boolean) (N' := 400) (a0 := (400, .inl (fun _ => 0))) hx hb (hts _ (kw10 _ (List.mem_of_getElem? (i := 18) rfl))) rfl hK hP hD hS hA (fun _ => rfl) (by decide) (by decide) (by decide) (Nat.le_of_ble_eq_true rfl) (Nat.le_of_ble_eq_true rfl) (by decide +kernel : decode cX10_init 118 = .ok (.newarray .boolean, 2)) (fun q9 cA H118 hK1 hP hD hS => ?_)
  have ec := kcs 2 (fun C h => by cases h) rfl hK1
  subst ec
  clear hK1
  rw [List.append_assoc] at hP hD
  obtain ⟨L_10, hL_10⟩ : ∃ L9 : va_W, L9 = [(q0, .inl (cs 0, 900, .inl (fun _ => 0))), (q1, .inl (cs 0, 400, .inl (fun _ => 0))), (q2, .inl (cs 0, 400, .inl (fun _ => 0))), (q3, .inl (cs 0, 400, .inl (fun _ => 0))), (q4, .inl (cs 0, 400, .inl (fun _ => 0))), (q5, .inl (cs 0, 400, .inl (fun _ => 0))), (q6, .inl (cs 0, 400, .inl (fun _ => 0))), (q7, .inl (cs 0, 400, .inl (fun _ => 0))), (q8, .inl (cs 0, 400, .inl (fun _ => 0))), (q9, .inl (cs 2, 400, .inl (fun _ => 0)))] := ⟨_, rfl⟩
  have lL_10 : L_10.length = 10 := by rw [hL_10]; rfl
  rw [show L_9 ++ [(q9, .inl (cs 2, 400, .inl (fun _ => 0)))] = L_10 by rw [hL_9, hL_10]; rfl] at hP hD
  refine va_putF (D := D) (ci := 10) (v := .ref q9) (ty := .array .boolean) (C := RX10) (T := TX10) (N := 63) hx hb hts qin10 tyX10 tyX10_ok nmX10 hown hK hP hD hS k (kat0 hkl) rfl 14 (Nat.le_of_ble_eq_true rfl) (hts _ (kw10 _ (List.mem_of_getElem? (i := 19) rfl))) (fun _ h9 => h9) rfl hin rfl (by decide +kernel) rfl rfl (by rw [lF_14]; decide) (by decide +kernel : decode cX10_init 120 = .ok (.putfield 65, 3)) (fun H120 locs120 hP hD hS => ?_)
  rw [kset0 hkl] at hP hD
  obtain ⟨F_15, hF_15⟩ : ∃ F9 : List Value, F9 = [.int 0, .ref q0, .int 0, .int 100, .int 300, .int 20, .ref q1, .ref q2, .ref q3, .ref q4, .ref q5, .ref q6, .ref q7, .ref q8, .ref q9, .int 0, .int 0, .null, .null, .int 0, .int 0, .null, .null, .null, .null, .null, .null, .int 0, .int 0, .int 0, .null, .null, .null, .null, .int 0, .null, .null, .null, .int 0, .int 0, .int 0, .int 0, .int 0, .int 0, .int 0, .int 0, .int 0, .null, .null, .null, .null, .int 0, .null, .null, .null, .int 0, .null, .int 0, .null, .null, .int 0, .int 0, .int 0] := ⟨_, rfl⟩
  have lF_15 : F_15.length = 63 := by rw [hF_15]; rfl
  rw [show F_14.set 14 (.ref q9) = F_15 by rw [hF_14, hF_15]; rfl] at hP hD
  refine lv_aload_n (k := 0) hx hb (by decide +kernel : decode cX10_init 123 = .ok (.aload_n 0, 1)) rfl (lv_at hl 0 rfl) ?_
  refine lv_iconst (v := 0) hx hb (by decide +kernel : decode cX10_init 124 = .ok (.iconst 0, 1)) (by decide) ?_
  refine va_put (D := D) (ci := 10) (v := .int 0) (ty := .int) (C := RX10) (T := TX10) (N := 63) hx hb hts qin10 tyX10 tyX10_ok nmX10 hown hK hP hD hS k (kat0 hkl) rfl 15 (Nat.le_of_ble_eq_true rfl) (hts _ (kw10 _ (List.mem_of_getElem? (i := 20) rfl))) (fun _ h9 => h9) rfl (by decide +kernel) rfl rfl (by rw [lF_15]; decide) (by decide +kernel : decode cX10_init 125 = .ok (.putfield 69, 3)) (fun H125 locs125 hP hD hS => ?_)
  rw [kset0 hkl] at hP hD
  obtain ⟨F_16, hF_16⟩ : ∃ F9 : List Value, F9 = [.int 0, .ref q0, .int 0, .int 100, .int 300, .int 20, .ref q1, .ref q2, .ref q3, .ref q4, .ref q5, .ref q6, .ref q7, .ref q8, .ref q9, .int 0, .int 0, .null, .null, .int 0, .int 0, .null, .null, .null, .null, .null, .null, .int 0, .int 0, .int 0, .null, .null, .null, .null, .int 0, .null, .null, .null, .int 0, .int 0, .int 0, .int 0, .int 0, .int 0, .int 0, .int 0, .int 0, .null, .null, .null, .null, .int 0, .null, .null, .null, .int 0, .null, .int 0, .null, .null, .int 0, .int 0, .int 0] := ⟨_, rfl⟩
  have lF_16 : F_16.length = 63 := by rw [hF_16]; rfl
  rw [show F_15.set 15 (.int 0) = F_16 by rw [hF_15, hF_16]; rfl] at hP hD
  refine lv_aload_n (k := 0) hx hb (by decide +kernel : decode cX10_init 128 = .ok (.aload_n 0, 1)) rfl (lv_at hl 0 rfl) ?_
  refine lv_iconst (v := 0) hx hb (by decide +kernel : decode cX10_init 129 = .ok (.iconst 0, 1)) (by decide) ?_
  refine va_put (D := D) (ci := 10) (v := .int 0) (ty := .int) (C := RX10) (T := TX10) (N := 63) hx hb hts qin10 tyX10 tyX10_ok nmX10 hown hK hP hD hS k (kat0 hkl) rfl 16 (Nat.le_of_ble_eq_true rfl) (hts _ (kw10 _ (List.mem_of_getElem? (i := 21) rfl))) (fun _ h9 => h9) rfl (by decide +kernel) rfl rfl (by rw [lF_16]; decide) (by decide +kernel : decode cX10_init 130 = .ok (.putfield 72, 3)) (fun H130 locs130 hP hD hS => ?_)
  rw [kset0 hkl] at hP hD
  obtain ⟨F_17, hF_17⟩ : ∃ F9 : List Value, F9 = [.int 0, .ref q0, .int 0, .int 100, .int 300, .int 20, .ref q1, .ref q2, .ref q3, .ref q4, .ref q5, .ref q6, .ref q7, .ref q8, .ref q9, .int 0, .int 0, .null, .null, .int 0, .int 0, .null, .null, .null, .null, .null, .null, .int 0, .int 0, .int 0, .null, .null, .null, .null, .int 0, .null, .null, .null, .int 0, .int 0, .int 0, .int 0, .int 0, .int 0, .int 0, .int 0, .int 0, .null, .null, .null, .null, .int 0, .null, .null, .null, .int 0, .null, .int 0, .null, .null, .int 0, .int 0, .int 0] := ⟨_, rfl⟩
  have lF_17 : F_17.length = 63 := by rw [hF_17]; rfl
  rw [show F_16.set 16 (.int 0) = F_17 by rw [hF_16, hF_17]; rfl] at hP hD
  refine lv_aload_n (k := 0) hx hb (by decide +kernel : decode cX10_init 133 = .ok (.aload_n 0, 1)) rfl (lv_at hl 0 rfl) ?_
  refine lv_sipush (v := nI 401) hx hb (by decide +kernel : decode cX10_init 134 = .ok (.sipush 401, 3)) (by decide) ?_
  refine va_newa (atype := .int) (ty := .int) (N' := 401) (a0 := (401, .inl (fun _ => 0))) hx hb (hts _ (kw10 _ (List.mem_of_getElem? (i := 4) rfl))) rfl hK hP hD hS hA (fun _ => rfl) (by decide) (by decide) (by decide) (Nat.le_of_ble_eq_true rfl) (Nat.le_of_ble_eq_true rfl) (by decide +kernel : decode cX10_init 137 = .ok (.newarray .int, 2)) (fun q10 cA H137 hK1 hP hD hS => ?_)
  have ec := kcs 0 (fun C h => by cases h) rfl hK1
  subst ec
  clear hK1
  rw [List.append_assoc] at hP hD
  obtain ⟨L_11, hL_11⟩ : ∃ L9 : va_W, L9 = [(q0, .inl (cs 0, 900, .inl (fun _ => 0))), (q1, .inl (cs 0, 400, .inl (fun _ => 0))), (q2, .inl (cs 0, 400, .inl (fun _ => 0))), (q3, .inl (cs 0, 400, .inl (fun _ => 0))), (q4, .inl (cs 0, 400, .inl (fun _ => 0))), (q5, .inl (cs 0, 400, .inl (fun _ => 0))), (q6, .inl (cs 0, 400, .inl (fun _ => 0))), (q7, .inl (cs 0, 400, .inl (fun _ => 0))), (q8, .inl (cs 0, 400, .inl (fun _ => 0))), (q9, .inl (cs 2, 400, .inl (fun _ => 0))), (q10, .inl (cs 0, 401, .inl (fun _ => 0)))] := ⟨_, rfl⟩
  have lL_11 : L_11.length = 11 := by rw [hL_11]; rfl
  rw [show L_10 ++ [(q10, .inl (cs 0, 401, .inl (fun _ => 0)))] = L_11 by rw [hL_10, hL_11]; rfl] at hP hD
  refine va_putF (D := D) (ci := 10) (v := .ref q10) (ty := .array .int) (C := RX10) (T := TX10) (N := 63) hx hb hts qin10 tyX10 tyX10_ok nmX10 hown hK hP hD hS k (kat0 hkl) rfl 17 (Nat.le_of_ble_eq_true rfl) (hts _ (kw10 _ (List.mem_of_getElem? (i := 22) rfl))) (fun _ h9 => h9) rfl hin rfl (by decide +kernel) rfl rfl (by rw [lF_17]; decide) (by decide +kernel : decode cX10_init 139 = .ok (.putfield 75, 3)) (fun H139 locs139 hP hD hS => ?_)
  rw [kset0 hkl] at hP hD
  obtain ⟨F_18, hF_18⟩ : ∃ F9 : List Value, F9 = [.int 0, .ref q0, .int 0, .int 100, .int 300, .int 20, .ref q1, .ref q2, .ref q3, .ref q4, .ref q5, .ref q6, .ref q7, .ref q8, .ref q9, .int 0, .int 0, .ref q10, .null, .int 0, .int 0, .null, .null, .null, .null, .null, .null, .int 0, .int 0, .int 0, .null, .null, .null, .null, .int 0, .null, .null, .null, .int 0, .int 0, .int 0, .int 0, .int 0, .int 0, .int 0, .int 0, .int 0, .null, .null, .null, .null, .int 0, .null, .null, .null, .int 0, .null, .int 0, .null, .null, .int 0, .int 0, .int 0] := ⟨_, rfl⟩
  have lF_18 : F_18.length = 63 := by rw [hF_18]; rfl
  rw [show F_17.set 17 (.ref q10) = F_18 by rw [hF_17, hF_18]; rfl] at hP hD
  refine lv_aload_n (k := 0) hx hb (by decide +kernel : decode cX10_init 142 = .ok (.aload_n 0, 1)) rfl (lv_at hl 0 rfl) ?_
  refine lv_sipush (v := nI 401) hx hb (by decide +kernel : decode cX10_init 143 = .ok (.sipush 401, 3)) (by decide) ?_
  refine va_newa (atype := .int) (ty := .int) (N' := 401) (a0 := (401, .inl (fun _ => 0))) hx hb (hts _ (kw10 _ (List.mem_of_getElem? (i := 4) rfl))) rfl hK hP hD hS hA (fun _ => rfl) (by decide) (by decide) (by decide) (Nat.le_of_ble_eq_true rfl) (Nat.le_of_ble_eq_true rfl) (by decide +kernel : decode cX10_init 146 = .ok (.newarray .int, 2)) (fun q11 cA H146 hK1 hP hD hS => ?_)
  have ec := kcs 0 (fun C h => by cases h) rfl hK1
  subst ec
  clear hK1
  rw [List.append_assoc] at hP hD
  obtain ⟨L_12, hL_12⟩ : ∃ L9 : va_W, L9 = [(q0, .inl (cs 0, 900, .inl (fun _ => 0))), (q1, .inl (cs 0, 400, .inl (fun _ => 0))), (q2, .inl (cs 0, 400, .inl (fun _ => 0))), (q3, .inl (cs 0, 400, .inl (fun _ => 0))), (q4, .inl (cs 0, 400, .inl (fun _ => 0))), (q5, .inl (cs 0, 400, .inl (fun _ => 0))), (q6, .inl (cs 0, 400, .inl (fun _ => 0))), (q7, .inl (cs 0, 400, .inl (fun _ => 0))), (q8, .inl (cs 0, 400, .inl (fun _ => 0))), (q9, .inl (cs 2, 400, .inl (fun _ => 0))), (q10, .inl (cs 0, 401, .inl (fun _ => 0))), (q11, .inl (cs 0, 401, .inl (fun _ => 0)))] := ⟨_, rfl⟩
  have lL_12 : L_12.length = 12 := by rw [hL_12]; rfl
  rw [show L_11 ++ [(q11, .inl (cs 0, 401, .inl (fun _ => 0)))] = L_12 by rw [hL_11, hL_12]; rfl] at hP hD
  refine va_putF (D := D) (ci := 10) (v := .ref q11) (ty := .array .int) (C := RX10) (T := TX10) (N := 63) hx hb hts qin10 tyX10 tyX10_ok nmX10 hown hK hP hD hS k (kat0 hkl) rfl 18 (Nat.le_of_ble_eq_true rfl) (hts _ (kw10 _ (List.mem_of_getElem? (i := 23) rfl))) (fun _ h9 => h9) rfl hin rfl (by decide +kernel) rfl rfl (by rw [lF_18]; decide) (by decide +kernel : decode cX10_init 148 = .ok (.putfield 78, 3)) (fun H148 locs148 hP hD hS => ?_)
  rw [kset0 hkl] at hP hD
  obtain ⟨F_19, hF_19⟩ : ∃ F9 : List Value, F9 = [.int 0, .ref q0, .int 0, .int 100, .int 300, .int 20, .ref q1, .ref q2, .ref q3, .ref q4, .ref q5, .ref q6, .ref q7, .ref q8, .ref q9, .int 0, .int 0, .ref q10, .ref q11, .int 0, .int 0, .null, .null, .null, .null, .null, .null, .int 0, .int 0, .int 0, .null, .null, .null, .null, .int 0, .null, .null, .null, .int 0, .int 0, .int 0, .int 0, .int 0, .int 0, .int 0, .int 0, .int 0, .null, .null, .null, .null, .int 0, .null, .null, .null, .int 0, .null, .int 0, .null, .null, .int 0, .int 0, .int 0] := ⟨_, rfl⟩
  have lF_19 : F_19.length = 63 := by rw [hF_19]; rfl
  rw [show F_18.set 18 (.ref q11) = F_19 by rw [hF_18, hF_19]; rfl] at hP hD
  refine lv_aload_n (k := 0) hx hb (by decide +kernel : decode cX10_init 151 = .ok (.aload_n 0, 1)) rfl (lv_at hl 0 rfl) ?_
  refine lv_iconst (v := 1) hx hb (by decide +kernel : decode cX10_init 152 = .ok (.iconst 1, 1)) (by decide) ?_
  refine va_put (D := D) (ci := 10) (v := .int 1) (ty := .int) (C := RX10) (T := TX10) (N := 63) hx hb hts qin10 tyX10 tyX10_ok nmX10 hown hK hP hD hS k (kat0 hkl) rfl 19 (Nat.le_of_ble_eq_true rfl) (hts _ (kw10 _ (List.mem_of_getElem? (i := 24) rfl))) (fun _ h9 => h9) rfl (by decide +kernel) rfl rfl (by rw [lF_19]; decide) (by decide +kernel : decode cX10_init 153 = .ok (.putfield 81, 3)) (fun H153 locs153 hP hD hS => ?_)
  rw [kset0 hkl] at hP hD
  obtain ⟨F_20, hF_20⟩ : ∃ F9 : List Value, F9 = [.int 0, .ref q0, .int 0, .int 100, .int 300, .int 20, .ref q1, .ref q2, .ref q3, .ref q4, .ref q5, .ref q6, .ref q7, .ref q8, .ref q9, .int 0, .int 0, .ref q10, .ref q11, .int 1, .int 0, .null, .null, .null, .null, .null, .null, .int 0, .int 0, .int 0, .null, .null, .null, .null, .int 0, .null, .null, .null, .int 0, .int 0, .int 0, .int 0, .int 0, .int 0, .int 0, .int 0, .int 0, .null, .null, .null, .null, .int 0, .null, .null, .null, .int 0, .null, .int 0, .null, .null, .int 0, .int 0, .int 0] := ⟨_, rfl⟩
  have lF_20 : F_20.length = 63 := by rw [hF_20]; rfl
  rw [show F_19.set 19 (.int 1) = F_20 by rw [hF_19, hF_20]; rfl] at hP hD
  refine lv_aload_n (k := 0) hx hb (by decide +kernel : decode cX10_init 156 = .ok (.aload_n 0, 1)) rfl (lv_at hl 0 rfl) ?_
  refine lv_iconst (v := 0) hx hb (by decide +kernel : decode cX10_init 157 = .ok (.iconst 0, 1)) (by decide) ?_
  refine va_put (D := D) (ci := 10) (v := .int 0) (ty := .int) (C := RX10) (T := TX10) (N := 63) hx hb hts qin10 tyX10 tyX10_ok nmX10 hown hK hP hD hS k (kat0 hkl) rfl 20 (Nat.le_of_ble_eq_true rfl) (hts _ (kw10 _ (List.mem_of_getElem? (i := 25) rfl))) (fun _ h9 => h9) rfl (by decide +kernel) rfl rfl (by rw [lF_20]; decide) (by decide +kernel : decode cX10_init 158 = .ok (.putfield 84, 3)) (fun H158 locs158 hP hD hS => ?_)
  rw [kset0 hkl] at hP hD
  obtain ⟨F_21, hF_21⟩ : ∃ F9 : List Value, F9 = [.int 0, .ref q0, .int 0, .int 100, .int 300, .int 20, .ref q1, .ref q2, .ref q3, .ref q4, .ref q5, .ref q6, .ref q7, .ref q8, .ref q9, .int 0, .int 0, .ref q10, .ref q11, .int 1, .int 0, .null, .null, .null, .null, .null, .null, .int 0, .int 0, .int 0, .null, .null, .null, .null, .int 0, .null, .null, .null, .int 0, .int 0, .int 0, .int 0, .int 0, .int 0, .int 0, .int 0, .int 0, .null, .null, .null, .null, .int 0, .null, .null, .null, .int 0, .null, .int 0, .null, .null, .int 0, .int 0, .int 0] := ⟨_, rfl⟩
  have lF_21 : F_21.length = 63 := by rw [hF_21]; rfl
  rw [show F_20.set 20 (.int 0) = F_21 by rw [hF_20, hF_21]; rfl] at hP hD
  refine lv_aload_n (k := 0) hx hb (by decide +kernel : decode cX10_init 161 = .ok (.aload_n 0, 1)) rfl (lv_at hl 0 rfl) ?_
  refine lv_iconst (v := nI 4) hx hb (by decide +kernel : decode cX10_init 162 = .ok (.iconst 4, 1)) (by decide) ?_
  refine va_newa (atype := .int) (ty := .int) (N' := 4) (a0 := (4, .inl (fun _ => 0))) hx hb (hts _ (kw10 _ (List.mem_of_getElem? (i := 4) rfl))) rfl hK hP hD hS hA (fun _ => rfl) (by decide) (by decide) (by decide) (Nat.le_of_ble_eq_true rfl) (Nat.le_of_ble_eq_true rfl) (by decide +kernel : decode cX10_init 163 = .ok (.newarray .int, 2)) (fun q12 cA H163 hK1 hP hD hS => ?_)
  have ec := kcs 0 (fun C h => by cases h) rfl hK1
  subst ec
  clear hK1
  rw [List.append_assoc] at hP hD
  refine lv_dup hx hb (by decide +kernel : decode cX10_init 165 = .ok (.dup, 1)) rfl ?_
  refine lv_iconst (v := nI 0) hx hb (by decide +kernel : decode cX10_init 166 = .ok (.iconst 0, 1)) (by decide) ?_
  refine lv_iconst (v := (-1)) hx hb (by decide +kernel : decode cX10_init 167 = .ok (.iconst (-1), 1)) (by decide) ?_
  refine va_iast hx hb hK hP hD hS (ws.length + 12) 0 (katE lL_12) rfl (vp_in_nI (by decide) (by decide)) (by decide +kernel : decode cX10_init 168 = .ok (.iastore, 1)) (fun H168 locs168 hP hD hS => ?_)
  rw [ksetE lL_12, nI_clamp (by decide)] at hP hD
  refine lv_dup hx hb (by decide +kernel : decode cX10_init 169 = .ok (.dup, 1)) rfl ?_
  refine lv_iconst (v := nI 1) hx hb (by decide +kernel : decode cX10_init 170 = .ok (.iconst 1, 1)) (by decide) ?_
  refine lv_iconst (v := (-1)) hx hb (by decide +kernel : decode cX10_init 171 = .ok (.iconst (-1), 1)) (by decide) ?_
  refine va_iast hx hb hK hP hD hS (ws.length + 12) 0 (katE lL_12) rfl (vp_in_nI (by decide) (by decide)) (by decide +kernel : decode cX10_init 172 = .ok (.iastore, 1)) (fun H172 locs172 hP hD hS => ?_)
  rw [ksetE lL_12, nI_clamp (by decide)] at hP hD
  refine lv_dup hx hb (by decide +kernel : decode cX10_init 173 = .ok (.dup, 1)) rfl ?_
  refine lv_iconst (v := nI 2) hx hb (by decide +kernel : decode cX10_init 174 = .ok (.iconst 2, 1)) (by decide) ?_
  refine lv_iconst (v := (-1)) hx hb (by decide +kernel : decode cX10_init 175 = .ok (.iconst (-1), 1)) (by decide) ?_
  refine va_iast hx hb hK hP hD hS (ws.length + 12) 0 (katE lL_12) rfl (vp_in_nI (by decide) (by decide)) (by decide +kernel : decode cX10_init 176 = .ok (.iastore, 1)) (fun H176 locs176 hP hD hS => ?_)
  rw [ksetE lL_12, nI_clamp (by decide)] at hP hD
  refine lv_dup hx hb (by decide +kernel : decode cX10_init 177 = .ok (.dup, 1)) rfl ?_
  refine lv_iconst (v := nI 3) hx hb (by decide +kernel : decode cX10_init 178 = .ok (.iconst 3, 1)) (by decide) ?_
  refine lv_iconst (v := (-1)) hx hb (by decide +kernel : decode cX10_init 179 = .ok (.iconst (-1), 1)) (by decide) ?_
  refine va_iast hx hb hK hP hD hS (ws.length + 12) 0 (katE lL_12) rfl (vp_in_nI (by decide) (by decide)) (by decide +kernel : decode cX10_init 180 = .ok (.iastore, 1)) (fun H180 locs180 hP hD hS => ?_)
  rw [ksetE lL_12, nI_clamp (by decide)] at hP hD
  obtain ⟨L_13, hL_13⟩ : ∃ L9 : va_W, L9 = [(q0, .inl (cs 0, 900, .inl (fun _ => 0))), (q1, .inl (cs 0, 400, .inl (fun _ => 0))), (q2, .inl (cs 0, 400, .inl (fun _ => 0))), (q3, .inl (cs 0, 400, .inl (fun _ => 0))), (q4, .inl (cs 0, 400, .inl (fun _ => 0))), (q5, .inl (cs 0, 400, .inl (fun _ => 0))), (q6, .inl (cs 0, 400, .inl (fun _ => 0))), (q7, .inl (cs 0, 400, .inl (fun _ => 0))), (q8, .inl (cs 0, 400, .inl (fun _ => 0))), (q9, .inl (cs 2, 400, .inl (fun _ => 0))), (q10, .inl (cs 0, 401, .inl (fun _ => 0))), (q11, .inl (cs 0, 401, .inl (fun _ => 0))), (q12, .inl (cs 0, 4, .inl (upd (upd (upd (upd (fun _ => 0) 0 (-1)) 1 (-1)) 2 (-1)) 3 (-1))))] := ⟨_, rfl⟩
  have lL_13 : L_13.length = 13 := by rw [hL_13]; rfl
  rw [show L_12 ++ [(q12, .inl (cs 0, 4, .inl (upd (upd (upd (upd (fun _ => 0) 0 (-1)) 1 (-1)) 2 (-1)) 3 (-1))))] = L_13 by rw [hL_12, hL_13]; rfl] at hP hD
  refine va_putF (D := D) (ci := 10) (v := .ref q12) (ty := .array .int) (C := RX10) (T := TX10) (N := 63) hx hb hts qin10 tyX10 tyX10_ok nmX10 hown hK hP hD hS k (kat0 hkl) rfl 21 (Nat.le_of_ble_eq_true rfl) (hts _ (kw10 _ (List.mem_of_getElem? (i := 26) rfl))) (fun _ h9 => h9) rfl hin rfl (by decide +kernel) rfl rfl (by rw [lF_21]; decide) (by decide +kernel : decode cX10_init 181 = .ok (.putfield 87, 3)) (fun H181 locs181 hP hD hS => ?_)
  rw [kset0 hkl] at hP hD
  obtain ⟨F_22, hF_22⟩ : ∃ F9 : List Value, F9 = [.int 0, .ref q0, .int 0, .int 100, .int 300, .int 20, .ref q1, .ref q2, .ref q3, .ref q4, .ref q5, .ref q6, .ref q7, .ref q8, .ref q9, .int 0, .int 0, .ref q10, .ref q11, .int 1, .int 0, .ref q12, .null, .null, .null, .null, .null, .int 0, .int 0, .int 0, .null, .null, .null, .null, .int 0, .null, .null, .null, .int 0, .int 0, .int 0, .int 0, .int 0, .int 0, .int 0, .int 0, .int 0, .null, .null, .null, .null, .int 0, .null, .null, .null, .int 0, .null, .int 0, .null, .null, .int 0, .int 0, .int 0] := ⟨_, rfl⟩
  have lF_22 : F_22.length = 63 := by rw [hF_22]; rfl
  rw [show F_21.set 21 (.ref q12) = F_22 by rw [hF_21, hF_22]; rfl] at hP hD
  refine lv_aload_n (k := 0) hx hb (by decide +kernel : decode cX10_init 184 = .ok (.aload_n 0, 1)) rfl (lv_at hl 0 rfl) ?_
  refine lv_sipush (v := nI 1600) hx hb (by decide +kernel : decode cX10_init 185 = .ok (.sipush 1600, 3)) (by decide) ?_
  refine va_newa (atype := .int) (ty := .int) (N' := 1600) (a0 := (1600, .inl (fun _ => 0))) hx hb (hts _ (kw10 _ (List.mem_of_getElem? (i := 4) rfl))) rfl hK hP hD hS hA (fun _ => rfl) (by decide) (by decide) (by decide) (Nat.le_of_ble_eq_true rfl) (Nat.le_of_ble_eq_true rfl) (by decide +kernel : decode cX10_init 188 = .ok (.newarray .int, 2)) (fun q13 cA H188 hK1 hP hD hS => ?_)
  have ec := kcs 0 (fun C h => by cases h) rfl hK1
  subst ec
  clear hK1
  rw [List.append_assoc] at hP hD
  obtain ⟨L_14, hL_14⟩ : ∃ L9 : va_W, L9 = [(q0, .inl (cs 0, 900, .inl (fun _ => 0))), (q1, .inl (cs 0, 400, .inl (fun _ => 0))), (q2, .inl (cs 0, 400, .inl (fun _ => 0))), (q3, .inl (cs 0, 400, .inl (fun _ => 0))), (q4, .inl (cs 0, 400, .inl (fun _ => 0))), (q5, .inl (cs 0, 400, .inl (fun _ => 0))), (q6, .inl (cs 0, 400, .inl (fun _ => 0))), (q7, .inl (cs 0, 400, .inl (fun _ => 0))), (q8, .inl (cs 0, 400, .inl (fun _ => 0))), (q9, .inl (cs 2, 400, .inl (fun _ => 0))), (q10, .inl (cs 0, 401, .inl (fun _ => 0))), (q11, .inl (cs 0, 401, .inl (fun _ => 0))), (q12, .inl (cs 0, 4, .inl (upd (upd (upd (upd (fun _ => 0) 0 (-1)) 1 (-1)) 2 (-1)) 3 (-1)))), (q13, .inl (cs 0, 1600, .inl (fun _ => 0)))] := ⟨_, rfl⟩
  have lL_14 : L_14.length = 14 := by rw [hL_14]; rfl
  rw [show L_13 ++ [(q13, .inl (cs 0, 1600, .inl (fun _ => 0)))] = L_14 by rw [hL_13, hL_14]; rfl] at hP hD
  refine va_putF (D := D) (ci := 10) (v := .ref q13) (ty := .array .int) (C := RX10) (T := TX10) (N := 63) hx hb hts qin10 tyX10 tyX10_ok nmX10 hown hK hP hD hS k (kat0 hkl) rfl 22 (Nat.le_of_ble_eq_true rfl) (hts _ (kw10 _ (List.mem_of_getElem? (i := 27) rfl))) (fun _ h9 => h9) rfl hin rfl (by decide +kernel) rfl rfl (by rw [lF_22]; decide) (by decide +kernel : decode cX10_init 190 = .ok (.putfield 90, 3)) (fun H190 locs190 hP hD hS => ?_)
  rw [kset0 hkl] at hP hD
  obtain ⟨F_23, hF_23⟩ : ∃ F9 : List Value, F9 = [.int 0, .ref q0, .int 0, .int 100, .int 300, .int 20, .ref q1, .ref q2, .ref q3, .ref q4, .ref q5, .ref q6, .ref q7, .ref q8, .ref q9, .int 0, .int 0, .ref q10, .ref q11, .int 1, .int 0, .ref q12, .ref q13, .null, .null, .null, .null, .int 0, .int 0, .int 0, .null, .null, .null, .null, .int 0, .null, .null, .null, .int 0, .int 0, .int 0, .int 0, .int 0, .int 0, .int 0, .int 0, .int 0, .null, .null, .null, .null, .int 0, .null, .null, .null, .int 0, .null, .int 0, .null, .null, .int 0, .int 0, .int 0] := ⟨_, rfl⟩
  have lF_23 : F_23.length = 63 := by rw [hF_23]; rfl
  rw [show F_22.set 22 (.ref q13) = F_23 by rw [hF_22, hF_23]; rfl] at hP hD
  refine lv_aload_n (k := 0) hx hb (by decide +kernel : decode cX10_init 193 = .ok (.aload_n 0, 1)) rfl (lv_at hl 0 rfl) ?_
  refine lv_iconst (v := nI 4) hx hb (by decide +kernel : decode cX10_init 194 = .ok (.iconst 4, 1)) (by decide) ?_
  refine va_newa (atype := .int) (ty := .int) (N' := 4) (a0 := (4, .inl (fun _ => 0))) hx hb (hts _ (kw10 _ (List.mem_of_getElem? (i := 4) rfl))) rfl hK hP hD hS hA (fun _ => rfl) (by decide) (by decide) (by decide) (Nat.le_of_ble_eq_true rfl) (Nat.le_of_ble_eq_true rfl) (by decide +kernel : decode cX10_init 195 = .ok (.newarray .int, 2)) (fun q14 cA H195 hK1 hP hD hS => ?_)
  have ec := kcs 0 (fun C h => by cases h) rfl hK1
  subst ec
  clear hK1
  rw [List.append_assoc] at hP hD
  obtain ⟨L_15, hL_15⟩ : ∃ L9 : va_W, L9 = [(q0, .inl (cs 0, 900, .inl (fun _ => 0))), (q1, .inl (cs 0, 400, .inl (fun _ => 0))), (q2, .inl (cs 0, 400, .inl (fun _ => 0))), (q3, .inl (cs 0, 400, .inl (fun _ => 0))), (q4, .inl (cs 0, 400, .inl (fun _ => 0))), (q5, .inl (cs 0, 400, .inl (fun _ => 0))), (q6, .inl (cs 0, 400, .inl (fun _ => 0))), (q7, .inl (cs 0, 400, .inl (fun _ => 0))), (q8, .inl (cs 0, 400, .inl (fun _ => 0))), (q9, .inl (cs 2, 400, .inl (fun _ => 0))), (q10, .inl (cs 0, 401, .inl (fun _ => 0))), (q11, .inl (cs 0, 401, .inl (fun _ => 0))), (q12, .inl (cs 0, 4, .inl (upd (upd (upd (upd (fun _ => 0) 0 (-1)) 1 (-1)) 2 (-1)) 3 (-1)))), (q13, .inl (cs 0, 1600, .inl (fun _ => 0))), (q14, .inl (cs 0, 4, .inl (fun _ => 0)))] := ⟨_, rfl⟩
  have lL_15 : L_15.length = 15 := by rw [hL_15]; rfl
  rw [show L_14 ++ [(q14, .inl (cs 0, 4, .inl (fun _ => 0)))] = L_15 by rw [hL_14, hL_15]; rfl] at hP hD
  refine va_putF (D := D) (ci := 10) (v := .ref q14) (ty := .array .int) (C := RX10) (T := TX10) (N := 63) hx hb hts qin10 tyX10 tyX10_ok nmX10 hown hK hP hD hS k (kat0 hkl) rfl 23 (Nat.le_of_ble_eq_true rfl) (hts _ (kw10 _ (List.mem_of_getElem? (i := 28) rfl))) (fun _ h9 => h9) rfl hin rfl (by decide +kernel) rfl rfl (by rw [lF_23]; decide) (by decide +kernel : decode cX10_init 197 = .ok (.putfield 93, 3)) (fun H197 locs197 hP hD hS => ?_)
  rw [kset0 hkl] at hP hD
  obtain ⟨F_24, hF_24⟩ : ∃ F9 : List Value, F9 = [.int 0, .ref q0, .int 0, .int 100, .int 300, .int 20, .ref q1, .ref q2, .ref q3, .ref q4, .ref q5, .ref q6, .ref q7, .ref q8, .ref q9, .int 0, .int 0, .ref q10, .ref q11, .int 1, .int 0, .ref q12, .ref q13, .ref q14, .null, .null, .null, .int 0, .int 0, .int 0, .null, .null, .null, .null, .int 0, .null, .null, .null, .int 0, .int 0, .int 0, .int 0, .int 0, .int 0, .int 0, .int 0, .int 0, .null, .null, .null, .null, .int 0, .null, .null, .null, .int 0, .null, .int 0, .null, .null, .int 0, .int 0, .int 0] := ⟨_, rfl⟩
  have lF_24 : F_24.length = 63 := by rw [hF_24]; rfl
  rw [show F_23.set 23 (.ref q14) = F_24 by rw [hF_23, hF_24]; rfl] at hP hD
  refine lv_aload_n (k := 0) hx hb (by decide +kernel : decode cX10_init 200 = .ok (.aload_n 0, 1)) rfl (lv_at hl 0 rfl) ?_
  refine lv_bipush (v := nI 6) hx hb (by decide +kernel : decode cX10_init 201 = .ok (.bipush 6, 2)) (by decide) ?_
  refine va_newa (atype := .int) (ty := .int) (N' := 6) (a0 := (6, .inl (fun _ => 0))) hx hb (hts _ (kw10 _ (List.mem_of_getElem? (i := 4) rfl))) rfl hK hP hD hS hA (fun _ => rfl) (by decide) (by decide) (by decide) (Nat.le_of_ble_eq_true rfl) (Nat.le_of_ble_eq_true rfl) (by decide +kernel : decode cX10_init 203 = .ok (.newarray .int, 2)) (fun q15 cA H203 hK1 hP hD hS => ?_)
  have ec := kcs 0 (fun C h => by cases h) rfl hK1
  subst ec
  clear hK1
  rw [List.append_assoc] at hP hD
  obtain ⟨L_16, hL_16⟩ : ∃ L9 : va_W, L9 = [(q0, .inl (cs 0, 900, .inl (fun _ => 0))), (q1, .inl (cs 0, 400, .inl (fun _ => 0))), (q2, .inl (cs 0, 400, .inl (fun _ => 0))), (q3, .inl (cs 0, 400, .inl (fun _ => 0))), (q4, .inl (cs 0, 400, .inl (fun _ => 0))), (q5, .inl (cs 0, 400, .inl (fun _ => 0))), (q6, .inl (cs 0, 400, .inl (fun _ => 0))), (q7, .inl (cs 0, 400, .inl (fun _ => 0))), (q8, .inl (cs 0, 400, .inl (fun _ => 0))), (q9, .inl (cs 2, 400, .inl (fun _ => 0))), (q10, .inl (cs 0, 401, .inl (fun _ => 0))), (q11, .inl (cs 0, 401, .inl (fun _ => 0))), (q12, .inl (cs 0, 4, .inl (upd (upd (upd (upd (fun _ => 0) 0 (-1)) 1 (-1)) 2 (-1)) 3 (-1)))), (q13, .inl (cs 0, 1600, .inl (fun _ => 0))), (q14, .inl (cs 0, 4, .inl (fun _ => 0))), (q15, .inl (cs 0, 6, .inl (fun _ => 0)))] := ⟨_, rfl⟩
  have lL_16 : L_16.length = 16 := by rw [hL_16]; rfl
  rw [show L_15 ++ [(q15, .inl (cs 0, 6, .inl (fun _ => 0)))] = L_16 by rw [hL_15, hL_16]; rfl] at hP hD
  refine va_putF (D := D) (ci := 10) (v := .ref q15) (ty := .array .int) (C := RX10) (T := TX10) (N := 63) hx hb hts qin10 tyX10 tyX10_ok nmX10 hown hK hP hD hS k (kat0 hkl) rfl 24 (Nat.le_of_ble_eq_true rfl) (hts _ (kw10 _ (List.mem_of_getElem? (i := 29) rfl))) (fun _ h9 => h9) rfl hin rfl (by decide +kernel) rfl rfl (by rw [lF_24]; decide) (by decide +kernel : decode cX10_init 205 = .ok (.putfield 96, 3)) (fun H205 locs205 hP hD hS => ?_)
  rw [kset0 hkl] at hP hD
  obtain ⟨F_25, hF_25⟩ : ∃ F9 : List Value, F9 = [.int 0, .ref q0, .int 0, .int 100, .int 300, .int 20, .ref q1, .ref q2, .ref q3, .ref q4, .ref q5, .ref q6, .ref q7, .ref q8, .ref q9, .int 0, .int 0, .ref q10, .ref q11, .int 1, .int 0, .ref q12, .ref q13, .ref q14, .ref q15, .null, .null, .int 0, .int 0, .int 0, .null, .null, .null, .null, .int 0, .null, .null, .null, .int 0, .int 0, .int 0, .int 0, .int 0, .int 0, .int 0, .int 0, .int 0, .null, .null, .null, .null, .int 0, .null, .null, .null, .int 0, .null, .int 0, .null, .null, .int 0, .int 0, .int 0] := ⟨_, rfl⟩
  have lF_25 : F_25.length = 63 := by rw [hF_25]; rfl
  rw [show F_24.set 24 (.ref q15) = F_25 by rw [hF_24, hF_25]; rfl] at hP hD
  refine lv_aload_n (k := 0) hx hb (by decide +kernel : decode cX10_init 208 = .ok (.aload_n 0, 1)) rfl (lv_at hl 0 rfl) ?_
  refine lv_bipush (v := nI 6) hx hb (by decide +kernel : decode cX10_init 209 = .ok (.bipush 6, 2)) (by decide) ?_
  refine va_newa (atype := .int) (ty := .int) (N' := 6) (a0 := (6, .inl (fun _ => 0))) hx hb (hts _ (kw10 _ (List.mem_of_getElem? (i := 4) rfl))) rfl hK hP hD hS hA (fun _ => rfl) (by decide) (by decide) (by decide) (Nat.le_of_ble_eq_true rfl) (Nat.le_of_ble_eq_true rfl) (by decide +kernel : decode cX10_init 211 = .ok (.newarray .int, 2)) (fun q16 cA H211 hK1 hP hD hS => ?_)
  have ec := kcs 0 (fun C h => by cases h) rfl hK1
  subst ec
  clear hK1
  rw [List.append_assoc] at hP hD
  obtain ⟨L_17, hL_17⟩ : ∃ L9 : va_W, L9 = [(q0, .inl (cs 0, 900, .inl (fun _ => 0))), (q1, .inl (cs 0, 400, .inl (fun _ => 0))), (q2, .inl (cs 0, 400, .inl (fun _ => 0))), (q3, .inl (cs 0, 400, .inl (fun _ => 0))), (q4, .inl (cs 0, 400, .inl (fun _ => 0))), (q5, .inl (cs 0, 400, .inl (fun _ => 0))), (q6, .inl (cs 0, 400, .inl (fun _ => 0))), (q7, .inl (cs 0, 400, .inl (fun _ => 0))), (q8, .inl (cs 0, 400, .inl (fun _ => 0))), (q9, .inl (cs 2, 400, .inl (fun _ => 0))), (q10, .inl (cs 0, 401, .inl (fun _ => 0))), (q11, .inl (cs 0, 401, .inl (fun _ => 0))), (q12, .inl (cs 0, 4, .inl (upd (upd (upd (upd (fun _ => 0) 0 (-1)) 1 (-1)) 2 (-1)) 3 (-1)))), (q13, .inl (cs 0, 1600, .inl (fun _ => 0))), (q14, .inl (cs 0, 4, .inl (fun _ => 0))), (q15, .inl (cs 0, 6, .inl (fun _ => 0))), (q16, .inl (cs 0, 6, .inl (fun _ => 0)))] := ⟨_, rfl⟩
  have lL_17 : L_17.length = 17 := by rw [hL_17]; rfl
  rw [show L_16 ++ [(q16, .inl (cs 0, 6, .inl (fun _ => 0)))] = L_17 by rw [hL_16, hL_17]; rfl] at hP hD
  refine va_putF (D := D) (ci := 10) (v := .ref q16) (ty := .array .int) (C := RX10) (T := TX10) (N := 63) hx hb hts qin10 tyX10 tyX10_ok nmX10 hown hK hP hD hS k (kat0 hkl) rfl 25 (Nat.le_of_ble_eq_true rfl) (hts _ (kw10 _ (List.mem_of_getElem? (i := 30) rfl))) (fun _ h9 => h9) rfl hin rfl (by decide +kernel) rfl rfl (by rw [lF_25]; decide) (by decide +kernel : decode cX10_init 213 = .ok (.putfield 99, 3)) (fun H213 locs213 hP hD hS => ?_)
  rw [kset0 hkl] at hP hD
  obtain ⟨F_26, hF_26⟩ : ∃ F9 : List Value, F9 = [.int 0, .ref q0, .int 0, .int 100, .int 300, .int 20, .ref q1, .ref q2, .ref q3, .ref q4, .ref q5, .ref q6, .ref q7, .ref q8, .ref q9, .int 0, .int 0, .ref q10, .ref q11, .int 1, .int 0, .ref q12, .ref q13, .ref q14, .ref q15, .ref q16, .null, .int 0, .int 0, .int 0, .null, .null, .null, .null, .int 0, .null, .null, .null, .int 0, .int 0, .int 0, .int 0, .int 0, .int 0, .int 0, .int 0, .int 0, .null, .null, .null, .null, .int 0, .null, .null, .null, .int 0, .null, .int 0, .null, .null, .int 0, .int 0, .int 0] := ⟨_, rfl⟩
  have lF_26 : F_26.length = 63 := by rw [hF_26]; rfl
  rw [show F_25.set 25 (.ref q16) = F_26 by rw [hF_25, hF_26]; rfl] at hP hD
  refine lv_aload_n (k := 0) hx hb (by decide +kernel : decode cX10_init 216 = .ok (.aload_n 0, 1)) rfl (lv_at hl 0 rfl) ?_
  refine lv_sipush (v := nI 2400) hx hb (by decide +kernel : decode cX10_init 217 = .ok (.sipush 2400, 3)) (by decide) ?_
  refine va_newa (atype := .boolean) (ty := .boolean) (N' := 2400) (a0 := (2400, .inl (fun _ => 0))) hx hb (hts _ (kw10 _ (List.mem_of_getElem? (i := 18) rfl))) rfl hK hP hD hS hA (fun _ => rfl) (by decide) (by decide) (by decide) (Nat.le_of_ble_eq_true rfl) (Nat.le_of_ble_eq_true rfl) (by decide +kernel : decode cX10_init 220 = .ok (.newarray .boolean, 2)) (fun q17 cA H220 hK1 hP hD hS => ?_)
  have ec := kcs 2 (fun C h => by cases h) rfl hK1
  subst ec
  clear hK1
  rw [List.append_assoc] at hP hD
  obtain ⟨L_18, hL_18⟩ : ∃ L9 : va_W, L9 = [(q0, .inl (cs 0, 900, .inl (fun _ => 0))), (q1, .inl (cs 0, 400, .inl (fun _ => 0))), (q2, .inl (cs 0, 400, .inl (fun _ => 0))), (q3, .inl (cs 0, 400, .inl (fun _ => 0))), (q4, .inl (cs 0, 400, .inl (fun _ => 0))), (q5, .inl (cs 0, 400, .inl (fun _ => 0))), (q6, .inl (cs 0, 400, .inl (fun _ => 0))), (q7, .inl (cs 0, 400, .inl (fun _ => 0))), (q8, .inl (cs 0, 400, .inl (fun _ => 0))), (q9, .inl (cs 2, 400, .inl (fun _ => 0))), (q10, .inl (cs 0, 401, .inl (fun _ => 0))), (q11, .inl (cs 0, 401, .inl (fun _ => 0))), (q12, .inl (cs 0, 4, .inl (upd (upd (upd (upd (fun _ => 0) 0 (-1)) 1 (-1)) 2 (-1)) 3 (-1)))), (q13, .inl (cs 0, 1600, .inl (fun _ => 0))), (q14, .inl (cs 0, 4, .inl (fun _ => 0))), (q15, .inl (cs 0, 6, .inl (fun _ => 0))), (q16, .inl (cs 0, 6, .inl (fun _ => 0))), (q17, .inl (cs 2, 2400, .inl (fun _ => 0)))] := ⟨_, rfl⟩
  have lL_18 : L_18.length = 18 := by rw [hL_18]; rfl
  rw [show L_17 ++ [(q17, .inl (cs 2, 2400, .inl (fun _ => 0)))] = L_18 by rw [hL_17, hL_18]; rfl] at hP hD
  refine va_putF (D := D) (ci := 10) (v := .ref q17) (ty := .array .boolean) (C := RX10) (T := TX10) (N := 63) hx hb hts qin10 tyX10 tyX10_ok nmX10 hown hK hP hD hS k (kat0 hkl) rfl 26 (Nat.le_of_ble_eq_true rfl) (hts _ (kw10 _ (List.mem_of_getElem? (i := 31) rfl))) (fun _ h9 => h9) rfl hin rfl (by decide +kernel) rfl rfl (by rw [lF_26]; decide) (by decide +kernel : decode cX10_init 222 = .ok (.putfield 102, 3)) (fun H222 locs222 hP hD hS => ?_)
  rw [kset0 hkl] at hP hD
  obtain ⟨F_27, hF_27⟩ : ∃ F9 : List Value, F9 = [.int 0, .ref q0, .int 0, .int 100, .int 300, .int 20, .ref q1, .ref q2, .ref q3, .ref q4, .ref q5, .ref q6, .ref q7, .ref q8, .ref q9, .int 0, .int 0, .ref q10, .ref q11, .int 1, .int 0, .ref q12, .ref q13, .ref q14, .ref q15, .ref q16, .ref q17, .int 0, .int 0, .int 0, .null, .null, .null, .null, .int 0, .null, .null, .null, .int 0, .int 0, .int 0, .int 0, .int 0, .int 0, .int 0, .int 0, .int 0, .null, .null, .null, .null, .int 0, .null, .null, .null, .int 0, .null, .int 0, .null, .null, .int 0, .int 0, .int 0] := ⟨_, rfl⟩
  have lF_27 : F_27.length = 63 := by rw [hF_27]; rfl
  rw [show F_26.set 26 (.ref q17) = F_27 by rw [hF_26, hF_27]; rfl] at hP hD
  refine lv_aload_n (k := 0) hx hb (by decide +kernel : decode cX10_init 225 = .ok (.aload_n 0, 1)) rfl (lv_at hl 0 rfl) ?_
  refine lv_iconst (v := 0) hx hb (by decide +kernel : decode cX10_init 226 = .ok (.iconst 0, 1)) (by decide) ?_
  refine va_put (D := D) (ci := 10) (v := .int 0) (ty := .int) (C := RX10) (T := TX10) (N := 63) hx hb hts qin10 tyX10 tyX10_ok nmX10 hown hK hP hD hS k (kat0 hkl) rfl 27 (Nat.le_of_ble_eq_true rfl) (hts _ (kw10 _ (List.mem_of_getElem? (i := 32) rfl))) (fun _ h9 => h9) rfl (by decide +kernel) rfl rfl (by rw [lF_27]; decide) (by decide +kernel : decode cX10_init 227 = .ok (.putfield 105, 3)) (fun H227 locs227 hP hD hS => ?_)
  rw [kset0 hkl] at hP hD
  obtain ⟨F_28, hF_28⟩ : ∃ F9 : List Value, F9 = [.int 0, .ref q0, .int 0, .int 100, .int 300, .int 20, .ref q1, .ref q2, .ref q3, .ref q4, .ref q5, .ref q6, .ref q7, .ref q8, .ref q9, .int 0, .int 0, .ref q10, .ref q11, .int 1, .int 0, .ref q12, .ref q13, .ref q14, .ref q15, .ref q16, .ref q17, .int 0, .int 0, .int 0, .null, .null, .null, .null, .int 0, .null, .null, .null, .int 0, .int 0, .int 0, .int 0, .int 0, .int 0, .int 0, .int 0, .int 0, .null, .null, .null, .null, .int 0, .null, .null, .null, .int 0, .null, .int 0, .null, .null, .int 0, .int 0, .int 0] := ⟨_, rfl⟩
  have lF_28 : F_28.length = 63 := by rw [hF_28]; rfl
  rw [show F_27.set 27 (.int 0) = F_28 by rw [hF_27, hF_28]; rfl] at hP hD
  refine lv_aload_n (k := 0) hx hb (by decide +kernel : decode cX10_init 230 = .ok (.aload_n 0, 1)) rfl (lv_at hl 0 rfl) ?_
  refine lv_iconst (v := 0) hx hb (by decide +kernel : decode cX10_init 231 = .ok (.iconst 0, 1)) (by decide) ?_
  refine va_put (D := D) (ci := 10) (v := .int 0) (ty := .int) (C := RX10) (T := TX10) (N := 63) hx hb hts qin10 tyX10 tyX10_ok nmX10 hown hK hP hD hS k (kat0 hkl) rfl 28 (Nat.le_of_ble_eq_true rfl) (hts _ (kw10 _ (List.mem_of_getElem? (i := 33) rfl))) (fun _ h9 => h9) rfl (by decide +kernel) rfl rfl (by rw [lF_28]; decide) (by decide +kernel : decode cX10_init 232 = .ok (.putfield 108, 3)) (fun H232 locs232 hP hD hS => ?_)
  rw [kset0 hkl] at hP hD
  obtain ⟨F_29, hF_29⟩ : ∃ F9 : List Value, F9 = [.int 0, .ref q0, .int 0, .int 100, .int 300, .int 20, .ref q1, .ref q2, .ref q3, .ref q4, .ref q5, .ref q6, .ref q7, .ref q8, .ref q9, .int 0, .int 0, .ref q10, .ref q11, .int 1, .int 0, .ref q12, .ref q13, .ref q14, .ref q15, .ref q16, .ref q17, .int 0, .int 0, .int 0, .null, .null, .null, .null, .int 0, .null, .null, .null, .int 0, .int 0, .int 0, .int 0, .int 0, .int 0, .int 0, .int 0, .int 0, .null, .null, .null, .null, .int 0, .null, .null, .null, .int 0, .null, .int 0, .null, .null, .int 0, .int 0, .int 0] := ⟨_, rfl⟩
  have lF_29 : F_29.length = 63 := by rw [hF_29]; rfl
  rw [show F_28.set 28 (.int 0) = F_29 by rw [hF_28, hF_29]; rfl] at hP hD
  refine lv_aload_n (k := 0) hx hb (by decide +kernel : decode cX10_init 235 = .ok (.aload_n 0, 1)) rfl (lv_at hl 0 rfl) ?_
  refine lv_iconst (v := 0) hx hb (by decide +kernel : decode cX10_init 236 = .ok (.iconst 0, 1)) (by decide) ?_
  refine va_put (D := D) (ci := 10) (v := .int 0) (ty := .boolean) (C := RX10) (T := TX10) (N := 63) hx hb hts qin10 tyX10 tyX10_ok nmX10 hown hK hP hD hS k (kat0 hkl) rfl 29 (Nat.le_of_ble_eq_true rfl) (hts _ (kw10 _ (List.mem_of_getElem? (i := 34) rfl))) (fun _ h9 => h9) rfl (by decide +kernel) rfl rfl (by rw [lF_29]; decide) (by decide +kernel : decode cX10_init 237 = .ok (.putfield 111, 3)) (fun H237 locs237 hP hD hS => ?_)
  rw [kset0 hkl] at hP hD
  obtain ⟨F_30, hF_30⟩ : ∃ F9 : List Value, F9 = [.int 0, .ref q0, .int 0, .int 100, .int 300, .int 20, .ref q1, .ref q2, .ref q3, .ref q4, .ref q5, .ref q6, .ref q7, .ref q8, .ref q9, .int 0, .int 0, .ref q10, .ref q11, .int 1, .int 0, .ref q12, .ref q13, .ref q14, .ref q15, .ref q16, .ref q17, .int 0, .int 0, .int 0, .null, .null, .null, .null, .int 0, .null, .null, .null, .int 0, .int 0, .int 0, .int 0, .int 0, .int 0, .int 0, .int 0, .int 0, .null, .null, .null, .null, .int 0, .null, .null, .null, .int 0, .null, .int 0, .null, .null, .int 0, .int 0, .int 0] := ⟨_, rfl⟩
  have lF_30 : F_30.length = 63 := by rw [hF_30]; rfl
  rw [show F_29.set 29 (.int 0) = F_30 by rw [hF_29, hF_30]; rfl] at hP hD
  refine lv_aload_n (k := 0) hx hb (by decide +kernel : decode cX10_init 240 = .ok (.aload_n 0, 1)) rfl (lv_at hl 0 rfl) ?_
  refine lv_bipush (v := nI 32) hx hb (by decide +kernel : decode cX10_init 241 = .ok (.bipush 32, 2)) (by decide) ?_
  refine va_newa (atype := .int) (ty := .int) (N' := 32) (a0 := (32, .inl (fun _ => 0))) hx hb (hts _ (kw10 _ (List.mem_of_getElem? (i := 4) rfl))) rfl hK hP hD hS hA (fun _ => rfl) (by decide) (by decide) (by decide) (Nat.le_of_ble_eq_true rfl) (Nat.le_of_ble_eq_true rfl) (by decide +kernel : decode cX10_init 243 = .ok (.newarray .int, 2)) (fun q18 cA H243 hK1 hP hD hS => ?_)
  have ec := kcs 0 (fun C h => by cases h) rfl hK1
  subst ec
  clear hK1
  rw [List.append_assoc] at hP hD
  obtain ⟨L_19, hL_19⟩ : ∃ L9 : va_W, L9 = [(q0, .inl (cs 0, 900, .inl (fun _ => 0))), (q1, .inl (cs 0, 400, .inl (fun _ => 0))), (q2, .inl (cs 0, 400, .inl (fun _ => 0))), (q3, .inl (cs 0, 400, .inl (fun _ => 0))), (q4, .inl (cs 0, 400, .inl (fun _ => 0))), (q5, .inl (cs 0, 400, .inl (fun _ => 0))), (q6, .inl (cs 0, 400, .inl (fun _ => 0))), (q7, .inl (cs 0, 400, .inl (fun _ => 0))), (q8, .inl (cs 0, 400, .inl (fun _ => 0))), (q9, .inl (cs 2, 400, .inl (fun _ => 0))), (q10, .inl (cs 0, 401, .inl (fun _ => 0))), (q11, .inl (cs 0, 401, .inl (fun _ => 0))), (q12, .inl (cs 0, 4, .inl (upd (upd (upd (upd (fun _ => 0) 0 (-1)) 1 (-1)) 2 (-1)) 3 (-1)))), (q13, .inl (cs 0, 1600, .inl (fun _ => 0))), (q14, .inl (cs 0, 4, .inl (fun _ => 0))), (q15, .inl (cs 0, 6, .inl (fun _ => 0))), (q16, .inl (cs 0, 6, .inl (fun _ => 0))), (q17, .inl (cs 2, 2400, .inl (fun _ => 0))), (q18, .inl (cs 0, 32, .inl (fun _ => 0)))] := ⟨_, rfl⟩
  have lL_19 : L_19.length = 19 := by rw [hL_19]; rfl
  rw [show L_18 ++ [(q18, .inl (cs 0, 32, .inl (fun _ => 0)))] = L_19 by rw [hL_18, hL_19]; rfl] at hP hD
  refine va_putF (D := D) (ci := 10) (v := .ref q18) (ty := .array .int) (C := RX10) (T := TX10) (N := 63) hx hb hts qin10 tyX10 tyX10_ok nmX10 hown hK hP hD hS k (kat0 hkl) rfl 30 (Nat.le_of_ble_eq_true rfl) (hts _ (kw10 _ (List.mem_of_getElem? (i := 35) rfl))) (fun _ h9 => h9) rfl hin rfl (by decide +kernel) rfl rfl (by rw [lF_30]; decide) (by decide +kernel : decode cX10_init 245 = .ok (.putfield 115, 3)) (fun H245 locs245 hP hD hS => ?_)
  rw [kset0 hkl] at hP hD
  obtain ⟨F_31, hF_31⟩ : ∃ F9 : List Value, F9 = [.int 0, .ref q0, .int 0, .int 100, .int 300, .int 20, .ref q1, .ref q2, .ref q3, .ref q4, .ref q5, .ref q6, .ref q7, .ref q8, .ref q9, .int 0, .int 0, .ref q10, .ref q11, .int 1, .int 0, .ref q12, .ref q13, .ref q14, .ref q15, .ref q16, .ref q17, .int 0, .int 0, .int 0, .ref q18, .null, .null, .null, .int 0, .null, .null, .null, .int 0, .int 0, .int 0, .int 0, .int 0, .int 0, .int 0, .int 0, .int 0, .null, .null, .null, .null, .int 0, .null, .null, .null, .int 0, .null, .int 0, .null, .null, .int 0, .int 0, .int 0] := ⟨_, rfl⟩
  have lF_31 : F_31.length = 63 := by rw [hF_31]; rfl
  rw [show F_30.set 30 (.ref q18) = F_31 by rw [hF_30, hF_31]; rfl] at hP hD
  refine lv_aload_n (k := 0) hx hb (by decide +kernel : decode cX10_init 248 = .ok (.aload_n 0, 1)) rfl (lv_at hl 0 rfl) ?_
  refine lv_bipush (v := nI 8) hx hb (by decide +kernel : decode cX10_init 249 = .ok (.bipush 8, 2)) (by decide) ?_
  refine va_newa (atype := .boolean) (ty := .boolean) (N' := 8) (a0 := (8, .inl (fun _ => 0))) hx hb (hts _ (kw10 _ (List.mem_of_getElem? (i := 18) rfl))) rfl hK hP hD hS hA (fun _ => rfl) (by decide) (by decide) (by decide) (Nat.le_of_ble_eq_true rfl) (Nat.le_of_ble_eq_true rfl) (by decide +kernel : decode cX10_init 251 = .ok (.newarray .boolean, 2)) (fun q19 cA H251 hK1 hP hD hS => ?_)
  have ec := kcs 2 (fun C h => by cases h) rfl hK1
  subst ec
  clear hK1
  rw [List.append_assoc] at hP hD
  obtain ⟨L_20, hL_20⟩ : ∃ L9 : va_W, L9 = [(q0, .inl (cs 0, 900, .inl (fun _ => 0))), (q1, .inl (cs 0, 400, .inl (fun _ => 0))), (q2, .inl (cs 0, 400, .inl (fun _ => 0))), (q3, .inl (cs 0, 400, .inl (fun _ => 0))), (q4, .inl (cs 0, 400, .inl (fun _ => 0))), (q5, .inl (cs 0, 400, .inl (fun _ => 0))), (q6, .inl (cs 0, 400, .inl (fun _ => 0))), (q7, .inl (cs 0, 400, .inl (fun _ => 0))), (q8, .inl (cs 0, 400, .inl (fun _ => 0))), (q9, .inl (cs 2, 400, .inl (fun _ => 0))), (q10, .inl (cs 0, 401, .inl (fun _ => 0))), (q11, .inl (cs 0, 401, .inl (fun _ => 0))), (q12, .inl (cs 0, 4, .inl (upd (upd (upd (upd (fun _ => 0) 0 (-1)) 1 (-1)) 2 (-1)) 3 (-1)))), (q13, .inl (cs 0, 1600, .inl (fun _ => 0))), (q14, .inl (cs 0, 4, .inl (fun _ => 0))), (q15, .inl (cs 0, 6, .inl (fun _ => 0))), (q16, .inl (cs 0, 6, .inl (fun _ => 0))), (q17, .inl (cs 2, 2400, .inl (fun _ => 0))), (q18, .inl (cs 0, 32, .inl (fun _ => 0))), (q19, .inl (cs 2, 8, .inl (fun _ => 0)))] := ⟨_, rfl⟩
  have lL_20 : L_20.length = 20 := by rw [hL_20]; rfl
  rw [show L_19 ++ [(q19, .inl (cs 2, 8, .inl (fun _ => 0)))] = L_20 by rw [hL_19, hL_20]; rfl] at hP hD
  refine va_putF (D := D) (ci := 10) (v := .ref q19) (ty := .array .boolean) (C := RX10) (T := TX10) (N := 63) hx hb hts qin10 tyX10 tyX10_ok nmX10 hown hK hP hD hS k (kat0 hkl) rfl 31 (Nat.le_of_ble_eq_true rfl) (hts _ (kw10 _ (List.mem_of_getElem? (i := 36) rfl))) (fun _ h9 => h9) rfl hin rfl (by decide +kernel) rfl rfl (by rw [lF_31]; decide) (by decide +kernel : decode cX10_init 253 = .ok (.putfield 118, 3)) (fun H253 locs253 hP hD hS => ?_)
  rw [kset0 hkl] at hP hD
  obtain ⟨F_32, hF_32⟩ : ∃ F9 : List Value, F9 = [.int 0, .ref q0, .int 0, .int 100, .int 300, .int 20, .ref q1, .ref q2, .ref q3, .ref q4, .ref q5, .ref q6, .ref q7, .ref q8, .ref q9, .int 0, .int 0, .ref q10, .ref q11, .int 1, .int 0, .ref q12, .ref q13, .ref q14, .ref q15, .ref q16, .ref q17, .int 0, .int 0, .int 0, .ref q18, .ref q19, .null, .null, .int 0, .null, .null, .null, .int 0, .int 0, .int 0, .int 0, .int 0, .int 0, .int 0, .int 0, .int 0, .null, .null, .null, .null, .int 0, .null, .null, .null, .int 0, .null, .int 0, .null, .null, .int 0, .int 0, .int 0] := ⟨_, rfl⟩
  have lF_32 : F_32.length = 63 := by rw [hF_32]; rfl
  rw [show F_31.set 31 (.ref q19) = F_32 by rw [hF_31, hF_32]; rfl] at hP hD
  refine lv_aload_n (k := 0) hx hb (by decide +kernel : decode cX10_init 256 = .ok (.aload_n 0, 1)) rfl (lv_at hl 0 rfl) ?_
  refine lv_bipush (v := nI 6) hx hb (by decide +kernel : decode cX10_init 257 = .ok (.bipush 6, 2)) (by decide) ?_
  refine va_newa (atype := .int) (ty := .int) (N' := 6) (a0 := (6, .inl (fun _ => 0))) hx hb (hts _ (kw10 _ (List.mem_of_getElem? (i := 4) rfl))) rfl hK hP hD hS hA (fun _ => rfl) (by decide) (by decide) (by decide) (Nat.le_of_ble_eq_true rfl) (Nat.le_of_ble_eq_true rfl) (by decide +kernel : decode cX10_init 259 = .ok (.newarray .int, 2)) (fun q20 cA H259 hK1 hP hD hS => ?_)
  have ec := kcs 0 (fun C h => by cases h) rfl hK1
  subst ec
  clear hK1
  rw [List.append_assoc] at hP hD
  obtain ⟨L_21, hL_21⟩ : ∃ L9 : va_W, L9 = [(q0, .inl (cs 0, 900, .inl (fun _ => 0))), (q1, .inl (cs 0, 400, .inl (fun _ => 0))), (q2, .inl (cs 0, 400, .inl (fun _ => 0))), (q3, .inl (cs 0, 400, .inl (fun _ => 0))), (q4, .inl (cs 0, 400, .inl (fun _ => 0))), (q5, .inl (cs 0, 400, .inl (fun _ => 0))), (q6, .inl (cs 0, 400, .inl (fun _ => 0))), (q7, .inl (cs 0, 400, .inl (fun _ => 0))), (q8, .inl (cs 0, 400, .inl (fun _ => 0))), (q9, .inl (cs 2, 400, .inl (fun _ => 0))), (q10, .inl (cs 0, 401, .inl (fun _ => 0))), (q11, .inl (cs 0, 401, .inl (fun _ => 0))), (q12, .inl (cs 0, 4, .inl (upd (upd (upd (upd (fun _ => 0) 0 (-1)) 1 (-1)) 2 (-1)) 3 (-1)))), (q13, .inl (cs 0, 1600, .inl (fun _ => 0))), (q14, .inl (cs 0, 4, .inl (fun _ => 0))), (q15, .inl (cs 0, 6, .inl (fun _ => 0))), (q16, .inl (cs 0, 6, .inl (fun _ => 0))), (q17, .inl (cs 2, 2400, .inl (fun _ => 0))), (q18, .inl (cs 0, 32, .inl (fun _ => 0))), (q19, .inl (cs 2, 8, .inl (fun _ => 0))), (q20, .inl (cs 0, 6, .inl (fun _ => 0)))] := ⟨_, rfl⟩
  have lL_21 : L_21.length = 21 := by rw [hL_21]; rfl
  rw [show L_20 ++ [(q20, .inl (cs 0, 6, .inl (fun _ => 0)))] = L_21 by rw [hL_20, hL_21]; rfl] at hP hD
  refine va_putF (D := D) (ci := 10) (v := .ref q20) (ty := .array .int) (C := RX10) (T := TX10) (N := 63) hx hb hts qin10 tyX10 tyX10_ok nmX10 hown hK hP hD hS k (kat0 hkl) rfl 32 (Nat.le_of_ble_eq_true rfl) (hts _ (kw10 _ (List.mem_of_getElem? (i := 37) rfl))) (fun _ h9 => h9) rfl hin rfl (by decide +kernel) rfl rfl (by rw [lF_32]; decide) (by decide +kernel : decode cX10_init 261 = .ok (.putfield 121, 3)) (fun H261 locs261 hP hD hS => ?_)
  rw [kset0 hkl] at hP hD
  obtain ⟨F_33, hF_33⟩ : ∃ F9 : List Value, F9 = [.int 0, .ref q0, .int 0, .int 100, .int 300, .int 20, .ref q1, .ref q2, .ref q3, .ref q4, .ref q5, .ref q6, .ref q7, .ref q8, .ref q9, .int 0, .int 0, .ref q10, .ref q11, .int 1, .int 0, .ref q12, .ref q13, .ref q14, .ref q15, .ref q16, .ref q17, .int 0, .int 0, .int 0, .ref q18, .ref q19, .ref q20, .null, .int 0, .null, .null, .null, .int 0, .int 0, .int 0, .int 0, .int 0, .int 0, .int 0, .int 0, .int 0, .null, .null, .null, .null, .int 0, .null, .null, .null, .int 0, .null, .int 0, .null, .null, .int 0, .int 0, .int 0] := ⟨_, rfl⟩
  have lF_33 : F_33.length = 63 := by rw [hF_33]; rfl
  rw [show F_32.set 32 (.ref q20) = F_33 by rw [hF_32, hF_33]; rfl] at hP hD
  refine lv_aload_n (k := 0) hx hb (by decide +kernel : decode cX10_init 264 = .ok (.aload_n 0, 1)) rfl (lv_at hl 0 rfl) ?_
  refine lv_sipush (v := nI 150) hx hb (by decide +kernel : decode cX10_init 265 = .ok (.sipush 150, 3)) (by decide) ?_
  refine va_newa (atype := .int) (ty := .int) (N' := 150) (a0 := (150, .inl (fun _ => 0))) hx hb (hts _ (kw10 _ (List.mem_of_getElem? (i := 4) rfl))) rfl hK hP hD hS hA (fun _ => rfl) (by decide) (by decide) (by decide) (Nat.le_of_ble_eq_true rfl) (Nat.le_of_ble_eq_true rfl) (by decide +kernel : decode cX10_init 268 = .ok (.newarray .int, 2)) (fun q21 cA H268 hK1 hP hD hS => ?_)
  have ec := kcs 0 (fun C h => by cases h) rfl hK1
  subst ec
  clear hK1
  rw [List.append_assoc] at hP hD
  obtain ⟨L_22, hL_22⟩ : ∃ L9 : va_W, L9 = [(q0, .inl (cs 0, 900, .inl (fun _ => 0))), (q1, .inl (cs 0, 400, .inl (fun _ => 0))), (q2, .inl (cs 0, 400, .inl (fun _ => 0))), (q3, .inl (cs 0, 400, .inl (fun _ => 0))), (q4, .inl (cs 0, 400, .inl (fun _ => 0))), (q5, .inl (cs 0, 400, .inl (fun _ => 0))), (q6, .inl (cs 0, 400, .inl (fun _ => 0))), (q7, .inl (cs 0, 400, .inl (fun _ => 0))), (q8, .inl (cs 0, 400, .inl (fun _ => 0))), (q9, .inl (cs 2, 400, .inl (fun _ => 0))), (q10, .inl (cs 0, 401, .inl (fun _ => 0))), (q11, .inl (cs 0, 401, .inl (fun _ => 0))), (q12, .inl (cs 0, 4, .inl (upd (upd (upd (upd (fun _ => 0) 0 (-1)) 1 (-1)) 2 (-1)) 3 (-1)))), (q13, .inl (cs 0, 1600, .inl (fun _ => 0))), (q14, .inl (cs 0, 4, .inl (fun _ => 0))), (q15, .inl (cs 0, 6, .inl (fun _ => 0))), (q16, .inl (cs 0, 6, .inl (fun _ => 0))), (q17, .inl (cs 2, 2400, .inl (fun _ => 0))), (q18, .inl (cs 0, 32, .inl (fun _ => 0))), (q19, .inl (cs 2, 8, .inl (fun _ => 0))), (q20, .inl (cs 0, 6, .inl (fun _ => 0))), (q21, .inl (cs 0, 150, .inl (fun _ => 0)))] := ⟨_, rfl⟩
  have lL_22 : L_22.length = 22 := by rw [hL_22]; rfl
  rw [show L_21 ++ [(q21, .inl (cs 0, 150, .inl (fun _ => 0)))] = L_22 by rw [hL_21, hL_22]; rfl] at hP hD
  refine va_putF (D := D) (ci := 10) (v := .ref q21) (ty := .array .int) (C := RX10) (T := TX10) (N := 63) hx hb hts qin10 tyX10 tyX10_ok nmX10 hown hK hP hD hS k (kat0 hkl) rfl 33 (Nat.le_of_ble_eq_true rfl) (hts _ (kw10 _ (List.mem_of_getElem? (i := 38) rfl))) (fun _ h9 => h9) rfl hin rfl (by decide +kernel) rfl rfl (by rw [lF_33]; decide) (by decide +kernel : decode cX10_init 270 = .ok (.putfield 124, 3)) (fun H270 locs270 hP hD hS => ?_)
  rw [kset0 hkl] at hP hD
  obtain ⟨F_34, hF_34⟩ : ∃ F9 : List Value, F9 = [.int 0, .ref q0, .int 0, .int 100, .int 300, .int 20, .ref q1, .ref q2, .ref q3, .ref q4, .ref q5, .ref q6, .ref q7, .ref q8, .ref q9, .int 0, .int 0, .ref q10, .ref q11, .int 1, .int 0, .ref q12, .ref q13, .ref q14, .ref q15, .ref q16, .ref q17, .int 0, .int 0, .int 0, .ref q18, .ref q19, .ref q20, .ref q21, .int 0, .null, .null, .null, .int 0, .int 0, .int 0, .int 0, .int 0, .int 0, .int 0, .int 0, .int 0, .null, .null, .null, .null, .int 0, .null, .null, .null, .int 0, .null, .int 0, .null, .null, .int 0, .int 0, .int 0] := ⟨_, rfl⟩
  have lF_34 : F_34.length = 63 := by rw [hF_34]; rfl
  rw [show F_33.set 33 (.ref q21) = F_34 by rw [hF_33, hF_34]; rfl] at hP hD
  refine lv_aload_n (k := 0) hx hb (by decide +kernel : decode cX10_init 273 = .ok (.aload_n 0, 1)) rfl (lv_at hl 0 rfl) ?_
  refine lv_iconst (v := 0) hx hb (by decide +kernel : decode cX10_init 274 = .ok (.iconst 0, 1)) (by decide) ?_
  refine va_put (D := D) (ci := 10) (v := .int 0) (ty := .int) (C := RX10) (T := TX10) (N := 63) hx hb hts qin10 tyX10 tyX10_ok nmX10 hown hK hP hD hS k (kat0 hkl) rfl 34 (Nat.le_of_ble_eq_true rfl) (hts _ (kw10 _ (List.mem_of_getElem? (i := 39) rfl))) (fun _ h9 => h9) rfl (by decide +kernel) rfl rfl (by rw [lF_34]; decide) (by decide +kernel : decode cX10_init 275 = .ok (.putfield 127, 3)) (fun H275 locs275 hP hD hS => ?_)
  rw [kset0 hkl] at hP hD
  obtain ⟨F_35, hF_35⟩ : ∃ F9 : List Value, F9 = [.int 0, .ref q0, .int 0, .int 100, .int 300, .int 20, .ref q1, .ref q2, .ref q3, .ref q4, .ref q5, .ref q6, .ref q7, .ref q8, .ref q9, .int 0, .int 0, .ref q10, .ref q11, .int 1, .int 0, .ref q12, .ref q13, .ref q14, .ref q15, .ref q16, .ref q17, .int 0, .int 0, .int 0, .ref q18, .ref q19, .ref q20, .ref q21, .int 0, .null, .null, .null, .int 0, .int 0, .int 0, .int 0, .int 0, .int 0, .int 0, .int 0, .int 0, .null, .null, .null, .null, .int 0, .null, .null, .null, .int 0, .null, .int 0, .null, .null, .int 0, .int 0, .int 0] := ⟨_, rfl⟩
  have lF_35 : F_35.length = 63 := by rw [hF_35]; rfl
  rw [show F_34.set 34 (.int 0) = F_35 by rw [hF_34, hF_35]; rfl] at hP hD
  refine lv_aload_n (k := 0) hx hb (by decide +kernel : decode cX10_init 278 = .ok (.aload_n 0, 1)) rfl (lv_at hl 0 rfl) ?_
  refine lv_bipush (v := nI 32) hx hb (by decide +kernel : decode cX10_init 279 = .ok (.bipush 32, 2)) (by decide) ?_
  refine va_newa (atype := .int) (ty := .int) (N' := 32) (a0 := (32, .inl (fun _ => 0))) hx hb (hts _ (kw10 _ (List.mem_of_getElem? (i := 4) rfl))) rfl hK hP hD hS hA (fun _ => rfl) (by decide) (by decide) (by decide) (Nat.le_of_ble_eq_true rfl) (Nat.le_of_ble_eq_true rfl) (by decide +kernel : decode cX10_init 281 = .ok (.newarray .int, 2)) (fun q22 cA H281 hK1 hP hD hS => ?_)
  have ec := kcs 0 (fun C h => by cases h) rfl hK1
  subst ec
  clear hK1
  rw [List.append_assoc] at hP hD
  obtain ⟨L_23, hL_23⟩ : ∃ L9 : va_W, L9 = [(q0, .inl (cs 0, 900, .inl (fun _ => 0))), (q1, .inl (cs 0, 400, .inl (fun _ => 0))), (q2, .inl (cs 0, 400, .inl (fun _ => 0))), (q3, .inl (cs 0, 400, .inl (fun _ => 0))), (q4, .inl (cs 0, 400, .inl (fun _ => 0))), (q5, .inl (cs 0, 400, .inl (fun _ => 0))), (q6, .inl (cs 0, 400, .inl (fun _ => 0))), (q7, .inl (cs 0, 400, .inl (fun _ => 0))), (q8, .inl (cs 0, 400, .inl (fun _ => 0))), (q9, .inl (cs 2, 400, .inl (fun _ => 0))), (q10, .inl (cs 0, 401, .inl (fun _ => 0))), (q11, .inl (cs 0, 401, .inl (fun _ => 0))), (q12, .inl (cs 0, 4, .inl (upd (upd (upd (upd (fun _ => 0) 0 (-1)) 1 (-1)) 2 (-1)) 3 (-1)))), (q13, .inl (cs 0, 1600, .inl (fun _ => 0))), (q14, .inl (cs 0, 4, .inl (fun _ => 0))), (q15, .inl (cs 0, 6, .inl (fun _ => 0))), (q16, .inl (cs 0, 6, .inl (fun _ => 0))), (q17, .inl (cs 2, 2400, .inl (fun _ => 0))), (q18, .inl (cs 0, 32, .inl (fun _ => 0))), (q19, .inl (cs 2, 8, .inl (fun _ => 0))), (q20, .inl (cs 0, 6, .inl (fun _ => 0))), (q21, .inl (cs 0, 150, .inl (fun _ => 0))), (q22, .inl (cs 0, 32, .inl (fun _ => 0)))] := ⟨_, rfl⟩
  have lL_23 : L_23.length = 23 := by rw [hL_23]; rfl
  rw [show L_22 ++ [(q22, .inl (cs 0, 32, .inl (fun _ => 0)))] = L_23 by rw [hL_22, hL_23]; rfl] at hP hD
  refine va_putF (D := D) (ci := 10) (v := .ref q22) (ty := .array .int) (C := RX10) (T := TX10) (N := 63) hx hb hts qin10 tyX10 tyX10_ok nmX10 hown hK hP hD hS k (kat0 hkl) rfl 35 (Nat.le_of_ble_eq_true rfl) (hts _ (kw10 _ (List.mem_of_getElem? (i := 40) rfl))) (fun _ h9 => h9) rfl hin rfl (by decide +kernel) rfl rfl (by rw [lF_35]; decide) (by decide +kernel : decode cX10_init 283 = .ok (.putfield 130, 3)) (fun H283 locs283 hP hD hS => ?_)
  rw [kset0 hkl] at hP hD
  obtain ⟨F_36, hF_36⟩ : ∃ F9 : List Value, F9 = [.int 0, .ref q0, .int 0, .int 100, .int 300, .int 20, .ref q1, .ref q2, .ref q3, .ref q4, .ref q5, .ref q6, .ref q7, .ref q8, .ref q9, .int 0, .int 0, .ref q10, .ref q11, .int 1, .int 0, .ref q12, .ref q13, .ref q14, .ref q15, .ref q16, .ref q17, .int 0, .int 0, .int 0, .ref q18, .ref q19, .ref q20, .ref q21, .int 0, .ref q22, .null, .null, .int 0, .int 0, .int 0, .int 0, .int 0, .int 0, .int 0, .int 0, .int 0, .null, .null, .null, .null, .int 0, .null, .null, .null, .int 0, .null, .int 0, .null, .null, .int 0, .int 0, .int 0] := ⟨_, rfl⟩
  have lF_36 : F_36.length = 63 := by rw [hF_36]; rfl
  rw [show F_35.set 35 (.ref q22) = F_36 by rw [hF_35, hF_36]; rfl] at hP hD
  refine lv_aload_n (k := 0) hx hb (by decide +kernel : decode cX10_init 286 = .ok (.aload_n 0, 1)) rfl (lv_at hl 0 rfl) ?_
  refine lv_bipush (v := nI 8) hx hb (by decide +kernel : decode cX10_init 287 = .ok (.bipush 8, 2)) (by decide) ?_
  refine va_newa (atype := .boolean) (ty := .boolean) (N' := 8) (a0 := (8, .inl (fun _ => 0))) hx hb (hts _ (kw10 _ (List.mem_of_getElem? (i := 18) rfl))) rfl hK hP hD hS hA (fun _ => rfl) (by decide) (by decide) (by decide) (Nat.le_of_ble_eq_true rfl) (Nat.le_of_ble_eq_true rfl) (by decide +kernel : decode cX10_init 289 = .ok (.newarray .boolean, 2)) (fun q23 cA H289 hK1 hP hD hS => ?_)
  have ec := kcs 2 (fun C h => by cases h) rfl hK1
  subst ec
  clear hK1
  rw [List.append_assoc] at hP hD
  obtain ⟨L_24, hL_24⟩ : ∃ L9 : va_W, L9 = [(q0, .inl (cs 0, 900, .inl (fun _ => 0))), (q1, .inl (cs 0, 400, .inl (fun _ => 0))), (q2, .inl (cs 0, 400, .inl (fun _ => 0))), (q3, .inl (cs 0, 400, .inl (fun _ => 0))), (q4, .inl (cs 0, 400, .inl (fun _ => 0))), (q5, .inl (cs 0, 400, .inl (fun _ => 0))), (q6, .inl (cs 0, 400, .inl (fun _ => 0))), (q7, .inl (cs 0, 400, .inl (fun _ => 0))), (q8, .inl (cs 0, 400, .inl (fun _ => 0))), (q9, .inl (cs 2, 400, .inl (fun _ => 0))), (q10, .inl (cs 0, 401, .inl (fun _ => 0))), (q11, .inl (cs 0, 401, .inl (fun _ => 0))), (q12, .inl (cs 0, 4, .inl (upd (upd (upd (upd (fun _ => 0) 0 (-1)) 1 (-1)) 2 (-1)) 3 (-1)))), (q13, .inl (cs 0, 1600, .inl (fun _ => 0))), (q14, .inl (cs 0, 4, .inl (fun _ => 0))), (q15, .inl (cs 0, 6, .inl (fun _ => 0))), (q16, .inl (cs 0, 6, .inl (fun _ => 0))), (q17, .inl (cs 2, 2400, .inl (fun _ => 0))), (q18, .inl (cs 0, 32, .inl (fun _ => 0))), (q19, .inl (cs 2, 8, .inl (fun _ => 0))), (q20, .inl (cs 0, 6, .inl (fun _ => 0))), (q21, .inl (cs 0, 150, .inl (fun _ => 0))), (q22, .inl (cs 0, 32, .inl (fun _ => 0))), (q23, .inl (cs 2, 8, .inl (fun _ => 0)))] := ⟨_, rfl⟩
  have lL_24 : L_24.length = 24 := by rw [hL_24]; rfl
  rw [show L_23 ++ [(q23, .inl (cs 2, 8, .inl (fun _ => 0)))] = L_24 by rw [hL_23, hL_24]; rfl] at hP hD
  refine va_putF (D := D) (ci := 10) (v := .ref q23) (ty := .array .boolean) (C := RX10) (T := TX10) (N := 63) hx hb hts qin10 tyX10 tyX10_ok nmX10 hown hK hP hD hS k (kat0 hkl) rfl 36 (Nat.le_of_ble_eq_true rfl) (hts _ (kw10 _ (List.mem_of_getElem? (i := 41) rfl))) (fun _ h9 => h9) rfl hin rfl (by decide +kernel) rfl rfl (by rw [lF_36]; decide) (by decide +kernel : decode cX10_init 291 = .ok (.putfield 133, 3)) (fun H291 locs291 hP hD hS => ?_)
  rw [kset0 hkl] at hP hD
  obtain ⟨F_37, hF_37⟩ : ∃ F9 : List Value, F9 = [.int 0, .ref q0, .int 0, .int 100, .int 300, .int 20, .ref q1, .ref q2, .ref q3, .ref q4, .ref q5, .ref q6, .ref q7, .ref q8, .ref q9, .int 0, .int 0, .ref q10, .ref q11, .int 1, .int 0, .ref q12, .ref q13, .ref q14, .ref q15, .ref q16, .ref q17, .int 0, .int 0, .int 0, .ref q18, .ref q19, .ref q20, .ref q21, .int 0, .ref q22, .ref q23, .null, .int 0, .int 0, .int 0, .int 0, .int 0, .int 0, .int 0, .int 0, .int 0, .null, .null, .null, .null, .int 0, .null, .null, .null, .int 0, .null, .int 0, .null, .null, .int 0, .int 0, .int 0] := ⟨_, rfl⟩
  have lF_37 : F_37.length = 63 := by rw [hF_37]; rfl
  rw [show F_36.set 36 (.ref q23) = F_37 by rw [hF_36, hF_37]; rfl] at hP hD
  refine lv_aload_n (k := 0) hx hb (by decide +kernel : decode cX10_init 294 = .ok (.aload_n 0, 1)) rfl (lv_at hl 0 rfl) ?_
  refine lv_bipush (v := nI 18) hx hb (by decide +kernel : decode cX10_init 295 = .ok (.bipush 18, 2)) (by decide) ?_
  refine va_newa (atype := .long) (ty := .long) (N' := 18) (a0 := (18, .inr (.inl (fun _ => 0)))) hx hb (hts _ (kw10 _ (List.mem_of_getElem? (i := 42) rfl))) rfl hK hP hD hS hA (fun _ => rfl) (by decide) (by decide) (by decide) (Nat.le_of_ble_eq_true rfl) (Nat.le_of_ble_eq_true rfl) (by decide +kernel : decode cX10_init 297 = .ok (.newarray .long, 2)) (fun q24 cA H297 hK1 hP hD hS => ?_)
  have ec := kcs 3 (fun C h => by cases h) rfl hK1
  subst ec
  clear hK1
  rw [List.append_assoc] at hP hD
  refine lv_dup hx hb (by decide +kernel : decode cX10_init 299 = .ok (.dup, 1)) rfl ?_
  refine lv_iconst (v := nI 0) hx hb (by decide +kernel : decode cX10_init 300 = .ok (.iconst 0, 1)) (by decide) ?_
  refine lv_ldc2 (v := 2268462) hx hb hown (hts _ (kw10 _ (List.mem_of_getElem? (i := 43) rfl))) (by decide +kernel : decode cX10_init 301 = .ok (.ldc2_w 136, 3)) ?_
  refine va_last hx hb hK hP hD hS (ws.length + 24) 3 (katE lL_24) rfl (vp_in_nI (by decide) (by decide)) (by decide +kernel : decode cX10_init 304 = .ok (.lastore, 1)) (fun H304 locs304 hP hD hS => ?_)
  rw [ksetE lL_24, nI_clamp (by decide)] at hP hD
  refine lv_dup hx hb (by decide +kernel : decode cX10_init 305 = .ok (.dup, 1)) rfl ?_
  refine lv_iconst (v := nI 1) hx hb (by decide +kernel : decode cX10_init 306 = .ok (.iconst 1, 1)) (by decide) ?_
  refine lv_ldc2 (v := 116831540) hx hb hown (hts _ (kw10 _ (List.mem_of_getElem? (i := 44) rfl))) (by decide +kernel : decode cX10_init 307 = .ok (.ldc2_w 138, 3)) ?_
  refine va_last hx hb hK hP hD hS (ws.length + 24) 3 (katE lL_24) rfl (vp_in_nI (by decide) (by decide)) (by decide +kernel : decode cX10_init 310 = .ok (.lastore, 1)) (fun H310 locs310 hP hD hS => ?_)
  rw [ksetE lL_24, nI_clamp (by decide)] at hP hD
  refine lv_dup hx hb (by decide +kernel : decode cX10_init 311 = .ok (.dup, 1)) rfl ?_
  refine lv_iconst (v := nI 2) hx hb (by decide +kernel : decode cX10_init 312 = .ok (.iconst 2, 1)) (by decide) ?_
  refine lv_ldc2 (v := 1130068) hx hb hown (hts _ (kw10 _ (List.mem_of_getElem? (i := 45) rfl))) (by decide +kernel : decode cX10_init 313 = .ok (.ldc2_w 140, 3)) ?_
  refine va_last hx hb hK hP hD hS (ws.length + 24) 3 (katE lL_24) rfl (vp_in_nI (by decide) (by decide)) (by decide +kernel : decode cX10_init 316 = .ok (.lastore, 1)) (fun H316 locs316 hP hD hS => ?_)
  rw [ksetE lL_24, nI_clamp (by decide)] at hP hD
  refine lv_dup hx hb (by decide +kernel : decode cX10_init 317 = .ok (.dup, 1)) rfl ?_
  refine lv_iconst (v := nI 3) hx hb (by decide +kernel : decode cX10_init 318 = .ok (.iconst 3, 1)) (by decide) ?_
  refine lv_ldc2 (v := 24716933) hx hb hown (hts _ (kw10 _ (List.mem_of_getElem? (i := 46) rfl))) (by decide +kernel : decode cX10_init 319 = .ok (.ldc2_w 142, 3)) ?_
  refine va_last hx hb hK hP hD hS (ws.length + 24) 3 (katE lL_24) rfl (vp_in_nI (by decide) (by decide)) (by decide +kernel : decode cX10_init 322 = .ok (.lastore, 1)) (fun H322 locs322 hP hD hS => ?_)
  rw [ksetE lL_24, nI_clamp (by decide)] at hP hD
  refine lv_dup hx hb (by decide +kernel : decode cX10_init 323 = .ok (.dup, 1)) rfl ?_
  refine lv_iconst (v := nI 4) hx hb (by decide +kernel : decode cX10_init 324 = .ok (.iconst 4, 1)) (by decide) ?_
  refine lv_ldc2 (v := 609664709) hx hb hown (hts _ (kw10 _ (List.mem_of_getElem? (i := 47) rfl))) (by decide +kernel : decode cX10_init 325 = .ok (.ldc2_w 144, 3)) ?_
  refine va_last hx hb hK hP hD hS (ws.length + 24) 3 (katE lL_24) rfl (vp_in_nI (by decide) (by decide)) (by decide +kernel : decode cX10_init 328 = .ok (.lastore, 1)) (fun H328 locs328 hP hD hS => ?_)
  rw [ksetE lL_24, nI_clamp (by decide)] at hP hD
  refine lv_dup hx hb (by decide +kernel : decode cX10_init 329 = .ok (.dup, 1)) rfl ?_
  refine lv_iconst (v := nI 5) hx hb (by decide +kernel : decode cX10_init 330 = .ok (.iconst 5, 1)) (by decide) ?_
  refine lv_ldc2 (v := 114201) hx hb hown (hts _ (kw10 _ (List.mem_of_getElem? (i := 48) rfl))) (by decide +kernel : decode cX10_init 331 = .ok (.ldc2_w 146, 3)) ?_
  refine va_last hx hb hK hP hD hS (ws.length + 24) 3 (katE lL_24) rfl (vp_in_nI (by decide) (by decide)) (by decide +kernel : decode cX10_init 334 = .ok (.lastore, 1)) (fun H334 locs334 hP hD hS => ?_)
  rw [ksetE lL_24, nI_clamp (by decide)] at hP hD
  refine lv_dup hx hb (by decide +kernel : decode cX10_init 335 = .ok (.dup, 1)) rfl ?_
  refine lv_bipush (v := nI 6) hx hb (by decide +kernel : decode cX10_init 336 = .ok (.bipush 6, 2)) (by decide) ?_
  refine lv_ldc2 (v := 628164) hx hb hown (hts _ (kw10 _ (List.mem_of_getElem? (i := 49) rfl))) (by decide +kernel : decode cX10_init 338 = .ok (.ldc2_w 148, 3)) ?_
  refine va_last hx hb hK hP hD hS (ws.length + 24) 3 (katE lL_24) rfl (vp_in_nI (by decide) (by decide)) (by decide +kernel : decode cX10_init 341 = .ok (.lastore, 1)) (fun H341 locs341 hP hD hS => ?_)
  rw [ksetE lL_24, nI_clamp (by decide)] at hP hD
  refine lv_dup hx hb (by decide +kernel : decode cX10_init 342 = .ok (.dup, 1)) rfl ?_
  refine lv_bipush (v := nI 7) hx hb (by decide +kernel : decode cX10_init 343 = .ok (.bipush 7, 2)) (by decide) ?_
  refine lv_ldc2 (v := 343342) hx hb hown (hts _ (kw10 _ (List.mem_of_getElem? (i := 50) rfl))) (by decide +kernel : decode cX10_init 345 = .ok (.ldc2_w 150, 3)) ?_
  refine va_last hx hb hK hP hD hS (ws.length + 24) 3 (katE lL_24) rfl (vp_in_nI (by decide) (by decide)) (by decide +kernel : decode cX10_init 348 = .ok (.lastore, 1)) (fun H348 locs348 hP hD hS => ?_)
  rw [ksetE lL_24, nI_clamp (by decide)] at hP hD
  refine lv_dup hx hb (by decide +kernel : decode cX10_init 349 = .ok (.dup, 1)) rfl ?_
  refine lv_bipush (v := nI 8) hx hb (by decide +kernel : decode cX10_init 350 = .ok (.bipush 8, 2)) (by decide) ?_
  refine lv_ldc2 (v := 594980) hx hb hown (hts _ (kw10 _ (List.mem_of_getElem? (i := 51) rfl))) (by decide +kernel : decode cX10_init 352 = .ok (.ldc2_w 152, 3)) ?_
  refine va_last hx hb hK hP hD hS (ws.length + 24) 3 (katE lL_24) rfl (vp_in_nI (by decide) (by decide)) (by decide +kernel : decode cX10_init 355 = .ok (.lastore, 1)) (fun H355 locs355 hP hD hS => ?_)
  rw [ksetE lL_24, nI_clamp (by decide)] at hP hD
  refine lv_dup hx hb (by decide +kernel : decode cX10_init 356 = .ok (.dup, 1)) rfl ?_
  refine lv_bipush (v := nI 9) hx hb (by decide +kernel : decode cX10_init 357 = .ok (.bipush 9, 2)) (by decide) ?_
  refine lv_ldc2 (v := 6706792) hx hb hown (hts _ (kw10 _ (List.mem_of_getElem? (i := 52) rfl))) (by decide +kernel : decode cX10_init 359 = .ok (.ldc2_w 154, 3)) ?_
  refine va_last hx hb hK hP hD hS (ws.length + 24) 3 (katE lL_24) rfl (vp_in_nI (by decide) (by decide)) (by decide +kernel : decode cX10_init 362 = .ok (.lastore, 1)) (fun H362 locs362 hP hD hS => ?_)
  rw [ksetE lL_24, nI_clamp (by decide)] at hP hD
  refine lv_dup hx hb (by decide +kernel : decode cX10_init 363 = .ok (.dup, 1)) rfl ?_
  refine lv_bipush (v := nI 10) hx hb (by decide +kernel : decode cX10_init 364 = .ok (.bipush 10, 2)) (by decide) ?_
  refine lv_ldc2 (v := 427595) hx hb hown (hts _ (kw10 _ (List.mem_of_getElem? (i := 53) rfl))) (by decide +kernel : decode cX10_init 366 = .ok (.ldc2_w 156, 3)) ?_
  refine va_last hx hb hK hP hD hS (ws.length + 24) 3 (katE lL_24) rfl (vp_in_nI (by decide) (by decide)) (by decide +kernel : decode cX10_init 369 = .ok (.lastore, 1)) (fun H369 locs369 hP hD hS => ?_)
  rw [ksetE lL_24, nI_clamp (by decide)] at hP hD
  refine lv_dup hx hb (by decide +kernel : decode cX10_init 370 = .ok (.dup, 1)) rfl ?_
  refine lv_bipush (v := nI 11) hx hb (by decide +kernel : decode cX10_init 371 = .ok (.bipush 11, 2)) (by decide) ?_
  refine lv_ldc2 (v := 609752116) hx hb hown (hts _ (kw10 _ (List.mem_of_getElem? (i := 54) rfl))) (by decide +kernel : decode cX10_init 373 = .ok (.ldc2_w 158, 3)) ?_
  refine va_last hx hb hK hP hD hS (ws.length + 24) 3 (katE lL_24) rfl (vp_in_nI (by decide) (by decide)) (by decide +kernel : decode cX10_init 376 = .ok (.lastore, 1)) (fun H376 locs376 hP hD hS => ?_)
  rw [ksetE lL_24, nI_clamp (by decide)] at hP hD
  refine lv_dup hx hb (by decide +kernel : decode cX10_init 377 = .ok (.dup, 1)) rfl ?_
  refine lv_bipush (v := nI 12) hx hb (by decide +kernel : decode cX10_init 378 = .ok (.bipush 12, 2)) (by decide) ?_
  refine lv_ldc2 (v := 762030) hx hb hown (hts _ (kw10 _ (List.mem_of_getElem? (i := 55) rfl))) (by decide +kernel : decode cX10_init 380 = .ok (.ldc2_w 160, 3)) ?_
  refine va_last hx hb hK hP hD hS (ws.length + 24) 3 (katE lL_24) rfl (vp_in_nI (by decide) (by decide)) (by decide +kernel : decode cX10_init 383 = .ok (.lastore, 1)) (fun H383 locs383 hP hD hS => ?_)
  rw [ksetE lL_24, nI_clamp (by decide)] at hP hD
  refine lv_dup hx hb (by decide +kernel : decode cX10_init 384 = .ok (.dup, 1)) rfl ?_
  refine lv_bipush (v := nI 13) hx hb (by decide +kernel : decode cX10_init 385 = .ok (.bipush 13, 2)) (by decide) ?_
  refine lv_ldc2 (v := 302) hx hb hown (hts _ (kw10 _ (List.mem_of_getElem? (i := 56) rfl))) (by decide +kernel : decode cX10_init 387 = .ok (.ldc2_w 162, 3)) ?_
  refine va_last hx hb hK hP hD hS (ws.length + 24) 3 (katE lL_24) rfl (vp_in_nI (by decide) (by decide)) (by decide +kernel : decode cX10_init 390 = .ok (.lastore, 1)) (fun H390 locs390 hP hD hS => ?_)
  rw [ksetE lL_24, nI_clamp (by decide)] at hP hD
  refine lv_dup hx hb (by decide +kernel : decode cX10_init 391 = .ok (.dup, 1)) rfl ?_
  refine lv_bipush (v := nI 14) hx hb (by decide +kernel : decode cX10_init 392 = .ok (.bipush 14, 2)) (by decide) ?_
  refine lv_ldc2 (v := 464660) hx hb hown (hts _ (kw10 _ (List.mem_of_getElem? (i := 57) rfl))) (by decide +kernel : decode cX10_init 394 = .ok (.ldc2_w 164, 3)) ?_
  refine va_last hx hb hK hP hD hS (ws.length + 24) 3 (katE lL_24) rfl (vp_in_nI (by decide) (by decide)) (by decide +kernel : decode cX10_init 397 = .ok (.lastore, 1)) (fun H397 locs397 hP hD hS => ?_)
  rw [ksetE lL_24, nI_clamp (by decide)] at hP hD
  refine lv_dup hx hb (by decide +kernel : decode cX10_init 398 = .ok (.dup, 1)) rfl ?_
  refine lv_bipush (v := nI 15) hx hb (by decide +kernel : decode cX10_init 399 = .ok (.bipush 15, 2)) (by decide) ?_
  refine lv_ldc2 (v := 5018519941) hx hb hown (hts _ (kw10 _ (List.mem_of_getElem? (i := 58) rfl))) (by decide +kernel : decode cX10_init 401 = .ok (.ldc2_w 166, 3)) ?_
  refine va_last hx hb hK hP hD hS (ws.length + 24) 3 (katE lL_24) rfl (vp_in_nI (by decide) (by decide)) (by decide +kernel : decode cX10_init 404 = .ok (.lastore, 1)) (fun H404 locs404 hP hD hS => ?_)
  rw [ksetE lL_24, nI_clamp (by decide)] at hP hD
  refine lv_dup hx hb (by decide +kernel : decode cX10_init 405 = .ok (.dup, 1)) rfl ?_
  refine lv_bipush (v := nI 16) hx hb (by decide +kernel : decode cX10_init 406 = .ok (.bipush 16, 2)) (by decide) ?_
  refine lv_ldc2 (v := 2937011) hx hb hown (hts _ (kw10 _ (List.mem_of_getElem? (i := 59) rfl))) (by decide +kernel : decode cX10_init 408 = .ok (.ldc2_w 168, 3)) ?_
  refine va_last hx hb hK hP hD hS (ws.length + 24) 3 (katE lL_24) rfl (vp_in_nI (by decide) (by decide)) (by decide +kernel : decode cX10_init 411 = .ok (.lastore, 1)) (fun H411 locs411 hP hD hS => ?_)
  rw [ksetE lL_24, nI_clamp (by decide)] at hP hD
  refine lv_dup hx hb (by decide +kernel : decode cX10_init 412 = .ok (.dup, 1)) rfl ?_
  refine lv_bipush (v := nI 17) hx hb (by decide +kernel : decode cX10_init 413 = .ok (.bipush 17, 2)) (by decide) ?_
  refine lv_ldc2 (v := 719918116) hx hb hown (hts _ (kw10 _ (List.mem_of_getElem? (i := 60) rfl))) (by decide +kernel : decode cX10_init 415 = .ok (.ldc2_w 170, 3)) ?_
  refine va_last hx hb hK hP hD hS (ws.length + 24) 3 (katE lL_24) rfl (vp_in_nI (by decide) (by decide)) (by decide +kernel : decode cX10_init 418 = .ok (.lastore, 1)) (fun H418 locs418 hP hD hS => ?_)
  rw [ksetE lL_24, nI_clamp (by decide)] at hP hD
  obtain ⟨L_25, hL_25⟩ : ∃ L9 : va_W, L9 = [(q0, .inl (cs 0, 900, .inl (fun _ => 0))), (q1, .inl (cs 0, 400, .inl (fun _ => 0))), (q2, .inl (cs 0, 400, .inl (fun _ => 0))), (q3, .inl (cs 0, 400, .inl (fun _ => 0))), (q4, .inl (cs 0, 400, .inl (fun _ => 0))), (q5, .inl (cs 0, 400, .inl (fun _ => 0))), (q6, .inl (cs 0, 400, .inl (fun _ => 0))), (q7, .inl (cs 0, 400, .inl (fun _ => 0))), (q8, .inl (cs 0, 400, .inl (fun _ => 0))), (q9, .inl (cs 2, 400, .inl (fun _ => 0))), (q10, .inl (cs 0, 401, .inl (fun _ => 0))), (q11, .inl (cs 0, 401, .inl (fun _ => 0))), (q12, .inl (cs 0, 4, .inl (upd (upd (upd (upd (fun _ => 0) 0 (-1)) 1 (-1)) 2 (-1)) 3 (-1)))), (q13, .inl (cs 0, 1600, .inl (fun _ => 0))), (q14, .inl (cs 0, 4, .inl (fun _ => 0))), (q15, .inl (cs 0, 6, .inl (fun _ => 0))), (q16, .inl (cs 0, 6, .inl (fun _ => 0))), (q17, .inl (cs 2, 2400, .inl (fun _ => 0))), (q18, .inl (cs 0, 32, .inl (fun _ => 0))), (q19, .inl (cs 2, 8, .inl (fun _ => 0))), (q20, .inl (cs 0, 6, .inl (fun _ => 0))), (q21, .inl (cs 0, 150, .inl (fun _ => 0))), (q22, .inl (cs 0, 32, .inl (fun _ => 0))), (q23, .inl (cs 2, 8, .inl (fun _ => 0))), (q24, .inl (cs 3, 18, .inr (.inl (vp_updL (vp_updL (vp_updL (vp_updL (vp_updL (vp_updL (vp_updL (vp_updL (vp_updL (vp_updL (vp_updL (vp_updL (vp_updL (vp_updL (vp_updL (vp_updL (vp_updL (vp_updL (fun _ => 0) 0 2268462) 1 116831540) 2 1130068) 3 24716933) 4 609664709) 5 114201) 6 628164) 7 343342) 8 594980) 9 6706792) 10 427595) 11 609752116) 12 762030) 13 302) 14 464660) 15 5018519941) 16 2937011) 17 719918116))))] := ⟨_, rfl⟩
  have lL_25 : L_25.length = 25 := by rw [hL_25]; rfl
  rw [show L_24 ++ [(q24, .inl (cs 3, 18, .inr (.inl (vp_updL (vp_updL (vp_updL (vp_updL (vp_updL (vp_updL (vp_updL (vp_updL (vp_updL (vp_updL (vp_updL (vp_updL (vp_updL (vp_updL (vp_updL (vp_updL (vp_updL (vp_updL (fun _ => 0) 0 2268462) 1 116831540) 2 1130068) 3 24716933) 4 609664709) 5 114201) 6 628164) 7 343342) 8 594980) 9 6706792) 10 427595) 11 609752116) 12 762030) 13 302) 14 464660) 15 5018519941) 16 2937011) 17 719918116))))] = L_25 by rw [hL_24, hL_25]; rfl] at hP hD
  refine va_putF (D := D) (ci := 10) (v := .ref q24) (ty := .array .long) (C := RX10) (T := TX10) (N := 63) hx hb hts qin10 tyX10 tyX10_ok nmX10 hown hK hP hD hS k (kat0 hkl) rfl 37 (Nat.le_of_ble_eq_true rfl) (hts _ (kw10 _ (List.mem_of_getElem? (i := 61) rfl))) (fun _ h9 => h9) rfl hin rfl (by decide +kernel) rfl rfl (by rw [lF_37]; decide) (by decide +kernel : decode cX10_init 419 = .ok (.putfield 172, 3)) (fun H419 locs419 hP hD hS => ?_)
  rw [kset0 hkl] at hP hD
  obtain ⟨F_38, hF_38⟩ : ∃ F9 : List Value, F9 = [.int 0, .ref q0, .int 0, .int 100, .int 300, .int 20, .ref q1, .ref q2, .ref q3, .ref q4, .ref q5, .ref q6, .ref q7, .ref q8, .ref q9, .int 0, .int 0, .ref q10, .ref q11, .int 1, .int 0, .ref q12, .ref q13, .ref q14, .ref q15, .ref q16, .ref q17, .int 0, .int 0, .int 0, .ref q18, .ref q19, .ref q20, .ref q21, .int 0, .ref q22, .ref q23, .ref q24, .int 0, .int 0, .int 0, .int 0, .int 0, .int 0, .int 0, .int 0, .int 0, .null, .null, .null, .null, .int 0, .null, .null, .null, .int 0, .null, .int 0, .null, .null, .int 0, .int 0, .int 0] := ⟨_, rfl⟩
  have lF_38 : F_38.length = 63 := by rw [hF_38]; rfl
  rw [show F_37.set 37 (.ref q24) = F_38 by rw [hF_37, hF_38]; rfl] at hP hD
  refine lv_aload_n (k := 0) hx hb (by decide +kernel : decode cX10_init 422 = .ok (.aload_n 0, 1)) rfl (lv_at hl 0 rfl) ?_
  refine lv_iconst (v := 0) hx hb (by decide +kernel : decode cX10_init 423 = .ok (.iconst 0, 1)) (by decide) ?_
  refine va_put (D := D) (ci := 10) (v := .int 0) (ty := .int) (C := RX10) (T := TX10) (N := 63) hx hb hts qin10 tyX10 tyX10_ok nmX10 hown hK hP hD hS k (kat0 hkl) rfl 38 (Nat.le_of_ble_eq_true rfl) (hts _ (kw10 _ (List.mem_of_getElem? (i := 62) rfl))) (fun _ h9 => h9) rfl (by decide +kernel) rfl rfl (by rw [lF_38]; decide) (by decide +kernel : decode cX10_init 424 = .ok (.putfield 176, 3)) (fun H424 locs424 hP hD hS => ?_)
  rw [kset0 hkl] at hP hD
  obtain ⟨F_39, hF_39⟩ : ∃ F9 : List Value, F9 = [.int 0, .ref q0, .int 0, .int 100, .int 300, .int 20, .ref q1, .ref q2, .ref q3, .ref q4, .ref q5, .ref q6, .ref q7, .ref q8, .ref q9, .int 0, .int 0, .ref q10, .ref q11, .int 1, .int 0, .ref q12, .ref q13, .ref q14, .ref q15, .ref q16, .ref q17, .int 0, .int 0, .int 0, .ref q18, .ref q19, .ref q20, .ref q21, .int 0, .ref q22, .ref q23, .ref q24, .int 0, .int 0, .int 0, .int 0, .int 0, .int 0, .int 0, .int 0, .int 0, .null, .null, .null, .null, .int 0, .null, .null, .null, .int 0, .null, .int 0, .null, .null, .int 0, .int 0, .int 0] := ⟨_, rfl⟩
  have lF_39 : F_39.length = 63 := by rw [hF_39]; rfl
  rw [show F_38.set 38 (.int 0) = F_39 by rw [hF_38, hF_39]; rfl] at hP hD
  refine lv_aload_n (k := 0) hx hb (by decide +kernel : decode cX10_init 427 = .ok (.aload_n 0, 1)) rfl (lv_at hl 0 rfl) ?_
  refine lv_iconst (v := 0) hx hb (by decide +kernel : decode cX10_init 428 = .ok (.iconst 0, 1)) (by decide) ?_
  refine va_put (D := D) (ci := 10) (v := .int 0) (ty := .int) (C := RX10) (T := TX10) (N := 63) hx hb hts qin10 tyX10 tyX10_ok nmX10 hown hK hP hD hS k (kat0 hkl) rfl 39 (Nat.le_of_ble_eq_true rfl) (hts _ (kw10 _ (List.mem_of_getElem? (i := 63) rfl))) (fun _ h9 => h9) rfl (by decide +kernel) rfl rfl (by rw [lF_39]; decide) (by decide +kernel : decode cX10_init 429 = .ok (.putfield 179, 3)) (fun H429 locs429 hP hD hS => ?_)
  rw [kset0 hkl] at hP hD
  obtain ⟨F_40, hF_40⟩ : ∃ F9 : List Value, F9 = [.int 0, .ref q0, .int 0, .int 100, .int 300, .int 20, .ref q1, .ref q2, .ref q3, .ref q4, .ref q5, .ref q6, .ref q7, .ref q8, .ref q9, .int 0, .int 0, .ref q10, .ref q11, .int 1, .int 0, .ref q12, .ref q13, .ref q14, .ref q15, .ref q16, .ref q17, .int 0, .int 0, .int 0, .ref q18, .ref q19, .ref q20, .ref q21, .int 0, .ref q22, .ref q23, .ref q24, .int 0, .int 0, .int 0, .int 0, .int 0, .int 0, .int 0, .int 0, .int 0, .null, .null, .null, .null, .int 0, .null, .null, .null, .int 0, .null, .int 0, .null, .null, .int 0, .int 0, .int 0] := ⟨_, rfl⟩
  have lF_40 : F_40.length = 63 := by rw [hF_40]; rfl
  rw [show F_39.set 39 (.int 0) = F_40 by rw [hF_39, hF_40]; rfl] at hP hD
  refine lv_aload_n (k := 0) hx hb (by decide +kernel : decode cX10_init 432 = .ok (.aload_n 0, 1)) rfl (lv_at hl 0 rfl) ?_
  refine lv_iconst (v := 0) hx hb (by decide +kernel : decode cX10_init 433 = .ok (.iconst 0, 1)) (by decide) ?_
  refine va_put (D := D) (ci := 10) (v := .int 0) (ty := .int) (C := RX10) (T := TX10) (N := 63) hx hb hts qin10 tyX10 tyX10_ok nmX10 hown hK hP hD hS k (kat0 hkl) rfl 40 (Nat.le_of_ble_eq_true rfl) (hts _ (kw10 _ (List.mem_of_getElem? (i := 64) rfl))) (fun _ h9 => h9) rfl (by decide +kernel) rfl rfl (by rw [lF_40]; decide) (by decide +kernel : decode cX10_init 434 = .ok (.putfield 182, 3)) (fun H434 locs434 hP hD hS => ?_)
  rw [kset0 hkl] at hP hD
  obtain ⟨F_41, hF_41⟩ : ∃ F9 : List Value, F9 = [.int 0, .ref q0, .int 0, .int 100, .int 300, .int 20, .ref q1, .ref q2, .ref q3, .ref q4, .ref q5, .ref q6, .ref q7, .ref q8, .ref q9, .int 0, .int 0, .ref q10, .ref q11, .int 1, .int 0, .ref q12, .ref q13, .ref q14, .ref q15, .ref q16, .ref q17, .int 0, .int 0, .int 0, .ref q18, .ref q19, .ref q20, .ref q21, .int 0, .ref q22, .ref q23, .ref q24, .int 0, .int 0, .int 0, .int 0, .int 0, .int 0, .int 0, .int 0, .int 0, .null, .null, .null, .null, .int 0, .null, .null, .null, .int 0, .null, .int 0, .null, .null, .int 0, .int 0, .int 0] := ⟨_, rfl⟩
  have lF_41 : F_41.length = 63 := by rw [hF_41]; rfl
  rw [show F_40.set 40 (.int 0) = F_41 by rw [hF_40, hF_41]; rfl] at hP hD
  refine lv_aload_n (k := 0) hx hb (by decide +kernel : decode cX10_init 437 = .ok (.aload_n 0, 1)) rfl (lv_at hl 0 rfl) ?_
  refine lv_iconst (v := 0) hx hb (by decide +kernel : decode cX10_init 438 = .ok (.iconst 0, 1)) (by decide) ?_
  refine va_put (D := D) (ci := 10) (v := .int 0) (ty := .int) (C := RX10) (T := TX10) (N := 63) hx hb hts qin10 tyX10 tyX10_ok nmX10 hown hK hP hD hS k (kat0 hkl) rfl 41 (Nat.le_of_ble_eq_true rfl) (hts _ (kw10 _ (List.mem_of_getElem? (i := 65) rfl))) (fun _ h9 => h9) rfl (by decide +kernel) rfl rfl (by rw [lF_41]; decide) (by decide +kernel : decode cX10_init 439 = .ok (.putfield 185, 3)) (fun H439 locs439 hP hD hS => ?_)
  rw [kset0 hkl] at hP hD
  obtain ⟨F_42, hF_42⟩ : ∃ F9 : List Value, F9 = [.int 0, .ref q0, .int 0, .int 100, .int 300, .int 20, .ref q1, .ref q2, .ref q3, .ref q4, .ref q5, .ref q6, .ref q7, .ref q8, .ref q9, .int 0, .int 0, .ref q10, .ref q11, .int 1, .int 0, .ref q12, .ref q13, .ref q14, .ref q15, .ref q16, .ref q17, .int 0, .int 0, .int 0, .ref q18, .ref q19, .ref q20, .ref q21, .int 0, .ref q22, .ref q23, .ref q24, .int 0, .int 0, .int 0, .int 0, .int 0, .int 0, .int 0, .int 0, .int 0, .null, .null, .null, .null, .int 0, .null, .null, .null, .int 0, .null, .int 0, .null, .null, .int 0, .int 0, .int 0] := ⟨_, rfl⟩
  have lF_42 : F_42.length = 63 := by rw [hF_42]; rfl
  rw [show F_41.set 41 (.int 0) = F_42 by rw [hF_41, hF_42]; rfl] at hP hD
  refine lv_aload_n (k := 0) hx hb (by decide +kernel : decode cX10_init 442 = .ok (.aload_n 0, 1)) rfl (lv_at hl 0 rfl) ?_
  refine lv_iconst (v := 0) hx hb (by decide +kernel : decode cX10_init 443 = .ok (.iconst 0, 1)) (by decide) ?_
  refine va_put (D := D) (ci := 10) (v := .int 0) (ty := .int) (C := RX10) (T := TX10) (N := 63) hx hb hts qin10 tyX10 tyX10_ok nmX10 hown hK hP hD hS k (kat0 hkl) rfl 42 (Nat.le_of_ble_eq_true rfl) (hts _ (kw10 _ (List.mem_of_getElem? (i := 66) rfl))) (fun _ h9 => h9) rfl (by decide +kernel) rfl rfl (by rw [lF_42]; decide) (by decide +kernel : decode cX10_init 444 = .ok (.putfield 188, 3)) (fun H444 locs444 hP hD hS => ?_)
  rw [kset0 hkl] at hP hD
  obtain ⟨F_43, hF_43⟩ : ∃ F9 : List Value, F9 = [.int 0, .ref q0, .int 0, .int 100, .int 300, .int 20, .ref q1, .ref q2, .ref q3, .ref q4, .ref q5, .ref q6, .ref q7, .ref q8, .ref q9, .int 0, .int 0, .ref q10, .ref q11, .int 1, .int 0, .ref q12, .ref q13, .ref q14, .ref q15, .ref q16, .ref q17, .int 0, .int 0, .int 0, .ref q18, .ref q19, .ref q20, .ref q21, .int 0, .ref q22, .ref q23, .ref q24, .int 0, .int 0, .int 0, .int 0, .int 0, .int 0, .int 0, .int 0, .int 0, .null, .null, .null, .null, .int 0, .null, .null, .null, .int 0, .null, .int 0, .null, .null, .int 0, .int 0, .int 0] := ⟨_, rfl⟩
  have lF_43 : F_43.length = 63 := by rw [hF_43]; rfl
  rw [show F_42.set 42 (.int 0) = F_43 by rw [hF_42, hF_43]; rfl] at hP hD
  refine lv_aload_n (k := 0) hx hb (by decide +kernel : decode cX10_init 447 = .ok (.aload_n 0, 1)) rfl (lv_at hl 0 rfl) ?_
  refine lv_iconst (v := 0) hx hb (by decide +kernel : decode cX10_init 448 = .ok (.iconst 0, 1)) (by decide) ?_
  refine va_put (D := D) (ci := 10) (v := .int 0) (ty := .int) (C := RX10) (T := TX10) (N := 63) hx hb hts qin10 tyX10 tyX10_ok nmX10 hown hK hP hD hS k (kat0 hkl) rfl 43 (Nat.le_of_ble_eq_true rfl) (hts _ (kw10 _ (List.mem_of_getElem? (i := 67) rfl))) (fun _ h9 => h9) rfl (by decide +kernel) rfl rfl (by rw [lF_43]; decide) (by decide +kernel : decode cX10_init 449 = .ok (.putfield 191, 3)) (fun H449 locs449 hP hD hS => ?_)
  rw [kset0 hkl] at hP hD
  obtain ⟨F_44, hF_44⟩ : ∃ F9 : List Value, F9 = [.int 0, .ref q0, .int 0, .int 100, .int 300, .int 20, .ref q1, .ref q2, .ref q3, .ref q4, .ref q5, .ref q6, .ref q7, .ref q8, .ref q9, .int 0, .int 0, .ref q10, .ref q11, .int 1, .int 0, .ref q12, .ref q13, .ref q14, .ref q15, .ref q16, .ref q17, .int 0, .int 0, .int 0, .ref q18, .ref q19, .ref q20, .ref q21, .int 0, .ref q22, .ref q23, .ref q24, .int 0, .int 0, .int 0, .int 0, .int 0, .int 0, .int 0, .int 0, .int 0, .null, .null, .null, .null, .int 0, .null, .null, .null, .int 0, .null, .int 0, .null, .null, .int 0, .int 0, .int 0] := ⟨_, rfl⟩
  have lF_44 : F_44.length = 63 := by rw [hF_44]; rfl
  rw [show F_43.set 43 (.int 0) = F_44 by rw [hF_43, hF_44]; rfl] at hP hD
  refine lv_aload_n (k := 0) hx hb (by decide +kernel : decode cX10_init 452 = .ok (.aload_n 0, 1)) rfl (lv_at hl 0 rfl) ?_
  refine lv_iconst (v := (-1)) hx hb (by decide +kernel : decode cX10_init 453 = .ok (.iconst (-1), 1)) (by decide) ?_
  refine va_put (D := D) (ci := 10) (v := .int (-1)) (ty := .int) (C := RX10) (T := TX10) (N := 63) hx hb hts qin10 tyX10 tyX10_ok nmX10 hown hK hP hD hS k (kat0 hkl) rfl 44 (Nat.le_of_ble_eq_true rfl) (hts _ (kw10 _ (List.mem_of_getElem? (i := 68) rfl))) (fun _ h9 => h9) rfl (by decide +kernel) rfl rfl (by rw [lF_44]; decide) (by decide +kernel : decode cX10_init 454 = .ok (.putfield 194, 3)) (fun H454 locs454 hP hD hS => ?_)
  rw [kset0 hkl] at hP hD
  obtain ⟨F_45, hF_45⟩ : ∃ F9 : List Value, F9 = [.int 0, .ref q0, .int 0, .int 100, .int 300, .int 20, .ref q1, .ref q2, .ref q3, .ref q4, .ref q5, .ref q6, .ref q7, .ref q8, .ref q9, .int 0, .int 0, .ref q10, .ref q11, .int 1, .int 0, .ref q12, .ref q13, .ref q14, .ref q15, .ref q16, .ref q17, .int 0, .int 0, .int 0, .ref q18, .ref q19, .ref q20, .ref q21, .int 0, .ref q22, .ref q23, .ref q24, .int 0, .int 0, .int 0, .int 0, .int 0, .int 0, .int (-1), .int 0, .int 0, .null, .null, .null, .null, .int 0, .null, .null, .null, .int 0, .null, .int 0, .null, .null, .int 0, .int 0, .int 0] := ⟨_, rfl⟩
  have lF_45 : F_45.length = 63 := by rw [hF_45]; rfl
  rw [show F_44.set 44 (.int (-1)) = F_45 by rw [hF_44, hF_45]; rfl] at hP hD
  refine lv_aload_n (k := 0) hx hb (by decide +kernel : decode cX10_init 457 = .ok (.aload_n 0, 1)) rfl (lv_at hl 0 rfl) ?_
  refine lv_iconst (v := 0) hx hb (by decide +kernel : decode cX10_init 458 = .ok (.iconst 0, 1)) (by decide) ?_
  refine va_put (D := D) (ci := 10) (v := .int 0) (ty := .int) (C := RX10) (T := TX10) (N := 63) hx hb hts qin10 tyX10 tyX10_ok nmX10 hown hK hP hD hS k (kat0 hkl) rfl 45 (Nat.le_of_ble_eq_true rfl) (hts _ (kw10 _ (List.mem_of_getElem? (i := 69) rfl))) (fun _ h9 => h9) rfl (by decide +kernel) rfl rfl (by rw [lF_45]; decide) (by decide +kernel : decode cX10_init 459 = .ok (.putfield 197, 3)) (fun H459 locs459 hP hD hS => ?_)
  rw [kset0 hkl] at hP hD
  obtain ⟨F_46, hF_46⟩ : ∃ F9 : List Value, F9 = [.int 0, .ref q0, .int 0, .int 100, .int 300, .int 20, .ref q1, .ref q2, .ref q3, .ref q4, .ref q5, .ref q6, .ref q7, .ref q8, .ref q9, .int 0, .int 0, .ref q10, .ref q11, .int 1, .int 0, .ref q12, .ref q13, .ref q14, .ref q15, .ref q16, .ref q17, .int 0, .int 0, .int 0, .ref q18, .ref q19, .ref q20, .ref q21, .int 0, .ref q22, .ref q23, .ref q24, .int 0, .int 0, .int 0, .int 0, .int 0, .int 0, .int (-1), .int 0, .int 0, .null, .null, .null, .null, .int 0, .null, .null, .null, .int 0, .null, .int 0, .null, .null, .int 0, .int 0, .int 0] := ⟨_, rfl⟩
  have lF_46 : F_46.length = 63 := by rw [hF_46]; rfl
  rw [show F_45.set 45 (.int 0) = F_46 by rw [hF_45, hF_46]; rfl] at hP hD
  refine lv_aload_n (k := 0) hx hb (by decide +kernel : decode cX10_init 462 = .ok (.aload_n 0, 1)) rfl (lv_at hl 0 rfl) ?_
  refine lv_iconst (v := (-1)) hx hb (by decide +kernel : decode cX10_init 463 = .ok (.iconst (-1), 1)) (by decide) ?_
  refine va_put (D := D) (ci := 10) (v := .int (-1)) (ty := .int) (C := RX10) (T := TX10) (N := 63) hx hb hts qin10 tyX10 tyX10_ok nmX10 hown hK hP hD hS k (kat0 hkl) rfl 46 (Nat.le_of_ble_eq_true rfl) (hts _ (kw10 _ (List.mem_of_getElem? (i := 70) rfl))) (fun _ h9 => h9) rfl (by decide +kernel) rfl rfl (by rw [lF_46]; decide) (by decide +kernel : decode cX10_init 464 = .ok (.putfield 200, 3)) (fun H464 locs464 hP hD hS => ?_)
  rw [kset0 hkl] at hP hD
  obtain ⟨F_47, hF_47⟩ : ∃ F9 : List Value, F9 = [.int 0, .ref q0, .int 0, .int 100, .int 300, .int 20, .ref q1, .ref q2, .ref q3, .ref q4, .ref q5, .ref q6, .ref q7, .ref q8, .ref q9, .int 0, .int 0, .ref q10, .ref q11, .int 1, .int 0, .ref q12, .ref q13, .ref q14, .ref q15, .ref q16, .ref q17, .int 0, .int 0, .int 0, .ref q18, .ref q19, .ref q20, .ref q21, .int 0, .ref q22, .ref q23, .ref q24, .int 0, .int 0, .int 0, .int 0, .int 0, .int 0, .int (-1), .int 0, .int (-1), .null, .null, .null, .null, .int 0, .null, .null, .null, .int 0, .null, .int 0, .null, .null, .int 0, .int 0, .int 0] := ⟨_, rfl⟩
  have lF_47 : F_47.length = 63 := by rw [hF_47]; rfl
  rw [show F_46.set 46 (.int (-1)) = F_47 by rw [hF_46, hF_47]; rfl] at hP hD
  refine lv_aload_n (k := 0) hx hb (by decide +kernel : decode cX10_init 467 = .ok (.aload_n 0, 1)) rfl (lv_at hl 0 rfl) ?_
  refine lv_bipush (v := nI 61) hx hb (by decide +kernel : decode cX10_init 468 = .ok (.bipush 61, 2)) (by decide) ?_
  refine va_newa (atype := .int) (ty := .int) (N' := 61) (a0 := (61, .inl (fun _ => 0))) hx hb (hts _ (kw10 _ (List.mem_of_getElem? (i := 4) rfl))) rfl hK hP hD hS hA (fun _ => rfl) (by decide) (by decide) (by decide) (Nat.le_of_ble_eq_true rfl) (Nat.le_of_ble_eq_true rfl) (by decide +kernel : decode cX10_init 470 = .ok (.newarray .int, 2)) (fun q25 cA H470 hK1 hP hD hS => ?_)
  have ec := kcs 0 (fun C h => by cases h) rfl hK1
  subst ec
  clear hK1
  rw [List.append_assoc] at hP hD
  obtain ⟨L_26, hL_26⟩ : ∃ L9 : va_W, L9 = [(q0, .inl (cs 0, 900, .inl (fun _ => 0))), (q1, .inl (cs 0, 400, .inl (fun _ => 0))), (q2, .inl (cs 0, 400, .inl (fun _ => 0))), (q3, .inl (cs 0, 400, .inl (fun _ => 0))), (q4, .inl (cs 0, 400, .inl (fun _ => 0))), (q5, .inl (cs 0, 400, .inl (fun _ => 0))), (q6, .inl (cs 0, 400, .inl (fun _ => 0))), (q7, .inl (cs 0, 400, .inl (fun _ => 0))), (q8, .inl (cs 0, 400, .inl (fun _ => 0))), (q9, .inl (cs 2, 400, .inl (fun _ => 0))), (q10, .inl (cs 0, 401, .inl (fun _ => 0))), (q11, .inl (cs 0, 401, .inl (fun _ => 0))), (q12, .inl (cs 0, 4, .inl (upd (upd (upd (upd (fun _ => 0) 0 (-1)) 1 (-1)) 2 (-1)) 3 (-1)))), (q13, .inl (cs 0, 1600, .inl (fun _ => 0))), (q14, .inl (cs 0, 4, .inl (fun _ => 0))), (q15, .inl (cs 0, 6, .inl (fun _ => 0))), (q16, .inl (cs 0, 6, .inl (fun _ => 0))), (q17, .inl (cs 2, 2400, .inl (fun _ => 0))), (q18, .inl (cs 0, 32, .inl (fun _ => 0))), (q19, .inl (cs 2, 8, .inl (fun _ => 0))), (q20, .inl (cs 0, 6, .inl (fun _ => 0))), (q21, .inl (cs 0, 150, .inl (fun _ => 0))), (q22, .inl (cs 0, 32, .inl (fun _ => 0))), (q23, .inl (cs 2, 8, .inl (fun _ => 0))), (q24, .inl (cs 3, 18, .inr (.inl (vp_updL (vp_updL (vp_updL (vp_updL (vp_updL (vp_updL (vp_updL (vp_updL (vp_updL (vp_updL (vp_updL (vp_updL (vp_updL (vp_updL (vp_updL (vp_updL (vp_updL (vp_updL (fun _ => 0) 0 2268462) 1 116831540) 2 1130068) 3 24716933) 4 609664709) 5 114201) 6 628164) 7 343342) 8 594980) 9 6706792) 10 427595) 11 609752116) 12 762030) 13 302) 14 464660) 15 5018519941) 16 2937011) 17 719918116)))), (q25, .inl (cs 0, 61, .inl (fun _ => 0)))] := ⟨_, rfl⟩
  have lL_26 : L_26.length = 26 := by rw [hL_26]; rfl
  rw [show L_25 ++ [(q25, .inl (cs 0, 61, .inl (fun _ => 0)))] = L_26 by rw [hL_25, hL_26]; rfl] at hP hD
  refine va_putF (D := D) (ci := 10) (v := .ref q25) (ty := .array .int) (C := RX10) (T := TX10) (N := 63) hx hb hts qin10 tyX10 tyX10_ok nmX10 hown hK hP hD hS k (kat0 hkl) rfl 47 (Nat.le_of_ble_eq_true rfl) (hts _ (kw10 _ (List.mem_of_getElem? (i := 71) rfl))) (fun _ h9 => h9) rfl hin rfl (by decide +kernel) rfl rfl (by rw [lF_47]; decide) (by decide +kernel : decode cX10_init 472 = .ok (.putfield 203, 3)) (fun H472 locs472 hP hD hS => ?_)
  rw [kset0 hkl] at hP hD
  obtain ⟨F_48, hF_48⟩ : ∃ F9 : List Value, F9 = [.int 0, .ref q0, .int 0, .int 100, .int 300, .int 20, .ref q1, .ref q2, .ref q3, .ref q4, .ref q5, .ref q6, .ref q7, .ref q8, .ref q9, .int 0, .int 0, .ref q10, .ref q11, .int 1, .int 0, .ref q12, .ref q13, .ref q14, .ref q15, .ref q16, .ref q17, .int 0, .int 0, .int 0, .ref q18, .ref q19, .ref q20, .ref q21, .int 0, .ref q22, .ref q23, .ref q24, .int 0, .int 0, .int 0, .int 0, .int 0, .int 0, .int (-1), .int 0, .int (-1), .ref q25, .null, .null, .null, .int 0, .null, .null, .null, .int 0, .null, .int 0, .null, .null, .int 0, .int 0, .int 0] := ⟨_, rfl⟩
  have lF_48 : F_48.length = 63 := by rw [hF_48]; rfl
  rw [show F_47.set 47 (.ref q25) = F_48 by rw [hF_47, hF_48]; rfl] at hP hD
  refine lv_aload_n (k := 0) hx hb (by decide +kernel : decode cX10_init 475 = .ok (.aload_n 0, 1)) rfl (lv_at hl 0 rfl) ?_
  refine lv_bipush (v := nI 61) hx hb (by decide +kernel : decode cX10_init 476 = .ok (.bipush 61, 2)) (by decide) ?_
  refine va_newa (atype := .int) (ty := .int) (N' := 61) (a0 := (61, .inl (fun _ => 0))) hx hb (hts _ (kw10 _ (List.mem_of_getElem? (i := 4) rfl))) rfl hK hP hD hS hA (fun _ => rfl) (by decide) (by decide) (by decide) (Nat.le_of_ble_eq_true rfl) (Nat.le_of_ble_eq_true rfl) (by decide +kernel : decode cX10_init 478 = .ok (.newarray .int, 2)) (fun q26 cA H478 hK1 hP hD hS => ?_)
  have ec := kcs 0 (fun C h => by cases h) rfl hK1
  subst ec
  clear hK1
  rw [List.append_assoc] at hP hD
  obtain ⟨L_27, hL_27⟩ : ∃ L9 : va_W, L9 = [(q0, .inl (cs 0, 900, .inl (fun _ => 0))), (q1, .inl (cs 0, 400, .inl (fun _ => 0))), (q2, .inl (cs 0, 400, .inl (fun _ => 0))), (q3, .inl (cs 0, 400, .inl (fun _ => 0))), (q4, .inl (cs 0, 400, .inl (fun _ => 0))), (q5, .inl (cs 0, 400, .inl (fun _ => 0))), (q6, .inl (cs 0, 400, .inl (fun _ => 0))), (q7, .inl (cs 0, 400, .inl (fun _ => 0))), (q8, .inl (cs 0, 400, .inl (fun _ => 0))), (q9, .inl (cs 2, 400, .inl (fun _ => 0))), (q10, .inl (cs 0, 401, .inl (fun _ => 0))), (q11, .inl (cs 0, 401, .inl (fun _ => 0))), (q12, .inl (cs 0, 4, .inl (upd (upd (upd (upd (fun _ => 0) 0 (-1)) 1 (-1)) 2 (-1)) 3 (-1)))), (q13, .inl (cs 0, 1600, .inl (fun _ => 0))), (q14, .inl (cs 0, 4, .inl (fun _ => 0))), (q15, .inl (cs 0, 6, .inl (fun _ => 0))), (q16, .inl (cs 0, 6, .inl (fun _ => 0))), (q17, .inl (cs 2, 2400, .inl (fun _ => 0))), (q18, .inl (cs 0, 32, .inl (fun _ => 0))), (q19, .inl (cs 2, 8, .inl (fun _ => 0))), (q20, .inl (cs 0, 6, .inl (fun _ => 0))), (q21, .inl (cs 0, 150, .inl (fun _ => 0))), (q22, .inl (cs 0, 32, .inl (fun _ => 0))), (q23, .inl (cs 2, 8, .inl (fun _ => 0))), (q24, .inl (cs 3, 18, .inr (.inl (vp_updL (vp_updL (vp_updL (vp_updL (vp_updL (vp_updL (vp_updL (vp_updL (vp_updL (vp_updL (vp_updL (vp_updL (vp_updL (vp_updL (vp_updL (vp_updL (vp_updL (vp_updL (fun _ => 0) 0 2268462) 1 116831540) 2 1130068) 3 24716933) 4 609664709) 5 114201) 6 628164) 7 343342) 8 594980) 9 6706792) 10 427595) 11 609752116) 12 762030) 13 302) 14 464660) 15 5018519941) 16 2937011) 17 719918116)))), (q25, .inl (cs 0, 61, .inl (fun _ => 0))), (q26, .inl (cs 0, 61, .inl (fun _ => 0)))] := ⟨_, rfl⟩
  have lL_27 : L_27.length = 27 := by rw [hL_27]; rfl
  rw [show L_26 ++ [(q26, .inl (cs 0, 61, .inl (fun _ => 0)))] = L_27 by rw [hL_26, hL_27]; rfl] at hP hD
  refine va_putF (D := D) (ci := 10) (v := .ref q26) (ty := .array .int) (C := RX10) (T := TX10) (N := 63) hx hb hts qin10 tyX10 tyX10_ok nmX10 hown hK hP hD hS k (kat0 hkl) rfl 48 (Nat.le_of_ble_eq_true rfl) (hts _ (kw10 _ (List.mem_of_getElem? (i := 72) rfl))) (fun _ h9 => h9) rfl hin rfl (by decide +kernel) rfl rfl (by rw [lF_48]; decide) (by decide +kernel : decode cX10_init 480 = .ok (.putfield 206, 3)) (fun H480 locs480 hP hD hS => ?_)
  rw [kset0 hkl] at hP hD
  obtain ⟨F_49, hF_49⟩ : ∃ F9 : List Value, F9 = [.int 0, .ref q0, .int 0, .int 100, .int 300, .int 20, .ref q1, .ref q2, .ref q3, .ref q4, .ref q5, .ref q6, .ref q7, .ref q8, .ref q9, .int 0, .int 0, .ref q10, .ref q11, .int 1, .int 0, .ref q12, .ref q13, .ref q14, .ref q15, .ref q16, .ref q17, .int 0, .int 0, .int 0, .ref q18, .ref q19, .ref q20, .ref q21, .int 0, .ref q22, .ref q23, .ref q24, .int 0, .int 0, .int 0, .int 0, .int 0, .int 0, .int (-1), .int 0, .int (-1), .ref q25, .ref q26, .null, .null, .int 0, .null, .null, .null, .int 0, .null, .int 0, .null, .null, .int 0, .int 0, .int 0] := ⟨_, rfl⟩
  have lF_49 : F_49.length = 63 := by rw [hF_49]; rfl
  rw [show F_48.set 48 (.ref q26) = F_49 by rw [hF_48, hF_49]; rfl] at hP hD
  refine lv_aload_n (k := 0) hx hb (by decide +kernel : decode cX10_init 483 = .ok (.aload_n 0, 1)) rfl (lv_at hl 0 rfl) ?_
  refine lv_sipush (v := nI 244) hx hb (by decide +kernel : decode cX10_init 484 = .ok (.sipush 244, 3)) (by decide) ?_
  refine va_newa (atype := .int) (ty := .int) (N' := 244) (a0 := (244, .inl (fun _ => 0))) hx hb (hts _ (kw10 _ (List.mem_of_getElem? (i := 4) rfl))) rfl hK hP hD hS hA (fun _ => rfl) (by decide) (by decide) (by decide) (Nat.le_of_ble_eq_true rfl) (Nat.le_of_ble_eq_true rfl) (by decide +kernel : decode cX10_init 487 = .ok (.newarray .int, 2)) (fun q27 cA H487 hK1 hP hD hS => ?_)
  have ec := kcs 0 (fun C h => by cases h) rfl hK1
  subst ec
  clear hK1
  rw [List.append_assoc] at hP hD
  obtain ⟨L_28, hL_28⟩ : ∃ L9 : va_W, L9 = [(q0, .inl (cs 0, 900, .inl (fun _ => 0))), (q1, .inl (cs 0, 400, .inl (fun _ => 0))), (q2, .inl (cs 0, 400, .inl (fun _ => 0))), (q3, .inl (cs 0, 400, .inl (fun _ => 0))), (q4, .inl (cs 0, 400, .inl (fun _ => 0))), (q5, .inl (cs 0, 400, .inl (fun _ => 0))), (q6, .inl (cs 0, 400, .inl (fun _ => 0))), (q7, .inl (cs 0, 400, .inl (fun _ => 0))), (q8, .inl (cs 0, 400, .inl (fun _ => 0))), (q9, .inl (cs 2, 400, .inl (fun _ => 0))), (q10, .inl (cs 0, 401, .inl (fun _ => 0))), (q11, .inl (cs 0, 401, .inl (fun _ => 0))), (q12, .inl (cs 0, 4, .inl (upd (upd (upd (upd (fun _ => 0) 0 (-1)) 1 (-1)) 2 (-1)) 3 (-1)))), (q13, .inl (cs 0, 1600, .inl (fun _ => 0))), (q14, .inl (cs 0, 4, .inl (fun _ => 0))), (q15, .inl (cs 0, 6, .inl (fun _ => 0))), (q16, .inl (cs 0, 6, .inl (fun _ => 0))), (q17, .inl (cs 2, 2400, .inl (fun _ => 0))), (q18, .inl (cs 0, 32, .inl (fun _ => 0))), (q19, .inl (cs 2, 8, .inl (fun _ => 0))), (q20, .inl (cs 0, 6, .inl (fun _ => 0))), (q21, .inl (cs 0, 150, .inl (fun _ => 0))), (q22, .inl (cs 0, 32, .inl (fun _ => 0))), (q23, .inl (cs 2, 8, .inl (fun _ => 0))), (q24, .inl (cs 3, 18, .inr (.inl (vp_updL (vp_updL (vp_updL (vp_updL (vp_updL (vp_updL (vp_updL (vp_updL (vp_updL (vp_updL (vp_updL (vp_updL (vp_updL (vp_updL (vp_updL (vp_updL (vp_updL (vp_updL (fun _ => 0) 0 2268462) 1 116831540) 2 1130068) 3 24716933) 4 609664709) 5 114201) 6 628164) 7 343342) 8 594980) 9 6706792) 10 427595) 11 609752116) 12 762030) 13 302) 14 464660) 15 5018519941) 16 2937011) 17 719918116)))), (q25, .inl (cs 0, 61, .inl (fun _ => 0))), (q26, .inl (cs 0, 61, .inl (fun _ => 0))), (q27, .inl (cs 0, 244, .inl (fun _ => 0)))] := ⟨_, rfl⟩
  have lL_28 : L_28.length = 28 := by rw [hL_28]; rfl
  rw [show L_27 ++ [(q27, .inl (cs 0, 244, .inl (fun _ => 0)))] = L_28 by rw [hL_27, hL_28]; rfl] at hP hD
  refine va_putF (D := D) (ci := 10) (v := .ref q27) (ty := .array .int) (C := RX10) (T := TX10) (N := 63) hx hb hts qin10 tyX10 tyX10_ok nmX10 hown hK hP hD hS k (kat0 hkl) rfl 49 (Nat.le_of_ble_eq_true rfl) (hts _ (kw10 _ (List.mem_of_getElem? (i := 73) rfl))) (fun _ h9 => h9) rfl hin rfl (by decide +kernel) rfl rfl (by rw [lF_49]; decide) (by decide +kernel : decode cX10_init 489 = .ok (.putfield 209, 3)) (fun H489 locs489 hP hD hS => ?_)
  rw [kset0 hkl] at hP hD
  obtain ⟨F_50, hF_50⟩ : ∃ F9 : List Value, F9 = [.int 0, .ref q0, .int 0, .int 100, .int 300, .int 20, .ref q1, .ref q2, .ref q3, .ref q4, .ref q5, .ref q6, .ref q7, .ref q8, .ref q9, .int 0, .int 0, .ref q10, .ref q11, .int 1, .int 0, .ref q12, .ref q13, .ref q14, .ref q15, .ref q16, .ref q17, .int 0, .int 0, .int 0, .ref q18, .ref q19, .ref q20, .ref q21, .int 0, .ref q22, .ref q23, .ref q24, .int 0, .int 0, .int 0, .int 0, .int 0, .int 0, .int (-1), .int 0, .int (-1), .ref q25, .ref q26, .ref q27, .null, .int 0, .null, .null, .null, .int 0, .null, .int 0, .null, .null, .int 0, .int 0, .int 0] := ⟨_, rfl⟩
  have lF_50 : F_50.length = 63 := by rw [hF_50]; rfl
  rw [show F_49.set 49 (.ref q27) = F_50 by rw [hF_49, hF_50]; rfl] at hP hD
  refine lv_aload_n (k := 0) hx hb (by decide +kernel : decode cX10_init 492 = .ok (.aload_n 0, 1)) rfl (lv_at hl 0 rfl) ?_
  refine lv_bipush (v := nI 61) hx hb (by decide +kernel : decode cX10_init 493 = .ok (.bipush 61, 2)) (by decide) ?_
  refine va_newa (atype := .int) (ty := .int) (N' := 61) (a0 := (61, .inl (fun _ => 0))) hx hb (hts _ (kw10 _ (List.mem_of_getElem? (i := 4) rfl))) rfl hK hP hD hS hA (fun _ => rfl) (by decide) (by decide) (by decide) (Nat.le_of_ble_eq_true rfl) (Nat.le_of_ble_eq_true rfl) (by decide +kernel : decode cX10_init 495 = .ok (.newarray .int, 2)) (fun q28 cA H495 hK1 hP hD hS => ?_)
  have ec := kcs 0 (fun C h => by cases h) rfl hK1
  subst ec
  clear hK1
  rw [List.append_assoc] at hP hD
  obtain ⟨L_29, hL_29⟩ : ∃ L9 : va_W, L9 = [(q0, .inl (cs 0, 900, .inl (fun _ => 0))), (q1, .inl (cs 0, 400, .inl (fun _ => 0))), (q2, .inl (cs 0, 400, .inl (fun _ => 0))), (q3, .inl (cs 0, 400, .inl (fun _ => 0))), (q4, .inl (cs 0, 400, .inl (fun _ => 0))), (q5, .inl (cs 0, 400, .inl (fun _ => 0))), (q6, .inl (cs 0, 400, .inl (fun _ => 0))), (q7, .inl (cs 0, 400, .inl (fun _ => 0))), (q8, .inl (cs 0, 400, .inl (fun _ => 0))), (q9, .inl (cs 2, 400, .inl (fun _ => 0))), (q10, .inl (cs 0, 401, .inl (fun _ => 0))), (q11, .inl (cs 0, 401, .inl (fun _ => 0))), (q12, .inl (cs 0, 4, .inl (upd (upd (upd (upd (fun _ => 0) 0 (-1)) 1 (-1)) 2 (-1)) 3 (-1)))), (q13, .inl (cs 0, 1600, .inl (fun _ => 0))), (q14, .inl (cs 0, 4, .inl (fun _ => 0))), (q15, .inl (cs 0, 6, .inl (fun _ => 0))), (q16, .inl (cs 0, 6, .inl (fun _ => 0))), (q17, .inl (cs 2, 2400, .inl (fun _ => 0))), (q18, .inl (cs 0, 32, .inl (fun _ => 0))), (q19, .inl (cs 2, 8, .inl (fun _ => 0))), (q20, .inl (cs 0, 6, .inl (fun _ => 0))), (q21, .inl (cs 0, 150, .inl (fun _ => 0))), (q22, .inl (cs 0, 32, .inl (fun _ => 0))), (q23, .inl (cs 2, 8, .inl (fun _ => 0))), (q24, .inl (cs 3, 18, .inr (.inl (vp_updL (vp_updL (vp_updL (vp_updL (vp_updL (vp_updL (vp_updL (vp_updL (vp_updL (vp_updL (vp_updL (vp_updL (vp_updL (vp_updL (vp_updL (vp_updL (vp_updL (vp_updL (fun _ => 0) 0 2268462) 1 116831540) 2 1130068) 3 24716933) 4 609664709) 5 114201) 6 628164) 7 343342) 8 594980) 9 6706792) 10 427595) 11 609752116) 12 762030) 13 302) 14 464660) 15 5018519941) 16 2937011) 17 719918116)))), (q25, .inl (cs 0, 61, .inl (fun _ => 0))), (q26, .inl (cs 0, 61, .inl (fun _ => 0))), (q27, .inl (cs 0, 244, .inl (fun _ => 0))), (q28, .inl (cs 0, 61, .inl (fun _ => 0)))] := ⟨_, rfl⟩
  have lL_29 : L_29.length = 29 := by rw [hL_29]; rfl
  rw [show L_28 ++ [(q28, .inl (cs 0, 61, .inl (fun _ => 0)))] = L_29 by rw [hL_28, hL_29]; rfl] at hP hD
  refine va_putF (D := D) (ci := 10) (v := .ref q28) (ty := .array .int) (C := RX10) (T := TX10) (N := 63) hx hb hts qin10 tyX10 tyX10_ok nmX10 hown hK hP hD hS k (kat0 hkl) rfl 50 (Nat.le_of_ble_eq_true rfl) (hts _ (kw10 _ (List.mem_of_getElem? (i := 74) rfl))) (fun _ h9 => h9) rfl hin rfl (by decide +kernel) rfl rfl (by rw [lF_50]; decide) (by decide +kernel : decode cX10_init 497 = .ok (.putfield 212, 3)) (fun H497 locs497 hP hD hS => ?_)
  rw [kset0 hkl] at hP hD
  obtain ⟨F_51, hF_51⟩ : ∃ F9 : List Value, F9 = [.int 0, .ref q0, .int 0, .int 100, .int 300, .int 20, .ref q1, .ref q2, .ref q3, .ref q4, .ref q5, .ref q6, .ref q7, .ref q8, .ref q9, .int 0, .int 0, .ref q10, .ref q11, .int 1, .int 0, .ref q12, .ref q13, .ref q14, .ref q15, .ref q16, .ref q17, .int 0, .int 0, .int 0, .ref q18, .ref q19, .ref q20, .ref q21, .int 0, .ref q22, .ref q23, .ref q24, .int 0, .int 0, .int 0, .int 0, .int 0, .int 0, .int (-1), .int 0, .int (-1), .ref q25, .ref q26, .ref q27, .ref q28, .int 0, .null, .null, .null, .int 0, .null, .int 0, .null, .null, .int 0, .int 0, .int 0] := ⟨_, rfl⟩
  have lF_51 : F_51.length = 63 := by rw [hF_51]; rfl
  rw [show F_50.set 50 (.ref q28) = F_51 by rw [hF_50, hF_51]; rfl] at hP hD
  refine lv_aload_n (k := 0) hx hb (by decide +kernel : decode cX10_init 500 = .ok (.aload_n 0, 1)) rfl (lv_at hl 0 rfl) ?_
  refine lv_iconst (v := 0) hx hb (by decide +kernel : decode cX10_init 501 = .ok (.iconst 0, 1)) (by decide) ?_
  refine va_put (D := D) (ci := 10) (v := .int 0) (ty := .int) (C := RX10) (T := TX10) (N := 63) hx hb hts qin10 tyX10 tyX10_ok nmX10 hown hK hP hD hS k (kat0 hkl) rfl 51 (Nat.le_of_ble_eq_true rfl) (hts _ (kw10 _ (List.mem_of_getElem? (i := 75) rfl))) (fun _ h9 => h9) rfl (by decide +kernel) rfl rfl (by rw [lF_51]; decide) (by decide +kernel : decode cX10_init 502 = .ok (.putfield 215, 3)) (fun H502 locs502 hP hD hS => ?_)
  rw [kset0 hkl] at hP hD
  obtain ⟨F_52, hF_52⟩ : ∃ F9 : List Value, F9 = [.int 0, .ref q0, .int 0, .int 100, .int 300, .int 20, .ref q1, .ref q2, .ref q3, .ref q4, .ref q5, .ref q6, .ref q7, .ref q8, .ref q9, .int 0, .int 0, .ref q10, .ref q11, .int 1, .int 0, .ref q12, .ref q13, .ref q14, .ref q15, .ref q16, .ref q17, .int 0, .int 0, .int 0, .ref q18, .ref q19, .ref q20, .ref q21, .int 0, .ref q22, .ref q23, .ref q24, .int 0, .int 0, .int 0, .int 0, .int 0, .int 0, .int (-1), .int 0, .int (-1), .ref q25, .ref q26, .ref q27, .ref q28, .int 0, .null, .null, .null, .int 0, .null, .int 0, .null, .null, .int 0, .int 0, .int 0] := ⟨_, rfl⟩
  have lF_52 : F_52.length = 63 := by rw [hF_52]; rfl
  rw [show F_51.set 51 (.int 0) = F_52 by rw [hF_51, hF_52]; rfl] at hP hD
  refine lv_aload_n (k := 0) hx hb (by decide +kernel : decode cX10_init 505 = .ok (.aload_n 0, 1)) rfl (lv_at hl 0 rfl) ?_
  refine lv_sipush (v := nI 500) hx hb (by decide +kernel : decode cX10_init 506 = .ok (.sipush 500, 3)) (by decide) ?_
  refine va_newa (atype := .int) (ty := .int) (N' := 500) (a0 := (500, .inl (fun _ => 0))) hx hb (hts _ (kw10 _ (List.mem_of_getElem? (i := 4) rfl))) rfl hK hP hD hS hA (fun _ => rfl) (by decide) (by decide) (by decide) (Nat.le_of_ble_eq_true rfl) (Nat.le_of_ble_eq_true rfl) (by decide +kernel : decode cX10_init 509 = .ok (.newarray .int, 2)) (fun q29 cA H509 hK1 hP hD hS => ?_)
  have ec := kcs 0 (fun C h => by cases h) rfl hK1
  subst ec
  clear hK1
  rw [List.append_assoc] at hP hD
  obtain ⟨L_30, hL_30⟩ : ∃ L9 : va_W, L9 = [(q0, .inl (cs 0, 900, .inl (fun _ => 0))), (q1, .inl (cs 0, 400, .inl (fun _ => 0))), (q2, .inl (cs 0, 400, .inl (fun _ => 0))), (q3, .inl (cs 0, 400, .inl (fun _ => 0))), (q4, .inl (cs 0, 400, .inl (fun _ => 0))), (q5, .inl (cs 0, 400, .inl (fun _ => 0))), (q6, .inl (cs 0, 400, .inl (fun _ => 0))), (q7, .inl (cs 0, 400, .inl (fun _ => 0))), (q8, .inl (cs 0, 400, .inl (fun _ => 0))), (q9, .inl (cs 2, 400, .inl (fun _ => 0))), (q10, .inl (cs 0, 401, .inl (fun _ => 0))), (q11, .inl (cs 0, 401, .inl (fun _ => 0))), (q12, .inl (cs 0, 4, .inl (upd (upd (upd (upd (fun _ => 0) 0 (-1)) 1 (-1)) 2 (-1)) 3 (-1)))), (q13, .inl (cs 0, 1600, .inl (fun _ => 0))), (q14, .inl (cs 0, 4, .inl (fun _ => 0))), (q15, .inl (cs 0, 6, .inl (fun _ => 0))), (q16, .inl (cs 0, 6, .inl (fun _ => 0))), (q17, .inl (cs 2, 2400, .inl (fun _ => 0))), (q18, .inl (cs 0, 32, .inl (fun _ => 0))), (q19, .inl (cs 2, 8, .inl (fun _ => 0))), (q20, .inl (cs 0, 6, .inl (fun _ => 0))), (q21, .inl (cs 0, 150, .inl (fun _ => 0))), (q22, .inl (cs 0, 32, .inl (fun _ => 0))), (q23, .inl (cs 2, 8, .inl (fun _ => 0))), (q24, .inl (cs 3, 18, .inr (.inl (vp_updL (vp_updL (vp_updL (vp_updL (vp_updL (vp_updL (vp_updL (vp_updL (vp_updL (vp_updL (vp_updL (vp_updL (vp_updL (vp_updL (vp_updL (vp_updL (vp_updL (vp_updL (fun _ => 0) 0 2268462) 1 116831540) 2 1130068) 3 24716933) 4 609664709) 5 114201) 6 628164) 7 343342) 8 594980) 9 6706792) 10 427595) 11 609752116) 12 762030) 13 302) 14 464660) 15 5018519941) 16 2937011) 17 719918116)))), (q25, .inl (cs 0, 61, .inl (fun _ => 0))), (q26, .inl (cs 0, 61, .inl (fun _ => 0))), (q27, .inl (cs 0, 244, .inl (fun _ => 0))), (q28, .inl (cs 0, 61, .inl (fun _ => 0))), (q29, .inl (cs 0, 500, .inl (fun _ => 0)))] := ⟨_, rfl⟩
  have lL_30 : L_30.length = 30 := by rw [hL_30]; rfl
  rw [show L_29 ++ [(q29, .inl (cs 0, 500, .inl (fun _ => 0)))] = L_30 by rw [hL_29, hL_30]; rfl] at hP hD
  refine va_putF (D := D) (ci := 10) (v := .ref q29) (ty := .array .int) (C := RX10) (T := TX10) (N := 63) hx hb hts qin10 tyX10 tyX10_ok nmX10 hown hK hP hD hS k (kat0 hkl) rfl 52 (Nat.le_of_ble_eq_true rfl) (hts _ (kw10 _ (List.mem_of_getElem? (i := 76) rfl))) (fun _ h9 => h9) rfl hin rfl (by decide +kernel) rfl rfl (by rw [lF_52]; decide) (by decide +kernel : decode cX10_init 511 = .ok (.putfield 218, 3)) (fun H511 locs511 hP hD hS => ?_)
  rw [kset0 hkl] at hP hD
  obtain ⟨F_53, hF_53⟩ : ∃ F9 : List Value, F9 = [.int 0, .ref q0, .int 0, .int 100, .int 300, .int 20, .ref q1, .ref q2, .ref q3, .ref q4, .ref q5, .ref q6, .ref q7, .ref q8, .ref q9, .int 0, .int 0, .ref q10, .ref q11, .int 1, .int 0, .ref q12, .ref q13, .ref q14, .ref q15, .ref q16, .ref q17, .int 0, .int 0, .int 0, .ref q18, .ref q19, .ref q20, .ref q21, .int 0, .ref q22, .ref q23, .ref q24, .int 0, .int 0, .int 0, .int 0, .int 0, .int 0, .int (-1), .int 0, .int (-1), .ref q25, .ref q26, .ref q27, .ref q28, .int 0, .ref q29, .null, .null, .int 0, .null, .int 0, .null, .null, .int 0, .int 0, .int 0] := ⟨_, rfl⟩
  have lF_53 : F_53.length = 63 := by rw [hF_53]; rfl
  rw [show F_52.set 52 (.ref q29) = F_53 by rw [hF_52, hF_53]; rfl] at hP hD
  refine lv_aload_n (k := 0) hx hb (by decide +kernel : decode cX10_init 514 = .ok (.aload_n 0, 1)) rfl (lv_at hl 0 rfl) ?_
  refine lv_sipush (v := nI 500) hx hb (by decide +kernel : decode cX10_init 515 = .ok (.sipush 500, 3)) (by decide) ?_
  refine va_newa (atype := .int) (ty := .int) (N' := 500) (a0 := (500, .inl (fun _ => 0))) hx hb (hts _ (kw10 _ (List.mem_of_getElem? (i := 4) rfl))) rfl hK hP hD hS hA (fun _ => rfl) (by decide) (by decide) (by decide) (Nat.le_of_ble_eq_true rfl) (Nat.le_of_ble_eq_true rfl) (by decide +kernel : decode cX10_init 518 = .ok (.newarray .int, 2)) (fun q30 cA H518 hK1 hP hD hS => ?_)
  have ec := kcs 0 (fun C h => by cases h) rfl hK1
  subst ec
  clear hK1
  rw [List.append_assoc] at hP hD
  obtain ⟨L_31, hL_31⟩ : ∃ L9 : va_W, L9 = [(q0, .inl (cs 0, 900, .inl (fun _ => 0))), (q1, .inl (cs 0, 400, .inl (fun _ => 0))), (q2, .inl (cs 0, 400, .inl (fun _ => 0))), (q3, .inl (cs 0, 400, .inl (fun _ => 0))), (q4, .inl (cs 0, 400, .inl (fun _ => 0))), (q5, .inl (cs 0, 400, .inl (fun _ => 0))), (q6, .inl (cs 0, 400, .inl (fun _ => 0))), (q7, .inl (cs 0, 400, .inl (fun _ => 0))), (q8, .inl (cs 0, 400, .inl (fun _ => 0))), (q9, .inl (cs 2, 400, .inl (fun _ => 0))), (q10, .inl (cs 0, 401, .inl (fun _ => 0))), (q11, .inl (cs 0, 401, .inl (fun _ => 0))), (q12, .inl (cs 0, 4, .inl (upd (upd (upd (upd (fun _ => 0) 0 (-1)) 1 (-1)) 2 (-1)) 3 (-1)))), (q13, .inl (cs 0, 1600, .inl (fun _ => 0))), (q14, .inl (cs 0, 4, .inl (fun _ => 0))), (q15, .inl (cs 0, 6, .inl (fun _ => 0))), (q16, .inl (cs 0, 6, .inl (fun _ => 0))), (q17, .inl (cs 2, 2400, .inl (fun _ => 0))), (q18, .inl (cs 0, 32, .inl (fun _ => 0))), (q19, .inl (cs 2, 8, .inl (fun _ => 0))), (q20, .inl (cs 0, 6, .inl (fun _ => 0))), (q21, .inl (cs 0, 150, .inl (fun _ => 0))), (q22, .inl (cs 0, 32, .inl (fun _ => 0))), (q23, .inl (cs 2, 8, .inl (fun _ => 0))), (q24, .inl (cs 3, 18, .inr (.inl (vp_updL (vp_updL (vp_updL (vp_updL (vp_updL (vp_updL (vp_updL (vp_updL (vp_updL (vp_updL (vp_updL (vp_updL (vp_updL (vp_updL (vp_updL (vp_updL (vp_updL (vp_updL (fun _ => 0) 0 2268462) 1 116831540) 2 1130068) 3 24716933) 4 609664709) 5 114201) 6 628164) 7 343342) 8 594980) 9 6706792) 10 427595) 11 609752116) 12 762030) 13 302) 14 464660) 15 5018519941) 16 2937011) 17 719918116)))), (q25, .inl (cs 0, 61, .inl (fun _ => 0))), (q26, .inl (cs 0, 61, .inl (fun _ => 0))), (q27, .inl (cs 0, 244, .inl (fun _ => 0))), (q28, .inl (cs 0, 61, .inl (fun _ => 0))), (q29, .inl (cs 0, 500, .inl (fun _ => 0))), (q30, .inl (cs 0, 500, .inl (fun _ => 0)))] := ⟨_, rfl⟩
  have lL_31 : L_31.length = 31 := by rw [hL_31]; rfl
  rw [show L_30 ++ [(q30, .inl (cs 0, 500, .inl (fun _ => 0)))] = L_31 by rw [hL_30, hL_31]; rfl] at hP hD
  refine va_putF (D := D) (ci := 10) (v := .ref q30) (ty := .array .int) (C := RX10) (T := TX10) (N := 63) hx hb hts qin10 tyX10 tyX10_ok nmX10 hown hK hP hD hS k (kat0 hkl) rfl 53 (Nat.le_of_ble_eq_true rfl) (hts _ (kw10 _ (List.mem_of_getElem? (i := 77) rfl))) (fun _ h9 => h9) rfl hin rfl (by decide +kernel) rfl rfl (by rw [lF_53]; decide) (by decide +kernel : decode cX10_init 520 = .ok (.putfield 221, 3)) (fun H520 locs520 hP hD hS => ?_)
  rw [kset0 hkl] at hP hD
  obtain ⟨F_54, hF_54⟩ : ∃ F9 : List Value, F9 = [.int 0, .ref q0, .int 0, .int 100, .int 300, .int 20, .ref q1, .ref q2, .ref q3, .ref q4, .ref q5, .ref q6, .ref q7, .ref q8, .ref q9, .int 0, .int 0, .ref q10, .ref q11, .int 1, .int 0, .ref q12, .ref q13, .ref q14, .ref q15, .ref q16, .ref q17, .int 0, .int 0, .int 0, .ref q18, .ref q19, .ref q20, .ref q21, .int 0, .ref q22, .ref q23, .ref q24, .int 0, .int 0, .int 0, .int 0, .int 0, .int 0, .int (-1), .int 0, .int (-1), .ref q25, .ref q26, .ref q27, .ref q28, .int 0, .ref q29, .ref q30, .null, .int 0, .null, .int 0, .null, .null, .int 0, .int 0, .int 0] := ⟨_, rfl⟩
  have lF_54 : F_54.length = 63 := by rw [hF_54]; rfl
  rw [show F_53.set 53 (.ref q30) = F_54 by rw [hF_53, hF_54]; rfl] at hP hD
  refine lv_aload_n (k := 0) hx hb (by decide +kernel : decode cX10_init 523 = .ok (.aload_n 0, 1)) rfl (lv_at hl 0 rfl) ?_
  refine lv_sipush (v := nI 500) hx hb (by decide +kernel : decode cX10_init 524 = .ok (.sipush 500, 3)) (by decide) ?_
  refine va_newa (atype := .int) (ty := .int) (N' := 500) (a0 := (500, .inl (fun _ => 0))) hx hb (hts _ (kw10 _ (List.mem_of_getElem? (i := 4) rfl))) rfl hK hP hD hS hA (fun _ => rfl) (by decide) (by decide) (by decide) (Nat.le_of_ble_eq_true rfl) (Nat.le_of_ble_eq_true rfl) (by decide +kernel : decode cX10_init 527 = .ok (.newarray .int, 2)) (fun q31 cA H527 hK1 hP hD hS => ?_)
  have ec := kcs 0 (fun C h => by cases h) rfl hK1
  subst ec
  clear hK1
  rw [List.append_assoc] at hP hD
  obtain ⟨L_32, hL_32⟩ : ∃ L9 : va_W, L9 = [(q0, .inl (cs 0, 900, .inl (fun _ => 0))), (q1, .inl (cs 0, 400, .inl (fun _ => 0))), (q2, .inl (cs 0, 400, .inl (fun _ => 0))), (q3, .inl (cs 0, 400, .inl (fun _ => 0))), (q4, .inl (cs 0, 400, .inl (fun _ => 0))), (q5, .inl (cs 0, 400, .inl (fun _ => 0))), (q6, .inl (cs 0, 400, .inl (fun _ => 0))), (q7, .inl (cs 0, 400, .inl (fun _ => 0))), (q8, .inl (cs 0, 400, .inl (fun _ => 0))), (q9, .inl (cs 2, 400, .inl (fun _ => 0))), (q10, .inl (cs 0, 401, .inl (fun _ => 0))), (q11, .inl (cs 0, 401, .inl (fun _ => 0))), (q12, .inl (cs 0, 4, .inl (upd (upd (upd (upd (fun _ => 0) 0 (-1)) 1 (-1)) 2 (-1)) 3 (-1)))), (q13, .inl (cs 0, 1600, .inl (fun _ => 0))), (q14, .inl (cs 0, 4, .inl (fun _ => 0))), (q15, .inl (cs 0, 6, .inl (fun _ => 0))), (q16, .inl (cs 0, 6, .inl (fun _ => 0))), (q17, .inl (cs 2, 2400, .inl (fun _ => 0))), (q18, .inl (cs 0, 32, .inl (fun _ => 0))), (q19, .inl (cs 2, 8, .inl (fun _ => 0))), (q20, .inl (cs 0, 6, .inl (fun _ => 0))), (q21, .inl (cs 0, 150, .inl (fun _ => 0))), (q22, .inl (cs 0, 32, .inl (fun _ => 0))), (q23, .inl (cs 2, 8, .inl (fun _ => 0))), (q24, .inl (cs 3, 18, .inr (.inl (vp_updL (vp_updL (vp_updL (vp_updL (vp_updL (vp_updL (vp_updL (vp_updL (vp_updL (vp_updL (vp_updL (vp_updL (vp_updL (vp_updL (vp_updL (vp_updL (vp_updL (vp_updL (fun _ => 0) 0 2268462) 1 116831540) 2 1130068) 3 24716933) 4 609664709) 5 114201) 6 628164) 7 343342) 8 594980) 9 6706792) 10 427595) 11 609752116) 12 762030) 13 302) 14 464660) 15 5018519941) 16 2937011) 17 719918116)))), (q25, .inl (cs 0, 61, .inl (fun _ => 0))), (q26, .inl (cs 0, 61, .inl (fun _ => 0))), (q27, .inl (cs 0, 244, .inl (fun _ => 0))), (q28, .inl (cs 0, 61, .inl (fun _ => 0))), (q29, .inl (cs 0, 500, .inl (fun _ => 0))), (q30, .inl (cs 0, 500, .inl (fun _ => 0))), (q31, .inl (cs 0, 500, .inl (fun _ => 0)))] := ⟨_, rfl⟩
  have lL_32 : L_32.length = 32 := by rw [hL_32]; rfl
  rw [show L_31 ++ [(q31, .inl (cs 0, 500, .inl (fun _ => 0)))] = L_32 by rw [hL_31, hL_32]; rfl] at hP hD
  refine va_putF (D := D) (ci := 10) (v := .ref q31) (ty := .array .int) (C := RX10) (T := TX10) (N := 63) hx hb hts qin10 tyX10 tyX10_ok nmX10 hown hK hP hD hS k (kat0 hkl) rfl 54 (Nat.le_of_ble_eq_true rfl) (hts _ (kw10 _ (List.mem_of_getElem? (i := 78) rfl))) (fun _ h9 => h9) rfl hin rfl (by decide +kernel) rfl rfl (by rw [lF_54]; decide) (by decide +kernel : decode cX10_init 529 = .ok (.putfield 224, 3)) (fun H529 locs529 hP hD hS => ?_)
  rw [kset0 hkl] at hP hD
  obtain ⟨F_55, hF_55⟩ : ∃ F9 : List Value, F9 = [.int 0, .ref q0, .int 0, .int 100, .int 300, .int 20, .ref q1, .ref q2, .ref q3, .ref q4, .ref q5, .ref q6, .ref q7, .ref q8, .ref q9, .int 0, .int 0, .ref q10, .ref q11, .int 1, .int 0, .ref q12, .ref q13, .ref q14, .ref q15, .ref q16, .ref q17, .int 0, .int 0, .int 0, .ref q18, .ref q19, .ref q20, .ref q21, .int 0, .ref q22, .ref q23, .ref q24, .int 0, .int 0, .int 0, .int 0, .int 0, .int 0, .int (-1), .int 0, .int (-1), .ref q25, .ref q26, .ref q27, .ref q28, .int 0, .ref q29, .ref q30, .ref q31, .int 0, .null, .int 0, .null, .null, .int 0, .int 0, .int 0] := ⟨_, rfl⟩
  have lF_55 : F_55.length = 63 := by rw [hF_55]; rfl
  rw [show F_54.set 54 (.ref q31) = F_55 by rw [hF_54, hF_55]; rfl] at hP hD
  refine lv_aload_n (k := 0) hx hb (by decide +kernel : decode cX10_init 532 = .ok (.aload_n 0, 1)) rfl (lv_at hl 0 rfl) ?_
  refine lv_iconst (v := 0) hx hb (by decide +kernel : decode cX10_init 533 = .ok (.iconst 0, 1)) (by decide) ?_
  refine va_put (D := D) (ci := 10) (v := .int 0) (ty := .int) (C := RX10) (T := TX10) (N := 63) hx hb hts qin10 tyX10 tyX10_ok nmX10 hown hK hP hD hS k (kat0 hkl) rfl 55 (Nat.le_of_ble_eq_true rfl) (hts _ (kw10 _ (List.mem_of_getElem? (i := 79) rfl))) (fun _ h9 => h9) rfl (by decide +kernel) rfl rfl (by rw [lF_55]; decide) (by decide +kernel : decode cX10_init 534 = .ok (.putfield 227, 3)) (fun H534 locs534 hP hD hS => ?_)
  rw [kset0 hkl] at hP hD
  obtain ⟨F_56, hF_56⟩ : ∃ F9 : List Value, F9 = [.int 0, .ref q0, .int 0, .int 100, .int 300, .int 20, .ref q1, .ref q2, .ref q3, .ref q4, .ref q5, .ref q6, .ref q7, .ref q8, .ref q9, .int 0, .int 0, .ref q10, .ref q11, .int 1, .int 0, .ref q12, .ref q13, .ref q14, .ref q15, .ref q16, .ref q17, .int 0, .int 0, .int 0, .ref q18, .ref q19, .ref q20, .ref q21, .int 0, .ref q22, .ref q23, .ref q24, .int 0, .int 0, .int 0, .int 0, .int 0, .int 0, .int (-1), .int 0, .int (-1), .ref q25, .ref q26, .ref q27, .ref q28, .int 0, .ref q29, .ref q30, .ref q31, .int 0, .null, .int 0, .null, .null, .int 0, .int 0, .int 0] := ⟨_, rfl⟩
  have lF_56 : F_56.length = 63 := by rw [hF_56]; rfl
  rw [show F_55.set 55 (.int 0) = F_56 by rw [hF_55, hF_56]; rfl] at hP hD
  refine lv_aload_n (k := 0) hx hb (by decide +kernel : decode cX10_init 537 = .ok (.aload_n 0, 1)) rfl (lv_at hl 0 rfl) ?_
  refine lv_iconst (v := nI 5) hx hb (by decide +kernel : decode cX10_init 538 = .ok (.iconst 5, 1)) (by decide) ?_
  refine va_newa (atype := .int) (ty := .int) (N' := 5) (a0 := (5, .inl (fun _ => 0))) hx hb (hts _ (kw10 _ (List.mem_of_getElem? (i := 4) rfl))) rfl hK hP hD hS hA (fun _ => rfl) (by decide) (by decide) (by decide) (Nat.le_of_ble_eq_true rfl) (Nat.le_of_ble_eq_true rfl) (by decide +kernel : decode cX10_init 539 = .ok (.newarray .int, 2)) (fun q32 cA H539 hK1 hP hD hS => ?_)
  have ec := kcs 0 (fun C h => by cases h) rfl hK1
  subst ec
  clear hK1
  rw [List.append_assoc] at hP hD
  obtain ⟨L_33, hL_33⟩ : ∃ L9 : va_W, L9 = [(q0, .inl (cs 0, 900, .inl (fun _ => 0))), (q1, .inl (cs 0, 400, .inl (fun _ => 0))), (q2, .inl (cs 0, 400, .inl (fun _ => 0))), (q3, .inl (cs 0, 400, .inl (fun _ => 0))), (q4, .inl (cs 0, 400, .inl (fun _ => 0))), (q5, .inl (cs 0, 400, .inl (fun _ => 0))), (q6, .inl (cs 0, 400, .inl (fun _ => 0))), (q7, .inl (cs 0, 400, .inl (fun _ => 0))), (q8, .inl (cs 0, 400, .inl (fun _ => 0))), (q9, .inl (cs 2, 400, .inl (fun _ => 0))), (q10, .inl (cs 0, 401, .inl (fun _ => 0))), (q11, .inl (cs 0, 401, .inl (fun _ => 0))), (q12, .inl (cs 0, 4, .inl (upd (upd (upd (upd (fun _ => 0) 0 (-1)) 1 (-1)) 2 (-1)) 3 (-1)))), (q13, .inl (cs 0, 1600, .inl (fun _ => 0))), (q14, .inl (cs 0, 4, .inl (fun _ => 0))), (q15, .inl (cs 0, 6, .inl (fun _ => 0))), (q16, .inl (cs 0, 6, .inl (fun _ => 0))), (q17, .inl (cs 2, 2400, .inl (fun _ => 0))), (q18, .inl (cs 0, 32, .inl (fun _ => 0))), (q19, .inl (cs 2, 8, .inl (fun _ => 0))), (q20, .inl (cs 0, 6, .inl (fun _ => 0))), (q21, .inl (cs 0, 150, .inl (fun _ => 0))), (q22, .inl (cs 0, 32, .inl (fun _ => 0))), (q23, .inl (cs 2, 8, .inl (fun _ => 0))), (q24, .inl (cs 3, 18, .inr (.inl (vp_updL (vp_updL (vp_updL (vp_updL (vp_updL (vp_updL (vp_updL (vp_updL (vp_updL (vp_updL (vp_updL (vp_updL (vp_updL (vp_updL (vp_updL (vp_updL (vp_updL (vp_updL (fun _ => 0) 0 2268462) 1 116831540) 2 1130068) 3 24716933) 4 609664709) 5 114201) 6 628164) 7 343342) 8 594980) 9 6706792) 10 427595) 11 609752116) 12 762030) 13 302) 14 464660) 15 5018519941) 16 2937011) 17 719918116)))), (q25, .inl (cs 0, 61, .inl (fun _ => 0))), (q26, .inl (cs 0, 61, .inl (fun _ => 0))), (q27, .inl (cs 0, 244, .inl (fun _ => 0))), (q28, .inl (cs 0, 61, .inl (fun _ => 0))), (q29, .inl (cs 0, 500, .inl (fun _ => 0))), (q30, .inl (cs 0, 500, .inl (fun _ => 0))), (q31, .inl (cs 0, 500, .inl (fun _ => 0))), (q32, .inl (cs 0, 5, .inl (fun _ => 0)))] := ⟨_, rfl⟩
  have lL_33 : L_33.length = 33 := by rw [hL_33]; rfl
  rw [show L_32 ++ [(q32, .inl (cs 0, 5, .inl (fun _ => 0)))] = L_33 by rw [hL_32, hL_33]; rfl] at hP hD
  refine va_putF (D := D) (ci := 10) (v := .ref q32) (ty := .array .int) (C := RX10) (T := TX10) (N := 63) hx hb hts qin10 tyX10 tyX10_ok nmX10 hown hK hP hD hS k (kat0 hkl) rfl 56 (Nat.le_of_ble_eq_true rfl) (hts _ (kw10 _ (List.mem_of_getElem? (i := 80) rfl))) (fun _ h9 => h9) rfl hin rfl (by decide +kernel) rfl rfl (by rw [lF_56]; decide) (by decide +kernel : decode cX10_init 541 = .ok (.putfield 230, 3)) (fun H541 locs541 hP hD hS => ?_)
  rw [kset0 hkl] at hP hD
  obtain ⟨F_57, hF_57⟩ : ∃ F9 : List Value, F9 = [.int 0, .ref q0, .int 0, .int 100, .int 300, .int 20, .ref q1, .ref q2, .ref q3, .ref q4, .ref q5, .ref q6, .ref q7, .ref q8, .ref q9, .int 0, .int 0, .ref q10, .ref q11, .int 1, .int 0, .ref q12, .ref q13, .ref q14, .ref q15, .ref q16, .ref q17, .int 0, .int 0, .int 0, .ref q18, .ref q19, .ref q20, .ref q21, .int 0, .ref q22, .ref q23, .ref q24, .int 0, .int 0, .int 0, .int 0, .int 0, .int 0, .int (-1), .int 0, .int (-1), .ref q25, .ref q26, .ref q27, .ref q28, .int 0, .ref q29, .ref q30, .ref q31, .int 0, .ref q32, .int 0, .null, .null, .int 0, .int 0, .int 0] := ⟨_, rfl⟩
  have lF_57 : F_57.length = 63 := by rw [hF_57]; rfl
  rw [show F_56.set 56 (.ref q32) = F_57 by rw [hF_56, hF_57]; rfl] at hP hD
  refine lv_aload_n (k := 0) hx hb (by decide +kernel : decode cX10_init 544 = .ok (.aload_n 0, 1)) rfl (lv_at hl 0 rfl) ?_
  refine lv_iconst (v := 0) hx hb (by decide +kernel : decode cX10_init 545 = .ok (.iconst 0, 1)) (by decide) ?_
  refine va_put (D := D) (ci := 10) (v := .int 0) (ty := .int) (C := RX10) (T := TX10) (N := 63) hx hb hts qin10 tyX10 tyX10_ok nmX10 hown hK hP hD hS k (kat0 hkl) rfl 57 (Nat.le_of_ble_eq_true rfl) (hts _ (kw10 _ (List.mem_of_getElem? (i := 81) rfl))) (fun _ h9 => h9) rfl (by decide +kernel) rfl rfl (by rw [lF_57]; decide) (by decide +kernel : decode cX10_init 546 = .ok (.putfield 233, 3)) (fun H546 locs546 hP hD hS => ?_)
  rw [kset0 hkl] at hP hD
  obtain ⟨F_58, hF_58⟩ : ∃ F9 : List Value, F9 = [.int 0, .ref q0, .int 0, .int 100, .int 300, .int 20, .ref q1, .ref q2, .ref q3, .ref q4, .ref q5, .ref q6, .ref q7, .ref q8, .ref q9, .int 0, .int 0, .ref q10, .ref q11, .int 1, .int 0, .ref q12, .ref q13, .ref q14, .ref q15, .ref q16, .ref q17, .int 0, .int 0, .int 0, .ref q18, .ref q19, .ref q20, .ref q21, .int 0, .ref q22, .ref q23, .ref q24, .int 0, .int 0, .int 0, .int 0, .int 0, .int 0, .int (-1), .int 0, .int (-1), .ref q25, .ref q26, .ref q27, .ref q28, .int 0, .ref q29, .ref q30, .ref q31, .int 0, .ref q32, .int 0, .null, .null, .int 0, .int 0, .int 0] := ⟨_, rfl⟩
  have lF_58 : F_58.length = 63 := by rw [hF_58]; rfl
  rw [show F_57.set 57 (.int 0) = F_58 by rw [hF_57, hF_58]; rfl] at hP hD
  refine lv_aload_n (k := 0) hx hb (by decide +kernel : decode cX10_init 549 = .ok (.aload_n 0, 1)) rfl (lv_at hl 0 rfl) ?_
  refine lv_bipush (v := nI 6) hx hb (by decide +kernel : decode cX10_init 550 = .ok (.bipush 6, 2)) (by decide) ?_
  refine va_newa (atype := .int) (ty := .int) (N' := 6) (a0 := (6, .inl (fun _ => 0))) hx hb (hts _ (kw10 _ (List.mem_of_getElem? (i := 4) rfl))) rfl hK hP hD hS hA (fun _ => rfl) (by decide) (by decide) (by decide) (Nat.le_of_ble_eq_true rfl) (Nat.le_of_ble_eq_true rfl) (by decide +kernel : decode cX10_init 552 = .ok (.newarray .int, 2)) (fun q33 cA H552 hK1 hP hD hS => ?_)
  have ec := kcs 0 (fun C h => by cases h) rfl hK1
  subst ec
  clear hK1
  rw [List.append_assoc] at hP hD
  obtain ⟨L_34, hL_34⟩ : ∃ L9 : va_W, L9 = [(q0, .inl (cs 0, 900, .inl (fun _ => 0))), (q1, .inl (cs 0, 400, .inl (fun _ => 0))), (q2, .inl (cs 0, 400, .inl (fun _ => 0))), (q3, .inl (cs 0, 400, .inl (fun _ => 0))), (q4, .inl (cs 0, 400, .inl (fun _ => 0))), (q5, .inl (cs 0, 400, .inl (fun _ => 0))), (q6, .inl (cs 0, 400, .inl (fun _ => 0))), (q7, .inl (cs 0, 400, .inl (fun _ => 0))), (q8, .inl (cs 0, 400, .inl (fun _ => 0))), (q9, .inl (cs 2, 400, .inl (fun _ => 0))), (q10, .inl (cs 0, 401, .inl (fun _ => 0))), (q11, .inl (cs 0, 401, .inl (fun _ => 0))), (q12, .inl (cs 0, 4, .inl (upd (upd (upd (upd (fun _ => 0) 0 (-1)) 1 (-1)) 2 (-1)) 3 (-1)))), (q13, .inl (cs 0, 1600, .inl (fun _ => 0))), (q14, .inl (cs 0, 4, .inl (fun _ => 0))), (q15, .inl (cs 0, 6, .inl (fun _ => 0))), (q16, .inl (cs 0, 6, .inl (fun _ => 0))), (q17, .inl (cs 2, 2400, .inl (fun _ => 0))), (q18, .inl (cs 0, 32, .inl (fun _ => 0))), (q19, .inl (cs 2, 8, .inl (fun _ => 0))), (q20, .inl (cs 0, 6, .inl (fun _ => 0))), (q21, .inl (cs 0, 150, .inl (fun _ => 0))), (q22, .inl (cs 0, 32, .inl (fun _ => 0))), (q23, .inl (cs 2, 8, .inl (fun _ => 0))), (q24, .inl (cs 3, 18, .inr (.inl (vp_updL (vp_updL (vp_updL (vp_updL (vp_updL (vp_updL (vp_updL (vp_updL (vp_updL (vp_updL (vp_updL (vp_updL (vp_updL (vp_updL (vp_updL (vp_updL (vp_updL (vp_updL (fun _ => 0) 0 2268462) 1 116831540) 2 1130068) 3 24716933) 4 609664709) 5 114201) 6 628164) 7 343342) 8 594980) 9 6706792) 10 427595) 11 609752116) 12 762030) 13 302) 14 464660) 15 5018519941) 16 2937011) 17 719918116)))), (q25, .inl (cs 0, 61, .inl (fun _ => 0))), (q26, .inl (cs 0, 61, .inl (fun _ => 0))), (q27, .inl (cs 0, 244, .inl (fun _ => 0))), (q28, .inl (cs 0, 61, .inl (fun _ => 0))), (q29, .inl (cs 0, 500, .inl (fun _ => 0))), (q30, .inl (cs 0, 500, .inl (fun _ => 0))), (q31, .inl (cs 0, 500, .inl (fun _ => 0))), (q32, .inl (cs 0, 5, .inl (fun _ => 0))), (q33, .inl (cs 0, 6, .inl (fun _ => 0)))] := ⟨_, rfl⟩
  have lL_34 : L_34.length = 34 := by rw [hL_34]; rfl
  rw [show L_33 ++ [(q33, .inl (cs 0, 6, .inl (fun _ => 0)))] = L_34 by rw [hL_33, hL_34]; rfl] at hP hD
  refine va_putF (D := D) (ci := 10) (v := .ref q33) (ty := .array .int) (C := RX10) (T := TX10) (N := 63) hx hb hts qin10 tyX10 tyX10_ok nmX10 hown hK hP hD hS k (kat0 hkl) rfl 58 (Nat.le_of_ble_eq_true rfl) (hts _ (kw10 _ (List.mem_of_getElem? (i := 82) rfl))) (fun _ h9 => h9) rfl hin rfl (by decide +kernel) rfl rfl (by rw [lF_58]; decide) (by decide +kernel : decode cX10_init 554 = .ok (.putfield 236, 3)) (fun H554 locs554 hP hD hS => ?_)
  rw [kset0 hkl] at hP hD
  obtain ⟨F_59, hF_59⟩ : ∃ F9 : List Value, F9 = [.int 0, .ref q0, .int 0, .int 100, .int 300, .int 20, .ref q1, .ref q2, .ref q3, .ref q4, .ref q5, .ref q6, .ref q7, .ref q8, .ref q9, .int 0, .int 0, .ref q10, .ref q11, .int 1, .int 0, .ref q12, .ref q13, .ref q14, .ref q15, .ref q16, .ref q17, .int 0, .int 0, .int 0, .ref q18, .ref q19, .ref q20, .ref q21, .int 0, .ref q22, .ref q23, .ref q24, .int 0, .int 0, .int 0, .int 0, .int 0, .int 0, .int (-1), .int 0, .int (-1), .ref q25, .ref q26, .ref q27, .ref q28, .int 0, .ref q29, .ref q30, .ref q31, .int 0, .ref q32, .int 0, .ref q33, .null, .int 0, .int 0, .int 0] := ⟨_, rfl⟩
  have lF_59 : F_59.length = 63 := by rw [hF_59]; rfl
  rw [show F_58.set 58 (.ref q33) = F_59 by rw [hF_58, hF_59]; rfl] at hP hD
  refine lv_aload_n (k := 0) hx hb (by decide +kernel : decode cX10_init 557 = .ok (.aload_n 0, 1)) rfl (lv_at hl 0 rfl) ?_
  refine lv_bipush (v := nI 6) hx hb (by decide +kernel : decode cX10_init 558 = .ok (.bipush 6, 2)) (by decide) ?_
  refine va_newa (atype := .int) (ty := .int) (N' := 6) (a0 := (6, .inl (fun _ => 0))) hx hb (hts _ (kw10 _ (List.mem_of_getElem? (i := 4) rfl))) rfl hK hP hD hS hA (fun _ => rfl) (by decide) (by decide) (by decide) (Nat.le_of_ble_eq_true rfl) (Nat.le_of_ble_eq_true rfl) (by decide +kernel : decode cX10_init 560 = .ok (.newarray .int, 2)) (fun q34 cA H560 hK1 hP hD hS => ?_)
  have ec := kcs 0 (fun C h => by cases h) rfl hK1
  subst ec
  clear hK1
  rw [List.append_assoc] at hP hD
  obtain ⟨L_35, hL_35⟩ : ∃ L9 : va_W, L9 = [(q0, .inl (cs 0, 900, .inl (fun _ => 0))), (q1, .inl (cs 0, 400, .inl (fun _ => 0))), (q2, .inl (cs 0, 400, .inl (fun _ => 0))), (q3, .inl (cs 0, 400, .inl (fun _ => 0))), (q4, .inl (cs 0, 400, .inl (fun _ => 0))), (q5, .inl (cs 0, 400, .inl (fun _ => 0))), (q6, .inl (cs 0, 400, .inl (fun _ => 0))), (q7, .inl (cs 0, 400, .inl (fun _ => 0))), (q8, .inl (cs 0, 400, .inl (fun _ => 0))), (q9, .inl (cs 2, 400, .inl (fun _ => 0))), (q10, .inl (cs 0, 401, .inl (fun _ => 0))), (q11, .inl (cs 0, 401, .inl (fun _ => 0))), (q12, .inl (cs 0, 4, .inl (upd (upd (upd (upd (fun _ => 0) 0 (-1)) 1 (-1)) 2 (-1)) 3 (-1)))), (q13, .inl (cs 0, 1600, .inl (fun _ => 0))), (q14, .inl (cs 0, 4, .inl (fun _ => 0))), (q15, .inl (cs 0, 6, .inl (fun _ => 0))), (q16, .inl (cs 0, 6, .inl (fun _ => 0))), (q17, .inl (cs 2, 2400, .inl (fun _ => 0))), (q18, .inl (cs 0, 32, .inl (fun _ => 0))), (q19, .inl (cs 2, 8, .inl (fun _ => 0))), (q20, .inl (cs 0, 6, .inl (fun _ => 0))), (q21, .inl (cs 0, 150, .inl (fun _ => 0))), (q22, .inl (cs 0, 32, .inl (fun _ => 0))), (q23, .inl (cs 2, 8, .inl (fun _ => 0))), (q24, .inl (cs 3, 18, .inr (.inl (vp_updL (vp_updL (vp_updL (vp_updL (vp_updL (vp_updL (vp_updL (vp_updL (vp_updL (vp_updL (vp_updL (vp_updL (vp_updL (vp_updL (vp_updL (vp_updL (vp_updL (vp_updL (fun _ => 0) 0 2268462) 1 116831540) 2 1130068) 3 24716933) 4 609664709) 5 114201) 6 628164) 7 343342) 8 594980) 9 6706792) 10 427595) 11 609752116) 12 762030) 13 302) 14 464660) 15 5018519941) 16 2937011) 17 719918116)))), (q25, .inl (cs 0, 61, .inl (fun _ => 0))), (q26, .inl (cs 0, 61, .inl (fun _ => 0))), (q27, .inl (cs 0, 244, .inl (fun _ => 0))), (q28, .inl (cs 0, 61, .inl (fun _ => 0))), (q29, .inl (cs 0, 500, .inl (fun _ => 0))), (q30, .inl (cs 0, 500, .inl (fun _ => 0))), (q31, .inl (cs 0, 500, .inl (fun _ => 0))), (q32, .inl (cs 0, 5, .inl (fun _ => 0))), (q33, .inl (cs 0, 6, .inl (fun _ => 0))), (q34, .inl (cs 0, 6, .inl (fun _ => 0)))] := ⟨_, rfl⟩
  have lL_35 : L_35.length = 35 := by rw [hL_35]; rfl
  rw [show L_34 ++ [(q34, .inl (cs 0, 6, .inl (fun _ => 0)))] = L_35 by rw [hL_34, hL_35]; rfl] at hP hD
  refine va_putF (D := D) (ci := 10) (v := .ref q34) (ty := .array .int) (C := RX10) (T := TX10) (N := 63) hx hb hts qin10 tyX10 tyX10_ok nmX10 hown hK hP hD hS k (kat0 hkl) rfl 59 (Nat.le_of_ble_eq_true rfl) (hts _ (kw10 _ (List.mem_of_getElem? (i := 83) rfl))) (fun _ h9 => h9) rfl hin rfl (by decide +kernel) rfl rfl (by rw [lF_59]; decide) (by decide +kernel : decode cX10_init 562 = .ok (.putfield 239, 3)) (fun H562 locs562 hP hD hS => ?_)
  rw [kset0 hkl] at hP hD
  obtain ⟨F_60, hF_60⟩ : ∃ F9 : List Value, F9 = [.int 0, .ref q0, .int 0, .int 100, .int 300, .int 20, .ref q1, .ref q2, .ref q3, .ref q4, .ref q5, .ref q6, .ref q7, .ref q8, .ref q9, .int 0, .int 0, .ref q10, .ref q11, .int 1, .int 0, .ref q12, .ref q13, .ref q14, .ref q15, .ref q16, .ref q17, .int 0, .int 0, .int 0, .ref q18, .ref q19, .ref q20, .ref q21, .int 0, .ref q22, .ref q23, .ref q24, .int 0, .int 0, .int 0, .int 0, .int 0, .int 0, .int (-1), .int 0, .int (-1), .ref q25, .ref q26, .ref q27, .ref q28, .int 0, .ref q29, .ref q30, .ref q31, .int 0, .ref q32, .int 0, .ref q33, .ref q34, .int 0, .int 0, .int 0] := ⟨_, rfl⟩
  have lF_60 : F_60.length = 63 := by rw [hF_60]; rfl
  rw [show F_59.set 59 (.ref q34) = F_60 by rw [hF_59, hF_60]; rfl] at hP hD
  refine lv_aload_n (k := 0) hx hb (by decide +kernel : decode cX10_init 565 = .ok (.aload_n 0, 1)) rfl (lv_at hl 0 rfl) ?_
  refine lv_iconst (v := 0) hx hb (by decide +kernel : decode cX10_init 566 = .ok (.iconst 0, 1)) (by decide) ?_
  refine va_put (D := D) (ci := 10) (v := .int 0) (ty := .int) (C := RX10) (T := TX10) (N := 63) hx hb hts qin10 tyX10 tyX10_ok nmX10 hown hK hP hD hS k (kat0 hkl) rfl 60 (Nat.le_of_ble_eq_true rfl) (hts _ (kw10 _ (List.mem_of_getElem? (i := 84) rfl))) (fun _ h9 => h9) rfl (by decide +kernel) rfl rfl (by rw [lF_60]; decide) (by decide +kernel : decode cX10_init 567 = .ok (.putfield 242, 3)) (fun H567 locs567 hP hD hS => ?_)
  rw [kset0 hkl] at hP hD
  obtain ⟨F_61, hF_61⟩ : ∃ F9 : List Value, F9 = [.int 0, .ref q0, .int 0, .int 100, .int 300, .int 20, .ref q1, .ref q2, .ref q3, .ref q4, .ref q5, .ref q6, .ref q7, .ref q8, .ref q9, .int 0, .int 0, .ref q10, .ref q11, .int 1, .int 0, .ref q12, .ref q13, .ref q14, .ref q15, .ref q16, .ref q17, .int 0, .int 0, .int 0, .ref q18, .ref q19, .ref q20, .ref q21, .int 0, .ref q22, .ref q23, .ref q24, .int 0, .int 0, .int 0, .int 0, .int 0, .int 0, .int (-1), .int 0, .int (-1), .ref q25, .ref q26, .ref q27, .ref q28, .int 0, .ref q29, .ref q30, .ref q31, .int 0, .ref q32, .int 0, .ref q33, .ref q34, .int 0, .int 0, .int 0] := ⟨_, rfl⟩
  have lF_61 : F_61.length = 63 := by rw [hF_61]; rfl
  rw [show F_60.set 60 (.int 0) = F_61 by rw [hF_60, hF_61]; rfl] at hP hD
  refine lv_aload_n (k := 0) hx hb (by decide +kernel : decode cX10_init 570 = .ok (.aload_n 0, 1)) rfl (lv_at hl 0 rfl) ?_
  refine lv_iconst (v := 0) hx hb (by decide +kernel : decode cX10_init 571 = .ok (.iconst 0, 1)) (by decide) ?_
  refine va_put (D := D) (ci := 10) (v := .int 0) (ty := .int) (C := RX10) (T := TX10) (N := 63) hx hb hts qin10 tyX10 tyX10_ok nmX10 hown hK hP hD hS k (kat0 hkl) rfl 61 (Nat.le_of_ble_eq_true rfl) (hts _ (kw10 _ (List.mem_of_getElem? (i := 85) rfl))) (fun _ h9 => h9) rfl (by decide +kernel) rfl rfl (by rw [lF_61]; decide) (by decide +kernel : decode cX10_init 572 = .ok (.putfield 245, 3)) (fun H572 locs572 hP hD hS => ?_)
  rw [kset0 hkl] at hP hD
  obtain ⟨F_62, hF_62⟩ : ∃ F9 : List Value, F9 = [.int 0, .ref q0, .int 0, .int 100, .int 300, .int 20, .ref q1, .ref q2, .ref q3, .ref q4, .ref q5, .ref q6, .ref q7, .ref q8, .ref q9, .int 0, .int 0, .ref q10, .ref q11, .int 1, .int 0, .ref q12, .ref q13, .ref q14, .ref q15, .ref q16, .ref q17, .int 0, .int 0, .int 0, .ref q18, .ref q19, .ref q20, .ref q21, .int 0, .ref q22, .ref q23, .ref q24, .int 0, .int 0, .int 0, .int 0, .int 0, .int 0, .int (-1), .int 0, .int (-1), .ref q25, .ref q26, .ref q27, .ref q28, .int 0, .ref q29, .ref q30, .ref q31, .int 0, .ref q32, .int 0, .ref q33, .ref q34, .int 0, .int 0, .int 0] := ⟨_, rfl⟩
  have lF_62 : F_62.length = 63 := by rw [hF_62]; rfl
  rw [show F_61.set 61 (.int 0) = F_62 by rw [hF_61, hF_62]; rfl] at hP hD
  refine lv_aload_n (k := 0) hx hb (by decide +kernel : decode cX10_init 575 = .ok (.aload_n 0, 1)) rfl (lv_at hl 0 rfl) ?_
  refine lv_iconst (v := (-1)) hx hb (by decide +kernel : decode cX10_init 576 = .ok (.iconst (-1), 1)) (by decide) ?_
  refine va_put (D := D) (ci := 10) (v := .int (-1)) (ty := .int) (C := RX10) (T := TX10) (N := 63) hx hb hts qin10 tyX10 tyX10_ok nmX10 hown hK hP hD hS k (kat0 hkl) rfl 62 (Nat.le_of_ble_eq_true rfl) (hts _ (kw10 _ (List.mem_of_getElem? (i := 86) rfl))) (fun _ h9 => h9) rfl (by decide +kernel) rfl rfl (by rw [lF_62]; decide) (by decide +kernel : decode cX10_init 577 = .ok (.putfield 248, 3)) (fun H577 locs577 hP hD hS => ?_)
  rw [kset0 hkl] at hP hD
  obtain ⟨F_63, hF_63⟩ : ∃ F9 : List Value, F9 = [.int 0, .ref q0, .int 0, .int 100, .int 300, .int 20, .ref q1, .ref q2, .ref q3, .ref q4, .ref q5, .ref q6, .ref q7, .ref q8, .ref q9, .int 0, .int 0, .ref q10, .ref q11, .int 1, .int 0, .ref q12, .ref q13, .ref q14, .ref q15, .ref q16, .ref q17, .int 0, .int 0, .int 0, .ref q18, .ref q19, .ref q20, .ref q21, .int 0, .ref q22, .ref q23, .ref q24, .int 0, .int 0, .int 0, .int 0, .int 0, .int 0, .int (-1), .int 0, .int (-1), .ref q25, .ref q26, .ref q27, .ref q28, .int 0, .ref q29, .ref q30, .ref q31, .int 0, .ref q32, .int 0, .ref q33, .ref q34, .int 0, .int 0, .int (-1)] := ⟨_, rfl⟩
  have lF_63 : F_63.length = 63 := by rw [hF_63]; rfl
  rw [show F_62.set 62 (.int (-1)) = F_63 by rw [hF_62, hF_63]; rfl] at hP hD
  have eF : F_63 = kMf (fun i => ([q0, q1, q2, q3, q4, q5, q6, q7, q8, q9, q10, q11, q12, q13, q14, q15, q16, q17, q18, q19, q20, q21, q22, q23, q24, q25, q26, q27, q28, q29, q30, q31, q32, q33, q34] : List Nat).getD i 0) := by
    rw [hF_63]
    rfl
  have eL : L_35 = kM cs (fun i => ([q0, q1, q2, q3, q4, q5, q6, q7, q8, q9, q10, q11, q12, q13, q14, q15, q16, q17, q18, q19, q20, q21, q22, q23, q24, q25, q26, q27, q28, q29, q30, q31, q32, q33, q34] : List Nat).getD i 0) := by
    rw [hL_35]
    rfl
  rw [eF, eL] at hP hD
  refine W.widen (k := 35) (n := 11520) (Nat.le_of_ble_eq_true rfl) (Nat.le_of_ble_eq_true rfl) ?_
  exact W.vret hx hb hr (fun t ht hW => ⟨⟨fun i => ([q0, q1, q2, q3, q4, q5, q6, q7, q8, q9, q10, q11, q12, q13, q14, q15, q16, q17, q18, q19, q20, q21, q22, q23, q24, q25, q26, q27, q28, q29, q30, q31, q32, q33, q34] : List Nat).getD i 0, rfl, trivial, by rw [ht]; exact hP, hD⟩, hS.F ht⟩) hS.2.2 (by decide +kernel : decode cX10_init 580 = .ok (.return_, 1)) hlocks
end KE
