/-! ===== the beginning of the law: printed by wip/whole/gen28.py ===== -/
def q0L : List (Nat → Int32) := [(fun j => ([0, 0, 0, 0] : List Int32).getD j 0), (fun j => ([0, 0, 0, 0, 0, 0, 0, 0, 0, 0, 0, 0, 300, 20] : List Int32).getD j 0), (fun j => ([0, 0, 0, 0, 0, 0, 0, 0, 0, 0, 0] : List Int32).getD j 0), (fun j => ([0] : List Int32).getD j 0), (fun _ => 0), (fun j => ([0] : List Int32).getD j 0), (fun _ => 0), (fun j => ([0] : List Int32).getD j 0), (fun _ => 0), (fun j => ([0] : List Int32).getD j 0), (fun _ => 0), (fun j => ([0] : List Int32).getD j 0), (fun _ => 0), (fun j => ([0] : List Int32).getD j 0), (fun _ => 0), (fun j => ([0] : List Int32).getD j 0), (fun _ => 0), (fun j => ([0] : List Int32).getD j 0), (fun _ => 0), (fun j => ([0] : List Int32).getD j 0), (fun _ => 0), (fun j => ([0, 0, 0, 0, 100, 0, 0] : List Int32).getD j 0), (fun j => ([0] : List Int32).getD j 0), (upd (fun _ => 0) 0 0), (fun j => ([0] : List Int32).getD j 0), (upd (fun _ => 0) 0 0), (fun j => ([0, 0, 0, 0, 0, 0, 0] : List Int32).getD j 0), (fun j => ([0] : List Int32).getD j 0), (fun _ => 0), (fun j => ([0] : List Int32).getD j 0), (kfl (fun _ => 0) 4 0), (fun j => ([0] : List Int32).getD j 0), (fun _ => 0), (fun j => ([0] : List Int32).getD j 0), (fun _ => 0), (fun j => ([0] : List Int32).getD j 0), (fun _ => 0), (fun j => ([0] : List Int32).getD j 0), (kfl (fun _ => 0) 6 (-1)), (fun j => ([0, 0] : List Int32).getD j 0), (fun j => ([0] : List Int32).getD j 0), (kfl (fun _ => 0) 8 0), (fun j => ([0] : List Int32).getD j 0), (fun _ => 0), (fun j => ([0, 0] : List Int32).getD j 0), (fun j => ([0] : List Int32).getD j 0), (kfl (fun _ => 0) 8 0), (fun j => ([0] : List Int32).getD j 0), (fun _ => 0), (fun j => ([0, 0] : List Int32).getD j 0), (fun j => ([0] : List Int32).getD j 0), (fun _ => 0), (fun j => ([0] : List Int32).getD j 0), (fun _ => 0), (fun j => ([0] : List Int32).getD j 0), (kfl (fun _ => 0) 4 (-1)), (fun j => ([0] : List Int32).getD j 0), (fun _ => 0), (fun j => ([0] : List Int32).getD j 0), (fun _ => 0), (fun j => ([0] : List Int32).getD j 0), (fun _ => 0), (fun j => ([0, 0, 0, (-1)] : List Int32).getD j 0), (fun j => ([0, 0, 0, 0, 0, 0, 0, 0, 0, 0, 0, (-1)] : List Int32).getD j 0), (fun j => ([0] : List Int32).getD j 0), (fun _ => 0), (fun j => ([0] : List Int32).getD j 0), (fun _ => 0), (fun j => ([0] : List Int32).getD j 0), (fun _ => 0), (fun j => ([0] : List Int32).getD j 0), (fun _ => 0), (fun j => ([0] : List Int32).getD j 0), (fun _ => 0), (fun j => ([0] : List Int32).getD j 0), (fun _ => 0), (fun j => ([0] : List Int32).getD j 0), (fun _ => 0), (fun j => ([0, 0, 0, 0] : List Int32).getD j 0), (fun j => ([0] : List Int32).getD j 0), (fun _ => 0), (fun j => ([0] : List Int32).getD j 0), (fun _ => 0), (fun j => ([0] : List Int32).getD j 0), (fun _ => 0), (fun _ => 0), (fun j => ([0, 0, 0, 100, 300, 20, 0, 0, 0, 0, 0, 0, 0, 0, 0, 0, 0, 0, 0, 1, 0, 0, 0, 0, 0, 0, 0, 0, 0, 0, 0, 0, 0, 0, 0, 0, 0, 0, 0, 0, 0, 0, 0, 0, (-1), 0, (-1), 0, 0, 0, 0, 0, 0, 0, 0, 0, 0, 0, 0, 0, 0, 0, (-1)] : List Int32).getD j 0), (fun _ => 0), (fun _ => 0), (fun _ => 0), (fun _ => 0), (fun _ => 0), (fun _ => 0), (fun _ => 0), (fun _ => 0), (fun _ => 0), (fun _ => 0), (fun _ => 0), (fun _ => 0), (upd (upd (upd (upd (fun _ => 0) 0 (-1)) 1 (-1)) 2 (-1)) 3 (-1)), (fun _ => 0), (fun _ => 0), (fun _ => 0), (fun _ => 0), (fun _ => 0), (fun _ => 0), (fun _ => 0), (fun _ => 0), (fun _ => 0), (fun _ => 0), (fun _ => 0), (fun _ => 0), (fun _ => 0), (fun _ => 0), (fun _ => 0), (fun _ => 0), (fun _ => 0), (fun _ => 0), (fun _ => 0), (fun _ => 0), (fun _ => 0), (fun _ => 0), (fun _ => 0), (fun _ => 0)]
def q0 : qS := fun k => q0L.getD k (fun _ => 0)
theorem q0_kw : ((vp_updL (vp_updL (vp_updL (vp_updL (vp_updL (vp_updL (vp_updL (vp_updL (vp_updL (vp_updL (vp_updL (vp_updL (vp_updL (vp_updL (vp_updL (vp_updL (vp_updL (vp_updL (fun _ => 0) 0 2268462) 1 116831540) 2 1130068) 3 24716933) 4 609664709) 5 114201) 6 628164) 7 343342) 8 594980) 9 6706792) 10 427595) 11 609752116) 12 762030) 13 302) 14 464660) 15 5018519941) 16 2937011) 17 719918116)) = qkw := by
  funext j
  match j with
  | 0 => rfl
  | 1 => rfl
  | 2 => rfl
  | 3 => rfl
  | 4 => rfl
  | 5 => rfl
  | 6 => rfl
  | 7 => rfl
  | 8 => rfl
  | 9 => rfl
  | 10 => rfl
  | 11 => rfl
  | 12 => rfl
  | 13 => rfl
  | 14 => rfl
  | 15 => rfl
  | 16 => rfl
  | 17 => rfl
  | n + 18 =>
    have h : ∀ (f : Nat → Int64) (k : Nat) (x : Int64), k < 18 → vp_updL f k x (n + 18) = f (n + 18) := fun f k x hk => by unfold vp_updL; rw [if_neg (by omega)]
    rw [h _ _ _ (by decide), h _ _ _ (by decide), h _ _ _ (by decide), h _ _ _ (by decide), h _ _ _ (by decide), h _ _ _ (by decide), h _ _ _ (by decide), h _ _ _ (by decide), h _ _ _ (by decide), h _ _ _ (by decide), h _ _ _ (by decide), h _ _ _ (by decide), h _ _ _ (by decide), h _ _ _ (by decide), h _ _ _ (by decide), h _ _ _ (by decide), h _ _ _ (by decide), h _ _ _ (by decide)]
    show (0 : Int64) = qkw (n + 18)
    unfold qkw
    rw [List.getD_eq_getElem?_getD, List.getElem?_eq_none (by show 18 ≤ n + 18; omega)]
    rfl
theorem q0_lo : (fun _ : Nat => (0 : Int64)) = fun j => (q0 122 j).toInt64 := by
  funext j
  show (0 : Int64) = (0 : Int32).toInt64
  decide +kernel
theorem q0_do : (fun _ : Nat => (0 : UInt64)) = fun j => FP.f2d (q0 123 j).toUInt32 := by
  funext j
  show (0 : UInt64) = FP.f2d (0 : Int32).toUInt32
  decide +kernel
def nW (E : Nat → Nat) (cs : Nat → ClassId) : va_W := [(E 0, .inr (9, [.ref (E 1), .ref (E 62), .ref (E 85), .int 0]))] ++ kL19 cs (fun i => E (i + 1)) ++ [(E 86, .inr (10, kMf (fun i => E (i + 87))))] ++ kM cs (fun i => E (i + 87)) ++ [(E 122, .inl (cs 3, 1, .inr (.inl (fun _ => 0))))] ++ [(E 123, .inl (cs 4, 1, .inr (.inr (.inr (.inl (fun _ => 0))))))]
def nPi : List Nat := [0, 1, 2, 3, 4, 5, 6, 7, 8, 9, 10, 11, 12, 13, 14, 15, 16, 17, 18, 19, 20, 21, 22, 23, 24, 25, 26, 27, 28, 29, 30, 31, 32, 33, 34, 35, 36, 37, 38, 39, 40, 41, 42, 43, 44, 45, 46, 47, 48, 49, 50, 51, 52, 53, 54, 55, 56, 57, 58, 59, 60, 61, 62, 63, 71, 72, 73, 74, 75, 76, 77, 78, 79, 80, 81, 82, 83, 84, 64, 65, 66, 67, 68, 69, 70, 85, 86, 87, 88, 89, 90, 91, 92, 93, 94, 95, 96, 97, 98, 99, 100, 101, 102, 103, 104, 105, 106, 107, 108, 109, 110, 111, 112, 113, 114, 115, 116, 117, 118, 119, 120, 121, 122, 123]
set_option maxRecDepth 100000 in
set_option maxHeartbeats 10000000 in
theorem nW_q (E : Nat → Nat) (cs : Nat → ClassId) : nPi.filterMap (fun i => (nW E cs)[i]?) = qW (fun k => E (nPi.getD k 0)) cs q0 := by
  unfold nW kM
  rw [q0_kw, q0_lo, q0_do]
  have e : List.range qtab.length = [0, 1, 2, 3, 4, 5, 6, 7, 8, 9, 10, 11, 12, 13, 14, 15, 16, 17, 18, 19, 20, 21, 22, 23, 24, 25, 26, 27, 28, 29, 30, 31, 32, 33, 34, 35, 36, 37, 38, 39, 40, 41, 42, 43, 44, 45, 46, 47, 48, 49, 50, 51, 52, 53, 54, 55, 56, 57, 58, 59, 60, 61, 62, 63, 64, 65, 66, 67, 68, 69, 70, 71, 72, 73, 74, 75, 76, 77, 78, 79, 80, 81, 82, 83, 84, 85, 86, 87, 88, 89, 90, 91, 92, 93, 94, 95, 96, 97, 98, 99, 100, 101, 102, 103, 104, 105, 106, 107, 108, 109, 110, 111, 112, 113, 114, 115, 116, 117, 118, 119, 120, 121, 122, 123] := by decide +kernel
  unfold qW
  rw [e]
  rfl
theorem nW_m (E : Nat → Nat) (cs : Nat → ClassId) : nPi.map (fun i => (nW E cs)[i]?) = (qW (fun k => E (nPi.getD k 0)) cs q0).map some := by
  have hl : ∀ i ∈ nPi, i < (nW E cs).length := by
    have e : (nW E cs).length = 124 := rfl
    rw [e]
    decide +kernel
  have h : ∀ L : List Nat, (∀ i ∈ L, i < (nW E cs).length) → L.map (fun i => (nW E cs)[i]?) = (L.filterMap (fun i => (nW E cs)[i]?)).map some := by
    intro L
    induction L with
    | nil => intro _; rfl
    | cons a L ih =>
      intro hL
      have ha : (nW E cs)[a]? = some ((nW E cs)[a]'(hL a List.mem_cons_self)) := List.getElem?_eq_getElem _
      rw [List.map_cons, List.filterMap_cons, ha, ih (fun i hi => hL i (List.mem_cons_of_mem _ hi))]
      rfl
  rw [h nPi hl, nW_q]
theorem nWF {g : qG} (hD : va_D g.2.1 (qW g.2.2.2.1 g.2.2.2.2 q0)) : qWF g := ⟨fun i j hi hj he => hD.1 i j _ _ (qW_at hi) (qW_at hj) he, fun i hi => hD.2 i _ (qW_at hi)⟩
theorem nl_w : ∀ w ∈ ([.classLink RL 8 RX9, .instantiable RX9 4, .initialized RX9, .methodLink RL 117 yX9_init, .instanceMethod yX9_init, .code yX9_init cX9_init 1 none, .classLink RL 118 RX10, .instantiable RX10 63, .initialized RX10, .methodLink RL 120 yX10_init, .instanceMethod yX10_init, .code yX10_init cX10_init 1 none, .arrayClass .long, .arrayClass .double] : List Jvm.Cond), w ∈ qgw := qgw_of [142, 143, 119, 144, 145, 146, 1421, 1408, 129, 1422, 1423, 1424, 1635, 2110] (by decide +kernel) (by decide +kernel)
set_option maxRecDepth 100000 in
set_option maxHeartbeats 4000000 in
theorem law_begin {p : Program} {e : Env} {s : State} {m : MethodId} {below : List Frame} {meth : Method} {c : Code} (l : Launch) (hflags : l.flags = flags0) {b L : Nat} {xs : Nat → Int32} (hL : L ≤ 3072) (C0 : lw_At p s m meth c b L xs)
    (HH : ∀ g : qG, g.1 = l → lCtx g b L xs p s m meth c → lV g b p e s m below meth c 28 [none, some (.inr 0), some (.inr 86), some (.inr 122), some (.inr 123), some (.inl (nI (6 * 0))), none, none] [] q0 0) :
    W p l e room_1 s m #[Value.ref b] below meth c s.heap [] 0 0 (lw_Z below #[Value.ref b] s) (entryFrame m ([Value.ref b] : List Value).toArray 8) := by
  obtain ⟨hx, hb, hr, hml, hown, hts, hX, hbl, hlocks, hgv⟩ := id C0
  have hq : ∀ w ∈ qgw, w.before #[Value.ref b] s = true := fun w hw => hts w (List.mem_filter.mp hw).1
  obtain ⟨D, cs, hK⟩ := n_K hts
  obtain ⟨A, hAe⟩ : ∃ A : Nat → Prop, A = fun q : Nat => s.heap.size ≤ q := ⟨_, rfl⟩
  have hA : ∀ q : Nat, s.heap.size ≤ q → A q := fun q h => by rw [hAe]; exact h
  have hN : ∀ w ∈ lw_tbl, qnest w = true → va_Nw w s := fun w hw hn => by
    have h1 := hts w hw
    cases w <;> first | exact va_Nw.of rfl h1 | exact absurd (show false = true from hn) Bool.false_ne_true
  have hS : va_S A s.heap s.heap [] := va_S.rf
  have hP : va_P D vwCl [] s.heap := fun k q h => by simp at h
  have hD : va_D A [] := ⟨fun i j p q h => by simp at h, fun k q h => by simp at h⟩
  have hl := lv_entry ([.ref b]) (n := 8) (Nat.le_of_ble_eq_true rfl)
  rw [lg_entry_eq]
  generalize (lg_sl ([.ref b]) ++ List.replicate (8 - (lg_sl ([.ref b])).length) Slot.unset).toArray = ls at hl ⊢
  have hl : lv_has ls 8 [(0, .ref b)] := hl
  have hown : s.vm.findClass RL = some m.cls := hown
  refine va_new (ci := 9) (fs := [.null, .null, .null, .int 0]) (C := RX9) (T := TX9) (N := 4) hx hb hq qin9 tyX9 tyX9_ok hown (hq _ (nl_w _ (List.mem_of_getElem? (i := 0) rfl))) (hq _ (nl_w _ (List.mem_of_getElem? (i := 1) rfl))) (hq _ (nl_w _ (List.mem_of_getElem? (i := 2) rfl))) hK hP hD hS hA rfl (by decide +kernel) (Nat.le_of_ble_eq_true rfl) (Nat.le_of_ble_eq_true rfl) dL_law_0 (fun a0 H0 hP hD hS => ?_)
  have hP : va_P D vwCl [(a0, .inr (9, [.null, .null, .null, .int 0]))] H0 := hP
  have hD : va_D A [(a0, .inr (9, [.null, .null, .null, .int 0]))] := hD
  refine lv_dup hx hb dL_law_3 rfl ?_
  refine va_callv (va_runI (b := a0) (As := []) (rest := [.ref a0]) ⟨hx, hb, hml, hown, hq⟩ (k_9 (l := l) (A := A) (D := D) (cs := cs) (ws := [(a0, .inr (9, [.null, .null, .null, .int 0]))]) (h0 := a0) (k := 0) rfl) ⟨⟨rfl, rfl, Nat.le_of_ble_eq_true rfl, Nat.le_of_ble_eq_true rfl, kws hq (nl_w _ (List.mem_of_getElem? (i := 5) rfl)), List.mem_cons_self, (hq _ (nl_w _ (List.mem_of_getElem? (i := 5) rfl))), (hq _ (nl_w _ (List.mem_of_getElem? (i := 2) rfl))), by decide, klen (by decide +kernel), (hq _ (nl_w _ (List.mem_of_getElem? (i := 3) rfl)))⟩, rfl, (hq _ (nl_w _ (List.mem_of_getElem? (i := 4) rfl)))⟩ ⟨kblind, fun U hU hW => ⟨rfl, by rw [hU]; exact hP, hD, va_K.moved hW.alike hK, fun q9 h9 => hA q9 (by rw [hU] at h9; exact Nat.le_trans hS.1 h9), knest hN hW⟩⟩ rfl rfl hl.1 rfl (lv_room (Nat.le_of_ble_eq_true rfl)) dL_law_4 ⟨Nat.le_of_ble_eq_true rfl, Nat.le_of_ble_eq_true rfl⟩) hS (fun q9 _ h9 => h9) (fun q9 h9 => h9) (fun u tu Hu locsu ht hvm _ hB hz1 hk1 hS => ?_)
  obtain ⟨hP, hD⟩ := hB
  rw [ht] at hP
  refine lv_astore_n (i := 1) (lv' := [(1, .ref a0), (0, .ref b)]) hx hb dL_law_7 rfl hl (by decide) rfl (fun ls hl => ?_)
  refine va_new (ci := 10) (fs := [.int 0, .null, .int 0, .int 0, .int 0, .int 0, .null, .null, .null, .null, .null, .null, .null, .null, .null, .int 0, .int 0, .null, .null, .int 0, .int 0, .null, .null, .null, .null, .null, .null, .int 0, .int 0, .int 0, .null, .null, .null, .null, .int 0, .null, .null, .null, .int 0, .int 0, .int 0, .int 0, .int 0, .int 0, .int 0, .int 0, .int 0, .null, .null, .null, .null, .int 0, .null, .null, .null, .int 0, .null, .int 0, .null, .null, .int 0, .int 0, .int 0]) (C := RX10) (T := TX10) (N := 63) hx hb hq qin10 tyX10 tyX10_ok hown (hq _ (nl_w _ (List.mem_of_getElem? (i := 6) rfl))) (hq _ (nl_w _ (List.mem_of_getElem? (i := 7) rfl))) (hq _ (nl_w _ (List.mem_of_getElem? (i := 8) rfl))) hK hP hD hS hA rfl (by decide +kernel) (Nat.le_of_ble_eq_true rfl) (Nat.le_of_ble_eq_true rfl) dL_law_8 (fun a1 H1 hP hD hS => ?_)
  have hP : va_P D vwCl ([(a0, .inr (9, [.ref (u 0), .ref (u 61), .ref (u 84), .int 0]))] ++ kL19 cs u ++ [(a1, .inr (10, [.int 0, .null, .int 0, .int 0, .int 0, .int 0, .null, .null, .null, .null, .null, .null, .null, .null, .null, .int 0, .int 0, .null, .null, .int 0, .int 0, .null, .null, .null, .null, .null, .null, .int 0, .int 0, .int 0, .null, .null, .null, .null, .int 0, .null, .null, .null, .int 0, .int 0, .int 0, .int 0, .int 0, .int 0, .int 0, .int 0, .int 0, .null, .null, .null, .null, .int 0, .null, .null, .null, .int 0, .null, .int 0, .null, .null, .int 0, .int 0, .int 0]))]) H1 := hP
  have hD : va_D A ([(a0, .inr (9, [.ref (u 0), .ref (u 61), .ref (u 84), .int 0]))] ++ kL19 cs u ++ [(a1, .inr (10, [.int 0, .null, .int 0, .int 0, .int 0, .int 0, .null, .null, .null, .null, .null, .null, .null, .null, .null, .int 0, .int 0, .null, .null, .int 0, .int 0, .null, .null, .null, .null, .null, .null, .int 0, .int 0, .int 0, .null, .null, .null, .null, .int 0, .null, .null, .null, .int 0, .int 0, .int 0, .int 0, .int 0, .int 0, .int 0, .int 0, .int 0, .null, .null, .null, .null, .int 0, .null, .null, .null, .int 0, .null, .int 0, .null, .null, .int 0, .int 0, .int 0]))]) := hD
  refine lv_dup hx hb dL_law_11 rfl ?_
  refine va_callv (va_runI (b := a1) (As := []) (rest := [.ref a1]) ⟨hx, hb, hml, hown, hq⟩ (k_10 (l := l) (A := A) (D := D) (cs := cs) (ws := ([(a0, .inr (9, [.ref (u 0), .ref (u 61), .ref (u 84), .int 0]))] ++ kL19 cs u ++ [(a1, .inr (10, [.int 0, .null, .int 0, .int 0, .int 0, .int 0, .null, .null, .null, .null, .null, .null, .null, .null, .null, .int 0, .int 0, .null, .null, .int 0, .int 0, .null, .null, .null, .null, .null, .null, .int 0, .int 0, .int 0, .null, .null, .null, .null, .int 0, .null, .null, .null, .int 0, .int 0, .int 0, .int 0, .int 0, .int 0, .int 0, .int 0, .int 0, .null, .null, .null, .null, .int 0, .null, .null, .null, .int 0, .null, .int 0, .null, .null, .int 0, .int 0, .int 0]))])) (h0 := a1) (k := 86) rfl) ⟨⟨rfl, rfl, Nat.le_of_ble_eq_true rfl, Nat.le_of_ble_eq_true rfl, kws hq (nl_w _ (List.mem_of_getElem? (i := 11) rfl)), List.mem_cons_self, (hq _ (nl_w _ (List.mem_of_getElem? (i := 11) rfl))), (hq _ (nl_w _ (List.mem_of_getElem? (i := 8) rfl))), by decide, klen (by decide +kernel), (hq _ (nl_w _ (List.mem_of_getElem? (i := 9) rfl)))⟩, rfl, (hq _ (nl_w _ (List.mem_of_getElem? (i := 10) rfl)))⟩ ⟨kblind, fun U hU hW => ⟨rfl, by rw [hU]; exact hP, hD, va_K.moved hW.alike hK, fun q9 h9 => hA q9 (by rw [hU] at h9; exact Nat.le_trans hS.1 h9), knest hN hW⟩⟩ rfl rfl hl.1 rfl (lv_room (Nat.le_of_ble_eq_true rfl)) dL_law_12 ⟨Nat.le_of_ble_eq_true rfl, Nat.le_of_ble_eq_true rfl⟩) hS (fun q9 _ h9 => h9) (fun q9 h9 => h9) (fun w tw Hw locsw ht hvm _ hB hz1 hk1 hS => ?_)
  obtain ⟨hP, hD⟩ := hB
  rw [ht] at hP
  refine lv_astore_n (i := 2) (lv' := [(2, .ref a1), (1, .ref a0), (0, .ref b)]) hx hb dL_law_15 rfl hl (by decide) rfl (fun ls hl => ?_)
  refine lv_iconst (v := nI 1) hx hb dL_law_16 (by decide) ?_
  refine va_newa (atype := .long) (ty := .long) (N' := 1) (a0 := (1, .inr (.inl (fun _ => 0)))) hx hb (hq _ (nl_w _ (List.mem_of_getElem? (i := 12) rfl))) rfl hK hP hD hS hA (fun _ => rfl) (by decide) (by decide) (by decide) (Nat.le_of_ble_eq_true rfl) (Nat.le_of_ble_eq_true rfl) dL_law_17 (fun oo cA H2 hK1 hP hD hS => ?_)
  have ec := kcs 3 (fun C h => by cases h) rfl hK1
  subst ec
  clear hK1
  refine lv_astore_n (i := 3) (lv' := [(3, .ref oo), (2, .ref a1), (1, .ref a0), (0, .ref b)]) hx hb dL_law_19 rfl hl (by decide) rfl (fun ls hl => ?_)
  refine lv_iconst (v := nI 1) hx hb dL_law_20 (by decide) ?_
  refine va_newa (atype := .double) (ty := .double) (N' := 1) (a0 := (1, .inr (.inr (.inr (.inl (fun _ => 0)))))) hx hb (hq _ (nl_w _ (List.mem_of_getElem? (i := 13) rfl))) rfl hK hP hD hS hA (fun _ => rfl) (by decide) (by decide) (by decide) (Nat.le_of_ble_eq_true rfl) (Nat.le_of_ble_eq_true rfl) dL_law_21 (fun od cA H3 hK1 hP hD hS => ?_)
  have ec := kcs 4 (fun C h => by cases h) rfl hK1
  subst ec
  clear hK1
  refine lv_astore (lv' := [(4, .ref od), (3, .ref oo), (2, .ref a1), (1, .ref a0), (0, .ref b)]) hx hb dL_law_23 hl (by decide) rfl (fun ls hl => ?_)
  refine lv_iconst (v := nI (6 * 0)) hx hb dL_law_25 (by decide) ?_
  refine lv_istore (lv' := [(5, .int (nI (6 * 0))), (4, .ref od), (3, .ref oo), (2, .ref a1), (1, .ref a0), (0, .ref b)]) hx hb dL_law_26 hl (by decide) rfl (fun ls hl => ?_)
  obtain ⟨Ec, hEc⟩ : ∃ E : Nat → Nat, E = fun k => if k = 0 then a0 else if k < 86 then u (k - 1) else if k = 86 then a1 else if k < 122 then w (k - 87) else if k = 122 then oo else od := ⟨_, rfl⟩
  have hP : va_P D vwCl (nW Ec cs) H3 := by rw [hEc]; exact hP
  have hD : va_D A (nW Ec cs) := by rw [hEc]; exact hD
  obtain ⟨E, hE⟩ : ∃ E : Nat → Nat, E = fun k => Ec (nPi.getD k 0) := ⟨_, rfl⟩
  have hP : va_P D vwCl (qW E cs q0) H3 := by rw [hE]; exact hP.sub nPi (nW_q Ec cs)
  have hD : va_D A (qW E cs q0) := by rw [hE]; exact hD.sub nPi (by decide +kernel) (nW_m Ec cs)
  have hg : lCtx (l, A, D, E, cs) b L xs p s m meth c := ⟨hx, hb, hr, hml, hown, hq, hlocks, hK, n_qK (g := (l, A, D, E, cs)) hflags (fun a h => by rw [hAe]; exact Nat.not_le.mpr h) hts hgv, n_lK hgv, fun q => by rw [hAe], nWF (g := (l, A, D, E, cs)) hD, hX, hbl, hL⟩
  refine HH (l, A, D, E, cs) rfl hg H3 _ _ _ ls hP hS (by decide) (by decide) ⟨hl.1, hl.2.1, lv_at hl 5 rfl, fun i v h => ?_⟩
  match i, h with
  | 0, h => cases h
  | 1, h => cases h; rw [hE, hEc]; exact lv_at hl 4 rfl
  | 2, h => cases h; rw [hE, hEc]; exact lv_at hl 3 rfl
  | 3, h => cases h; rw [hE, hEc]; exact lv_at hl 2 rfl
  | 4, h => cases h; rw [hE, hEc]; exact lv_at hl 1 rfl
  | 5, h => cases h; exact lv_at hl 0 rfl
  | 6, h => cases h
  | 7, h => cases h
  | i + 8, h => exact absurd (List.getElem?_eq_some_iff.mp h).1 (by show ¬ i + 8 < 8; omega)
