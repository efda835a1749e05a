/-! ===== the law's wrappers: printed by wip/whole/gen20.py ===== -/
def lpairs : List (String × String) := [("java/lang/IllegalArgumentException", "java/lang/IndexOutOfBoundsException"), ("java/lang/IllegalStateException", "java/lang/IndexOutOfBoundsException"), ("java/lang/IllegalStateException", "java/lang/IllegalArgumentException"), ("java/util/NoSuchElementException", "java/lang/IllegalArgumentException"), ("java/util/NoSuchElementException", "java/lang/IndexOutOfBoundsException")]
def lK (U : State) : Prop := ∀ q ∈ lpairs, va_Nc q.1 q.2 U
theorem lK_moved {s U : State} (h : lK s) (hv : s.vm.Alike U.vm) : lK U := fun q hq => (h q hq).moved hv
def lPre (g : qG) (σ : qS) (U : State) : Prop := qPre g σ U ∧ lK U
theorem lblind {g : qG} {as : List Value} {σ : qS} : FrameBlind (va_Pc as (lPre g σ)) := by
  intro a U f mk q
  obtain ⟨q0, qP, qL⟩ := q
  exact ⟨q0, (qblind (as := as) a U f mk ⟨q0, qP⟩).2, lK_moved qL (Vm.Alike.refl U.vm)⟩
def lrm (b d : Nat) : Room := { frames := d + 13, cells := b, slots := 6 * b, locals := 60 * d + 360 }
theorem met_of_vx {l : Launch} {y : MethodName} {ws : List Cond} {rm : Room} {Pc : Array Value → State → Prop} {Qc : Array Value → State → Outcome → State → Prop} {mc ms : Nat} {free : Addr → Prop} (h : vx_Met l y ws rm Pc Qc (fun _ _ _ => False) mc ms free) : Met l y ws rm Pc Qc mc ms free := by
  intro p e ha hc hk s m args below hf happ hP hK
  obtain ⟨t, o, h1, h2, h3, h4⟩ := h p e ha hc hk s m args below hf happ hP hK
  refine ⟨t, o, h1, h2, h3, ?_⟩
  rcases h4 with h5 | ⟨q, h5, E, ce, L, h6, h7⟩
  · exact h5
  · exact h6.elim
theorem qtab_out : qtab[122]? = some (true, 4, 1, []) := by decide +kernel
theorem qW_outAt {E : Nat → Nat} {cs : Nat → ClassId} {σ : qS} : (qW E cs σ)[122]? = some (E 122, .inl (cs 3, 1, .inr (.inl (fun j => (σ 122 j).toInt64)))) := by
  rw [qW_at (qt_lt qtab_out), qE_arr qtab_out]
  rfl
theorem qW_outSet {E : Nat → Nat} {cs : Nat → ClassId} {σ : qS} {r : Int32} : (qW E cs σ).set 122 (E 122, .inl (cs 3, 1, .inr (.inl (vp_updL (fun j => (σ 122 j).toInt64) (0 : Int32).toNatClampNeg r.toInt64)))) = qW E cs (qup σ 122 0 r) := by
  refine qW_set ?_ (fun a h => qup_o a h)
  rw [qE_arr qtab_out]
  show Sum.inl (cs 3, 1, Sum.inr (Sum.inl (fun j => (qup σ 122 0 r 122 j).toInt64))) = _
  rw [qup_u]
  refine congrArg (fun z => Sum.inl (cs 3, 1, Sum.inr (Sum.inl z))) ?_
  funext j
  unfold upd vp_updL
  show (if j = 0 then r else σ 122 j).toInt64 = if j = 0 then r.toInt64 else (σ 122 j).toInt64
  split <;> rfl
def lQ (hs : List String) (Q : Int32 → qS → Prop) (T : String → qS → Prop) (k : Int32) (u : qS) : Prop := (k = 0 ∧ ∃ r u0, Q r u0 ∧ u = qup u0 122 0 r) ∨ ∃ j E, hs[j]? = some E ∧ k = nI (j + 1) ∧ T E u
theorem cl_ise : Jvm.Cond.classLink RL 13 "java/lang/IllegalStateException" ∈ qgw := qgw_of (ws := [Jvm.Cond.classLink RL 13 "java/lang/IllegalStateException"]) [1034] (by decide +kernel) (by decide +kernel) _ List.mem_cons_self
theorem ca_ise : Jvm.Cond.castable "java/lang/IllegalStateException" "java/lang/IllegalStateException" ∈ lw_tbl := qtb_of (ws := [Jvm.Cond.castable "java/lang/IllegalStateException" "java/lang/IllegalStateException"]) [1000] (by decide +kernel) _ List.mem_cons_self
theorem cl_iae : Jvm.Cond.classLink RL 19 "java/lang/IllegalArgumentException" ∈ qgw := qgw_of (ws := [Jvm.Cond.classLink RL 19 "java/lang/IllegalArgumentException"]) [1047] (by decide +kernel) (by decide +kernel) _ List.mem_cons_self
theorem ca_iae : Jvm.Cond.castable "java/lang/IllegalArgumentException" "java/lang/IllegalArgumentException" ∈ lw_tbl := qtb_of (ws := [Jvm.Cond.castable "java/lang/IllegalArgumentException" "java/lang/IllegalArgumentException"]) [984] (by decide +kernel) _ List.mem_cons_self
theorem cl_ioe : Jvm.Cond.classLink RL 32 "java/lang/IndexOutOfBoundsException" ∈ qgw := qgw_of (ws := [Jvm.Cond.classLink RL 32 "java/lang/IndexOutOfBoundsException"]) [1076] (by decide +kernel) (by decide +kernel) _ List.mem_cons_self
theorem ca_ioe : Jvm.Cond.castable "java/lang/IndexOutOfBoundsException" "java/lang/IndexOutOfBoundsException" ∈ lw_tbl := qtb_of (ws := [Jvm.Cond.castable "java/lang/IndexOutOfBoundsException" "java/lang/IndexOutOfBoundsException"]) [913] (by decide +kernel) _ List.mem_cons_self
theorem cl_nse : Jvm.Cond.classLink RL 85 "java/util/NoSuchElementException" ∈ qgw := qgw_of (ws := [Jvm.Cond.classLink RL 85 "java/util/NoSuchElementException"]) [1259] (by decide +kernel) (by decide +kernel) _ List.mem_cons_self
theorem ca_nse : Jvm.Cond.castable "java/util/NoSuchElementException" "java/util/NoSuchElementException" ∈ lw_tbl := qtb_of (ws := [Jvm.Cond.castable "java/util/NoSuchElementException" "java/util/NoSuchElementException"]) [1278] (by decide +kernel) _ List.mem_cons_self
abbrev hL_append : List (Nat × Nat × Nat × Nat) := [(0, 16, 19, 13)]
abbrev eL_append : List String := ["java/lang/IllegalStateException"]
theorem lL_append : ∀ w ∈ ([.methodLink RL 7 mX9_append.1, .instanceMethod mX9_append.1, .selects mX9_append.1.cls mX9_append.1 mX9_append.1] ++ qcw mX9_append : List Jvm.Cond), w ∈ qgw := qgw_of [1035, 1036, 1037, 119, 1038] (by decide +kernel) (by decide +kernel)
set_option maxRecDepth 100000 in
set_option maxHeartbeats 4000000 in
theorem lw_append {g : qG} (hw : qWF g) {d : Nat} {σ : qS} {a1 a2 a3 a4 a5 : Int32} {Q : Int32 → qS → Prop} {T : String → qS → Prop} (hT : ∀ E u, T E u → E ∈ eL_append) (h : qC g d mX9_append [.inr 0, .inl a1, .inl a2, .inl a3, .inl a4, .inl a5] σ Q T) : Met g.1 yL_append (.codeWith yL_append cL_append 8 (some .int) hL_append :: qgw) (lrm 1 d) (va_Pc [.ref (g.2.2.2.1 0), .int a1, .int a2, .int a3, .int a4, .int a5, .ref (g.2.2.2.1 122)] (lPre g σ)) (va_Qi (lQ eL_append Q T) (qPost g) g.2.1) 1 6 g.2.1 := by
  have h' : vx_Met g.1 mX9_append.1 (qws mX9_append) (qrm mX9_append d) (va_Pc ([Sum.inr 0, Sum.inl a1, Sum.inl a2, Sum.inl a3, Sum.inl a4, Sum.inl a5].map (qv g.2.2.2.1)) (qPre g σ)) (va_Qi Q (qPost g) g.2.1) (qXc g T) 1 6 g.2.1 := h
  refine met_of_vx (vx_ofWH (cc := cL_append) (maxL := 8) (ret := some .int) (hh := hL_append) (by decide) rfl ?_)
  intro p e s m args below meth c s₁ B hml hv
  obtain ⟨rfl, ⟨hP, hK, hq, hA⟩, hN⟩ := hv
  have hx := B.exec
  have hb := B.bytes
  have hr := B.returns
  have hts0 := atoms_spec (ws := .codeWith yL_append cL_append 8 (some .int) hL_append :: qgw) B.pre
  have htab := vx_table (x := yL_append) B (hts0 _ List.mem_cons_self)
  have hts : ∀ w ∈ qgw, w.before _ s = true := fun w hw => hts0 w (List.mem_cons_of_mem _ hw)
  have hown : s.vm.findClass RL = some m.cls := findClass_of_methodNamed B.named
  have hlocks := B.notSynchronized
  have hS : va_S g.2.1 s.heap s.heap [] := va_S.rf
  have hl := lv_entry ([.ref (g.2.2.2.1 0), .int a1, .int a2, .int a3, .int a4, .int a5, .ref (g.2.2.2.1 122)]) (n := 8) (Nat.le_of_ble_eq_true rfl)
  rw [lg_entry_eq]
  generalize (lg_sl ([.ref (g.2.2.2.1 0), .int a1, .int a2, .int a3, .int a4, .int a5, .ref (g.2.2.2.1 122)]) ++ List.replicate (8 - (lg_sl ([.ref (g.2.2.2.1 0), .int a1, .int a2, .int a3, .int a4, .int a5, .ref (g.2.2.2.1 122)])).length) Slot.unset).toArray = ls at hl ⊢
  have hl : lv_has ls 8 [(0, .ref (g.2.2.2.1 0)), (1, .int a1), (2, .int a2), (3, .int a3), (4, .int a4), (5, .int a5), (6, .ref (g.2.2.2.1 122))] := hl
  refine lv_aload hx hb (by decide +kernel : decode cL_append 0 = .ok (.aload 6, 2)) (lv_at hl 6 rfl) ?_
  refine lv_iconst (v := 0) hx hb (by decide +kernel : decode cL_append 2 = .ok (.iconst 0, 1)) (by decide) ?_
  refine lv_aload_n (k := 0) hx hb (by decide +kernel : decode cL_append 3 = .ok (.aload_n 0, 1)) rfl (lv_at hl 0 rfl) ?_
  refine lv_iload_n (k := 1) hx hb (by decide +kernel : decode cL_append 4 = .ok (.iload_n 1, 1)) rfl (lv_at hl 1 rfl) ?_
  refine lv_iload_n (k := 2) hx hb (by decide +kernel : decode cL_append 5 = .ok (.iload_n 2, 1)) rfl (lv_at hl 2 rfl) ?_
  refine lv_iload_n (k := 3) hx hb (by decide +kernel : decode cL_append 6 = .ok (.iload_n 3, 1)) rfl (lv_at hl 3 rfl) ?_
  refine lv_iload hx hb (by decide +kernel : decode cL_append 7 = .ok (.iload 4, 2)) (lv_at hl 4 rfl) ?_
  refine lv_iload hx hb (by decide +kernel : decode cL_append 9 = .ok (.iload 5, 2)) (lv_at hl 5 rfl) ?_
  refine vx_calli (vx_runV (C := mX9_append.1.cls) (b := g.2.2.2.1 0) (As := [.int a1, .int a2, .int a3, .int a4, .int a5]) (rest := [.int 0, .ref (g.2.2.2.1 122)]) ⟨hx, hb, hml, hown, hts⟩ h' ⟨⟨rfl, rfl, (by show d + 12 + 1 ≤ d + 13; omega), (by show 8 + (mX9_append.2.2.1 + 11) + (60 * d + 300) ≤ 60 * d + 360; have h4 : mX9_append.2.2.1 ≤ 40 := (by decide); omega), (fun w hw' a' U hW => by
      have hin : w ∈ qgw := by
        rcases List.mem_cons.mp hw' with rfl | h9
        · exact lL_append _ (List.mem_of_getElem? (i := 4) rfl)
        · exact h9
      exact word_at hW (qgw_good hin) (hts _ hin)), List.mem_cons_self, hts _ (lL_append _ (List.mem_of_getElem? (i := 4) rfl)), hts _ (lL_append _ (List.mem_of_getElem? (i := 3) rfl)), (by decide), qlen (qM_spec (by decide +kernel)), hts _ (lL_append _ (List.mem_of_getElem? (i := 0) rfl))⟩, hts _ (lL_append _ (List.mem_of_getElem? (i := 1) rfl)), hts _ (lL_append _ (List.mem_of_getElem? (i := 2) rfl))⟩ ⟨qblind, va_recv (q := (RX9, TX9, 4)) hK hP rfl (qW_obj (k := 0) rfl), fun U hU hW => ⟨rfl, by rw [hU]; exact hP, va_K.moved hW.alike hK, qK_warm hq hW (fun a _ _ => by rw [hU]), by rw [hU]; exact hA⟩⟩ rfl rfl hl.1 rfl (lv_room (Nat.le_of_ble_eq_true rfl)) (by decide +kernel : decode cL_append 11 = .ok (.invokevirtual 7, 3)) ⟨(by show 0 + 1 ≤ 1; decide), (by show 0 + 6 ≤ 6 * 1; decide)⟩) hS (fun q _ h9 => h9) (fun q h9 => h9) (fun q _ h9 => h9) (fun E ce q9 u t H1 locs1 ht hvm _ hB hz1 hk1 hS1 hce hcv hcl => ?_) (fun r u t H1 locs1 ht hvm hpost hB hz1 hk1 hS1 => ?_)
  · obtain ⟨hTE, hPo⟩ := hB
    have hE := hT E u hTE
    obtain rfl : E = "java/lang/IllegalStateException" := by simpa using hE
    refine vx_catch (name := "java/lang/IllegalStateException") hown [] ⟨0, 16, 19, 13⟩ [] htab (fun z hz => absurd hz List.not_mem_nil) (by decide) (by decide) (hts _ cl_ise) (va_Nw.use rfl (hq.1 _ ca_ise rfl)) hce hcv hcl ?_
    refine lv_astore hx hb (by decide +kernel : decode cL_append 19 = .ok (.astore 7, 2)) hl (by decide) rfl (fun ls' hl' => ?_)
    refine lv_iconst (v := 1) hx hb (by decide +kernel : decode cL_append 21 = .ok (.iconst 1, 1)) (by decide) ?_
    refine vx_ret (W.widen (k := 1) (n := 6) (by omega) (by omega) (W.iret (v := 1) hx hb hr (fun t2 ht2 hW2 => ⟨⟨1, u, rfl, Or.inr ⟨0, _, rfl, rfl, hTE⟩, by unfold qPost at hPo ⊢; rw [ht2]; rw [ht] at hPo; exact hPo⟩, hS1.F ht2⟩) hS1.2.2 (by decide +kernel : decode cL_append 22 = .ok (.ireturn, 1)) hlocks))
  · unfold qPost at hB
    rw [ht] at hB
    refine lv_i2l (v := r.toInt64) hx hb (by decide +kernel : decode cL_append 14 = .ok (.i2l, 1)) rfl ?_
    refine va_last (D := g.2.2.1) (x := r.toInt64) (i := 0) hx hb hK hB (hw.D u) hS1 122 3 qW_outAt rfl (vp_in_nI (n := 0) (by decide) (by decide)) (by decide +kernel : decode cL_append 15 = .ok (.lastore, 1)) (fun H2 locs2 h1 h2 h3 => ?_)
    rw [qW_outSet] at h1
    refine lv_goto (tgt := 23) hx hb (by decide +kernel : decode cL_append 16 = .ok (.goto 7, 3)) rfl ?_
    refine lv_iconst (v := 0) hx hb (by decide +kernel : decode cL_append 23 = .ok (.iconst 0, 1)) (by decide) ?_
    exact vx_ret (W.widen (k := 1) (n := 6) (by omega) (by omega) (W.iret (v := 0) hx hb hr (fun t2 ht2 hW2 => ⟨⟨0, qup u 122 0 r, rfl, Or.inl ⟨rfl, r, u, hpost, rfl⟩, by unfold qPost; rw [ht2]; exact h1⟩, h3.F ht2⟩) h3.2.2 (by decide +kernel : decode cL_append 24 = .ok (.ireturn, 1)) hlocks))
abbrev hL_truncate : List (Nat × Nat × Nat × Nat) := [(0, 9, 12, 19)]
abbrev eL_truncate : List String := ["java/lang/IllegalArgumentException"]
theorem lL_truncate : ∀ w ∈ ([.methodLink RL 15 mX9_truncate.1, .instanceMethod mX9_truncate.1, .selects mX9_truncate.1.cls mX9_truncate.1 mX9_truncate.1] ++ qcw mX9_truncate : List Jvm.Cond), w ∈ qgw := qgw_of [1048, 1049, 1050, 119, 1051] (by decide +kernel) (by decide +kernel)
set_option maxRecDepth 100000 in
set_option maxHeartbeats 4000000 in
theorem lw_truncate {g : qG} (hw : qWF g) {d : Nat} {σ : qS} {a1 : Int32} {Q : Int32 → qS → Prop} {T : String → qS → Prop} (hT : ∀ E u, T E u → E ∈ eL_truncate) (h : qC g d mX9_truncate [.inr 0, .inl a1] σ Q T) : Met g.1 yL_truncate (.codeWith yL_truncate cL_truncate 4 (some .int) hL_truncate :: qgw) (lrm 1 d) (va_Pc [.ref (g.2.2.2.1 0), .int a1, .ref (g.2.2.2.1 122)] (lPre g σ)) (va_Qi (lQ eL_truncate Q T) (qPost g) g.2.1) 1 6 g.2.1 := by
  have h' : vx_Met g.1 mX9_truncate.1 (qws mX9_truncate) (qrm mX9_truncate d) (va_Pc ([Sum.inr 0, Sum.inl a1].map (qv g.2.2.2.1)) (qPre g σ)) (va_Qi Q (qPost g) g.2.1) (qXc g T) 1 6 g.2.1 := h
  refine met_of_vx (vx_ofWH (cc := cL_truncate) (maxL := 4) (ret := some .int) (hh := hL_truncate) (by decide) rfl ?_)
  intro p e s m args below meth c s₁ B hml hv
  obtain ⟨rfl, ⟨hP, hK, hq, hA⟩, hN⟩ := hv
  have hx := B.exec
  have hb := B.bytes
  have hr := B.returns
  have hts0 := atoms_spec (ws := .codeWith yL_truncate cL_truncate 4 (some .int) hL_truncate :: qgw) B.pre
  have htab := vx_table (x := yL_truncate) B (hts0 _ List.mem_cons_self)
  have hts : ∀ w ∈ qgw, w.before _ s = true := fun w hw => hts0 w (List.mem_cons_of_mem _ hw)
  have hown : s.vm.findClass RL = some m.cls := findClass_of_methodNamed B.named
  have hlocks := B.notSynchronized
  have hS : va_S g.2.1 s.heap s.heap [] := va_S.rf
  have hl := lv_entry ([.ref (g.2.2.2.1 0), .int a1, .ref (g.2.2.2.1 122)]) (n := 4) (Nat.le_of_ble_eq_true rfl)
  rw [lg_entry_eq]
  generalize (lg_sl ([.ref (g.2.2.2.1 0), .int a1, .ref (g.2.2.2.1 122)]) ++ List.replicate (4 - (lg_sl ([.ref (g.2.2.2.1 0), .int a1, .ref (g.2.2.2.1 122)])).length) Slot.unset).toArray = ls at hl ⊢
  have hl : lv_has ls 4 [(0, .ref (g.2.2.2.1 0)), (1, .int a1), (2, .ref (g.2.2.2.1 122))] := hl
  refine lv_aload_n (k := 2) hx hb (by decide +kernel : decode cL_truncate 0 = .ok (.aload_n 2, 1)) rfl (lv_at hl 2 rfl) ?_
  refine lv_iconst (v := 0) hx hb (by decide +kernel : decode cL_truncate 1 = .ok (.iconst 0, 1)) (by decide) ?_
  refine lv_aload_n (k := 0) hx hb (by decide +kernel : decode cL_truncate 2 = .ok (.aload_n 0, 1)) rfl (lv_at hl 0 rfl) ?_
  refine lv_iload_n (k := 1) hx hb (by decide +kernel : decode cL_truncate 3 = .ok (.iload_n 1, 1)) rfl (lv_at hl 1 rfl) ?_
  refine vx_calli (vx_runV (C := mX9_truncate.1.cls) (b := g.2.2.2.1 0) (As := [.int a1]) (rest := [.int 0, .ref (g.2.2.2.1 122)]) ⟨hx, hb, hml, hown, hts⟩ h' ⟨⟨rfl, rfl, (by show d + 12 + 1 ≤ d + 13; omega), (by show 8 + (mX9_truncate.2.2.1 + 11) + (60 * d + 300) ≤ 60 * d + 360; have h4 : mX9_truncate.2.2.1 ≤ 40 := (by decide); omega), (fun w hw' a' U hW => by
      have hin : w ∈ qgw := by
        rcases List.mem_cons.mp hw' with rfl | h9
        · exact lL_truncate _ (List.mem_of_getElem? (i := 4) rfl)
        · exact h9
      exact word_at hW (qgw_good hin) (hts _ hin)), List.mem_cons_self, hts _ (lL_truncate _ (List.mem_of_getElem? (i := 4) rfl)), hts _ (lL_truncate _ (List.mem_of_getElem? (i := 3) rfl)), (by decide), qlen (qM_spec (by decide +kernel)), hts _ (lL_truncate _ (List.mem_of_getElem? (i := 0) rfl))⟩, hts _ (lL_truncate _ (List.mem_of_getElem? (i := 1) rfl)), hts _ (lL_truncate _ (List.mem_of_getElem? (i := 2) rfl))⟩ ⟨qblind, va_recv (q := (RX9, TX9, 4)) hK hP rfl (qW_obj (k := 0) rfl), fun U hU hW => ⟨rfl, by rw [hU]; exact hP, va_K.moved hW.alike hK, qK_warm hq hW (fun a _ _ => by rw [hU]), by rw [hU]; exact hA⟩⟩ rfl rfl hl.1 rfl (lv_room (Nat.le_of_ble_eq_true rfl)) (by decide +kernel : decode cL_truncate 4 = .ok (.invokevirtual 15, 3)) ⟨(by show 0 + 1 ≤ 1; decide), (by show 0 + 6 ≤ 6 * 1; decide)⟩) hS (fun q _ h9 => h9) (fun q h9 => h9) (fun q _ h9 => h9) (fun E ce q9 u t H1 locs1 ht hvm _ hB hz1 hk1 hS1 hce hcv hcl => ?_) (fun r u t H1 locs1 ht hvm hpost hB hz1 hk1 hS1 => ?_)
  · obtain ⟨hTE, hPo⟩ := hB
    have hE := hT E u hTE
    obtain rfl : E = "java/lang/IllegalArgumentException" := by simpa using hE
    refine vx_catch (name := "java/lang/IllegalArgumentException") hown [] ⟨0, 9, 12, 19⟩ [] htab (fun z hz => absurd hz List.not_mem_nil) (by decide) (by decide) (hts _ cl_iae) (va_Nw.use rfl (hq.1 _ ca_iae rfl)) hce hcv hcl ?_
    refine lv_astore_n (k := 3) hx hb (by decide +kernel : decode cL_truncate 12 = .ok (.astore_n 3, 1)) rfl hl (by decide) rfl (fun ls' hl' => ?_)
    refine lv_iconst (v := 1) hx hb (by decide +kernel : decode cL_truncate 13 = .ok (.iconst 1, 1)) (by decide) ?_
    refine vx_ret (W.widen (k := 1) (n := 6) (by omega) (by omega) (W.iret (v := 1) hx hb hr (fun t2 ht2 hW2 => ⟨⟨1, u, rfl, Or.inr ⟨0, _, rfl, rfl, hTE⟩, by unfold qPost at hPo ⊢; rw [ht2]; rw [ht] at hPo; exact hPo⟩, hS1.F ht2⟩) hS1.2.2 (by decide +kernel : decode cL_truncate 14 = .ok (.ireturn, 1)) hlocks))
  · unfold qPost at hB
    rw [ht] at hB
    refine lv_i2l (v := r.toInt64) hx hb (by decide +kernel : decode cL_truncate 7 = .ok (.i2l, 1)) rfl ?_
    refine va_last (D := g.2.2.1) (x := r.toInt64) (i := 0) hx hb hK hB (hw.D u) hS1 122 3 qW_outAt rfl (vp_in_nI (n := 0) (by decide) (by decide)) (by decide +kernel : decode cL_truncate 8 = .ok (.lastore, 1)) (fun H2 locs2 h1 h2 h3 => ?_)
    rw [qW_outSet] at h1
    refine lv_goto (tgt := 15) hx hb (by decide +kernel : decode cL_truncate 9 = .ok (.goto 6, 3)) rfl ?_
    refine lv_iconst (v := 0) hx hb (by decide +kernel : decode cL_truncate 15 = .ok (.iconst 0, 1)) (by decide) ?_
    exact vx_ret (W.widen (k := 1) (n := 6) (by omega) (by omega) (W.iret (v := 0) hx hb hr (fun t2 ht2 hW2 => ⟨⟨0, qup u 122 0 r, rfl, Or.inl ⟨rfl, r, u, hpost, rfl⟩, by unfold qPost; rw [ht2]; exact h1⟩, h3.F ht2⟩) h3.2.2 (by decide +kernel : decode cL_truncate 16 = .ok (.ireturn, 1)) hlocks))
abbrev hL_configure : List (Nat × Nat × Nat × Nat) := [(0, 12, 15, 19)]
abbrev eL_configure : List String := ["java/lang/IllegalArgumentException"]
theorem lL_configure : ∀ w ∈ ([.methodLink RL 21 mX9_configure.1, .instanceMethod mX9_configure.1, .selects mX9_configure.1.cls mX9_configure.1 mX9_configure.1] ++ qcw mX9_configure : List Jvm.Cond), w ∈ qgw := qgw_of [1056, 1057, 1058, 119, 1059] (by decide +kernel) (by decide +kernel)
set_option maxRecDepth 100000 in
set_option maxHeartbeats 4000000 in
theorem lw_configure {g : qG} (hw : qWF g) {d : Nat} {σ : qS} {a1 a2 a3 : Int32} {Q : Int32 → qS → Prop} {T : String → qS → Prop} (hT : ∀ E u, T E u → E ∈ eL_configure) (h : qC g d mX9_configure [.inr 0, .inl a1, .inl a2, .inl a3] σ Q T) : Met g.1 yL_configure (.codeWith yL_configure cL_configure 6 (some .int) hL_configure :: qgw) (lrm 1 d) (va_Pc [.ref (g.2.2.2.1 0), .int a1, .int a2, .int a3, .ref (g.2.2.2.1 122)] (lPre g σ)) (va_Qi (lQ eL_configure Q T) (qPost g) g.2.1) 1 6 g.2.1 := by
  have h' : vx_Met g.1 mX9_configure.1 (qws mX9_configure) (qrm mX9_configure d) (va_Pc ([Sum.inr 0, Sum.inl a1, Sum.inl a2, Sum.inl a3].map (qv g.2.2.2.1)) (qPre g σ)) (va_Qi Q (qPost g) g.2.1) (qXc g T) 1 6 g.2.1 := h
  refine met_of_vx (vx_ofWH (cc := cL_configure) (maxL := 6) (ret := some .int) (hh := hL_configure) (by decide) rfl ?_)
  intro p e s m args below meth c s₁ B hml hv
  obtain ⟨rfl, ⟨hP, hK, hq, hA⟩, hN⟩ := hv
  have hx := B.exec
  have hb := B.bytes
  have hr := B.returns
  have hts0 := atoms_spec (ws := .codeWith yL_configure cL_configure 6 (some .int) hL_configure :: qgw) B.pre
  have htab := vx_table (x := yL_configure) B (hts0 _ List.mem_cons_self)
  have hts : ∀ w ∈ qgw, w.before _ s = true := fun w hw => hts0 w (List.mem_cons_of_mem _ hw)
  have hown : s.vm.findClass RL = some m.cls := findClass_of_methodNamed B.named
  have hlocks := B.notSynchronized
  have hS : va_S g.2.1 s.heap s.heap [] := va_S.rf
  have hl := lv_entry ([.ref (g.2.2.2.1 0), .int a1, .int a2, .int a3, .ref (g.2.2.2.1 122)]) (n := 6) (Nat.le_of_ble_eq_true rfl)
  rw [lg_entry_eq]
  generalize (lg_sl ([.ref (g.2.2.2.1 0), .int a1, .int a2, .int a3, .ref (g.2.2.2.1 122)]) ++ List.replicate (6 - (lg_sl ([.ref (g.2.2.2.1 0), .int a1, .int a2, .int a3, .ref (g.2.2.2.1 122)])).length) Slot.unset).toArray = ls at hl ⊢
  have hl : lv_has ls 6 [(0, .ref (g.2.2.2.1 0)), (1, .int a1), (2, .int a2), (3, .int a3), (4, .ref (g.2.2.2.1 122))] := hl
  refine lv_aload hx hb (by decide +kernel : decode cL_configure 0 = .ok (.aload 4, 2)) (lv_at hl 4 rfl) ?_
  refine lv_iconst (v := 0) hx hb (by decide +kernel : decode cL_configure 2 = .ok (.iconst 0, 1)) (by decide) ?_
  refine lv_aload_n (k := 0) hx hb (by decide +kernel : decode cL_configure 3 = .ok (.aload_n 0, 1)) rfl (lv_at hl 0 rfl) ?_
  refine lv_iload_n (k := 1) hx hb (by decide +kernel : decode cL_configure 4 = .ok (.iload_n 1, 1)) rfl (lv_at hl 1 rfl) ?_
  refine lv_iload_n (k := 2) hx hb (by decide +kernel : decode cL_configure 5 = .ok (.iload_n 2, 1)) rfl (lv_at hl 2 rfl) ?_
  refine lv_iload_n (k := 3) hx hb (by decide +kernel : decode cL_configure 6 = .ok (.iload_n 3, 1)) rfl (lv_at hl 3 rfl) ?_
  refine vx_calli (vx_runV (C := mX9_configure.1.cls) (b := g.2.2.2.1 0) (As := [.int a1, .int a2, .int a3]) (rest := [.int 0, .ref (g.2.2.2.1 122)]) ⟨hx, hb, hml, hown, hts⟩ h' ⟨⟨rfl, rfl, (by show d + 12 + 1 ≤ d + 13; omega), (by show 8 + (mX9_configure.2.2.1 + 11) + (60 * d + 300) ≤ 60 * d + 360; have h4 : mX9_configure.2.2.1 ≤ 40 := (by decide); omega), (fun w hw' a' U hW => by
      have hin : w ∈ qgw := by
        rcases List.mem_cons.mp hw' with rfl | h9
        · exact lL_configure _ (List.mem_of_getElem? (i := 4) rfl)
        · exact h9
      exact word_at hW (qgw_good hin) (hts _ hin)), List.mem_cons_self, hts _ (lL_configure _ (List.mem_of_getElem? (i := 4) rfl)), hts _ (lL_configure _ (List.mem_of_getElem? (i := 3) rfl)), (by decide), qlen (qM_spec (by decide +kernel)), hts _ (lL_configure _ (List.mem_of_getElem? (i := 0) rfl))⟩, hts _ (lL_configure _ (List.mem_of_getElem? (i := 1) rfl)), hts _ (lL_configure _ (List.mem_of_getElem? (i := 2) rfl))⟩ ⟨qblind, va_recv (q := (RX9, TX9, 4)) hK hP rfl (qW_obj (k := 0) rfl), fun U hU hW => ⟨rfl, by rw [hU]; exact hP, va_K.moved hW.alike hK, qK_warm hq hW (fun a _ _ => by rw [hU]), by rw [hU]; exact hA⟩⟩ rfl rfl hl.1 rfl (lv_room (Nat.le_of_ble_eq_true rfl)) (by decide +kernel : decode cL_configure 7 = .ok (.invokevirtual 21, 3)) ⟨(by show 0 + 1 ≤ 1; decide), (by show 0 + 6 ≤ 6 * 1; decide)⟩) hS (fun q _ h9 => h9) (fun q h9 => h9) (fun q _ h9 => h9) (fun E ce q9 u t H1 locs1 ht hvm _ hB hz1 hk1 hS1 hce hcv hcl => ?_) (fun r u t H1 locs1 ht hvm hpost hB hz1 hk1 hS1 => ?_)
  · obtain ⟨hTE, hPo⟩ := hB
    have hE := hT E u hTE
    obtain rfl : E = "java/lang/IllegalArgumentException" := by simpa using hE
    refine vx_catch (name := "java/lang/IllegalArgumentException") hown [] ⟨0, 12, 15, 19⟩ [] htab (fun z hz => absurd hz List.not_mem_nil) (by decide) (by decide) (hts _ cl_iae) (va_Nw.use rfl (hq.1 _ ca_iae rfl)) hce hcv hcl ?_
    refine lv_astore hx hb (by decide +kernel : decode cL_configure 15 = .ok (.astore 5, 2)) hl (by decide) rfl (fun ls' hl' => ?_)
    refine lv_iconst (v := 1) hx hb (by decide +kernel : decode cL_configure 17 = .ok (.iconst 1, 1)) (by decide) ?_
    refine vx_ret (W.widen (k := 1) (n := 6) (by omega) (by omega) (W.iret (v := 1) hx hb hr (fun t2 ht2 hW2 => ⟨⟨1, u, rfl, Or.inr ⟨0, _, rfl, rfl, hTE⟩, by unfold qPost at hPo ⊢; rw [ht2]; rw [ht] at hPo; exact hPo⟩, hS1.F ht2⟩) hS1.2.2 (by decide +kernel : decode cL_configure 18 = .ok (.ireturn, 1)) hlocks))
  · unfold qPost at hB
    rw [ht] at hB
    refine lv_i2l (v := r.toInt64) hx hb (by decide +kernel : decode cL_configure 10 = .ok (.i2l, 1)) rfl ?_
    refine va_last (D := g.2.2.1) (x := r.toInt64) (i := 0) hx hb hK hB (hw.D u) hS1 122 3 qW_outAt rfl (vp_in_nI (n := 0) (by decide) (by decide)) (by decide +kernel : decode cL_configure 11 = .ok (.lastore, 1)) (fun H2 locs2 h1 h2 h3 => ?_)
    rw [qW_outSet] at h1
    refine lv_goto (tgt := 19) hx hb (by decide +kernel : decode cL_configure 12 = .ok (.goto 7, 3)) rfl ?_
    refine lv_iconst (v := 0) hx hb (by decide +kernel : decode cL_configure 19 = .ok (.iconst 0, 1)) (by decide) ?_
    exact vx_ret (W.widen (k := 1) (n := 6) (by omega) (by omega) (W.iret (v := 0) hx hb hr (fun t2 ht2 hW2 => ⟨⟨0, qup u 122 0 r, rfl, Or.inl ⟨rfl, r, u, hpost, rfl⟩, by unfold qPost; rw [ht2]; exact h1⟩, h3.F ht2⟩) h3.2.2 (by decide +kernel : decode cL_configure 20 = .ok (.ireturn, 1)) hlocks))
abbrev hL_begin : List (Nat × Nat × Nat × Nat) := [(0, 8, 11, 13)]
abbrev eL_begin : List String := ["java/lang/IllegalStateException"]
theorem lL_begin : ∀ w ∈ ([.methodLink RL 25 mX9_begin.1, .instanceMethod mX9_begin.1, .selects mX9_begin.1.cls mX9_begin.1 mX9_begin.1] ++ qcw mX9_begin : List Jvm.Cond), w ∈ qgw := qgw_of [1069, 1070, 1071, 119, 1072] (by decide +kernel) (by decide +kernel)
set_option maxRecDepth 100000 in
set_option maxHeartbeats 4000000 in
theorem lw_begin {g : qG} (hw : qWF g) {d : Nat} {σ : qS} {Q : Int32 → qS → Prop} {T : String → qS → Prop} (hT : ∀ E u, T E u → E ∈ eL_begin) (h : qC g d mX9_begin [.inr 0] σ Q T) : Met g.1 yL_begin (.codeWith yL_begin cL_begin 3 (some .int) hL_begin :: qgw) (lrm 3 d) (va_Pc [.ref (g.2.2.2.1 0), .ref (g.2.2.2.1 122)] (lPre g σ)) (va_Qi (lQ eL_begin Q T) (qPost g) g.2.1) 3 18 g.2.1 := by
  have h' : vx_Met g.1 mX9_begin.1 (qws mX9_begin) (qrm mX9_begin d) (va_Pc ([Sum.inr 0].map (qv g.2.2.2.1)) (qPre g σ)) (va_Qi Q (qPost g) g.2.1) (qXc g T) 3 18 g.2.1 := h
  refine met_of_vx (vx_ofWH (cc := cL_begin) (maxL := 3) (ret := some .int) (hh := hL_begin) (by decide) rfl ?_)
  intro p e s m args below meth c s₁ B hml hv
  obtain ⟨rfl, ⟨hP, hK, hq, hA⟩, hN⟩ := hv
  have hx := B.exec
  have hb := B.bytes
  have hr := B.returns
  have hts0 := atoms_spec (ws := .codeWith yL_begin cL_begin 3 (some .int) hL_begin :: qgw) B.pre
  have htab := vx_table (x := yL_begin) B (hts0 _ List.mem_cons_self)
  have hts : ∀ w ∈ qgw, w.before _ s = true := fun w hw => hts0 w (List.mem_cons_of_mem _ hw)
  have hown : s.vm.findClass RL = some m.cls := findClass_of_methodNamed B.named
  have hlocks := B.notSynchronized
  have hS : va_S g.2.1 s.heap s.heap [] := va_S.rf
  have hl := lv_entry ([.ref (g.2.2.2.1 0), .ref (g.2.2.2.1 122)]) (n := 3) (Nat.le_of_ble_eq_true rfl)
  rw [lg_entry_eq]
  generalize (lg_sl ([.ref (g.2.2.2.1 0), .ref (g.2.2.2.1 122)]) ++ List.replicate (3 - (lg_sl ([.ref (g.2.2.2.1 0), .ref (g.2.2.2.1 122)])).length) Slot.unset).toArray = ls at hl ⊢
  have hl : lv_has ls 3 [(0, .ref (g.2.2.2.1 0)), (1, .ref (g.2.2.2.1 122))] := hl
  refine lv_aload_n (k := 1) hx hb (by decide +kernel : decode cL_begin 0 = .ok (.aload_n 1, 1)) rfl (lv_at hl 1 rfl) ?_
  refine lv_iconst (v := 0) hx hb (by decide +kernel : decode cL_begin 1 = .ok (.iconst 0, 1)) (by decide) ?_
  refine lv_aload_n (k := 0) hx hb (by decide +kernel : decode cL_begin 2 = .ok (.aload_n 0, 1)) rfl (lv_at hl 0 rfl) ?_
  refine vx_calli (vx_runV (C := mX9_begin.1.cls) (b := g.2.2.2.1 0) (As := []) (rest := [.int 0, .ref (g.2.2.2.1 122)]) ⟨hx, hb, hml, hown, hts⟩ h' ⟨⟨rfl, rfl, (by show d + 12 + 1 ≤ d + 13; omega), (by show 8 + (mX9_begin.2.2.1 + 11) + (60 * d + 300) ≤ 60 * d + 360; have h4 : mX9_begin.2.2.1 ≤ 40 := (by decide); omega), (fun w hw' a' U hW => by
      have hin : w ∈ qgw := by
        rcases List.mem_cons.mp hw' with rfl | h9
        · exact lL_begin _ (List.mem_of_getElem? (i := 4) rfl)
        · exact h9
      exact word_at hW (qgw_good hin) (hts _ hin)), List.mem_cons_self, hts _ (lL_begin _ (List.mem_of_getElem? (i := 4) rfl)), hts _ (lL_begin _ (List.mem_of_getElem? (i := 3) rfl)), (by decide), qlen (qM_spec (by decide +kernel)), hts _ (lL_begin _ (List.mem_of_getElem? (i := 0) rfl))⟩, hts _ (lL_begin _ (List.mem_of_getElem? (i := 1) rfl)), hts _ (lL_begin _ (List.mem_of_getElem? (i := 2) rfl))⟩ ⟨qblind, va_recv (q := (RX9, TX9, 4)) hK hP rfl (qW_obj (k := 0) rfl), fun U hU hW => ⟨rfl, by rw [hU]; exact hP, va_K.moved hW.alike hK, qK_warm hq hW (fun a _ _ => by rw [hU]), by rw [hU]; exact hA⟩⟩ rfl rfl hl.1 rfl (lv_room (Nat.le_of_ble_eq_true rfl)) (by decide +kernel : decode cL_begin 3 = .ok (.invokevirtual 25, 3)) ⟨(by show 0 + 3 ≤ 3; decide), (by show 0 + 18 ≤ 6 * 3; decide)⟩) hS (fun q _ h9 => h9) (fun q h9 => h9) (fun q _ h9 => h9) (fun E ce q9 u t H1 locs1 ht hvm _ hB hz1 hk1 hS1 hce hcv hcl => ?_) (fun r u t H1 locs1 ht hvm hpost hB hz1 hk1 hS1 => ?_)
  · obtain ⟨hTE, hPo⟩ := hB
    have hE := hT E u hTE
    obtain rfl : E = "java/lang/IllegalStateException" := by simpa using hE
    refine vx_catch (name := "java/lang/IllegalStateException") hown [] ⟨0, 8, 11, 13⟩ [] htab (fun z hz => absurd hz List.not_mem_nil) (by decide) (by decide) (hts _ cl_ise) (va_Nw.use rfl (hq.1 _ ca_ise rfl)) hce hcv hcl ?_
    refine lv_astore_n (k := 2) hx hb (by decide +kernel : decode cL_begin 11 = .ok (.astore_n 2, 1)) rfl hl (by decide) rfl (fun ls' hl' => ?_)
    refine lv_iconst (v := 1) hx hb (by decide +kernel : decode cL_begin 12 = .ok (.iconst 1, 1)) (by decide) ?_
    refine vx_ret (W.widen (k := 3) (n := 18) (by omega) (by omega) (W.iret (v := 1) hx hb hr (fun t2 ht2 hW2 => ⟨⟨1, u, rfl, Or.inr ⟨0, _, rfl, rfl, hTE⟩, by unfold qPost at hPo ⊢; rw [ht2]; rw [ht] at hPo; exact hPo⟩, hS1.F ht2⟩) hS1.2.2 (by decide +kernel : decode cL_begin 13 = .ok (.ireturn, 1)) hlocks))
  · unfold qPost at hB
    rw [ht] at hB
    refine lv_i2l (v := r.toInt64) hx hb (by decide +kernel : decode cL_begin 6 = .ok (.i2l, 1)) rfl ?_
    refine va_last (D := g.2.2.1) (x := r.toInt64) (i := 0) hx hb hK hB (hw.D u) hS1 122 3 qW_outAt rfl (vp_in_nI (n := 0) (by decide) (by decide)) (by decide +kernel : decode cL_begin 7 = .ok (.lastore, 1)) (fun H2 locs2 h1 h2 h3 => ?_)
    rw [qW_outSet] at h1
    refine lv_goto (tgt := 14) hx hb (by decide +kernel : decode cL_begin 8 = .ok (.goto 6, 3)) rfl ?_
    refine lv_iconst (v := 0) hx hb (by decide +kernel : decode cL_begin 14 = .ok (.iconst 0, 1)) (by decide) ?_
    exact vx_ret (W.widen (k := 3) (n := 18) (by omega) (by omega) (W.iret (v := 0) hx hb hr (fun t2 ht2 hW2 => ⟨⟨0, qup u 122 0 r, rfl, Or.inl ⟨rfl, r, u, hpost, rfl⟩, by unfold qPost; rw [ht2]; exact h1⟩, h3.F ht2⟩) h3.2.2 (by decide +kernel : decode cL_begin 15 = .ok (.ireturn, 1)) hlocks))
abbrev hL_commit : List (Nat × Nat × Nat × Nat) := [(0, 9, 12, 32), (0, 9, 15, 13)]
abbrev eL_commit : List String := ["java/lang/IndexOutOfBoundsException", "java/lang/IllegalStateException"]
theorem lL_commit : ∀ w ∈ ([.methodLink RL 29 mX9_commit.1, .instanceMethod mX9_commit.1, .selects mX9_commit.1.cls mX9_commit.1 mX9_commit.1] ++ qcw mX9_commit : List Jvm.Cond), w ∈ qgw := qgw_of [1077, 1078, 1079, 119, 1080] (by decide +kernel) (by decide +kernel)
set_option maxRecDepth 100000 in
set_option maxHeartbeats 4000000 in
theorem lw_commit {g : qG} (hw : qWF g) {d : Nat} {σ : qS} {a1 : Int32} {Q : Int32 → qS → Prop} {T : String → qS → Prop} (hT : ∀ E u, T E u → E ∈ eL_commit) (h : qC g d mX9_commit [.inr 0, .inl a1] σ Q T) : Met g.1 yL_commit (.codeWith yL_commit cL_commit 4 (some .int) hL_commit :: qgw) (lrm 3 d) (va_Pc [.ref (g.2.2.2.1 0), .int a1, .ref (g.2.2.2.1 122)] (lPre g σ)) (va_Qi (lQ eL_commit Q T) (qPost g) g.2.1) 3 18 g.2.1 := by
  have h' : vx_Met g.1 mX9_commit.1 (qws mX9_commit) (qrm mX9_commit d) (va_Pc ([Sum.inr 0, Sum.inl a1].map (qv g.2.2.2.1)) (qPre g σ)) (va_Qi Q (qPost g) g.2.1) (qXc g T) 3 18 g.2.1 := h
  refine met_of_vx (vx_ofWH (cc := cL_commit) (maxL := 4) (ret := some .int) (hh := hL_commit) (by decide) rfl ?_)
  intro p e s m args below meth c s₁ B hml hv
  obtain ⟨rfl, ⟨hP, hK, hq, hA⟩, hN⟩ := hv
  have hx := B.exec
  have hb := B.bytes
  have hr := B.returns
  have hts0 := atoms_spec (ws := .codeWith yL_commit cL_commit 4 (some .int) hL_commit :: qgw) B.pre
  have htab := vx_table (x := yL_commit) B (hts0 _ List.mem_cons_self)
  have hts : ∀ w ∈ qgw, w.before _ s = true := fun w hw => hts0 w (List.mem_cons_of_mem _ hw)
  have hown : s.vm.findClass RL = some m.cls := findClass_of_methodNamed B.named
  have hlocks := B.notSynchronized
  have hS : va_S g.2.1 s.heap s.heap [] := va_S.rf
  have hl := lv_entry ([.ref (g.2.2.2.1 0), .int a1, .ref (g.2.2.2.1 122)]) (n := 4) (Nat.le_of_ble_eq_true rfl)
  rw [lg_entry_eq]
  generalize (lg_sl ([.ref (g.2.2.2.1 0), .int a1, .ref (g.2.2.2.1 122)]) ++ List.replicate (4 - (lg_sl ([.ref (g.2.2.2.1 0), .int a1, .ref (g.2.2.2.1 122)])).length) Slot.unset).toArray = ls at hl ⊢
  have hl : lv_has ls 4 [(0, .ref (g.2.2.2.1 0)), (1, .int a1), (2, .ref (g.2.2.2.1 122))] := hl
  refine lv_aload_n (k := 2) hx hb (by decide +kernel : decode cL_commit 0 = .ok (.aload_n 2, 1)) rfl (lv_at hl 2 rfl) ?_
  refine lv_iconst (v := 0) hx hb (by decide +kernel : decode cL_commit 1 = .ok (.iconst 0, 1)) (by decide) ?_
  refine lv_aload_n (k := 0) hx hb (by decide +kernel : decode cL_commit 2 = .ok (.aload_n 0, 1)) rfl (lv_at hl 0 rfl) ?_
  refine lv_iload_n (k := 1) hx hb (by decide +kernel : decode cL_commit 3 = .ok (.iload_n 1, 1)) rfl (lv_at hl 1 rfl) ?_
  refine vx_calli (vx_runV (C := mX9_commit.1.cls) (b := g.2.2.2.1 0) (As := [.int a1]) (rest := [.int 0, .ref (g.2.2.2.1 122)]) ⟨hx, hb, hml, hown, hts⟩ h' ⟨⟨rfl, rfl, (by show d + 12 + 1 ≤ d + 13; omega), (by show 8 + (mX9_commit.2.2.1 + 11) + (60 * d + 300) ≤ 60 * d + 360; have h4 : mX9_commit.2.2.1 ≤ 40 := (by decide); omega), (fun w hw' a' U hW => by
      have hin : w ∈ qgw := by
        rcases List.mem_cons.mp hw' with rfl | h9
        · exact lL_commit _ (List.mem_of_getElem? (i := 4) rfl)
        · exact h9
      exact word_at hW (qgw_good hin) (hts _ hin)), List.mem_cons_self, hts _ (lL_commit _ (List.mem_of_getElem? (i := 4) rfl)), hts _ (lL_commit _ (List.mem_of_getElem? (i := 3) rfl)), (by decide), qlen (qM_spec (by decide +kernel)), hts _ (lL_commit _ (List.mem_of_getElem? (i := 0) rfl))⟩, hts _ (lL_commit _ (List.mem_of_getElem? (i := 1) rfl)), hts _ (lL_commit _ (List.mem_of_getElem? (i := 2) rfl))⟩ ⟨qblind, va_recv (q := (RX9, TX9, 4)) hK hP rfl (qW_obj (k := 0) rfl), fun U hU hW => ⟨rfl, by rw [hU]; exact hP, va_K.moved hW.alike hK, qK_warm hq hW (fun a _ _ => by rw [hU]), by rw [hU]; exact hA⟩⟩ rfl rfl hl.1 rfl (lv_room (Nat.le_of_ble_eq_true rfl)) (by decide +kernel : decode cL_commit 4 = .ok (.invokevirtual 29, 3)) ⟨(by show 0 + 3 ≤ 3; decide), (by show 0 + 18 ≤ 6 * 3; decide)⟩) hS (fun q _ h9 => h9) (fun q h9 => h9) (fun q _ h9 => h9) (fun E ce q9 u t H1 locs1 ht hvm _ hB hz1 hk1 hS1 hce hcv hcl => ?_) (fun r u t H1 locs1 ht hvm hpost hB hz1 hk1 hS1 => ?_)
  · obtain ⟨hTE, hPo⟩ := hB
    have hE := hT E u hTE
    have hE : E = "java/lang/IndexOutOfBoundsException" ∨ E = "java/lang/IllegalStateException" := by simpa using hE
    rcases hE with rfl | rfl
    · refine vx_catch (name := "java/lang/IndexOutOfBoundsException") hown [] ⟨0, 9, 12, 32⟩ [⟨0, 9, 15, 13⟩] htab (fun z hz => absurd hz List.not_mem_nil) (by decide) (by decide) (hts _ cl_ioe) (va_Nw.use rfl (hq.1 _ ca_ioe rfl)) hce hcv hcl ?_
      refine lv_astore_n (k := 3) hx hb (by decide +kernel : decode cL_commit 12 = .ok (.astore_n 3, 1)) rfl hl (by decide) rfl (fun ls' hl' => ?_)
      refine lv_iconst (v := 1) hx hb (by decide +kernel : decode cL_commit 13 = .ok (.iconst 1, 1)) (by decide) ?_
      refine vx_ret (W.widen (k := 3) (n := 18) (by omega) (by omega) (W.iret (v := 1) hx hb hr (fun t2 ht2 hW2 => ⟨⟨1, u, rfl, Or.inr ⟨0, _, rfl, rfl, hTE⟩, by unfold qPost at hPo ⊢; rw [ht2]; rw [ht] at hPo; exact hPo⟩, hS1.F ht2⟩) hS1.2.2 (by decide +kernel : decode cL_commit 14 = .ok (.ireturn, 1)) hlocks))
    · refine vx_catch (name := "java/lang/IllegalStateException") hown [(⟨0, 9, 12, 32⟩ : ExceptionTableEntry)] ⟨0, 9, 15, 13⟩ [] htab (List.forall_mem_cons.mpr ⟨Or.inr ⟨by decide, "java/lang/IndexOutOfBoundsException", hts _ cl_ioe, hN ("java/lang/IllegalStateException", "java/lang/IndexOutOfBoundsException") (by decide)⟩, fun z hz => absurd hz List.not_mem_nil⟩) (by decide) (by decide) (hts _ cl_ise) (va_Nw.use rfl (hq.1 _ ca_ise rfl)) hce hcv hcl ?_
      refine lv_astore_n (k := 3) hx hb (by decide +kernel : decode cL_commit 15 = .ok (.astore_n 3, 1)) rfl hl (by decide) rfl (fun ls' hl' => ?_)
      refine lv_iconst (v := 2) hx hb (by decide +kernel : decode cL_commit 16 = .ok (.iconst 2, 1)) (by decide) ?_
      refine vx_ret (W.widen (k := 3) (n := 18) (by omega) (by omega) (W.iret (v := 2) hx hb hr (fun t2 ht2 hW2 => ⟨⟨2, u, rfl, Or.inr ⟨1, _, rfl, rfl, hTE⟩, by unfold qPost at hPo ⊢; rw [ht2]; rw [ht] at hPo; exact hPo⟩, hS1.F ht2⟩) hS1.2.2 (by decide +kernel : decode cL_commit 17 = .ok (.ireturn, 1)) hlocks))
  · unfold qPost at hB
    rw [ht] at hB
    refine lv_i2l (v := r.toInt64) hx hb (by decide +kernel : decode cL_commit 7 = .ok (.i2l, 1)) rfl ?_
    refine va_last (D := g.2.2.1) (x := r.toInt64) (i := 0) hx hb hK hB (hw.D u) hS1 122 3 qW_outAt rfl (vp_in_nI (n := 0) (by decide) (by decide)) (by decide +kernel : decode cL_commit 8 = .ok (.lastore, 1)) (fun H2 locs2 h1 h2 h3 => ?_)
    rw [qW_outSet] at h1
    refine lv_goto (tgt := 18) hx hb (by decide +kernel : decode cL_commit 9 = .ok (.goto 9, 3)) rfl ?_
    refine lv_iconst (v := 0) hx hb (by decide +kernel : decode cL_commit 18 = .ok (.iconst 0, 1)) (by decide) ?_
    exact vx_ret (W.widen (k := 3) (n := 18) (by omega) (by omega) (W.iret (v := 0) hx hb hr (fun t2 ht2 hW2 => ⟨⟨0, qup u 122 0 r, rfl, Or.inl ⟨rfl, r, u, hpost, rfl⟩, by unfold qPost; rw [ht2]; exact h1⟩, h3.F ht2⟩) h3.2.2 (by decide +kernel : decode cL_commit 19 = .ok (.ireturn, 1)) hlocks))
abbrev hL_abort : List (Nat × Nat × Nat × Nat) := [(0, 9, 12, 32), (0, 9, 15, 13)]
abbrev eL_abort : List String := ["java/lang/IndexOutOfBoundsException", "java/lang/IllegalStateException"]
theorem lL_abort : ∀ w ∈ ([.methodLink RL 34 mX9_abort.1, .instanceMethod mX9_abort.1, .selects mX9_abort.1.cls mX9_abort.1 mX9_abort.1] ++ qcw mX9_abort : List Jvm.Cond), w ∈ qgw := qgw_of [1084, 1085, 1086, 119, 1087] (by decide +kernel) (by decide +kernel)
set_option maxRecDepth 100000 in
set_option maxHeartbeats 4000000 in
theorem lw_abort {g : qG} (hw : qWF g) {d : Nat} {σ : qS} {a1 : Int32} {Q : Int32 → qS → Prop} {T : String → qS → Prop} (hT : ∀ E u, T E u → E ∈ eL_abort) (h : qC g d mX9_abort [.inr 0, .inl a1] σ Q T) : Met g.1 yL_abort (.codeWith yL_abort cL_abort 4 (some .int) hL_abort :: qgw) (lrm 3 d) (va_Pc [.ref (g.2.2.2.1 0), .int a1, .ref (g.2.2.2.1 122)] (lPre g σ)) (va_Qi (lQ eL_abort Q T) (qPost g) g.2.1) 3 18 g.2.1 := by
  have h' : vx_Met g.1 mX9_abort.1 (qws mX9_abort) (qrm mX9_abort d) (va_Pc ([Sum.inr 0, Sum.inl a1].map (qv g.2.2.2.1)) (qPre g σ)) (va_Qi Q (qPost g) g.2.1) (qXc g T) 3 18 g.2.1 := h
  refine met_of_vx (vx_ofWH (cc := cL_abort) (maxL := 4) (ret := some .int) (hh := hL_abort) (by decide) rfl ?_)
  intro p e s m args below meth c s₁ B hml hv
  obtain ⟨rfl, ⟨hP, hK, hq, hA⟩, hN⟩ := hv
  have hx := B.exec
  have hb := B.bytes
  have hr := B.returns
  have hts0 := atoms_spec (ws := .codeWith yL_abort cL_abort 4 (some .int) hL_abort :: qgw) B.pre
  have htab := vx_table (x := yL_abort) B (hts0 _ List.mem_cons_self)
  have hts : ∀ w ∈ qgw, w.before _ s = true := fun w hw => hts0 w (List.mem_cons_of_mem _ hw)
  have hown : s.vm.findClass RL = some m.cls := findClass_of_methodNamed B.named
  have hlocks := B.notSynchronized
  have hS : va_S g.2.1 s.heap s.heap [] := va_S.rf
  have hl := lv_entry ([.ref (g.2.2.2.1 0), .int a1, .ref (g.2.2.2.1 122)]) (n := 4) (Nat.le_of_ble_eq_true rfl)
  rw [lg_entry_eq]
  generalize (lg_sl ([.ref (g.2.2.2.1 0), .int a1, .ref (g.2.2.2.1 122)]) ++ List.replicate (4 - (lg_sl ([.ref (g.2.2.2.1 0), .int a1, .ref (g.2.2.2.1 122)])).length) Slot.unset).toArray = ls at hl ⊢
  have hl : lv_has ls 4 [(0, .ref (g.2.2.2.1 0)), (1, .int a1), (2, .ref (g.2.2.2.1 122))] := hl
  refine lv_aload_n (k := 2) hx hb (by decide +kernel : decode cL_abort 0 = .ok (.aload_n 2, 1)) rfl (lv_at hl 2 rfl) ?_
  refine lv_iconst (v := 0) hx hb (by decide +kernel : decode cL_abort 1 = .ok (.iconst 0, 1)) (by decide) ?_
  refine lv_aload_n (k := 0) hx hb (by decide +kernel : decode cL_abort 2 = .ok (.aload_n 0, 1)) rfl (lv_at hl 0 rfl) ?_
  refine lv_iload_n (k := 1) hx hb (by decide +kernel : decode cL_abort 3 = .ok (.iload_n 1, 1)) rfl (lv_at hl 1 rfl) ?_
  refine vx_calli (vx_runV (C := mX9_abort.1.cls) (b := g.2.2.2.1 0) (As := [.int a1]) (rest := [.int 0, .ref (g.2.2.2.1 122)]) ⟨hx, hb, hml, hown, hts⟩ h' ⟨⟨rfl, rfl, (by show d + 12 + 1 ≤ d + 13; omega), (by show 8 + (mX9_abort.2.2.1 + 11) + (60 * d + 300) ≤ 60 * d + 360; have h4 : mX9_abort.2.2.1 ≤ 40 := (by decide); omega), (fun w hw' a' U hW => by
      have hin : w ∈ qgw := by
        rcases List.mem_cons.mp hw' with rfl | h9
        · exact lL_abort _ (List.mem_of_getElem? (i := 4) rfl)
        · exact h9
      exact word_at hW (qgw_good hin) (hts _ hin)), List.mem_cons_self, hts _ (lL_abort _ (List.mem_of_getElem? (i := 4) rfl)), hts _ (lL_abort _ (List.mem_of_getElem? (i := 3) rfl)), (by decide), qlen (qM_spec (by decide +kernel)), hts _ (lL_abort _ (List.mem_of_getElem? (i := 0) rfl))⟩, hts _ (lL_abort _ (List.mem_of_getElem? (i := 1) rfl)), hts _ (lL_abort _ (List.mem_of_getElem? (i := 2) rfl))⟩ ⟨qblind, va_recv (q := (RX9, TX9, 4)) hK hP rfl (qW_obj (k := 0) rfl), fun U hU hW => ⟨rfl, by rw [hU]; exact hP, va_K.moved hW.alike hK, qK_warm hq hW (fun a _ _ => by rw [hU]), by rw [hU]; exact hA⟩⟩ rfl rfl hl.1 rfl (lv_room (Nat.le_of_ble_eq_true rfl)) (by decide +kernel : decode cL_abort 4 = .ok (.invokevirtual 34, 3)) ⟨(by show 0 + 3 ≤ 3; decide), (by show 0 + 18 ≤ 6 * 3; decide)⟩) hS (fun q _ h9 => h9) (fun q h9 => h9) (fun q _ h9 => h9) (fun E ce q9 u t H1 locs1 ht hvm _ hB hz1 hk1 hS1 hce hcv hcl => ?_) (fun r u t H1 locs1 ht hvm hpost hB hz1 hk1 hS1 => ?_)
  · obtain ⟨hTE, hPo⟩ := hB
    have hE := hT E u hTE
    have hE : E = "java/lang/IndexOutOfBoundsException" ∨ E = "java/lang/IllegalStateException" := by simpa using hE
    rcases hE with rfl | rfl
    · refine vx_catch (name := "java/lang/IndexOutOfBoundsException") hown [] ⟨0, 9, 12, 32⟩ [⟨0, 9, 15, 13⟩] htab (fun z hz => absurd hz List.not_mem_nil) (by decide) (by decide) (hts _ cl_ioe) (va_Nw.use rfl (hq.1 _ ca_ioe rfl)) hce hcv hcl ?_
      refine lv_astore_n (k := 3) hx hb (by decide +kernel : decode cL_abort 12 = .ok (.astore_n 3, 1)) rfl hl (by decide) rfl (fun ls' hl' => ?_)
      refine lv_iconst (v := 1) hx hb (by decide +kernel : decode cL_abort 13 = .ok (.iconst 1, 1)) (by decide) ?_
      refine vx_ret (W.widen (k := 3) (n := 18) (by omega) (by omega) (W.iret (v := 1) hx hb hr (fun t2 ht2 hW2 => ⟨⟨1, u, rfl, Or.inr ⟨0, _, rfl, rfl, hTE⟩, by unfold qPost at hPo ⊢; rw [ht2]; rw [ht] at hPo; exact hPo⟩, hS1.F ht2⟩) hS1.2.2 (by decide +kernel : decode cL_abort 14 = .ok (.ireturn, 1)) hlocks))
    · refine vx_catch (name := "java/lang/IllegalStateException") hown [(⟨0, 9, 12, 32⟩ : ExceptionTableEntry)] ⟨0, 9, 15, 13⟩ [] htab (List.forall_mem_cons.mpr ⟨Or.inr ⟨by decide, "java/lang/IndexOutOfBoundsException", hts _ cl_ioe, hN ("java/lang/IllegalStateException", "java/lang/IndexOutOfBoundsException") (by decide)⟩, fun z hz => absurd hz List.not_mem_nil⟩) (by decide) (by decide) (hts _ cl_ise) (va_Nw.use rfl (hq.1 _ ca_ise rfl)) hce hcv hcl ?_
      refine lv_astore_n (k := 3) hx hb (by decide +kernel : decode cL_abort 15 = .ok (.astore_n 3, 1)) rfl hl (by decide) rfl (fun ls' hl' => ?_)
      refine lv_iconst (v := 2) hx hb (by decide +kernel : decode cL_abort 16 = .ok (.iconst 2, 1)) (by decide) ?_
      refine vx_ret (W.widen (k := 3) (n := 18) (by omega) (by omega) (W.iret (v := 2) hx hb hr (fun t2 ht2 hW2 => ⟨⟨2, u, rfl, Or.inr ⟨1, _, rfl, rfl, hTE⟩, by unfold qPost at hPo ⊢; rw [ht2]; rw [ht] at hPo; exact hPo⟩, hS1.F ht2⟩) hS1.2.2 (by decide +kernel : decode cL_abort 17 = .ok (.ireturn, 1)) hlocks))
  · unfold qPost at hB
    rw [ht] at hB
    refine lv_i2l (v := r.toInt64) hx hb (by decide +kernel : decode cL_abort 7 = .ok (.i2l, 1)) rfl ?_
    refine va_last (D := g.2.2.1) (x := r.toInt64) (i := 0) hx hb hK hB (hw.D u) hS1 122 3 qW_outAt rfl (vp_in_nI (n := 0) (by decide) (by decide)) (by decide +kernel : decode cL_abort 8 = .ok (.lastore, 1)) (fun H2 locs2 h1 h2 h3 => ?_)
    rw [qW_outSet] at h1
    refine lv_goto (tgt := 18) hx hb (by decide +kernel : decode cL_abort 9 = .ok (.goto 9, 3)) rfl ?_
    refine lv_iconst (v := 0) hx hb (by decide +kernel : decode cL_abort 18 = .ok (.iconst 0, 1)) (by decide) ?_
    exact vx_ret (W.widen (k := 3) (n := 18) (by omega) (by omega) (W.iret (v := 0) hx hb hr (fun t2 ht2 hW2 => ⟨⟨0, qup u 122 0 r, rfl, Or.inl ⟨rfl, r, u, hpost, rfl⟩, by unfold qPost; rw [ht2]; exact h1⟩, h3.F ht2⟩) h3.2.2 (by decide +kernel : decode cL_abort 19 = .ok (.ireturn, 1)) hlocks))
abbrev hL_write : List (Nat × Nat × Nat × Nat) := [(0, 14, 17, 32), (0, 14, 21, 19), (0, 14, 25, 13)]
abbrev eL_write : List String := ["java/lang/IndexOutOfBoundsException", "java/lang/IllegalArgumentException", "java/lang/IllegalStateException"]
theorem lL_write : ∀ w ∈ ([.methodLink RL 37 mX9_write.1, .instanceMethod mX9_write.1, .selects mX9_write.1.cls mX9_write.1 mX9_write.1] ++ qcw mX9_write : List Jvm.Cond), w ∈ qgw := qgw_of [1091, 1092, 1093, 119, 1094] (by decide +kernel) (by decide +kernel)
set_option maxRecDepth 100000 in
set_option maxHeartbeats 4000000 in
theorem lw_write {g : qG} (hw : qWF g) {d : Nat} {σ : qS} {a1 a2 a3 a4 : Int32} {Q : Int32 → qS → Prop} {T : String → qS → Prop} (hT : ∀ E u, T E u → E ∈ eL_write) (h : qC g d mX9_write [.inr 0, .inl a1, .inl a2, .inl a3, .inl a4] σ Q T) : Met g.1 yL_write (.codeWith yL_write cL_write 7 (some .int) hL_write :: qgw) (lrm 3 d) (va_Pc [.ref (g.2.2.2.1 0), .int a1, .int a2, .int a3, .int a4, .ref (g.2.2.2.1 122)] (lPre g σ)) (va_Qi (lQ eL_write Q T) (qPost g) g.2.1) 3 18 g.2.1 := by
  have h' : vx_Met g.1 mX9_write.1 (qws mX9_write) (qrm mX9_write d) (va_Pc ([Sum.inr 0, Sum.inl a1, Sum.inl a2, Sum.inl a3, Sum.inl a4].map (qv g.2.2.2.1)) (qPre g σ)) (va_Qi Q (qPost g) g.2.1) (qXc g T) 3 18 g.2.1 := h
  refine met_of_vx (vx_ofWH (cc := cL_write) (maxL := 7) (ret := some .int) (hh := hL_write) (by decide) rfl ?_)
  intro p e s m args below meth c s₁ B hml hv
  obtain ⟨rfl, ⟨hP, hK, hq, hA⟩, hN⟩ := hv
  have hx := B.exec
  have hb := B.bytes
  have hr := B.returns
  have hts0 := atoms_spec (ws := .codeWith yL_write cL_write 7 (some .int) hL_write :: qgw) B.pre
  have htab := vx_table (x := yL_write) B (hts0 _ List.mem_cons_self)
  have hts : ∀ w ∈ qgw, w.before _ s = true := fun w hw => hts0 w (List.mem_cons_of_mem _ hw)
  have hown : s.vm.findClass RL = some m.cls := findClass_of_methodNamed B.named
  have hlocks := B.notSynchronized
  have hS : va_S g.2.1 s.heap s.heap [] := va_S.rf
  have hl := lv_entry ([.ref (g.2.2.2.1 0), .int a1, .int a2, .int a3, .int a4, .ref (g.2.2.2.1 122)]) (n := 7) (Nat.le_of_ble_eq_true rfl)
  rw [lg_entry_eq]
  generalize (lg_sl ([.ref (g.2.2.2.1 0), .int a1, .int a2, .int a3, .int a4, .ref (g.2.2.2.1 122)]) ++ List.replicate (7 - (lg_sl ([.ref (g.2.2.2.1 0), .int a1, .int a2, .int a3, .int a4, .ref (g.2.2.2.1 122)])).length) Slot.unset).toArray = ls at hl ⊢
  have hl : lv_has ls 7 [(0, .ref (g.2.2.2.1 0)), (1, .int a1), (2, .int a2), (3, .int a3), (4, .int a4), (5, .ref (g.2.2.2.1 122))] := hl
  refine lv_aload hx hb (by decide +kernel : decode cL_write 0 = .ok (.aload 5, 2)) (lv_at hl 5 rfl) ?_
  refine lv_iconst (v := 0) hx hb (by decide +kernel : decode cL_write 2 = .ok (.iconst 0, 1)) (by decide) ?_
  refine lv_aload_n (k := 0) hx hb (by decide +kernel : decode cL_write 3 = .ok (.aload_n 0, 1)) rfl (lv_at hl 0 rfl) ?_
  refine lv_iload_n (k := 1) hx hb (by decide +kernel : decode cL_write 4 = .ok (.iload_n 1, 1)) rfl (lv_at hl 1 rfl) ?_
  refine lv_iload_n (k := 2) hx hb (by decide +kernel : decode cL_write 5 = .ok (.iload_n 2, 1)) rfl (lv_at hl 2 rfl) ?_
  refine lv_iload_n (k := 3) hx hb (by decide +kernel : decode cL_write 6 = .ok (.iload_n 3, 1)) rfl (lv_at hl 3 rfl) ?_
  refine lv_iload hx hb (by decide +kernel : decode cL_write 7 = .ok (.iload 4, 2)) (lv_at hl 4 rfl) ?_
  refine vx_calli (vx_runV (C := mX9_write.1.cls) (b := g.2.2.2.1 0) (As := [.int a1, .int a2, .int a3, .int a4]) (rest := [.int 0, .ref (g.2.2.2.1 122)]) ⟨hx, hb, hml, hown, hts⟩ h' ⟨⟨rfl, rfl, (by show d + 12 + 1 ≤ d + 13; omega), (by show 8 + (mX9_write.2.2.1 + 11) + (60 * d + 300) ≤ 60 * d + 360; have h4 : mX9_write.2.2.1 ≤ 40 := (by decide); omega), (fun w hw' a' U hW => by
      have hin : w ∈ qgw := by
        rcases List.mem_cons.mp hw' with rfl | h9
        · exact lL_write _ (List.mem_of_getElem? (i := 4) rfl)
        · exact h9
      exact word_at hW (qgw_good hin) (hts _ hin)), List.mem_cons_self, hts _ (lL_write _ (List.mem_of_getElem? (i := 4) rfl)), hts _ (lL_write _ (List.mem_of_getElem? (i := 3) rfl)), (by decide), qlen (qM_spec (by decide +kernel)), hts _ (lL_write _ (List.mem_of_getElem? (i := 0) rfl))⟩, hts _ (lL_write _ (List.mem_of_getElem? (i := 1) rfl)), hts _ (lL_write _ (List.mem_of_getElem? (i := 2) rfl))⟩ ⟨qblind, va_recv (q := (RX9, TX9, 4)) hK hP rfl (qW_obj (k := 0) rfl), fun U hU hW => ⟨rfl, by rw [hU]; exact hP, va_K.moved hW.alike hK, qK_warm hq hW (fun a _ _ => by rw [hU]), by rw [hU]; exact hA⟩⟩ rfl rfl hl.1 rfl (lv_room (Nat.le_of_ble_eq_true rfl)) (by decide +kernel : decode cL_write 9 = .ok (.invokevirtual 37, 3)) ⟨(by show 0 + 3 ≤ 3; decide), (by show 0 + 18 ≤ 6 * 3; decide)⟩) hS (fun q _ h9 => h9) (fun q h9 => h9) (fun q _ h9 => h9) (fun E ce q9 u t H1 locs1 ht hvm _ hB hz1 hk1 hS1 hce hcv hcl => ?_) (fun r u t H1 locs1 ht hvm hpost hB hz1 hk1 hS1 => ?_)
  · obtain ⟨hTE, hPo⟩ := hB
    have hE := hT E u hTE
    have hE : E = "java/lang/IndexOutOfBoundsException" ∨ E = "java/lang/IllegalArgumentException" ∨ E = "java/lang/IllegalStateException" := by simpa using hE
    rcases hE with rfl | rfl | rfl
    · refine vx_catch (name := "java/lang/IndexOutOfBoundsException") hown [] ⟨0, 14, 17, 32⟩ [⟨0, 14, 21, 19⟩, ⟨0, 14, 25, 13⟩] htab (fun z hz => absurd hz List.not_mem_nil) (by decide) (by decide) (hts _ cl_ioe) (va_Nw.use rfl (hq.1 _ ca_ioe rfl)) hce hcv hcl ?_
      refine lv_astore hx hb (by decide +kernel : decode cL_write 17 = .ok (.astore 6, 2)) hl (by decide) rfl (fun ls' hl' => ?_)
      refine lv_iconst (v := 1) hx hb (by decide +kernel : decode cL_write 19 = .ok (.iconst 1, 1)) (by decide) ?_
      refine vx_ret (W.widen (k := 3) (n := 18) (by omega) (by omega) (W.iret (v := 1) hx hb hr (fun t2 ht2 hW2 => ⟨⟨1, u, rfl, Or.inr ⟨0, _, rfl, rfl, hTE⟩, by unfold qPost at hPo ⊢; rw [ht2]; rw [ht] at hPo; exact hPo⟩, hS1.F ht2⟩) hS1.2.2 (by decide +kernel : decode cL_write 20 = .ok (.ireturn, 1)) hlocks))
    · refine vx_catch (name := "java/lang/IllegalArgumentException") hown [(⟨0, 14, 17, 32⟩ : ExceptionTableEntry)] ⟨0, 14, 21, 19⟩ [⟨0, 14, 25, 13⟩] htab (List.forall_mem_cons.mpr ⟨Or.inr ⟨by decide, "java/lang/IndexOutOfBoundsException", hts _ cl_ioe, hN ("java/lang/IllegalArgumentException", "java/lang/IndexOutOfBoundsException") (by decide)⟩, fun z hz => absurd hz List.not_mem_nil⟩) (by decide) (by decide) (hts _ cl_iae) (va_Nw.use rfl (hq.1 _ ca_iae rfl)) hce hcv hcl ?_
      refine lv_astore hx hb (by decide +kernel : decode cL_write 21 = .ok (.astore 6, 2)) hl (by decide) rfl (fun ls' hl' => ?_)
      refine lv_iconst (v := 2) hx hb (by decide +kernel : decode cL_write 23 = .ok (.iconst 2, 1)) (by decide) ?_
      refine vx_ret (W.widen (k := 3) (n := 18) (by omega) (by omega) (W.iret (v := 2) hx hb hr (fun t2 ht2 hW2 => ⟨⟨2, u, rfl, Or.inr ⟨1, _, rfl, rfl, hTE⟩, by unfold qPost at hPo ⊢; rw [ht2]; rw [ht] at hPo; exact hPo⟩, hS1.F ht2⟩) hS1.2.2 (by decide +kernel : decode cL_write 24 = .ok (.ireturn, 1)) hlocks))
    · refine vx_catch (name := "java/lang/IllegalStateException") hown [(⟨0, 14, 17, 32⟩ : ExceptionTableEntry), (⟨0, 14, 21, 19⟩ : ExceptionTableEntry)] ⟨0, 14, 25, 13⟩ [] htab (List.forall_mem_cons.mpr ⟨Or.inr ⟨by decide, "java/lang/IndexOutOfBoundsException", hts _ cl_ioe, hN ("java/lang/IllegalStateException", "java/lang/IndexOutOfBoundsException") (by decide)⟩, List.forall_mem_cons.mpr ⟨Or.inr ⟨by decide, "java/lang/IllegalArgumentException", hts _ cl_iae, hN ("java/lang/IllegalStateException", "java/lang/IllegalArgumentException") (by decide)⟩, fun z hz => absurd hz List.not_mem_nil⟩⟩) (by decide) (by decide) (hts _ cl_ise) (va_Nw.use rfl (hq.1 _ ca_ise rfl)) hce hcv hcl ?_
      refine lv_astore hx hb (by decide +kernel : decode cL_write 25 = .ok (.astore 6, 2)) hl (by decide) rfl (fun ls' hl' => ?_)
      refine lv_iconst (v := 3) hx hb (by decide +kernel : decode cL_write 27 = .ok (.iconst 3, 1)) (by decide) ?_
      refine vx_ret (W.widen (k := 3) (n := 18) (by omega) (by omega) (W.iret (v := 3) hx hb hr (fun t2 ht2 hW2 => ⟨⟨3, u, rfl, Or.inr ⟨2, _, rfl, rfl, hTE⟩, by unfold qPost at hPo ⊢; rw [ht2]; rw [ht] at hPo; exact hPo⟩, hS1.F ht2⟩) hS1.2.2 (by decide +kernel : decode cL_write 28 = .ok (.ireturn, 1)) hlocks))
  · unfold qPost at hB
    rw [ht] at hB
    refine lv_i2l (v := r.toInt64) hx hb (by decide +kernel : decode cL_write 12 = .ok (.i2l, 1)) rfl ?_
    refine va_last (D := g.2.2.1) (x := r.toInt64) (i := 0) hx hb hK hB (hw.D u) hS1 122 3 qW_outAt rfl (vp_in_nI (n := 0) (by decide) (by decide)) (by decide +kernel : decode cL_write 13 = .ok (.lastore, 1)) (fun H2 locs2 h1 h2 h3 => ?_)
    rw [qW_outSet] at h1
    refine lv_goto (tgt := 29) hx hb (by decide +kernel : decode cL_write 14 = .ok (.goto 15, 3)) rfl ?_
    refine lv_iconst (v := 0) hx hb (by decide +kernel : decode cL_write 29 = .ok (.iconst 0, 1)) (by decide) ?_
    exact vx_ret (W.widen (k := 3) (n := 18) (by omega) (by omega) (W.iret (v := 0) hx hb hr (fun t2 ht2 hW2 => ⟨⟨0, qup u 122 0 r, rfl, Or.inl ⟨rfl, r, u, hpost, rfl⟩, by unfold qPost; rw [ht2]; exact h1⟩, h3.F ht2⟩) h3.2.2 (by decide +kernel : decode cL_write 30 = .ok (.ireturn, 1)) hlocks))
abbrev hL_remove : List (Nat × Nat × Nat × Nat) := [(0, 10, 13, 32), (0, 10, 17, 13)]
abbrev eL_remove : List String := ["java/lang/IndexOutOfBoundsException", "java/lang/IllegalStateException"]
theorem lL_remove : ∀ w ∈ ([.methodLink RL 41 mX9_remove.1, .instanceMethod mX9_remove.1, .selects mX9_remove.1.cls mX9_remove.1 mX9_remove.1] ++ qcw mX9_remove : List Jvm.Cond), w ∈ qgw := qgw_of [1098, 1099, 1100, 119, 1101] (by decide +kernel) (by decide +kernel)
set_option maxRecDepth 100000 in
set_option maxHeartbeats 4000000 in
theorem lw_remove {g : qG} (hw : qWF g) {d : Nat} {σ : qS} {a1 a2 : Int32} {Q : Int32 → qS → Prop} {T : String → qS → Prop} (hT : ∀ E u, T E u → E ∈ eL_remove) (h : qC g d mX9_remove [.inr 0, .inl a1, .inl a2] σ Q T) : Met g.1 yL_remove (.codeWith yL_remove cL_remove 5 (some .int) hL_remove :: qgw) (lrm 3 d) (va_Pc [.ref (g.2.2.2.1 0), .int a1, .int a2, .ref (g.2.2.2.1 122)] (lPre g σ)) (va_Qi (lQ eL_remove Q T) (qPost g) g.2.1) 3 18 g.2.1 := by
  have h' : vx_Met g.1 mX9_remove.1 (qws mX9_remove) (qrm mX9_remove d) (va_Pc ([Sum.inr 0, Sum.inl a1, Sum.inl a2].map (qv g.2.2.2.1)) (qPre g σ)) (va_Qi Q (qPost g) g.2.1) (qXc g T) 3 18 g.2.1 := h
  refine met_of_vx (vx_ofWH (cc := cL_remove) (maxL := 5) (ret := some .int) (hh := hL_remove) (by decide) rfl ?_)
  intro p e s m args below meth c s₁ B hml hv
  obtain ⟨rfl, ⟨hP, hK, hq, hA⟩, hN⟩ := hv
  have hx := B.exec
  have hb := B.bytes
  have hr := B.returns
  have hts0 := atoms_spec (ws := .codeWith yL_remove cL_remove 5 (some .int) hL_remove :: qgw) B.pre
  have htab := vx_table (x := yL_remove) B (hts0 _ List.mem_cons_self)
  have hts : ∀ w ∈ qgw, w.before _ s = true := fun w hw => hts0 w (List.mem_cons_of_mem _ hw)
  have hown : s.vm.findClass RL = some m.cls := findClass_of_methodNamed B.named
  have hlocks := B.notSynchronized
  have hS : va_S g.2.1 s.heap s.heap [] := va_S.rf
  have hl := lv_entry ([.ref (g.2.2.2.1 0), .int a1, .int a2, .ref (g.2.2.2.1 122)]) (n := 5) (Nat.le_of_ble_eq_true rfl)
  rw [lg_entry_eq]
  generalize (lg_sl ([.ref (g.2.2.2.1 0), .int a1, .int a2, .ref (g.2.2.2.1 122)]) ++ List.replicate (5 - (lg_sl ([.ref (g.2.2.2.1 0), .int a1, .int a2, .ref (g.2.2.2.1 122)])).length) Slot.unset).toArray = ls at hl ⊢
  have hl : lv_has ls 5 [(0, .ref (g.2.2.2.1 0)), (1, .int a1), (2, .int a2), (3, .ref (g.2.2.2.1 122))] := hl
  refine lv_aload_n (k := 3) hx hb (by decide +kernel : decode cL_remove 0 = .ok (.aload_n 3, 1)) rfl (lv_at hl 3 rfl) ?_
  refine lv_iconst (v := 0) hx hb (by decide +kernel : decode cL_remove 1 = .ok (.iconst 0, 1)) (by decide) ?_
  refine lv_aload_n (k := 0) hx hb (by decide +kernel : decode cL_remove 2 = .ok (.aload_n 0, 1)) rfl (lv_at hl 0 rfl) ?_
  refine lv_iload_n (k := 1) hx hb (by decide +kernel : decode cL_remove 3 = .ok (.iload_n 1, 1)) rfl (lv_at hl 1 rfl) ?_
  refine lv_iload_n (k := 2) hx hb (by decide +kernel : decode cL_remove 4 = .ok (.iload_n 2, 1)) rfl (lv_at hl 2 rfl) ?_
  refine vx_calli (vx_runV (C := mX9_remove.1.cls) (b := g.2.2.2.1 0) (As := [.int a1, .int a2]) (rest := [.int 0, .ref (g.2.2.2.1 122)]) ⟨hx, hb, hml, hown, hts⟩ h' ⟨⟨rfl, rfl, (by show d + 12 + 1 ≤ d + 13; omega), (by show 8 + (mX9_remove.2.2.1 + 11) + (60 * d + 300) ≤ 60 * d + 360; have h4 : mX9_remove.2.2.1 ≤ 40 := (by decide); omega), (fun w hw' a' U hW => by
      have hin : w ∈ qgw := by
        rcases List.mem_cons.mp hw' with rfl | h9
        · exact lL_remove _ (List.mem_of_getElem? (i := 4) rfl)
        · exact h9
      exact word_at hW (qgw_good hin) (hts _ hin)), List.mem_cons_self, hts _ (lL_remove _ (List.mem_of_getElem? (i := 4) rfl)), hts _ (lL_remove _ (List.mem_of_getElem? (i := 3) rfl)), (by decide), qlen (qM_spec (by decide +kernel)), hts _ (lL_remove _ (List.mem_of_getElem? (i := 0) rfl))⟩, hts _ (lL_remove _ (List.mem_of_getElem? (i := 1) rfl)), hts _ (lL_remove _ (List.mem_of_getElem? (i := 2) rfl))⟩ ⟨qblind, va_recv (q := (RX9, TX9, 4)) hK hP rfl (qW_obj (k := 0) rfl), fun U hU hW => ⟨rfl, by rw [hU]; exact hP, va_K.moved hW.alike hK, qK_warm hq hW (fun a _ _ => by rw [hU]), by rw [hU]; exact hA⟩⟩ rfl rfl hl.1 rfl (lv_room (Nat.le_of_ble_eq_true rfl)) (by decide +kernel : decode cL_remove 5 = .ok (.invokevirtual 41, 3)) ⟨(by show 0 + 3 ≤ 3; decide), (by show 0 + 18 ≤ 6 * 3; decide)⟩) hS (fun q _ h9 => h9) (fun q h9 => h9) (fun q _ h9 => h9) (fun E ce q9 u t H1 locs1 ht hvm _ hB hz1 hk1 hS1 hce hcv hcl => ?_) (fun r u t H1 locs1 ht hvm hpost hB hz1 hk1 hS1 => ?_)
  · obtain ⟨hTE, hPo⟩ := hB
    have hE := hT E u hTE
    have hE : E = "java/lang/IndexOutOfBoundsException" ∨ E = "java/lang/IllegalStateException" := by simpa using hE
    rcases hE with rfl | rfl
    · refine vx_catch (name := "java/lang/IndexOutOfBoundsException") hown [] ⟨0, 10, 13, 32⟩ [⟨0, 10, 17, 13⟩] htab (fun z hz => absurd hz List.not_mem_nil) (by decide) (by decide) (hts _ cl_ioe) (va_Nw.use rfl (hq.1 _ ca_ioe rfl)) hce hcv hcl ?_
      refine lv_astore hx hb (by decide +kernel : decode cL_remove 13 = .ok (.astore 4, 2)) hl (by decide) rfl (fun ls' hl' => ?_)
      refine lv_iconst (v := 1) hx hb (by decide +kernel : decode cL_remove 15 = .ok (.iconst 1, 1)) (by decide) ?_
      refine vx_ret (W.widen (k := 3) (n := 18) (by omega) (by omega) (W.iret (v := 1) hx hb hr (fun t2 ht2 hW2 => ⟨⟨1, u, rfl, Or.inr ⟨0, _, rfl, rfl, hTE⟩, by unfold qPost at hPo ⊢; rw [ht2]; rw [ht] at hPo; exact hPo⟩, hS1.F ht2⟩) hS1.2.2 (by decide +kernel : decode cL_remove 16 = .ok (.ireturn, 1)) hlocks))
    · refine vx_catch (name := "java/lang/IllegalStateException") hown [(⟨0, 10, 13, 32⟩ : ExceptionTableEntry)] ⟨0, 10, 17, 13⟩ [] htab (List.forall_mem_cons.mpr ⟨Or.inr ⟨by decide, "java/lang/IndexOutOfBoundsException", hts _ cl_ioe, hN ("java/lang/IllegalStateException", "java/lang/IndexOutOfBoundsException") (by decide)⟩, fun z hz => absurd hz List.not_mem_nil⟩) (by decide) (by decide) (hts _ cl_ise) (va_Nw.use rfl (hq.1 _ ca_ise rfl)) hce hcv hcl ?_
      refine lv_astore hx hb (by decide +kernel : decode cL_remove 17 = .ok (.astore 4, 2)) hl (by decide) rfl (fun ls' hl' => ?_)
      refine lv_iconst (v := 2) hx hb (by decide +kernel : decode cL_remove 19 = .ok (.iconst 2, 1)) (by decide) ?_
      refine vx_ret (W.widen (k := 3) (n := 18) (by omega) (by omega) (W.iret (v := 2) hx hb hr (fun t2 ht2 hW2 => ⟨⟨2, u, rfl, Or.inr ⟨1, _, rfl, rfl, hTE⟩, by unfold qPost at hPo ⊢; rw [ht2]; rw [ht] at hPo; exact hPo⟩, hS1.F ht2⟩) hS1.2.2 (by decide +kernel : decode cL_remove 20 = .ok (.ireturn, 1)) hlocks))
  · unfold qPost at hB
    rw [ht] at hB
    refine lv_i2l (v := r.toInt64) hx hb (by decide +kernel : decode cL_remove 8 = .ok (.i2l, 1)) rfl ?_
    refine va_last (D := g.2.2.1) (x := r.toInt64) (i := 0) hx hb hK hB (hw.D u) hS1 122 3 qW_outAt rfl (vp_in_nI (n := 0) (by decide) (by decide)) (by decide +kernel : decode cL_remove 9 = .ok (.lastore, 1)) (fun H2 locs2 h1 h2 h3 => ?_)
    rw [qW_outSet] at h1
    refine lv_goto (tgt := 21) hx hb (by decide +kernel : decode cL_remove 10 = .ok (.goto 11, 3)) rfl ?_
    refine lv_iconst (v := 0) hx hb (by decide +kernel : decode cL_remove 21 = .ok (.iconst 0, 1)) (by decide) ?_
    exact vx_ret (W.widen (k := 3) (n := 18) (by omega) (by omega) (W.iret (v := 0) hx hb hr (fun t2 ht2 hW2 => ⟨⟨0, qup u 122 0 r, rfl, Or.inl ⟨rfl, r, u, hpost, rfl⟩, by unfold qPost; rw [ht2]; exact h1⟩, h3.F ht2⟩) h3.2.2 (by decide +kernel : decode cL_remove 22 = .ok (.ireturn, 1)) hlocks))
abbrev hL_copy : List (Nat × Nat × Nat × Nat) := [(0, 12, 15, 32), (0, 12, 19, 19), (0, 12, 23, 13)]
abbrev eL_copy : List String := ["java/lang/IndexOutOfBoundsException", "java/lang/IllegalArgumentException", "java/lang/IllegalStateException"]
theorem lL_copy : ∀ w ∈ ([.methodLink RL 45 mX9_copy.1, .instanceMethod mX9_copy.1, .selects mX9_copy.1.cls mX9_copy.1 mX9_copy.1] ++ qcw mX9_copy : List Jvm.Cond), w ∈ qgw := qgw_of [1105, 1106, 1107, 119, 1108] (by decide +kernel) (by decide +kernel)
set_option maxRecDepth 100000 in
set_option maxHeartbeats 4000000 in
theorem lw_copy {g : qG} (hw : qWF g) {d : Nat} {σ : qS} {a1 a2 a3 : Int32} {Q : Int32 → qS → Prop} {T : String → qS → Prop} (hT : ∀ E u, T E u → E ∈ eL_copy) (h : qC g d mX9_copy [.inr 0, .inl a1, .inl a2, .inl a3] σ Q T) : Met g.1 yL_copy (.codeWith yL_copy cL_copy 6 (some .int) hL_copy :: qgw) (lrm 3 d) (va_Pc [.ref (g.2.2.2.1 0), .int a1, .int a2, .int a3, .ref (g.2.2.2.1 122)] (lPre g σ)) (va_Qi (lQ eL_copy Q T) (qPost g) g.2.1) 3 18 g.2.1 := by
  have h' : vx_Met g.1 mX9_copy.1 (qws mX9_copy) (qrm mX9_copy d) (va_Pc ([Sum.inr 0, Sum.inl a1, Sum.inl a2, Sum.inl a3].map (qv g.2.2.2.1)) (qPre g σ)) (va_Qi Q (qPost g) g.2.1) (qXc g T) 3 18 g.2.1 := h
  refine met_of_vx (vx_ofWH (cc := cL_copy) (maxL := 6) (ret := some .int) (hh := hL_copy) (by decide) rfl ?_)
  intro p e s m args below meth c s₁ B hml hv
  obtain ⟨rfl, ⟨hP, hK, hq, hA⟩, hN⟩ := hv
  have hx := B.exec
  have hb := B.bytes
  have hr := B.returns
  have hts0 := atoms_spec (ws := .codeWith yL_copy cL_copy 6 (some .int) hL_copy :: qgw) B.pre
  have htab := vx_table (x := yL_copy) B (hts0 _ List.mem_cons_self)
  have hts : ∀ w ∈ qgw, w.before _ s = true := fun w hw => hts0 w (List.mem_cons_of_mem _ hw)
  have hown : s.vm.findClass RL = some m.cls := findClass_of_methodNamed B.named
  have hlocks := B.notSynchronized
  have hS : va_S g.2.1 s.heap s.heap [] := va_S.rf
  have hl := lv_entry ([.ref (g.2.2.2.1 0), .int a1, .int a2, .int a3, .ref (g.2.2.2.1 122)]) (n := 6) (Nat.le_of_ble_eq_true rfl)
  rw [lg_entry_eq]
  generalize (lg_sl ([.ref (g.2.2.2.1 0), .int a1, .int a2, .int a3, .ref (g.2.2.2.1 122)]) ++ List.replicate (6 - (lg_sl ([.ref (g.2.2.2.1 0), .int a1, .int a2, .int a3, .ref (g.2.2.2.1 122)])).length) Slot.unset).toArray = ls at hl ⊢
  have hl : lv_has ls 6 [(0, .ref (g.2.2.2.1 0)), (1, .int a1), (2, .int a2), (3, .int a3), (4, .ref (g.2.2.2.1 122))] := hl
  refine lv_aload hx hb (by decide +kernel : decode cL_copy 0 = .ok (.aload 4, 2)) (lv_at hl 4 rfl) ?_
  refine lv_iconst (v := 0) hx hb (by decide +kernel : decode cL_copy 2 = .ok (.iconst 0, 1)) (by decide) ?_
  refine lv_aload_n (k := 0) hx hb (by decide +kernel : decode cL_copy 3 = .ok (.aload_n 0, 1)) rfl (lv_at hl 0 rfl) ?_
  refine lv_iload_n (k := 1) hx hb (by decide +kernel : decode cL_copy 4 = .ok (.iload_n 1, 1)) rfl (lv_at hl 1 rfl) ?_
  refine lv_iload_n (k := 2) hx hb (by decide +kernel : decode cL_copy 5 = .ok (.iload_n 2, 1)) rfl (lv_at hl 2 rfl) ?_
  refine lv_iload_n (k := 3) hx hb (by decide +kernel : decode cL_copy 6 = .ok (.iload_n 3, 1)) rfl (lv_at hl 3 rfl) ?_
  refine vx_calli (vx_runV (C := mX9_copy.1.cls) (b := g.2.2.2.1 0) (As := [.int a1, .int a2, .int a3]) (rest := [.int 0, .ref (g.2.2.2.1 122)]) ⟨hx, hb, hml, hown, hts⟩ h' ⟨⟨rfl, rfl, (by show d + 12 + 1 ≤ d + 13; omega), (by show 8 + (mX9_copy.2.2.1 + 11) + (60 * d + 300) ≤ 60 * d + 360; have h4 : mX9_copy.2.2.1 ≤ 40 := (by decide); omega), (fun w hw' a' U hW => by
      have hin : w ∈ qgw := by
        rcases List.mem_cons.mp hw' with rfl | h9
        · exact lL_copy _ (List.mem_of_getElem? (i := 4) rfl)
        · exact h9
      exact word_at hW (qgw_good hin) (hts _ hin)), List.mem_cons_self, hts _ (lL_copy _ (List.mem_of_getElem? (i := 4) rfl)), hts _ (lL_copy _ (List.mem_of_getElem? (i := 3) rfl)), (by decide), qlen (qM_spec (by decide +kernel)), hts _ (lL_copy _ (List.mem_of_getElem? (i := 0) rfl))⟩, hts _ (lL_copy _ (List.mem_of_getElem? (i := 1) rfl)), hts _ (lL_copy _ (List.mem_of_getElem? (i := 2) rfl))⟩ ⟨qblind, va_recv (q := (RX9, TX9, 4)) hK hP rfl (qW_obj (k := 0) rfl), fun U hU hW => ⟨rfl, by rw [hU]; exact hP, va_K.moved hW.alike hK, qK_warm hq hW (fun a _ _ => by rw [hU]), by rw [hU]; exact hA⟩⟩ rfl rfl hl.1 rfl (lv_room (Nat.le_of_ble_eq_true rfl)) (by decide +kernel : decode cL_copy 7 = .ok (.invokevirtual 45, 3)) ⟨(by show 0 + 3 ≤ 3; decide), (by show 0 + 18 ≤ 6 * 3; decide)⟩) hS (fun q _ h9 => h9) (fun q h9 => h9) (fun q _ h9 => h9) (fun E ce q9 u t H1 locs1 ht hvm _ hB hz1 hk1 hS1 hce hcv hcl => ?_) (fun r u t H1 locs1 ht hvm hpost hB hz1 hk1 hS1 => ?_)
  · obtain ⟨hTE, hPo⟩ := hB
    have hE := hT E u hTE
    have hE : E = "java/lang/IndexOutOfBoundsException" ∨ E = "java/lang/IllegalArgumentException" ∨ E = "java/lang/IllegalStateException" := by simpa using hE
    rcases hE with rfl | rfl | rfl
    · refine vx_catch (name := "java/lang/IndexOutOfBoundsException") hown [] ⟨0, 12, 15, 32⟩ [⟨0, 12, 19, 19⟩, ⟨0, 12, 23, 13⟩] htab (fun z hz => absurd hz List.not_mem_nil) (by decide) (by decide) (hts _ cl_ioe) (va_Nw.use rfl (hq.1 _ ca_ioe rfl)) hce hcv hcl ?_
      refine lv_astore hx hb (by decide +kernel : decode cL_copy 15 = .ok (.astore 5, 2)) hl (by decide) rfl (fun ls' hl' => ?_)
      refine lv_iconst (v := 1) hx hb (by decide +kernel : decode cL_copy 17 = .ok (.iconst 1, 1)) (by decide) ?_
      refine vx_ret (W.widen (k := 3) (n := 18) (by omega) (by omega) (W.iret (v := 1) hx hb hr (fun t2 ht2 hW2 => ⟨⟨1, u, rfl, Or.inr ⟨0, _, rfl, rfl, hTE⟩, by unfold qPost at hPo ⊢; rw [ht2]; rw [ht] at hPo; exact hPo⟩, hS1.F ht2⟩) hS1.2.2 (by decide +kernel : decode cL_copy 18 = .ok (.ireturn, 1)) hlocks))
    · refine vx_catch (name := "java/lang/IllegalArgumentException") hown [(⟨0, 12, 15, 32⟩ : ExceptionTableEntry)] ⟨0, 12, 19, 19⟩ [⟨0, 12, 23, 13⟩] htab (List.forall_mem_cons.mpr ⟨Or.inr ⟨by decide, "java/lang/IndexOutOfBoundsException", hts _ cl_ioe, hN ("java/lang/IllegalArgumentException", "java/lang/IndexOutOfBoundsException") (by decide)⟩, fun z hz => absurd hz List.not_mem_nil⟩) (by decide) (by decide) (hts _ cl_iae) (va_Nw.use rfl (hq.1 _ ca_iae rfl)) hce hcv hcl ?_
      refine lv_astore hx hb (by decide +kernel : decode cL_copy 19 = .ok (.astore 5, 2)) hl (by decide) rfl (fun ls' hl' => ?_)
      refine lv_iconst (v := 2) hx hb (by decide +kernel : decode cL_copy 21 = .ok (.iconst 2, 1)) (by decide) ?_
      refine vx_ret (W.widen (k := 3) (n := 18) (by omega) (by omega) (W.iret (v := 2) hx hb hr (fun t2 ht2 hW2 => ⟨⟨2, u, rfl, Or.inr ⟨1, _, rfl, rfl, hTE⟩, by unfold qPost at hPo ⊢; rw [ht2]; rw [ht] at hPo; exact hPo⟩, hS1.F ht2⟩) hS1.2.2 (by decide +kernel : decode cL_copy 22 = .ok (.ireturn, 1)) hlocks))
    · refine vx_catch (name := "java/lang/IllegalStateException") hown [(⟨0, 12, 15, 32⟩ : ExceptionTableEntry), (⟨0, 12, 19, 19⟩ : ExceptionTableEntry)] ⟨0, 12, 23, 13⟩ [] htab (List.forall_mem_cons.mpr ⟨Or.inr ⟨by decide, "java/lang/IndexOutOfBoundsException", hts _ cl_ioe, hN ("java/lang/IllegalStateException", "java/lang/IndexOutOfBoundsException") (by decide)⟩, List.forall_mem_cons.mpr ⟨Or.inr ⟨by decide, "java/lang/IllegalArgumentException", hts _ cl_iae, hN ("java/lang/IllegalStateException", "java/lang/IllegalArgumentException") (by decide)⟩, fun z hz => absurd hz List.not_mem_nil⟩⟩) (by decide) (by decide) (hts _ cl_ise) (va_Nw.use rfl (hq.1 _ ca_ise rfl)) hce hcv hcl ?_
      refine lv_astore hx hb (by decide +kernel : decode cL_copy 23 = .ok (.astore 5, 2)) hl (by decide) rfl (fun ls' hl' => ?_)
      refine lv_iconst (v := 3) hx hb (by decide +kernel : decode cL_copy 25 = .ok (.iconst 3, 1)) (by decide) ?_
      refine vx_ret (W.widen (k := 3) (n := 18) (by omega) (by omega) (W.iret (v := 3) hx hb hr (fun t2 ht2 hW2 => ⟨⟨3, u, rfl, Or.inr ⟨2, _, rfl, rfl, hTE⟩, by unfold qPost at hPo ⊢; rw [ht2]; rw [ht] at hPo; exact hPo⟩, hS1.F ht2⟩) hS1.2.2 (by decide +kernel : decode cL_copy 26 = .ok (.ireturn, 1)) hlocks))
  · unfold qPost at hB
    rw [ht] at hB
    refine lv_i2l (v := r.toInt64) hx hb (by decide +kernel : decode cL_copy 10 = .ok (.i2l, 1)) rfl ?_
    refine va_last (D := g.2.2.1) (x := r.toInt64) (i := 0) hx hb hK hB (hw.D u) hS1 122 3 qW_outAt rfl (vp_in_nI (n := 0) (by decide) (by decide)) (by decide +kernel : decode cL_copy 11 = .ok (.lastore, 1)) (fun H2 locs2 h1 h2 h3 => ?_)
    rw [qW_outSet] at h1
    refine lv_goto (tgt := 27) hx hb (by decide +kernel : decode cL_copy 12 = .ok (.goto 15, 3)) rfl ?_
    refine lv_iconst (v := 0) hx hb (by decide +kernel : decode cL_copy 27 = .ok (.iconst 0, 1)) (by decide) ?_
    exact vx_ret (W.widen (k := 3) (n := 18) (by omega) (by omega) (W.iret (v := 0) hx hb hr (fun t2 ht2 hW2 => ⟨⟨0, qup u 122 0 r, rfl, Or.inl ⟨rfl, r, u, hpost, rfl⟩, by unfold qPost; rw [ht2]; exact h1⟩, h3.F ht2⟩) h3.2.2 (by decide +kernel : decode cL_copy 28 = .ok (.ireturn, 1)) hlocks))
abbrev hL_send : List (Nat × Nat × Nat × Nat) := [(0, 14, 17, 32), (0, 14, 21, 19), (0, 14, 25, 13)]
abbrev eL_send : List String := ["java/lang/IndexOutOfBoundsException", "java/lang/IllegalArgumentException", "java/lang/IllegalStateException"]
theorem lL_send : ∀ w ∈ ([.methodLink RL 48 mX9_send.1, .instanceMethod mX9_send.1, .selects mX9_send.1.cls mX9_send.1 mX9_send.1] ++ qcw mX9_send : List Jvm.Cond), w ∈ qgw := qgw_of [1112, 1113, 1114, 119, 1115] (by decide +kernel) (by decide +kernel)
set_option maxRecDepth 100000 in
set_option maxHeartbeats 4000000 in
theorem lw_send {g : qG} (hw : qWF g) {d : Nat} {σ : qS} {a1 a2 a3 a4 : Int32} {Q : Int32 → qS → Prop} {T : String → qS → Prop} (hT : ∀ E u, T E u → E ∈ eL_send) (h : qC g d mX9_send [.inr 0, .inl a1, .inl a2, .inl a3, .inl a4] σ Q T) : Met g.1 yL_send (.codeWith yL_send cL_send 7 (some .int) hL_send :: qgw) (lrm 3 d) (va_Pc [.ref (g.2.2.2.1 0), .int a1, .int a2, .int a3, .int a4, .ref (g.2.2.2.1 122)] (lPre g σ)) (va_Qi (lQ eL_send Q T) (qPost g) g.2.1) 3 18 g.2.1 := by
  have h' : vx_Met g.1 mX9_send.1 (qws mX9_send) (qrm mX9_send d) (va_Pc ([Sum.inr 0, Sum.inl a1, Sum.inl a2, Sum.inl a3, Sum.inl a4].map (qv g.2.2.2.1)) (qPre g σ)) (va_Qi Q (qPost g) g.2.1) (qXc g T) 3 18 g.2.1 := h
  refine met_of_vx (vx_ofWH (cc := cL_send) (maxL := 7) (ret := some .int) (hh := hL_send) (by decide) rfl ?_)
  intro p e s m args below meth c s₁ B hml hv
  obtain ⟨rfl, ⟨hP, hK, hq, hA⟩, hN⟩ := hv
  have hx := B.exec
  have hb := B.bytes
  have hr := B.returns
  have hts0 := atoms_spec (ws := .codeWith yL_send cL_send 7 (some .int) hL_send :: qgw) B.pre
  have htab := vx_table (x := yL_send) B (hts0 _ List.mem_cons_self)
  have hts : ∀ w ∈ qgw, w.before _ s = true := fun w hw => hts0 w (List.mem_cons_of_mem _ hw)
  have hown : s.vm.findClass RL = some m.cls := findClass_of_methodNamed B.named
  have hlocks := B.notSynchronized
  have hS : va_S g.2.1 s.heap s.heap [] := va_S.rf
  have hl := lv_entry ([.ref (g.2.2.2.1 0), .int a1, .int a2, .int a3, .int a4, .ref (g.2.2.2.1 122)]) (n := 7) (Nat.le_of_ble_eq_true rfl)
  rw [lg_entry_eq]
  generalize (lg_sl ([.ref (g.2.2.2.1 0), .int a1, .int a2, .int a3, .int a4, .ref (g.2.2.2.1 122)]) ++ List.replicate (7 - (lg_sl ([.ref (g.2.2.2.1 0), .int a1, .int a2, .int a3, .int a4, .ref (g.2.2.2.1 122)])).length) Slot.unset).toArray = ls at hl ⊢
  have hl : lv_has ls 7 [(0, .ref (g.2.2.2.1 0)), (1, .int a1), (2, .int a2), (3, .int a3), (4, .int a4), (5, .ref (g.2.2.2.1 122))] := hl
  refine lv_aload hx hb (by decide +kernel : decode cL_send 0 = .ok (.aload 5, 2)) (lv_at hl 5 rfl) ?_
  refine lv_iconst (v := 0) hx hb (by decide +kernel : decode cL_send 2 = .ok (.iconst 0, 1)) (by decide) ?_
  refine lv_aload_n (k := 0) hx hb (by decide +kernel : decode cL_send 3 = .ok (.aload_n 0, 1)) rfl (lv_at hl 0 rfl) ?_
  refine lv_iload_n (k := 1) hx hb (by decide +kernel : decode cL_send 4 = .ok (.iload_n 1, 1)) rfl (lv_at hl 1 rfl) ?_
  refine lv_iload_n (k := 2) hx hb (by decide +kernel : decode cL_send 5 = .ok (.iload_n 2, 1)) rfl (lv_at hl 2 rfl) ?_
  refine lv_iload_n (k := 3) hx hb (by decide +kernel : decode cL_send 6 = .ok (.iload_n 3, 1)) rfl (lv_at hl 3 rfl) ?_
  refine lv_iload hx hb (by decide +kernel : decode cL_send 7 = .ok (.iload 4, 2)) (lv_at hl 4 rfl) ?_
  refine vx_calli (vx_runV (C := mX9_send.1.cls) (b := g.2.2.2.1 0) (As := [.int a1, .int a2, .int a3, .int a4]) (rest := [.int 0, .ref (g.2.2.2.1 122)]) ⟨hx, hb, hml, hown, hts⟩ h' ⟨⟨rfl, rfl, (by show d + 12 + 1 ≤ d + 13; omega), (by show 8 + (mX9_send.2.2.1 + 11) + (60 * d + 300) ≤ 60 * d + 360; have h4 : mX9_send.2.2.1 ≤ 40 := (by decide); omega), (fun w hw' a' U hW => by
      have hin : w ∈ qgw := by
        rcases List.mem_cons.mp hw' with rfl | h9
        · exact lL_send _ (List.mem_of_getElem? (i := 4) rfl)
        · exact h9
      exact word_at hW (qgw_good hin) (hts _ hin)), List.mem_cons_self, hts _ (lL_send _ (List.mem_of_getElem? (i := 4) rfl)), hts _ (lL_send _ (List.mem_of_getElem? (i := 3) rfl)), (by decide), qlen (qM_spec (by decide +kernel)), hts _ (lL_send _ (List.mem_of_getElem? (i := 0) rfl))⟩, hts _ (lL_send _ (List.mem_of_getElem? (i := 1) rfl)), hts _ (lL_send _ (List.mem_of_getElem? (i := 2) rfl))⟩ ⟨qblind, va_recv (q := (RX9, TX9, 4)) hK hP rfl (qW_obj (k := 0) rfl), fun U hU hW => ⟨rfl, by rw [hU]; exact hP, va_K.moved hW.alike hK, qK_warm hq hW (fun a _ _ => by rw [hU]), by rw [hU]; exact hA⟩⟩ rfl rfl hl.1 rfl (lv_room (Nat.le_of_ble_eq_true rfl)) (by decide +kernel : decode cL_send 9 = .ok (.invokevirtual 48, 3)) ⟨(by show 0 + 3 ≤ 3; decide), (by show 0 + 18 ≤ 6 * 3; decide)⟩) hS (fun q _ h9 => h9) (fun q h9 => h9) (fun q _ h9 => h9) (fun E ce q9 u t H1 locs1 ht hvm _ hB hz1 hk1 hS1 hce hcv hcl => ?_) (fun r u t H1 locs1 ht hvm hpost hB hz1 hk1 hS1 => ?_)
  · obtain ⟨hTE, hPo⟩ := hB
    have hE := hT E u hTE
    have hE : E = "java/lang/IndexOutOfBoundsException" ∨ E = "java/lang/IllegalArgumentException" ∨ E = "java/lang/IllegalStateException" := by simpa using hE
    rcases hE with rfl | rfl | rfl
    · refine vx_catch (name := "java/lang/IndexOutOfBoundsException") hown [] ⟨0, 14, 17, 32⟩ [⟨0, 14, 21, 19⟩, ⟨0, 14, 25, 13⟩] htab (fun z hz => absurd hz List.not_mem_nil) (by decide) (by decide) (hts _ cl_ioe) (va_Nw.use rfl (hq.1 _ ca_ioe rfl)) hce hcv hcl ?_
      refine lv_astore hx hb (by decide +kernel : decode cL_send 17 = .ok (.astore 6, 2)) hl (by decide) rfl (fun ls' hl' => ?_)
      refine lv_iconst (v := 1) hx hb (by decide +kernel : decode cL_send 19 = .ok (.iconst 1, 1)) (by decide) ?_
      refine vx_ret (W.widen (k := 3) (n := 18) (by omega) (by omega) (W.iret (v := 1) hx hb hr (fun t2 ht2 hW2 => ⟨⟨1, u, rfl, Or.inr ⟨0, _, rfl, rfl, hTE⟩, by unfold qPost at hPo ⊢; rw [ht2]; rw [ht] at hPo; exact hPo⟩, hS1.F ht2⟩) hS1.2.2 (by decide +kernel : decode cL_send 20 = .ok (.ireturn, 1)) hlocks))
    · refine vx_catch (name := "java/lang/IllegalArgumentException") hown [(⟨0, 14, 17, 32⟩ : ExceptionTableEntry)] ⟨0, 14, 21, 19⟩ [⟨0, 14, 25, 13⟩] htab (List.forall_mem_cons.mpr ⟨Or.inr ⟨by decide, "java/lang/IndexOutOfBoundsException", hts _ cl_ioe, hN ("java/lang/IllegalArgumentException", "java/lang/IndexOutOfBoundsException") (by decide)⟩, fun z hz => absurd hz List.not_mem_nil⟩) (by decide) (by decide) (hts _ cl_iae) (va_Nw.use rfl (hq.1 _ ca_iae rfl)) hce hcv hcl ?_
      refine lv_astore hx hb (by decide +kernel : decode cL_send 21 = .ok (.astore 6, 2)) hl (by decide) rfl (fun ls' hl' => ?_)
      refine lv_iconst (v := 2) hx hb (by decide +kernel : decode cL_send 23 = .ok (.iconst 2, 1)) (by decide) ?_
      refine vx_ret (W.widen (k := 3) (n := 18) (by omega) (by omega) (W.iret (v := 2) hx hb hr (fun t2 ht2 hW2 => ⟨⟨2, u, rfl, Or.inr ⟨1, _, rfl, rfl, hTE⟩, by unfold qPost at hPo ⊢; rw [ht2]; rw [ht] at hPo; exact hPo⟩, hS1.F ht2⟩) hS1.2.2 (by decide +kernel : decode cL_send 24 = .ok (.ireturn, 1)) hlocks))
    · refine vx_catch (name := "java/lang/IllegalStateException") hown [(⟨0, 14, 17, 32⟩ : ExceptionTableEntry), (⟨0, 14, 21, 19⟩ : ExceptionTableEntry)] ⟨0, 14, 25, 13⟩ [] htab (List.forall_mem_cons.mpr ⟨Or.inr ⟨by decide, "java/lang/IndexOutOfBoundsException", hts _ cl_ioe, hN ("java/lang/IllegalStateException", "java/lang/IndexOutOfBoundsException") (by decide)⟩, List.forall_mem_cons.mpr ⟨Or.inr ⟨by decide, "java/lang/IllegalArgumentException", hts _ cl_iae, hN ("java/lang/IllegalStateException", "java/lang/IllegalArgumentException") (by decide)⟩, fun z hz => absurd hz List.not_mem_nil⟩⟩) (by decide) (by decide) (hts _ cl_ise) (va_Nw.use rfl (hq.1 _ ca_ise rfl)) hce hcv hcl ?_
      refine lv_astore hx hb (by decide +kernel : decode cL_send 25 = .ok (.astore 6, 2)) hl (by decide) rfl (fun ls' hl' => ?_)
      refine lv_iconst (v := 3) hx hb (by decide +kernel : decode cL_send 27 = .ok (.iconst 3, 1)) (by decide) ?_
      refine vx_ret (W.widen (k := 3) (n := 18) (by omega) (by omega) (W.iret (v := 3) hx hb hr (fun t2 ht2 hW2 => ⟨⟨3, u, rfl, Or.inr ⟨2, _, rfl, rfl, hTE⟩, by unfold qPost at hPo ⊢; rw [ht2]; rw [ht] at hPo; exact hPo⟩, hS1.F ht2⟩) hS1.2.2 (by decide +kernel : decode cL_send 28 = .ok (.ireturn, 1)) hlocks))
  · unfold qPost at hB
    rw [ht] at hB
    refine lv_i2l (v := r.toInt64) hx hb (by decide +kernel : decode cL_send 12 = .ok (.i2l, 1)) rfl ?_
    refine va_last (D := g.2.2.1) (x := r.toInt64) (i := 0) hx hb hK hB (hw.D u) hS1 122 3 qW_outAt rfl (vp_in_nI (n := 0) (by decide) (by decide)) (by decide +kernel : decode cL_send 13 = .ok (.lastore, 1)) (fun H2 locs2 h1 h2 h3 => ?_)
    rw [qW_outSet] at h1
    refine lv_goto (tgt := 29) hx hb (by decide +kernel : decode cL_send 14 = .ok (.goto 15, 3)) rfl ?_
    refine lv_iconst (v := 0) hx hb (by decide +kernel : decode cL_send 29 = .ok (.iconst 0, 1)) (by decide) ?_
    exact vx_ret (W.widen (k := 3) (n := 18) (by omega) (by omega) (W.iret (v := 0) hx hb hr (fun t2 ht2 hW2 => ⟨⟨0, qup u 122 0 r, rfl, Or.inl ⟨rfl, r, u, hpost, rfl⟩, by unfold qPost; rw [ht2]; exact h1⟩, h3.F ht2⟩) h3.2.2 (by decide +kernel : decode cL_send 30 = .ok (.ireturn, 1)) hlocks))
abbrev hL_join : List (Nat × Nat × Nat × Nat) := [(0, 9, 12, 32), (0, 9, 15, 13)]
abbrev eL_join : List String := ["java/lang/IndexOutOfBoundsException", "java/lang/IllegalStateException"]
theorem lL_join : ∀ w ∈ ([.methodLink RL 51 mX9_join.1, .instanceMethod mX9_join.1, .selects mX9_join.1.cls mX9_join.1 mX9_join.1] ++ qcw mX9_join : List Jvm.Cond), w ∈ qgw := qgw_of [1119, 1120, 1121, 119, 1122] (by decide +kernel) (by decide +kernel)
set_option maxRecDepth 100000 in
set_option maxHeartbeats 4000000 in
theorem lw_join {g : qG} (hw : qWF g) {d : Nat} {σ : qS} {a1 : Int32} {Q : Int32 → qS → Prop} {T : String → qS → Prop} (hT : ∀ E u, T E u → E ∈ eL_join) (h : qC g d mX9_join [.inr 0, .inl a1] σ Q T) : Met g.1 yL_join (.codeWith yL_join cL_join 4 (some .int) hL_join :: qgw) (lrm 3 d) (va_Pc [.ref (g.2.2.2.1 0), .int a1, .ref (g.2.2.2.1 122)] (lPre g σ)) (va_Qi (lQ eL_join Q T) (qPost g) g.2.1) 3 18 g.2.1 := by
  have h' : vx_Met g.1 mX9_join.1 (qws mX9_join) (qrm mX9_join d) (va_Pc ([Sum.inr 0, Sum.inl a1].map (qv g.2.2.2.1)) (qPre g σ)) (va_Qi Q (qPost g) g.2.1) (qXc g T) 3 18 g.2.1 := h
  refine met_of_vx (vx_ofWH (cc := cL_join) (maxL := 4) (ret := some .int) (hh := hL_join) (by decide) rfl ?_)
  intro p e s m args below meth c s₁ B hml hv
  obtain ⟨rfl, ⟨hP, hK, hq, hA⟩, hN⟩ := hv
  have hx := B.exec
  have hb := B.bytes
  have hr := B.returns
  have hts0 := atoms_spec (ws := .codeWith yL_join cL_join 4 (some .int) hL_join :: qgw) B.pre
  have htab := vx_table (x := yL_join) B (hts0 _ List.mem_cons_self)
  have hts : ∀ w ∈ qgw, w.before _ s = true := fun w hw => hts0 w (List.mem_cons_of_mem _ hw)
  have hown : s.vm.findClass RL = some m.cls := findClass_of_methodNamed B.named
  have hlocks := B.notSynchronized
  have hS : va_S g.2.1 s.heap s.heap [] := va_S.rf
  have hl := lv_entry ([.ref (g.2.2.2.1 0), .int a1, .ref (g.2.2.2.1 122)]) (n := 4) (Nat.le_of_ble_eq_true rfl)
  rw [lg_entry_eq]
  generalize (lg_sl ([.ref (g.2.2.2.1 0), .int a1, .ref (g.2.2.2.1 122)]) ++ List.replicate (4 - (lg_sl ([.ref (g.2.2.2.1 0), .int a1, .ref (g.2.2.2.1 122)])).length) Slot.unset).toArray = ls at hl ⊢
  have hl : lv_has ls 4 [(0, .ref (g.2.2.2.1 0)), (1, .int a1), (2, .ref (g.2.2.2.1 122))] := hl
  refine lv_aload_n (k := 2) hx hb (by decide +kernel : decode cL_join 0 = .ok (.aload_n 2, 1)) rfl (lv_at hl 2 rfl) ?_
  refine lv_iconst (v := 0) hx hb (by decide +kernel : decode cL_join 1 = .ok (.iconst 0, 1)) (by decide) ?_
  refine lv_aload_n (k := 0) hx hb (by decide +kernel : decode cL_join 2 = .ok (.aload_n 0, 1)) rfl (lv_at hl 0 rfl) ?_
  refine lv_iload_n (k := 1) hx hb (by decide +kernel : decode cL_join 3 = .ok (.iload_n 1, 1)) rfl (lv_at hl 1 rfl) ?_
  refine vx_calli (vx_runV (C := mX9_join.1.cls) (b := g.2.2.2.1 0) (As := [.int a1]) (rest := [.int 0, .ref (g.2.2.2.1 122)]) ⟨hx, hb, hml, hown, hts⟩ h' ⟨⟨rfl, rfl, (by show d + 12 + 1 ≤ d + 13; omega), (by show 8 + (mX9_join.2.2.1 + 11) + (60 * d + 300) ≤ 60 * d + 360; have h4 : mX9_join.2.2.1 ≤ 40 := (by decide); omega), (fun w hw' a' U hW => by
      have hin : w ∈ qgw := by
        rcases List.mem_cons.mp hw' with rfl | h9
        · exact lL_join _ (List.mem_of_getElem? (i := 4) rfl)
        · exact h9
      exact word_at hW (qgw_good hin) (hts _ hin)), List.mem_cons_self, hts _ (lL_join _ (List.mem_of_getElem? (i := 4) rfl)), hts _ (lL_join _ (List.mem_of_getElem? (i := 3) rfl)), (by decide), qlen (qM_spec (by decide +kernel)), hts _ (lL_join _ (List.mem_of_getElem? (i := 0) rfl))⟩, hts _ (lL_join _ (List.mem_of_getElem? (i := 1) rfl)), hts _ (lL_join _ (List.mem_of_getElem? (i := 2) rfl))⟩ ⟨qblind, va_recv (q := (RX9, TX9, 4)) hK hP rfl (qW_obj (k := 0) rfl), fun U hU hW => ⟨rfl, by rw [hU]; exact hP, va_K.moved hW.alike hK, qK_warm hq hW (fun a _ _ => by rw [hU]), by rw [hU]; exact hA⟩⟩ rfl rfl hl.1 rfl (lv_room (Nat.le_of_ble_eq_true rfl)) (by decide +kernel : decode cL_join 4 = .ok (.invokevirtual 51, 3)) ⟨(by show 0 + 3 ≤ 3; decide), (by show 0 + 18 ≤ 6 * 3; decide)⟩) hS (fun q _ h9 => h9) (fun q h9 => h9) (fun q _ h9 => h9) (fun E ce q9 u t H1 locs1 ht hvm _ hB hz1 hk1 hS1 hce hcv hcl => ?_) (fun r u t H1 locs1 ht hvm hpost hB hz1 hk1 hS1 => ?_)
  · obtain ⟨hTE, hPo⟩ := hB
    have hE := hT E u hTE
    have hE : E = "java/lang/IndexOutOfBoundsException" ∨ E = "java/lang/IllegalStateException" := by simpa using hE
    rcases hE with rfl | rfl
    · refine vx_catch (name := "java/lang/IndexOutOfBoundsException") hown [] ⟨0, 9, 12, 32⟩ [⟨0, 9, 15, 13⟩] htab (fun z hz => absurd hz List.not_mem_nil) (by decide) (by decide) (hts _ cl_ioe) (va_Nw.use rfl (hq.1 _ ca_ioe rfl)) hce hcv hcl ?_
      refine lv_astore_n (k := 3) hx hb (by decide +kernel : decode cL_join 12 = .ok (.astore_n 3, 1)) rfl hl (by decide) rfl (fun ls' hl' => ?_)
      refine lv_iconst (v := 1) hx hb (by decide +kernel : decode cL_join 13 = .ok (.iconst 1, 1)) (by decide) ?_
      refine vx_ret (W.widen (k := 3) (n := 18) (by omega) (by omega) (W.iret (v := 1) hx hb hr (fun t2 ht2 hW2 => ⟨⟨1, u, rfl, Or.inr ⟨0, _, rfl, rfl, hTE⟩, by unfold qPost at hPo ⊢; rw [ht2]; rw [ht] at hPo; exact hPo⟩, hS1.F ht2⟩) hS1.2.2 (by decide +kernel : decode cL_join 14 = .ok (.ireturn, 1)) hlocks))
    · refine vx_catch (name := "java/lang/IllegalStateException") hown [(⟨0, 9, 12, 32⟩ : ExceptionTableEntry)] ⟨0, 9, 15, 13⟩ [] htab (List.forall_mem_cons.mpr ⟨Or.inr ⟨by decide, "java/lang/IndexOutOfBoundsException", hts _ cl_ioe, hN ("java/lang/IllegalStateException", "java/lang/IndexOutOfBoundsException") (by decide)⟩, fun z hz => absurd hz List.not_mem_nil⟩) (by decide) (by decide) (hts _ cl_ise) (va_Nw.use rfl (hq.1 _ ca_ise rfl)) hce hcv hcl ?_
      refine lv_astore_n (k := 3) hx hb (by decide +kernel : decode cL_join 15 = .ok (.astore_n 3, 1)) rfl hl (by decide) rfl (fun ls' hl' => ?_)
      refine lv_iconst (v := 2) hx hb (by decide +kernel : decode cL_join 16 = .ok (.iconst 2, 1)) (by decide) ?_
      refine vx_ret (W.widen (k := 3) (n := 18) (by omega) (by omega) (W.iret (v := 2) hx hb hr (fun t2 ht2 hW2 => ⟨⟨2, u, rfl, Or.inr ⟨1, _, rfl, rfl, hTE⟩, by unfold qPost at hPo ⊢; rw [ht2]; rw [ht] at hPo; exact hPo⟩, hS1.F ht2⟩) hS1.2.2 (by decide +kernel : decode cL_join 17 = .ok (.ireturn, 1)) hlocks))
  · unfold qPost at hB
    rw [ht] at hB
    refine lv_i2l (v := r.toInt64) hx hb (by decide +kernel : decode cL_join 7 = .ok (.i2l, 1)) rfl ?_
    refine va_last (D := g.2.2.1) (x := r.toInt64) (i := 0) hx hb hK hB (hw.D u) hS1 122 3 qW_outAt rfl (vp_in_nI (n := 0) (by decide) (by decide)) (by decide +kernel : decode cL_join 8 = .ok (.lastore, 1)) (fun H2 locs2 h1 h2 h3 => ?_)
    rw [qW_outSet] at h1
    refine lv_goto (tgt := 18) hx hb (by decide +kernel : decode cL_join 9 = .ok (.goto 9, 3)) rfl ?_
    refine lv_iconst (v := 0) hx hb (by decide +kernel : decode cL_join 18 = .ok (.iconst 0, 1)) (by decide) ?_
    exact vx_ret (W.widen (k := 3) (n := 18) (by omega) (by omega) (W.iret (v := 0) hx hb hr (fun t2 ht2 hW2 => ⟨⟨0, qup u 122 0 r, rfl, Or.inl ⟨rfl, r, u, hpost, rfl⟩, by unfold qPost; rw [ht2]; exact h1⟩, h3.F ht2⟩) h3.2.2 (by decide +kernel : decode cL_join 19 = .ok (.ireturn, 1)) hlocks))
abbrev hL_read : List (Nat × Nat × Nat × Nat) := [(0, 10, 13, 32), (0, 10, 17, 19), (0, 10, 21, 13)]
abbrev eL_read : List String := ["java/lang/IndexOutOfBoundsException", "java/lang/IllegalArgumentException", "java/lang/IllegalStateException"]
theorem lL_read : ∀ w ∈ ([.methodLink RL 54 mX9_read.1, .instanceMethod mX9_read.1, .selects mX9_read.1.cls mX9_read.1 mX9_read.1] ++ qcw mX9_read : List Jvm.Cond), w ∈ qgw := qgw_of [1126, 1127, 1128, 119, 1129] (by decide +kernel) (by decide +kernel)
set_option maxRecDepth 100000 in
set_option maxHeartbeats 4000000 in
theorem lw_read {g : qG} (hw : qWF g) {d : Nat} {σ : qS} {a1 a2 : Int32} {Q : Int32 → qS → Prop} {T : String → qS → Prop} (hT : ∀ E u, T E u → E ∈ eL_read) (h : qC g d mX9_read [.inr 0, .inl a1, .inl a2] σ Q T) : Met g.1 yL_read (.codeWith yL_read cL_read 5 (some .int) hL_read :: qgw) (lrm 3 d) (va_Pc [.ref (g.2.2.2.1 0), .int a1, .int a2, .ref (g.2.2.2.1 122)] (lPre g σ)) (va_Qi (lQ eL_read Q T) (qPost g) g.2.1) 3 18 g.2.1 := by
  have h' : vx_Met g.1 mX9_read.1 (qws mX9_read) (qrm mX9_read d) (va_Pc ([Sum.inr 0, Sum.inl a1, Sum.inl a2].map (qv g.2.2.2.1)) (qPre g σ)) (va_Qi Q (qPost g) g.2.1) (qXc g T) 3 18 g.2.1 := h
  refine met_of_vx (vx_ofWH (cc := cL_read) (maxL := 5) (ret := some .int) (hh := hL_read) (by decide) rfl ?_)
  intro p e s m args below meth c s₁ B hml hv
  obtain ⟨rfl, ⟨hP, hK, hq, hA⟩, hN⟩ := hv
  have hx := B.exec
  have hb := B.bytes
  have hr := B.returns
  have hts0 := atoms_spec (ws := .codeWith yL_read cL_read 5 (some .int) hL_read :: qgw) B.pre
  have htab := vx_table (x := yL_read) B (hts0 _ List.mem_cons_self)
  have hts : ∀ w ∈ qgw, w.before _ s = true := fun w hw => hts0 w (List.mem_cons_of_mem _ hw)
  have hown : s.vm.findClass RL = some m.cls := findClass_of_methodNamed B.named
  have hlocks := B.notSynchronized
  have hS : va_S g.2.1 s.heap s.heap [] := va_S.rf
  have hl := lv_entry ([.ref (g.2.2.2.1 0), .int a1, .int a2, .ref (g.2.2.2.1 122)]) (n := 5) (Nat.le_of_ble_eq_true rfl)
  rw [lg_entry_eq]
  generalize (lg_sl ([.ref (g.2.2.2.1 0), .int a1, .int a2, .ref (g.2.2.2.1 122)]) ++ List.replicate (5 - (lg_sl ([.ref (g.2.2.2.1 0), .int a1, .int a2, .ref (g.2.2.2.1 122)])).length) Slot.unset).toArray = ls at hl ⊢
  have hl : lv_has ls 5 [(0, .ref (g.2.2.2.1 0)), (1, .int a1), (2, .int a2), (3, .ref (g.2.2.2.1 122))] := hl
  refine lv_aload_n (k := 3) hx hb (by decide +kernel : decode cL_read 0 = .ok (.aload_n 3, 1)) rfl (lv_at hl 3 rfl) ?_
  refine lv_iconst (v := 0) hx hb (by decide +kernel : decode cL_read 1 = .ok (.iconst 0, 1)) (by decide) ?_
  refine lv_aload_n (k := 0) hx hb (by decide +kernel : decode cL_read 2 = .ok (.aload_n 0, 1)) rfl (lv_at hl 0 rfl) ?_
  refine lv_iload_n (k := 1) hx hb (by decide +kernel : decode cL_read 3 = .ok (.iload_n 1, 1)) rfl (lv_at hl 1 rfl) ?_
  refine lv_iload_n (k := 2) hx hb (by decide +kernel : decode cL_read 4 = .ok (.iload_n 2, 1)) rfl (lv_at hl 2 rfl) ?_
  refine vx_calli (vx_runV (C := mX9_read.1.cls) (b := g.2.2.2.1 0) (As := [.int a1, .int a2]) (rest := [.int 0, .ref (g.2.2.2.1 122)]) ⟨hx, hb, hml, hown, hts⟩ h' ⟨⟨rfl, rfl, (by show d + 12 + 1 ≤ d + 13; omega), (by show 8 + (mX9_read.2.2.1 + 11) + (60 * d + 300) ≤ 60 * d + 360; have h4 : mX9_read.2.2.1 ≤ 40 := (by decide); omega), (fun w hw' a' U hW => by
      have hin : w ∈ qgw := by
        rcases List.mem_cons.mp hw' with rfl | h9
        · exact lL_read _ (List.mem_of_getElem? (i := 4) rfl)
        · exact h9
      exact word_at hW (qgw_good hin) (hts _ hin)), List.mem_cons_self, hts _ (lL_read _ (List.mem_of_getElem? (i := 4) rfl)), hts _ (lL_read _ (List.mem_of_getElem? (i := 3) rfl)), (by decide), qlen (qM_spec (by decide +kernel)), hts _ (lL_read _ (List.mem_of_getElem? (i := 0) rfl))⟩, hts _ (lL_read _ (List.mem_of_getElem? (i := 1) rfl)), hts _ (lL_read _ (List.mem_of_getElem? (i := 2) rfl))⟩ ⟨qblind, va_recv (q := (RX9, TX9, 4)) hK hP rfl (qW_obj (k := 0) rfl), fun U hU hW => ⟨rfl, by rw [hU]; exact hP, va_K.moved hW.alike hK, qK_warm hq hW (fun a _ _ => by rw [hU]), by rw [hU]; exact hA⟩⟩ rfl rfl hl.1 rfl (lv_room (Nat.le_of_ble_eq_true rfl)) (by decide +kernel : decode cL_read 5 = .ok (.invokevirtual 54, 3)) ⟨(by show 0 + 3 ≤ 3; decide), (by show 0 + 18 ≤ 6 * 3; decide)⟩) hS (fun q _ h9 => h9) (fun q h9 => h9) (fun q _ h9 => h9) (fun E ce q9 u t H1 locs1 ht hvm _ hB hz1 hk1 hS1 hce hcv hcl => ?_) (fun r u t H1 locs1 ht hvm hpost hB hz1 hk1 hS1 => ?_)
  · obtain ⟨hTE, hPo⟩ := hB
    have hE := hT E u hTE
    have hE : E = "java/lang/IndexOutOfBoundsException" ∨ E = "java/lang/IllegalArgumentException" ∨ E = "java/lang/IllegalStateException" := by simpa using hE
    rcases hE with rfl | rfl | rfl
    · refine vx_catch (name := "java/lang/IndexOutOfBoundsException") hown [] ⟨0, 10, 13, 32⟩ [⟨0, 10, 17, 19⟩, ⟨0, 10, 21, 13⟩] htab (fun z hz => absurd hz List.not_mem_nil) (by decide) (by decide) (hts _ cl_ioe) (va_Nw.use rfl (hq.1 _ ca_ioe rfl)) hce hcv hcl ?_
      refine lv_astore hx hb (by decide +kernel : decode cL_read 13 = .ok (.astore 4, 2)) hl (by decide) rfl (fun ls' hl' => ?_)
      refine lv_iconst (v := 1) hx hb (by decide +kernel : decode cL_read 15 = .ok (.iconst 1, 1)) (by decide) ?_
      refine vx_ret (W.widen (k := 3) (n := 18) (by omega) (by omega) (W.iret (v := 1) hx hb hr (fun t2 ht2 hW2 => ⟨⟨1, u, rfl, Or.inr ⟨0, _, rfl, rfl, hTE⟩, by unfold qPost at hPo ⊢; rw [ht2]; rw [ht] at hPo; exact hPo⟩, hS1.F ht2⟩) hS1.2.2 (by decide +kernel : decode cL_read 16 = .ok (.ireturn, 1)) hlocks))
    · refine vx_catch (name := "java/lang/IllegalArgumentException") hown [(⟨0, 10, 13, 32⟩ : ExceptionTableEntry)] ⟨0, 10, 17, 19⟩ [⟨0, 10, 21, 13⟩] htab (List.forall_mem_cons.mpr ⟨Or.inr ⟨by decide, "java/lang/IndexOutOfBoundsException", hts _ cl_ioe, hN ("java/lang/IllegalArgumentException", "java/lang/IndexOutOfBoundsException") (by decide)⟩, fun z hz => absurd hz List.not_mem_nil⟩) (by decide) (by decide) (hts _ cl_iae) (va_Nw.use rfl (hq.1 _ ca_iae rfl)) hce hcv hcl ?_
      refine lv_astore hx hb (by decide +kernel : decode cL_read 17 = .ok (.astore 4, 2)) hl (by decide) rfl (fun ls' hl' => ?_)
      refine lv_iconst (v := 2) hx hb (by decide +kernel : decode cL_read 19 = .ok (.iconst 2, 1)) (by decide) ?_
      refine vx_ret (W.widen (k := 3) (n := 18) (by omega) (by omega) (W.iret (v := 2) hx hb hr (fun t2 ht2 hW2 => ⟨⟨2, u, rfl, Or.inr ⟨1, _, rfl, rfl, hTE⟩, by unfold qPost at hPo ⊢; rw [ht2]; rw [ht] at hPo; exact hPo⟩, hS1.F ht2⟩) hS1.2.2 (by decide +kernel : decode cL_read 20 = .ok (.ireturn, 1)) hlocks))
    · refine vx_catch (name := "java/lang/IllegalStateException") hown [(⟨0, 10, 13, 32⟩ : ExceptionTableEntry), (⟨0, 10, 17, 19⟩ : ExceptionTableEntry)] ⟨0, 10, 21, 13⟩ [] htab (List.forall_mem_cons.mpr ⟨Or.inr ⟨by decide, "java/lang/IndexOutOfBoundsException", hts _ cl_ioe, hN ("java/lang/IllegalStateException", "java/lang/IndexOutOfBoundsException") (by decide)⟩, List.forall_mem_cons.mpr ⟨Or.inr ⟨by decide, "java/lang/IllegalArgumentException", hts _ cl_iae, hN ("java/lang/IllegalStateException", "java/lang/IllegalArgumentException") (by decide)⟩, fun z hz => absurd hz List.not_mem_nil⟩⟩) (by decide) (by decide) (hts _ cl_ise) (va_Nw.use rfl (hq.1 _ ca_ise rfl)) hce hcv hcl ?_
      refine lv_astore hx hb (by decide +kernel : decode cL_read 21 = .ok (.astore 4, 2)) hl (by decide) rfl (fun ls' hl' => ?_)
      refine lv_iconst (v := 3) hx hb (by decide +kernel : decode cL_read 23 = .ok (.iconst 3, 1)) (by decide) ?_
      refine vx_ret (W.widen (k := 3) (n := 18) (by omega) (by omega) (W.iret (v := 3) hx hb hr (fun t2 ht2 hW2 => ⟨⟨3, u, rfl, Or.inr ⟨2, _, rfl, rfl, hTE⟩, by unfold qPost at hPo ⊢; rw [ht2]; rw [ht] at hPo; exact hPo⟩, hS1.F ht2⟩) hS1.2.2 (by decide +kernel : decode cL_read 24 = .ok (.ireturn, 1)) hlocks))
  · unfold qPost at hB
    rw [ht] at hB
    refine lv_i2l (v := r.toInt64) hx hb (by decide +kernel : decode cL_read 8 = .ok (.i2l, 1)) rfl ?_
    refine va_last (D := g.2.2.1) (x := r.toInt64) (i := 0) hx hb hK hB (hw.D u) hS1 122 3 qW_outAt rfl (vp_in_nI (n := 0) (by decide) (by decide)) (by decide +kernel : decode cL_read 9 = .ok (.lastore, 1)) (fun H2 locs2 h1 h2 h3 => ?_)
    rw [qW_outSet] at h1
    refine lv_goto (tgt := 25) hx hb (by decide +kernel : decode cL_read 10 = .ok (.goto 15, 3)) rfl ?_
    refine lv_iconst (v := 0) hx hb (by decide +kernel : decode cL_read 25 = .ok (.iconst 0, 1)) (by decide) ?_
    exact vx_ret (W.widen (k := 3) (n := 18) (by omega) (by omega) (W.iret (v := 0) hx hb hr (fun t2 ht2 hW2 => ⟨⟨0, qup u 122 0 r, rfl, Or.inl ⟨rfl, r, u, hpost, rfl⟩, by unfold qPost; rw [ht2]; exact h1⟩, h3.F ht2⟩) h3.2.2 (by decide +kernel : decode cL_read 26 = .ok (.ireturn, 1)) hlocks))
abbrev hL_message : List (Nat × Nat × Nat × Nat) := [(0, 10, 13, 32), (0, 10, 17, 19)]
abbrev eL_message : List String := ["java/lang/IndexOutOfBoundsException", "java/lang/IllegalArgumentException"]
theorem lL_message : ∀ w ∈ ([.methodLink RL 57 mX9_message.1, .instanceMethod mX9_message.1, .selects mX9_message.1.cls mX9_message.1 mX9_message.1] ++ qcw mX9_message : List Jvm.Cond), w ∈ qgw := qgw_of [1133, 1134, 1135, 119, 1136] (by decide +kernel) (by decide +kernel)
set_option maxRecDepth 100000 in
set_option maxHeartbeats 4000000 in
theorem lw_message {g : qG} (hw : qWF g) {d : Nat} {σ : qS} {a1 a2 : Int32} {Q : Int32 → qS → Prop} {T : String → qS → Prop} (hT : ∀ E u, T E u → E ∈ eL_message) (h : qC g d mX9_message [.inr 0, .inl a1, .inl a2] σ Q T) : Met g.1 yL_message (.codeWith yL_message cL_message 5 (some .int) hL_message :: qgw) (lrm 2 d) (va_Pc [.ref (g.2.2.2.1 0), .int a1, .int a2, .ref (g.2.2.2.1 122)] (lPre g σ)) (va_Qi (lQ eL_message Q T) (qPost g) g.2.1) 2 12 g.2.1 := by
  have h' : vx_Met g.1 mX9_message.1 (qws mX9_message) (qrm mX9_message d) (va_Pc ([Sum.inr 0, Sum.inl a1, Sum.inl a2].map (qv g.2.2.2.1)) (qPre g σ)) (va_Qi Q (qPost g) g.2.1) (qXc g T) 2 12 g.2.1 := h
  refine met_of_vx (vx_ofWH (cc := cL_message) (maxL := 5) (ret := some .int) (hh := hL_message) (by decide) rfl ?_)
  intro p e s m args below meth c s₁ B hml hv
  obtain ⟨rfl, ⟨hP, hK, hq, hA⟩, hN⟩ := hv
  have hx := B.exec
  have hb := B.bytes
  have hr := B.returns
  have hts0 := atoms_spec (ws := .codeWith yL_message cL_message 5 (some .int) hL_message :: qgw) B.pre
  have htab := vx_table (x := yL_message) B (hts0 _ List.mem_cons_self)
  have hts : ∀ w ∈ qgw, w.before _ s = true := fun w hw => hts0 w (List.mem_cons_of_mem _ hw)
  have hown : s.vm.findClass RL = some m.cls := findClass_of_methodNamed B.named
  have hlocks := B.notSynchronized
  have hS : va_S g.2.1 s.heap s.heap [] := va_S.rf
  have hl := lv_entry ([.ref (g.2.2.2.1 0), .int a1, .int a2, .ref (g.2.2.2.1 122)]) (n := 5) (Nat.le_of_ble_eq_true rfl)
  rw [lg_entry_eq]
  generalize (lg_sl ([.ref (g.2.2.2.1 0), .int a1, .int a2, .ref (g.2.2.2.1 122)]) ++ List.replicate (5 - (lg_sl ([.ref (g.2.2.2.1 0), .int a1, .int a2, .ref (g.2.2.2.1 122)])).length) Slot.unset).toArray = ls at hl ⊢
  have hl : lv_has ls 5 [(0, .ref (g.2.2.2.1 0)), (1, .int a1), (2, .int a2), (3, .ref (g.2.2.2.1 122))] := hl
  refine lv_aload_n (k := 3) hx hb (by decide +kernel : decode cL_message 0 = .ok (.aload_n 3, 1)) rfl (lv_at hl 3 rfl) ?_
  refine lv_iconst (v := 0) hx hb (by decide +kernel : decode cL_message 1 = .ok (.iconst 0, 1)) (by decide) ?_
  refine lv_aload_n (k := 0) hx hb (by decide +kernel : decode cL_message 2 = .ok (.aload_n 0, 1)) rfl (lv_at hl 0 rfl) ?_
  refine lv_iload_n (k := 1) hx hb (by decide +kernel : decode cL_message 3 = .ok (.iload_n 1, 1)) rfl (lv_at hl 1 rfl) ?_
  refine lv_iload_n (k := 2) hx hb (by decide +kernel : decode cL_message 4 = .ok (.iload_n 2, 1)) rfl (lv_at hl 2 rfl) ?_
  refine vx_calli (vx_runV (C := mX9_message.1.cls) (b := g.2.2.2.1 0) (As := [.int a1, .int a2]) (rest := [.int 0, .ref (g.2.2.2.1 122)]) ⟨hx, hb, hml, hown, hts⟩ h' ⟨⟨rfl, rfl, (by show d + 12 + 1 ≤ d + 13; omega), (by show 8 + (mX9_message.2.2.1 + 11) + (60 * d + 300) ≤ 60 * d + 360; have h4 : mX9_message.2.2.1 ≤ 40 := (by decide); omega), (fun w hw' a' U hW => by
      have hin : w ∈ qgw := by
        rcases List.mem_cons.mp hw' with rfl | h9
        · exact lL_message _ (List.mem_of_getElem? (i := 4) rfl)
        · exact h9
      exact word_at hW (qgw_good hin) (hts _ hin)), List.mem_cons_self, hts _ (lL_message _ (List.mem_of_getElem? (i := 4) rfl)), hts _ (lL_message _ (List.mem_of_getElem? (i := 3) rfl)), (by decide), qlen (qM_spec (by decide +kernel)), hts _ (lL_message _ (List.mem_of_getElem? (i := 0) rfl))⟩, hts _ (lL_message _ (List.mem_of_getElem? (i := 1) rfl)), hts _ (lL_message _ (List.mem_of_getElem? (i := 2) rfl))⟩ ⟨qblind, va_recv (q := (RX9, TX9, 4)) hK hP rfl (qW_obj (k := 0) rfl), fun U hU hW => ⟨rfl, by rw [hU]; exact hP, va_K.moved hW.alike hK, qK_warm hq hW (fun a _ _ => by rw [hU]), by rw [hU]; exact hA⟩⟩ rfl rfl hl.1 rfl (lv_room (Nat.le_of_ble_eq_true rfl)) (by decide +kernel : decode cL_message 5 = .ok (.invokevirtual 57, 3)) ⟨(by show 0 + 2 ≤ 2; decide), (by show 0 + 12 ≤ 6 * 2; decide)⟩) hS (fun q _ h9 => h9) (fun q h9 => h9) (fun q _ h9 => h9) (fun E ce q9 u t H1 locs1 ht hvm _ hB hz1 hk1 hS1 hce hcv hcl => ?_) (fun r u t H1 locs1 ht hvm hpost hB hz1 hk1 hS1 => ?_)
  · obtain ⟨hTE, hPo⟩ := hB
    have hE := hT E u hTE
    have hE : E = "java/lang/IndexOutOfBoundsException" ∨ E = "java/lang/IllegalArgumentException" := by simpa using hE
    rcases hE with rfl | rfl
    · refine vx_catch (name := "java/lang/IndexOutOfBoundsException") hown [] ⟨0, 10, 13, 32⟩ [⟨0, 10, 17, 19⟩] htab (fun z hz => absurd hz List.not_mem_nil) (by decide) (by decide) (hts _ cl_ioe) (va_Nw.use rfl (hq.1 _ ca_ioe rfl)) hce hcv hcl ?_
      refine lv_astore hx hb (by decide +kernel : decode cL_message 13 = .ok (.astore 4, 2)) hl (by decide) rfl (fun ls' hl' => ?_)
      refine lv_iconst (v := 1) hx hb (by decide +kernel : decode cL_message 15 = .ok (.iconst 1, 1)) (by decide) ?_
      refine vx_ret (W.widen (k := 2) (n := 12) (by omega) (by omega) (W.iret (v := 1) hx hb hr (fun t2 ht2 hW2 => ⟨⟨1, u, rfl, Or.inr ⟨0, _, rfl, rfl, hTE⟩, by unfold qPost at hPo ⊢; rw [ht2]; rw [ht] at hPo; exact hPo⟩, hS1.F ht2⟩) hS1.2.2 (by decide +kernel : decode cL_message 16 = .ok (.ireturn, 1)) hlocks))
    · refine vx_catch (name := "java/lang/IllegalArgumentException") hown [(⟨0, 10, 13, 32⟩ : ExceptionTableEntry)] ⟨0, 10, 17, 19⟩ [] htab (List.forall_mem_cons.mpr ⟨Or.inr ⟨by decide, "java/lang/IndexOutOfBoundsException", hts _ cl_ioe, hN ("java/lang/IllegalArgumentException", "java/lang/IndexOutOfBoundsException") (by decide)⟩, fun z hz => absurd hz List.not_mem_nil⟩) (by decide) (by decide) (hts _ cl_iae) (va_Nw.use rfl (hq.1 _ ca_iae rfl)) hce hcv hcl ?_
      refine lv_astore hx hb (by decide +kernel : decode cL_message 17 = .ok (.astore 4, 2)) hl (by decide) rfl (fun ls' hl' => ?_)
      refine lv_iconst (v := 2) hx hb (by decide +kernel : decode cL_message 19 = .ok (.iconst 2, 1)) (by decide) ?_
      refine vx_ret (W.widen (k := 2) (n := 12) (by omega) (by omega) (W.iret (v := 2) hx hb hr (fun t2 ht2 hW2 => ⟨⟨2, u, rfl, Or.inr ⟨1, _, rfl, rfl, hTE⟩, by unfold qPost at hPo ⊢; rw [ht2]; rw [ht] at hPo; exact hPo⟩, hS1.F ht2⟩) hS1.2.2 (by decide +kernel : decode cL_message 20 = .ok (.ireturn, 1)) hlocks))
  · unfold qPost at hB
    rw [ht] at hB
    refine lv_i2l (v := r.toInt64) hx hb (by decide +kernel : decode cL_message 8 = .ok (.i2l, 1)) rfl ?_
    refine va_last (D := g.2.2.1) (x := r.toInt64) (i := 0) hx hb hK hB (hw.D u) hS1 122 3 qW_outAt rfl (vp_in_nI (n := 0) (by decide) (by decide)) (by decide +kernel : decode cL_message 9 = .ok (.lastore, 1)) (fun H2 locs2 h1 h2 h3 => ?_)
    rw [qW_outSet] at h1
    refine lv_goto (tgt := 21) hx hb (by decide +kernel : decode cL_message 10 = .ok (.goto 11, 3)) rfl ?_
    refine lv_iconst (v := 0) hx hb (by decide +kernel : decode cL_message 21 = .ok (.iconst 0, 1)) (by decide) ?_
    exact vx_ret (W.widen (k := 2) (n := 12) (by omega) (by omega) (W.iret (v := 0) hx hb hr (fun t2 ht2 hW2 => ⟨⟨0, qup u 122 0 r, rfl, Or.inl ⟨rfl, r, u, hpost, rfl⟩, by unfold qPost; rw [ht2]; exact h1⟩, h3.F ht2⟩) h3.2.2 (by decide +kernel : decode cL_message 22 = .ok (.ireturn, 1)) hlocks))
abbrev hL_checkpoint : List (Nat × Nat × Nat × Nat) := [(0, 8, 11, 13)]
abbrev eL_checkpoint : List String := ["java/lang/IllegalStateException"]
theorem lL_checkpoint : ∀ w ∈ ([.methodLink RL 60 mX9_checkpoint.1, .instanceMethod mX9_checkpoint.1, .selects mX9_checkpoint.1.cls mX9_checkpoint.1 mX9_checkpoint.1] ++ qcw mX9_checkpoint : List Jvm.Cond), w ∈ qgw := qgw_of [1144, 1145, 1146, 119, 1147] (by decide +kernel) (by decide +kernel)
set_option maxRecDepth 100000 in
set_option maxHeartbeats 4000000 in
theorem lw_checkpoint {g : qG} (hw : qWF g) {d : Nat} {σ : qS} {Q : Int32 → qS → Prop} {T : String → qS → Prop} (hT : ∀ E u, T E u → E ∈ eL_checkpoint) (h : qC g d mX9_checkpoint [.inr 0] σ Q T) : Met g.1 yL_checkpoint (.codeWith yL_checkpoint cL_checkpoint 3 (some .int) hL_checkpoint :: qgw) (lrm 3 d) (va_Pc [.ref (g.2.2.2.1 0), .ref (g.2.2.2.1 122)] (lPre g σ)) (va_Qi (lQ eL_checkpoint Q T) (qPost g) g.2.1) 3 18 g.2.1 := by
  have h' : vx_Met g.1 mX9_checkpoint.1 (qws mX9_checkpoint) (qrm mX9_checkpoint d) (va_Pc ([Sum.inr 0].map (qv g.2.2.2.1)) (qPre g σ)) (va_Qi Q (qPost g) g.2.1) (qXc g T) 3 18 g.2.1 := h
  refine met_of_vx (vx_ofWH (cc := cL_checkpoint) (maxL := 3) (ret := some .int) (hh := hL_checkpoint) (by decide) rfl ?_)
  intro p e s m args below meth c s₁ B hml hv
  obtain ⟨rfl, ⟨hP, hK, hq, hA⟩, hN⟩ := hv
  have hx := B.exec
  have hb := B.bytes
  have hr := B.returns
  have hts0 := atoms_spec (ws := .codeWith yL_checkpoint cL_checkpoint 3 (some .int) hL_checkpoint :: qgw) B.pre
  have htab := vx_table (x := yL_checkpoint) B (hts0 _ List.mem_cons_self)
  have hts : ∀ w ∈ qgw, w.before _ s = true := fun w hw => hts0 w (List.mem_cons_of_mem _ hw)
  have hown : s.vm.findClass RL = some m.cls := findClass_of_methodNamed B.named
  have hlocks := B.notSynchronized
  have hS : va_S g.2.1 s.heap s.heap [] := va_S.rf
  have hl := lv_entry ([.ref (g.2.2.2.1 0), .ref (g.2.2.2.1 122)]) (n := 3) (Nat.le_of_ble_eq_true rfl)
  rw [lg_entry_eq]
  generalize (lg_sl ([.ref (g.2.2.2.1 0), .ref (g.2.2.2.1 122)]) ++ List.replicate (3 - (lg_sl ([.ref (g.2.2.2.1 0), .ref (g.2.2.2.1 122)])).length) Slot.unset).toArray = ls at hl ⊢
  have hl : lv_has ls 3 [(0, .ref (g.2.2.2.1 0)), (1, .ref (g.2.2.2.1 122))] := hl
  refine lv_aload_n (k := 1) hx hb (by decide +kernel : decode cL_checkpoint 0 = .ok (.aload_n 1, 1)) rfl (lv_at hl 1 rfl) ?_
  refine lv_iconst (v := 0) hx hb (by decide +kernel : decode cL_checkpoint 1 = .ok (.iconst 0, 1)) (by decide) ?_
  refine lv_aload_n (k := 0) hx hb (by decide +kernel : decode cL_checkpoint 2 = .ok (.aload_n 0, 1)) rfl (lv_at hl 0 rfl) ?_
  refine vx_calli (vx_runV (C := mX9_checkpoint.1.cls) (b := g.2.2.2.1 0) (As := []) (rest := [.int 0, .ref (g.2.2.2.1 122)]) ⟨hx, hb, hml, hown, hts⟩ h' ⟨⟨rfl, rfl, (by show d + 12 + 1 ≤ d + 13; omega), (by show 8 + (mX9_checkpoint.2.2.1 + 11) + (60 * d + 300) ≤ 60 * d + 360; have h4 : mX9_checkpoint.2.2.1 ≤ 40 := (by decide); omega), (fun w hw' a' U hW => by
      have hin : w ∈ qgw := by
        rcases List.mem_cons.mp hw' with rfl | h9
        · exact lL_checkpoint _ (List.mem_of_getElem? (i := 4) rfl)
        · exact h9
      exact word_at hW (qgw_good hin) (hts _ hin)), List.mem_cons_self, hts _ (lL_checkpoint _ (List.mem_of_getElem? (i := 4) rfl)), hts _ (lL_checkpoint _ (List.mem_of_getElem? (i := 3) rfl)), (by decide), qlen (qM_spec (by decide +kernel)), hts _ (lL_checkpoint _ (List.mem_of_getElem? (i := 0) rfl))⟩, hts _ (lL_checkpoint _ (List.mem_of_getElem? (i := 1) rfl)), hts _ (lL_checkpoint _ (List.mem_of_getElem? (i := 2) rfl))⟩ ⟨qblind, va_recv (q := (RX9, TX9, 4)) hK hP rfl (qW_obj (k := 0) rfl), fun U hU hW => ⟨rfl, by rw [hU]; exact hP, va_K.moved hW.alike hK, qK_warm hq hW (fun a _ _ => by rw [hU]), by rw [hU]; exact hA⟩⟩ rfl rfl hl.1 rfl (lv_room (Nat.le_of_ble_eq_true rfl)) (by decide +kernel : decode cL_checkpoint 3 = .ok (.invokevirtual 60, 3)) ⟨(by show 0 + 3 ≤ 3; decide), (by show 0 + 18 ≤ 6 * 3; decide)⟩) hS (fun q _ h9 => h9) (fun q h9 => h9) (fun q _ h9 => h9) (fun E ce q9 u t H1 locs1 ht hvm _ hB hz1 hk1 hS1 hce hcv hcl => ?_) (fun r u t H1 locs1 ht hvm hpost hB hz1 hk1 hS1 => ?_)
  · obtain ⟨hTE, hPo⟩ := hB
    have hE := hT E u hTE
    obtain rfl : E = "java/lang/IllegalStateException" := by simpa using hE
    refine vx_catch (name := "java/lang/IllegalStateException") hown [] ⟨0, 8, 11, 13⟩ [] htab (fun z hz => absurd hz List.not_mem_nil) (by decide) (by decide) (hts _ cl_ise) (va_Nw.use rfl (hq.1 _ ca_ise rfl)) hce hcv hcl ?_
    refine lv_astore_n (k := 2) hx hb (by decide +kernel : decode cL_checkpoint 11 = .ok (.astore_n 2, 1)) rfl hl (by decide) rfl (fun ls' hl' => ?_)
    refine lv_iconst (v := 1) hx hb (by decide +kernel : decode cL_checkpoint 12 = .ok (.iconst 1, 1)) (by decide) ?_
    refine vx_ret (W.widen (k := 3) (n := 18) (by omega) (by omega) (W.iret (v := 1) hx hb hr (fun t2 ht2 hW2 => ⟨⟨1, u, rfl, Or.inr ⟨0, _, rfl, rfl, hTE⟩, by unfold qPost at hPo ⊢; rw [ht2]; rw [ht] at hPo; exact hPo⟩, hS1.F ht2⟩) hS1.2.2 (by decide +kernel : decode cL_checkpoint 13 = .ok (.ireturn, 1)) hlocks))
  · unfold qPost at hB
    rw [ht] at hB
    refine lv_i2l (v := r.toInt64) hx hb (by decide +kernel : decode cL_checkpoint 6 = .ok (.i2l, 1)) rfl ?_
    refine va_last (D := g.2.2.1) (x := r.toInt64) (i := 0) hx hb hK hB (hw.D u) hS1 122 3 qW_outAt rfl (vp_in_nI (n := 0) (by decide) (by decide)) (by decide +kernel : decode cL_checkpoint 7 = .ok (.lastore, 1)) (fun H2 locs2 h1 h2 h3 => ?_)
    rw [qW_outSet] at h1
    refine lv_goto (tgt := 14) hx hb (by decide +kernel : decode cL_checkpoint 8 = .ok (.goto 6, 3)) rfl ?_
    refine lv_iconst (v := 0) hx hb (by decide +kernel : decode cL_checkpoint 14 = .ok (.iconst 0, 1)) (by decide) ?_
    exact vx_ret (W.widen (k := 3) (n := 18) (by omega) (by omega) (W.iret (v := 0) hx hb hr (fun t2 ht2 hW2 => ⟨⟨0, qup u 122 0 r, rfl, Or.inl ⟨rfl, r, u, hpost, rfl⟩, by unfold qPost; rw [ht2]; exact h1⟩, h3.F ht2⟩) h3.2.2 (by decide +kernel : decode cL_checkpoint 15 = .ok (.ireturn, 1)) hlocks))
abbrev hL_damage : List (Nat × Nat × Nat × Nat) := [(0, 9, 12, 32), (0, 9, 15, 13)]
abbrev eL_damage : List String := ["java/lang/IndexOutOfBoundsException", "java/lang/IllegalStateException"]
theorem lL_damage : ∀ w ∈ ([.methodLink RL 63 mX9_damage.1, .instanceMethod mX9_damage.1, .selects mX9_damage.1.cls mX9_damage.1 mX9_damage.1] ++ qcw mX9_damage : List Jvm.Cond), w ∈ qgw := qgw_of [1151, 1152, 1153, 119, 1154] (by decide +kernel) (by decide +kernel)
set_option maxRecDepth 100000 in
set_option maxHeartbeats 4000000 in
theorem lw_damage {g : qG} (hw : qWF g) {d : Nat} {σ : qS} {a1 : Int32} {Q : Int32 → qS → Prop} {T : String → qS → Prop} (hT : ∀ E u, T E u → E ∈ eL_damage) (h : qC g d mX9_damage [.inr 0, .inl a1] σ Q T) : Met g.1 yL_damage (.codeWith yL_damage cL_damage 4 (some .int) hL_damage :: qgw) (lrm 2 d) (va_Pc [.ref (g.2.2.2.1 0), .int a1, .ref (g.2.2.2.1 122)] (lPre g σ)) (va_Qi (lQ eL_damage Q T) (qPost g) g.2.1) 2 12 g.2.1 := by
  have h' : vx_Met g.1 mX9_damage.1 (qws mX9_damage) (qrm mX9_damage d) (va_Pc ([Sum.inr 0, Sum.inl a1].map (qv g.2.2.2.1)) (qPre g σ)) (va_Qi Q (qPost g) g.2.1) (qXc g T) 2 12 g.2.1 := h
  refine met_of_vx (vx_ofWH (cc := cL_damage) (maxL := 4) (ret := some .int) (hh := hL_damage) (by decide) rfl ?_)
  intro p e s m args below meth c s₁ B hml hv
  obtain ⟨rfl, ⟨hP, hK, hq, hA⟩, hN⟩ := hv
  have hx := B.exec
  have hb := B.bytes
  have hr := B.returns
  have hts0 := atoms_spec (ws := .codeWith yL_damage cL_damage 4 (some .int) hL_damage :: qgw) B.pre
  have htab := vx_table (x := yL_damage) B (hts0 _ List.mem_cons_self)
  have hts : ∀ w ∈ qgw, w.before _ s = true := fun w hw => hts0 w (List.mem_cons_of_mem _ hw)
  have hown : s.vm.findClass RL = some m.cls := findClass_of_methodNamed B.named
  have hlocks := B.notSynchronized
  have hS : va_S g.2.1 s.heap s.heap [] := va_S.rf
  have hl := lv_entry ([.ref (g.2.2.2.1 0), .int a1, .ref (g.2.2.2.1 122)]) (n := 4) (Nat.le_of_ble_eq_true rfl)
  rw [lg_entry_eq]
  generalize (lg_sl ([.ref (g.2.2.2.1 0), .int a1, .ref (g.2.2.2.1 122)]) ++ List.replicate (4 - (lg_sl ([.ref (g.2.2.2.1 0), .int a1, .ref (g.2.2.2.1 122)])).length) Slot.unset).toArray = ls at hl ⊢
  have hl : lv_has ls 4 [(0, .ref (g.2.2.2.1 0)), (1, .int a1), (2, .ref (g.2.2.2.1 122))] := hl
  refine lv_aload_n (k := 2) hx hb (by decide +kernel : decode cL_damage 0 = .ok (.aload_n 2, 1)) rfl (lv_at hl 2 rfl) ?_
  refine lv_iconst (v := 0) hx hb (by decide +kernel : decode cL_damage 1 = .ok (.iconst 0, 1)) (by decide) ?_
  refine lv_aload_n (k := 0) hx hb (by decide +kernel : decode cL_damage 2 = .ok (.aload_n 0, 1)) rfl (lv_at hl 0 rfl) ?_
  refine lv_iload_n (k := 1) hx hb (by decide +kernel : decode cL_damage 3 = .ok (.iload_n 1, 1)) rfl (lv_at hl 1 rfl) ?_
  refine vx_calli (vx_runV (C := mX9_damage.1.cls) (b := g.2.2.2.1 0) (As := [.int a1]) (rest := [.int 0, .ref (g.2.2.2.1 122)]) ⟨hx, hb, hml, hown, hts⟩ h' ⟨⟨rfl, rfl, (by show d + 12 + 1 ≤ d + 13; omega), (by show 8 + (mX9_damage.2.2.1 + 11) + (60 * d + 300) ≤ 60 * d + 360; have h4 : mX9_damage.2.2.1 ≤ 40 := (by decide); omega), (fun w hw' a' U hW => by
      have hin : w ∈ qgw := by
        rcases List.mem_cons.mp hw' with rfl | h9
        · exact lL_damage _ (List.mem_of_getElem? (i := 4) rfl)
        · exact h9
      exact word_at hW (qgw_good hin) (hts _ hin)), List.mem_cons_self, hts _ (lL_damage _ (List.mem_of_getElem? (i := 4) rfl)), hts _ (lL_damage _ (List.mem_of_getElem? (i := 3) rfl)), (by decide), qlen (qM_spec (by decide +kernel)), hts _ (lL_damage _ (List.mem_of_getElem? (i := 0) rfl))⟩, hts _ (lL_damage _ (List.mem_of_getElem? (i := 1) rfl)), hts _ (lL_damage _ (List.mem_of_getElem? (i := 2) rfl))⟩ ⟨qblind, va_recv (q := (RX9, TX9, 4)) hK hP rfl (qW_obj (k := 0) rfl), fun U hU hW => ⟨rfl, by rw [hU]; exact hP, va_K.moved hW.alike hK, qK_warm hq hW (fun a _ _ => by rw [hU]), by rw [hU]; exact hA⟩⟩ rfl rfl hl.1 rfl (lv_room (Nat.le_of_ble_eq_true rfl)) (by decide +kernel : decode cL_damage 4 = .ok (.invokevirtual 63, 3)) ⟨(by show 0 + 2 ≤ 2; decide), (by show 0 + 12 ≤ 6 * 2; decide)⟩) hS (fun q _ h9 => h9) (fun q h9 => h9) (fun q _ h9 => h9) (fun E ce q9 u t H1 locs1 ht hvm _ hB hz1 hk1 hS1 hce hcv hcl => ?_) (fun r u t H1 locs1 ht hvm hpost hB hz1 hk1 hS1 => ?_)
  · obtain ⟨hTE, hPo⟩ := hB
    have hE := hT E u hTE
    have hE : E = "java/lang/IndexOutOfBoundsException" ∨ E = "java/lang/IllegalStateException" := by simpa using hE
    rcases hE with rfl | rfl
    · refine vx_catch (name := "java/lang/IndexOutOfBoundsException") hown [] ⟨0, 9, 12, 32⟩ [⟨0, 9, 15, 13⟩] htab (fun z hz => absurd hz List.not_mem_nil) (by decide) (by decide) (hts _ cl_ioe) (va_Nw.use rfl (hq.1 _ ca_ioe rfl)) hce hcv hcl ?_
      refine lv_astore_n (k := 3) hx hb (by decide +kernel : decode cL_damage 12 = .ok (.astore_n 3, 1)) rfl hl (by decide) rfl (fun ls' hl' => ?_)
      refine lv_iconst (v := 1) hx hb (by decide +kernel : decode cL_damage 13 = .ok (.iconst 1, 1)) (by decide) ?_
      refine vx_ret (W.widen (k := 2) (n := 12) (by omega) (by omega) (W.iret (v := 1) hx hb hr (fun t2 ht2 hW2 => ⟨⟨1, u, rfl, Or.inr ⟨0, _, rfl, rfl, hTE⟩, by unfold qPost at hPo ⊢; rw [ht2]; rw [ht] at hPo; exact hPo⟩, hS1.F ht2⟩) hS1.2.2 (by decide +kernel : decode cL_damage 14 = .ok (.ireturn, 1)) hlocks))
    · refine vx_catch (name := "java/lang/IllegalStateException") hown [(⟨0, 9, 12, 32⟩ : ExceptionTableEntry)] ⟨0, 9, 15, 13⟩ [] htab (List.forall_mem_cons.mpr ⟨Or.inr ⟨by decide, "java/lang/IndexOutOfBoundsException", hts _ cl_ioe, hN ("java/lang/IllegalStateException", "java/lang/IndexOutOfBoundsException") (by decide)⟩, fun z hz => absurd hz List.not_mem_nil⟩) (by decide) (by decide) (hts _ cl_ise) (va_Nw.use rfl (hq.1 _ ca_ise rfl)) hce hcv hcl ?_
      refine lv_astore_n (k := 3) hx hb (by decide +kernel : decode cL_damage 15 = .ok (.astore_n 3, 1)) rfl hl (by decide) rfl (fun ls' hl' => ?_)
      refine lv_iconst (v := 2) hx hb (by decide +kernel : decode cL_damage 16 = .ok (.iconst 2, 1)) (by decide) ?_
      refine vx_ret (W.widen (k := 2) (n := 12) (by omega) (by omega) (W.iret (v := 2) hx hb hr (fun t2 ht2 hW2 => ⟨⟨2, u, rfl, Or.inr ⟨1, _, rfl, rfl, hTE⟩, by unfold qPost at hPo ⊢; rw [ht2]; rw [ht] at hPo; exact hPo⟩, hS1.F ht2⟩) hS1.2.2 (by decide +kernel : decode cL_damage 17 = .ok (.ireturn, 1)) hlocks))
  · unfold qPost at hB
    rw [ht] at hB
    refine lv_i2l (v := r.toInt64) hx hb (by decide +kernel : decode cL_damage 7 = .ok (.i2l, 1)) rfl ?_
    refine va_last (D := g.2.2.1) (x := r.toInt64) (i := 0) hx hb hK hB (hw.D u) hS1 122 3 qW_outAt rfl (vp_in_nI (n := 0) (by decide) (by decide)) (by decide +kernel : decode cL_damage 8 = .ok (.lastore, 1)) (fun H2 locs2 h1 h2 h3 => ?_)
    rw [qW_outSet] at h1
    refine lv_goto (tgt := 18) hx hb (by decide +kernel : decode cL_damage 9 = .ok (.goto 9, 3)) rfl ?_
    refine lv_iconst (v := 0) hx hb (by decide +kernel : decode cL_damage 18 = .ok (.iconst 0, 1)) (by decide) ?_
    exact vx_ret (W.widen (k := 2) (n := 12) (by omega) (by omega) (W.iret (v := 0) hx hb hr (fun t2 ht2 hW2 => ⟨⟨0, qup u 122 0 r, rfl, Or.inl ⟨rfl, r, u, hpost, rfl⟩, by unfold qPost; rw [ht2]; exact h1⟩, h3.F ht2⟩) h3.2.2 (by decide +kernel : decode cL_damage 19 = .ok (.ireturn, 1)) hlocks))
abbrev hL_crash : List (Nat × Nat × Nat × Nat) := [(0, 9, 12, 19)]
abbrev eL_crash : List String := ["java/lang/IllegalArgumentException"]
theorem lL_crash : ∀ w ∈ ([.methodLink RL 66 mX9_crash.1, .instanceMethod mX9_crash.1, .selects mX9_crash.1.cls mX9_crash.1 mX9_crash.1] ++ qcw mX9_crash : List Jvm.Cond), w ∈ qgw := qgw_of [1169, 1170, 1171, 119, 1172] (by decide +kernel) (by decide +kernel)
set_option maxRecDepth 100000 in
set_option maxHeartbeats 4000000 in
theorem lw_crash {g : qG} (hw : qWF g) {d : Nat} {σ : qS} {a1 : Int32} {Q : Int32 → qS → Prop} {T : String → qS → Prop} (hT : ∀ E u, T E u → E ∈ eL_crash) (h : qC g d mX9_crash [.inr 0, .inl a1] σ Q T) : Met g.1 yL_crash (.codeWith yL_crash cL_crash 4 (some .int) hL_crash :: qgw) (lrm 1 d) (va_Pc [.ref (g.2.2.2.1 0), .int a1, .ref (g.2.2.2.1 122)] (lPre g σ)) (va_Qi (lQ eL_crash Q T) (qPost g) g.2.1) 1 6 g.2.1 := by
  have h' : vx_Met g.1 mX9_crash.1 (qws mX9_crash) (qrm mX9_crash d) (va_Pc ([Sum.inr 0, Sum.inl a1].map (qv g.2.2.2.1)) (qPre g σ)) (va_Qi Q (qPost g) g.2.1) (qXc g T) 1 6 g.2.1 := h
  refine met_of_vx (vx_ofWH (cc := cL_crash) (maxL := 4) (ret := some .int) (hh := hL_crash) (by decide) rfl ?_)
  intro p e s m args below meth c s₁ B hml hv
  obtain ⟨rfl, ⟨hP, hK, hq, hA⟩, hN⟩ := hv
  have hx := B.exec
  have hb := B.bytes
  have hr := B.returns
  have hts0 := atoms_spec (ws := .codeWith yL_crash cL_crash 4 (some .int) hL_crash :: qgw) B.pre
  have htab := vx_table (x := yL_crash) B (hts0 _ List.mem_cons_self)
  have hts : ∀ w ∈ qgw, w.before _ s = true := fun w hw => hts0 w (List.mem_cons_of_mem _ hw)
  have hown : s.vm.findClass RL = some m.cls := findClass_of_methodNamed B.named
  have hlocks := B.notSynchronized
  have hS : va_S g.2.1 s.heap s.heap [] := va_S.rf
  have hl := lv_entry ([.ref (g.2.2.2.1 0), .int a1, .ref (g.2.2.2.1 122)]) (n := 4) (Nat.le_of_ble_eq_true rfl)
  rw [lg_entry_eq]
  generalize (lg_sl ([.ref (g.2.2.2.1 0), .int a1, .ref (g.2.2.2.1 122)]) ++ List.replicate (4 - (lg_sl ([.ref (g.2.2.2.1 0), .int a1, .ref (g.2.2.2.1 122)])).length) Slot.unset).toArray = ls at hl ⊢
  have hl : lv_has ls 4 [(0, .ref (g.2.2.2.1 0)), (1, .int a1), (2, .ref (g.2.2.2.1 122))] := hl
  refine lv_aload_n (k := 2) hx hb (by decide +kernel : decode cL_crash 0 = .ok (.aload_n 2, 1)) rfl (lv_at hl 2 rfl) ?_
  refine lv_iconst (v := 0) hx hb (by decide +kernel : decode cL_crash 1 = .ok (.iconst 0, 1)) (by decide) ?_
  refine lv_aload_n (k := 0) hx hb (by decide +kernel : decode cL_crash 2 = .ok (.aload_n 0, 1)) rfl (lv_at hl 0 rfl) ?_
  refine lv_iload_n (k := 1) hx hb (by decide +kernel : decode cL_crash 3 = .ok (.iload_n 1, 1)) rfl (lv_at hl 1 rfl) ?_
  refine vx_calli (vx_runV (C := mX9_crash.1.cls) (b := g.2.2.2.1 0) (As := [.int a1]) (rest := [.int 0, .ref (g.2.2.2.1 122)]) ⟨hx, hb, hml, hown, hts⟩ h' ⟨⟨rfl, rfl, (by show d + 12 + 1 ≤ d + 13; omega), (by show 8 + (mX9_crash.2.2.1 + 11) + (60 * d + 300) ≤ 60 * d + 360; have h4 : mX9_crash.2.2.1 ≤ 40 := (by decide); omega), (fun w hw' a' U hW => by
      have hin : w ∈ qgw := by
        rcases List.mem_cons.mp hw' with rfl | h9
        · exact lL_crash _ (List.mem_of_getElem? (i := 4) rfl)
        · exact h9
      exact word_at hW (qgw_good hin) (hts _ hin)), List.mem_cons_self, hts _ (lL_crash _ (List.mem_of_getElem? (i := 4) rfl)), hts _ (lL_crash _ (List.mem_of_getElem? (i := 3) rfl)), (by decide), qlen (qM_spec (by decide +kernel)), hts _ (lL_crash _ (List.mem_of_getElem? (i := 0) rfl))⟩, hts _ (lL_crash _ (List.mem_of_getElem? (i := 1) rfl)), hts _ (lL_crash _ (List.mem_of_getElem? (i := 2) rfl))⟩ ⟨qblind, va_recv (q := (RX9, TX9, 4)) hK hP rfl (qW_obj (k := 0) rfl), fun U hU hW => ⟨rfl, by rw [hU]; exact hP, va_K.moved hW.alike hK, qK_warm hq hW (fun a _ _ => by rw [hU]), by rw [hU]; exact hA⟩⟩ rfl rfl hl.1 rfl (lv_room (Nat.le_of_ble_eq_true rfl)) (by decide +kernel : decode cL_crash 4 = .ok (.invokevirtual 66, 3)) ⟨(by show 0 + 1 ≤ 1; decide), (by show 0 + 6 ≤ 6 * 1; decide)⟩) hS (fun q _ h9 => h9) (fun q h9 => h9) (fun q _ h9 => h9) (fun E ce q9 u t H1 locs1 ht hvm _ hB hz1 hk1 hS1 hce hcv hcl => ?_) (fun r u t H1 locs1 ht hvm hpost hB hz1 hk1 hS1 => ?_)
  · obtain ⟨hTE, hPo⟩ := hB
    have hE := hT E u hTE
    obtain rfl : E = "java/lang/IllegalArgumentException" := by simpa using hE
    refine vx_catch (name := "java/lang/IllegalArgumentException") hown [] ⟨0, 9, 12, 19⟩ [] htab (fun z hz => absurd hz List.not_mem_nil) (by decide) (by decide) (hts _ cl_iae) (va_Nw.use rfl (hq.1 _ ca_iae rfl)) hce hcv hcl ?_
    refine lv_astore_n (k := 3) hx hb (by decide +kernel : decode cL_crash 12 = .ok (.astore_n 3, 1)) rfl hl (by decide) rfl (fun ls' hl' => ?_)
    refine lv_iconst (v := 1) hx hb (by decide +kernel : decode cL_crash 13 = .ok (.iconst 1, 1)) (by decide) ?_
    refine vx_ret (W.widen (k := 1) (n := 6) (by omega) (by omega) (W.iret (v := 1) hx hb hr (fun t2 ht2 hW2 => ⟨⟨1, u, rfl, Or.inr ⟨0, _, rfl, rfl, hTE⟩, by unfold qPost at hPo ⊢; rw [ht2]; rw [ht] at hPo; exact hPo⟩, hS1.F ht2⟩) hS1.2.2 (by decide +kernel : decode cL_crash 14 = .ok (.ireturn, 1)) hlocks))
  · unfold qPost at hB
    rw [ht] at hB
    refine lv_i2l (v := r.toInt64) hx hb (by decide +kernel : decode cL_crash 7 = .ok (.i2l, 1)) rfl ?_
    refine va_last (D := g.2.2.1) (x := r.toInt64) (i := 0) hx hb hK hB (hw.D u) hS1 122 3 qW_outAt rfl (vp_in_nI (n := 0) (by decide) (by decide)) (by decide +kernel : decode cL_crash 8 = .ok (.lastore, 1)) (fun H2 locs2 h1 h2 h3 => ?_)
    rw [qW_outSet] at h1
    refine lv_goto (tgt := 15) hx hb (by decide +kernel : decode cL_crash 9 = .ok (.goto 6, 3)) rfl ?_
    refine lv_iconst (v := 0) hx hb (by decide +kernel : decode cL_crash 15 = .ok (.iconst 0, 1)) (by decide) ?_
    exact vx_ret (W.widen (k := 1) (n := 6) (by omega) (by omega) (W.iret (v := 0) hx hb hr (fun t2 ht2 hW2 => ⟨⟨0, qup u 122 0 r, rfl, Or.inl ⟨rfl, r, u, hpost, rfl⟩, by unfold qPost; rw [ht2]; exact h1⟩, h3.F ht2⟩) h3.2.2 (by decide +kernel : decode cL_crash 16 = .ok (.ireturn, 1)) hlocks))
abbrev hL_state : List (Nat × Nat × Nat × Nat) := [(0, 9, 12, 19)]
abbrev eL_state : List String := ["java/lang/IllegalArgumentException"]
theorem lL_state : ∀ w ∈ ([.methodLink RL 69 mX9_state.1, .instanceMethod mX9_state.1, .selects mX9_state.1.cls mX9_state.1 mX9_state.1] ++ qcw mX9_state : List Jvm.Cond), w ∈ qgw := qgw_of [1204, 1205, 1206, 119, 1207] (by decide +kernel) (by decide +kernel)
set_option maxRecDepth 100000 in
set_option maxHeartbeats 4000000 in
theorem lw_state {g : qG} (hw : qWF g) {d : Nat} {σ : qS} {a1 : Int32} {Q : Int32 → qS → Prop} {T : String → qS → Prop} (hT : ∀ E u, T E u → E ∈ eL_state) (h : qC g d mX9_state [.inr 0, .inl a1] σ Q T) : Met g.1 yL_state (.codeWith yL_state cL_state 4 (some .int) hL_state :: qgw) (lrm 1 d) (va_Pc [.ref (g.2.2.2.1 0), .int a1, .ref (g.2.2.2.1 122)] (lPre g σ)) (va_Qi (lQ eL_state Q T) (qPost g) g.2.1) 1 6 g.2.1 := by
  have h' : vx_Met g.1 mX9_state.1 (qws mX9_state) (qrm mX9_state d) (va_Pc ([Sum.inr 0, Sum.inl a1].map (qv g.2.2.2.1)) (qPre g σ)) (va_Qi Q (qPost g) g.2.1) (qXc g T) 1 6 g.2.1 := h
  refine met_of_vx (vx_ofWH (cc := cL_state) (maxL := 4) (ret := some .int) (hh := hL_state) (by decide) rfl ?_)
  intro p e s m args below meth c s₁ B hml hv
  obtain ⟨rfl, ⟨hP, hK, hq, hA⟩, hN⟩ := hv
  have hx := B.exec
  have hb := B.bytes
  have hr := B.returns
  have hts0 := atoms_spec (ws := .codeWith yL_state cL_state 4 (some .int) hL_state :: qgw) B.pre
  have htab := vx_table (x := yL_state) B (hts0 _ List.mem_cons_self)
  have hts : ∀ w ∈ qgw, w.before _ s = true := fun w hw => hts0 w (List.mem_cons_of_mem _ hw)
  have hown : s.vm.findClass RL = some m.cls := findClass_of_methodNamed B.named
  have hlocks := B.notSynchronized
  have hS : va_S g.2.1 s.heap s.heap [] := va_S.rf
  have hl := lv_entry ([.ref (g.2.2.2.1 0), .int a1, .ref (g.2.2.2.1 122)]) (n := 4) (Nat.le_of_ble_eq_true rfl)
  rw [lg_entry_eq]
  generalize (lg_sl ([.ref (g.2.2.2.1 0), .int a1, .ref (g.2.2.2.1 122)]) ++ List.replicate (4 - (lg_sl ([.ref (g.2.2.2.1 0), .int a1, .ref (g.2.2.2.1 122)])).length) Slot.unset).toArray = ls at hl ⊢
  have hl : lv_has ls 4 [(0, .ref (g.2.2.2.1 0)), (1, .int a1), (2, .ref (g.2.2.2.1 122))] := hl
  refine lv_aload_n (k := 2) hx hb (by decide +kernel : decode cL_state 0 = .ok (.aload_n 2, 1)) rfl (lv_at hl 2 rfl) ?_
  refine lv_iconst (v := 0) hx hb (by decide +kernel : decode cL_state 1 = .ok (.iconst 0, 1)) (by decide) ?_
  refine lv_aload_n (k := 0) hx hb (by decide +kernel : decode cL_state 2 = .ok (.aload_n 0, 1)) rfl (lv_at hl 0 rfl) ?_
  refine lv_iload_n (k := 1) hx hb (by decide +kernel : decode cL_state 3 = .ok (.iload_n 1, 1)) rfl (lv_at hl 1 rfl) ?_
  refine vx_calli (vx_runV (C := mX9_state.1.cls) (b := g.2.2.2.1 0) (As := [.int a1]) (rest := [.int 0, .ref (g.2.2.2.1 122)]) ⟨hx, hb, hml, hown, hts⟩ h' ⟨⟨rfl, rfl, (by show d + 12 + 1 ≤ d + 13; omega), (by show 8 + (mX9_state.2.2.1 + 11) + (60 * d + 300) ≤ 60 * d + 360; have h4 : mX9_state.2.2.1 ≤ 40 := (by decide); omega), (fun w hw' a' U hW => by
      have hin : w ∈ qgw := by
        rcases List.mem_cons.mp hw' with rfl | h9
        · exact lL_state _ (List.mem_of_getElem? (i := 4) rfl)
        · exact h9
      exact word_at hW (qgw_good hin) (hts _ hin)), List.mem_cons_self, hts _ (lL_state _ (List.mem_of_getElem? (i := 4) rfl)), hts _ (lL_state _ (List.mem_of_getElem? (i := 3) rfl)), (by decide), qlen (qM_spec (by decide +kernel)), hts _ (lL_state _ (List.mem_of_getElem? (i := 0) rfl))⟩, hts _ (lL_state _ (List.mem_of_getElem? (i := 1) rfl)), hts _ (lL_state _ (List.mem_of_getElem? (i := 2) rfl))⟩ ⟨qblind, va_recv (q := (RX9, TX9, 4)) hK hP rfl (qW_obj (k := 0) rfl), fun U hU hW => ⟨rfl, by rw [hU]; exact hP, va_K.moved hW.alike hK, qK_warm hq hW (fun a _ _ => by rw [hU]), by rw [hU]; exact hA⟩⟩ rfl rfl hl.1 rfl (lv_room (Nat.le_of_ble_eq_true rfl)) (by decide +kernel : decode cL_state 4 = .ok (.invokevirtual 69, 3)) ⟨(by show 0 + 1 ≤ 1; decide), (by show 0 + 6 ≤ 6 * 1; decide)⟩) hS (fun q _ h9 => h9) (fun q h9 => h9) (fun q _ h9 => h9) (fun E ce q9 u t H1 locs1 ht hvm _ hB hz1 hk1 hS1 hce hcv hcl => ?_) (fun r u t H1 locs1 ht hvm hpost hB hz1 hk1 hS1 => ?_)
  · obtain ⟨hTE, hPo⟩ := hB
    have hE := hT E u hTE
    obtain rfl : E = "java/lang/IllegalArgumentException" := by simpa using hE
    refine vx_catch (name := "java/lang/IllegalArgumentException") hown [] ⟨0, 9, 12, 19⟩ [] htab (fun z hz => absurd hz List.not_mem_nil) (by decide) (by decide) (hts _ cl_iae) (va_Nw.use rfl (hq.1 _ ca_iae rfl)) hce hcv hcl ?_
    refine lv_astore_n (k := 3) hx hb (by decide +kernel : decode cL_state 12 = .ok (.astore_n 3, 1)) rfl hl (by decide) rfl (fun ls' hl' => ?_)
    refine lv_iconst (v := 1) hx hb (by decide +kernel : decode cL_state 13 = .ok (.iconst 1, 1)) (by decide) ?_
    refine vx_ret (W.widen (k := 1) (n := 6) (by omega) (by omega) (W.iret (v := 1) hx hb hr (fun t2 ht2 hW2 => ⟨⟨1, u, rfl, Or.inr ⟨0, _, rfl, rfl, hTE⟩, by unfold qPost at hPo ⊢; rw [ht2]; rw [ht] at hPo; exact hPo⟩, hS1.F ht2⟩) hS1.2.2 (by decide +kernel : decode cL_state 14 = .ok (.ireturn, 1)) hlocks))
  · unfold qPost at hB
    rw [ht] at hB
    refine lv_i2l (v := r.toInt64) hx hb (by decide +kernel : decode cL_state 7 = .ok (.i2l, 1)) rfl ?_
    refine va_last (D := g.2.2.1) (x := r.toInt64) (i := 0) hx hb hK hB (hw.D u) hS1 122 3 qW_outAt rfl (vp_in_nI (n := 0) (by decide) (by decide)) (by decide +kernel : decode cL_state 8 = .ok (.lastore, 1)) (fun H2 locs2 h1 h2 h3 => ?_)
    rw [qW_outSet] at h1
    refine lv_goto (tgt := 15) hx hb (by decide +kernel : decode cL_state 9 = .ok (.goto 6, 3)) rfl ?_
    refine lv_iconst (v := 0) hx hb (by decide +kernel : decode cL_state 15 = .ok (.iconst 0, 1)) (by decide) ?_
    exact vx_ret (W.widen (k := 1) (n := 6) (by omega) (by omega) (W.iret (v := 0) hx hb hr (fun t2 ht2 hW2 => ⟨⟨0, qup u 122 0 r, rfl, Or.inl ⟨rfl, r, u, hpost, rfl⟩, by unfold qPost; rw [ht2]; exact h1⟩, h3.F ht2⟩) h3.2.2 (by decide +kernel : decode cL_state 16 = .ok (.ireturn, 1)) hlocks))
abbrev hL_record : List (Nat × Nat × Nat × Nat) := [(0, 10, 13, 32), (0, 10, 17, 19)]
abbrev eL_record : List String := ["java/lang/IndexOutOfBoundsException", "java/lang/IllegalArgumentException"]
theorem lL_record : ∀ w ∈ ([.methodLink RL 72 mX9_record.1, .instanceMethod mX9_record.1, .selects mX9_record.1.cls mX9_record.1 mX9_record.1] ++ qcw mX9_record : List Jvm.Cond), w ∈ qgw := qgw_of [1219, 1220, 1221, 119, 1222] (by decide +kernel) (by decide +kernel)
set_option maxRecDepth 100000 in
set_option maxHeartbeats 4000000 in
theorem lw_record {g : qG} (hw : qWF g) {d : Nat} {σ : qS} {a1 a2 : Int32} {Q : Int32 → qS → Prop} {T : String → qS → Prop} (hT : ∀ E u, T E u → E ∈ eL_record) (h : qC g d mX9_record [.inr 0, .inl a1, .inl a2] σ Q T) : Met g.1 yL_record (.codeWith yL_record cL_record 5 (some .int) hL_record :: qgw) (lrm 2 d) (va_Pc [.ref (g.2.2.2.1 0), .int a1, .int a2, .ref (g.2.2.2.1 122)] (lPre g σ)) (va_Qi (lQ eL_record Q T) (qPost g) g.2.1) 2 12 g.2.1 := by
  have h' : vx_Met g.1 mX9_record.1 (qws mX9_record) (qrm mX9_record d) (va_Pc ([Sum.inr 0, Sum.inl a1, Sum.inl a2].map (qv g.2.2.2.1)) (qPre g σ)) (va_Qi Q (qPost g) g.2.1) (qXc g T) 2 12 g.2.1 := h
  refine met_of_vx (vx_ofWH (cc := cL_record) (maxL := 5) (ret := some .int) (hh := hL_record) (by decide) rfl ?_)
  intro p e s m args below meth c s₁ B hml hv
  obtain ⟨rfl, ⟨hP, hK, hq, hA⟩, hN⟩ := hv
  have hx := B.exec
  have hb := B.bytes
  have hr := B.returns
  have hts0 := atoms_spec (ws := .codeWith yL_record cL_record 5 (some .int) hL_record :: qgw) B.pre
  have htab := vx_table (x := yL_record) B (hts0 _ List.mem_cons_self)
  have hts : ∀ w ∈ qgw, w.before _ s = true := fun w hw => hts0 w (List.mem_cons_of_mem _ hw)
  have hown : s.vm.findClass RL = some m.cls := findClass_of_methodNamed B.named
  have hlocks := B.notSynchronized
  have hS : va_S g.2.1 s.heap s.heap [] := va_S.rf
  have hl := lv_entry ([.ref (g.2.2.2.1 0), .int a1, .int a2, .ref (g.2.2.2.1 122)]) (n := 5) (Nat.le_of_ble_eq_true rfl)
  rw [lg_entry_eq]
  generalize (lg_sl ([.ref (g.2.2.2.1 0), .int a1, .int a2, .ref (g.2.2.2.1 122)]) ++ List.replicate (5 - (lg_sl ([.ref (g.2.2.2.1 0), .int a1, .int a2, .ref (g.2.2.2.1 122)])).length) Slot.unset).toArray = ls at hl ⊢
  have hl : lv_has ls 5 [(0, .ref (g.2.2.2.1 0)), (1, .int a1), (2, .int a2), (3, .ref (g.2.2.2.1 122))] := hl
  refine lv_aload_n (k := 3) hx hb (by decide +kernel : decode cL_record 0 = .ok (.aload_n 3, 1)) rfl (lv_at hl 3 rfl) ?_
  refine lv_iconst (v := 0) hx hb (by decide +kernel : decode cL_record 1 = .ok (.iconst 0, 1)) (by decide) ?_
  refine lv_aload_n (k := 0) hx hb (by decide +kernel : decode cL_record 2 = .ok (.aload_n 0, 1)) rfl (lv_at hl 0 rfl) ?_
  refine lv_iload_n (k := 1) hx hb (by decide +kernel : decode cL_record 3 = .ok (.iload_n 1, 1)) rfl (lv_at hl 1 rfl) ?_
  refine lv_iload_n (k := 2) hx hb (by decide +kernel : decode cL_record 4 = .ok (.iload_n 2, 1)) rfl (lv_at hl 2 rfl) ?_
  refine vx_calli (vx_runV (C := mX9_record.1.cls) (b := g.2.2.2.1 0) (As := [.int a1, .int a2]) (rest := [.int 0, .ref (g.2.2.2.1 122)]) ⟨hx, hb, hml, hown, hts⟩ h' ⟨⟨rfl, rfl, (by show d + 12 + 1 ≤ d + 13; omega), (by show 8 + (mX9_record.2.2.1 + 11) + (60 * d + 300) ≤ 60 * d + 360; have h4 : mX9_record.2.2.1 ≤ 40 := (by decide); omega), (fun w hw' a' U hW => by
      have hin : w ∈ qgw := by
        rcases List.mem_cons.mp hw' with rfl | h9
        · exact lL_record _ (List.mem_of_getElem? (i := 4) rfl)
        · exact h9
      exact word_at hW (qgw_good hin) (hts _ hin)), List.mem_cons_self, hts _ (lL_record _ (List.mem_of_getElem? (i := 4) rfl)), hts _ (lL_record _ (List.mem_of_getElem? (i := 3) rfl)), (by decide), qlen (qM_spec (by decide +kernel)), hts _ (lL_record _ (List.mem_of_getElem? (i := 0) rfl))⟩, hts _ (lL_record _ (List.mem_of_getElem? (i := 1) rfl)), hts _ (lL_record _ (List.mem_of_getElem? (i := 2) rfl))⟩ ⟨qblind, va_recv (q := (RX9, TX9, 4)) hK hP rfl (qW_obj (k := 0) rfl), fun U hU hW => ⟨rfl, by rw [hU]; exact hP, va_K.moved hW.alike hK, qK_warm hq hW (fun a _ _ => by rw [hU]), by rw [hU]; exact hA⟩⟩ rfl rfl hl.1 rfl (lv_room (Nat.le_of_ble_eq_true rfl)) (by decide +kernel : decode cL_record 5 = .ok (.invokevirtual 72, 3)) ⟨(by show 0 + 2 ≤ 2; decide), (by show 0 + 12 ≤ 6 * 2; decide)⟩) hS (fun q _ h9 => h9) (fun q h9 => h9) (fun q _ h9 => h9) (fun E ce q9 u t H1 locs1 ht hvm _ hB hz1 hk1 hS1 hce hcv hcl => ?_) (fun r u t H1 locs1 ht hvm hpost hB hz1 hk1 hS1 => ?_)
  · obtain ⟨hTE, hPo⟩ := hB
    have hE := hT E u hTE
    have hE : E = "java/lang/IndexOutOfBoundsException" ∨ E = "java/lang/IllegalArgumentException" := by simpa using hE
    rcases hE with rfl | rfl
    · refine vx_catch (name := "java/lang/IndexOutOfBoundsException") hown [] ⟨0, 10, 13, 32⟩ [⟨0, 10, 17, 19⟩] htab (fun z hz => absurd hz List.not_mem_nil) (by decide) (by decide) (hts _ cl_ioe) (va_Nw.use rfl (hq.1 _ ca_ioe rfl)) hce hcv hcl ?_
      refine lv_astore hx hb (by decide +kernel : decode cL_record 13 = .ok (.astore 4, 2)) hl (by decide) rfl (fun ls' hl' => ?_)
      refine lv_iconst (v := 1) hx hb (by decide +kernel : decode cL_record 15 = .ok (.iconst 1, 1)) (by decide) ?_
      refine vx_ret (W.widen (k := 2) (n := 12) (by omega) (by omega) (W.iret (v := 1) hx hb hr (fun t2 ht2 hW2 => ⟨⟨1, u, rfl, Or.inr ⟨0, _, rfl, rfl, hTE⟩, by unfold qPost at hPo ⊢; rw [ht2]; rw [ht] at hPo; exact hPo⟩, hS1.F ht2⟩) hS1.2.2 (by decide +kernel : decode cL_record 16 = .ok (.ireturn, 1)) hlocks))
    · refine vx_catch (name := "java/lang/IllegalArgumentException") hown [(⟨0, 10, 13, 32⟩ : ExceptionTableEntry)] ⟨0, 10, 17, 19⟩ [] htab (List.forall_mem_cons.mpr ⟨Or.inr ⟨by decide, "java/lang/IndexOutOfBoundsException", hts _ cl_ioe, hN ("java/lang/IllegalArgumentException", "java/lang/IndexOutOfBoundsException") (by decide)⟩, fun z hz => absurd hz List.not_mem_nil⟩) (by decide) (by decide) (hts _ cl_iae) (va_Nw.use rfl (hq.1 _ ca_iae rfl)) hce hcv hcl ?_
      refine lv_astore hx hb (by decide +kernel : decode cL_record 17 = .ok (.astore 4, 2)) hl (by decide) rfl (fun ls' hl' => ?_)
      refine lv_iconst (v := 2) hx hb (by decide +kernel : decode cL_record 19 = .ok (.iconst 2, 1)) (by decide) ?_
      refine vx_ret (W.widen (k := 2) (n := 12) (by omega) (by omega) (W.iret (v := 2) hx hb hr (fun t2 ht2 hW2 => ⟨⟨2, u, rfl, Or.inr ⟨1, _, rfl, rfl, hTE⟩, by unfold qPost at hPo ⊢; rw [ht2]; rw [ht] at hPo; exact hPo⟩, hS1.F ht2⟩) hS1.2.2 (by decide +kernel : decode cL_record 20 = .ok (.ireturn, 1)) hlocks))
  · unfold qPost at hB
    rw [ht] at hB
    refine lv_i2l (v := r.toInt64) hx hb (by decide +kernel : decode cL_record 8 = .ok (.i2l, 1)) rfl ?_
    refine va_last (D := g.2.2.1) (x := r.toInt64) (i := 0) hx hb hK hB (hw.D u) hS1 122 3 qW_outAt rfl (vp_in_nI (n := 0) (by decide) (by decide)) (by decide +kernel : decode cL_record 9 = .ok (.lastore, 1)) (fun H2 locs2 h1 h2 h3 => ?_)
    rw [qW_outSet] at h1
    refine lv_goto (tgt := 21) hx hb (by decide +kernel : decode cL_record 10 = .ok (.goto 11, 3)) rfl ?_
    refine lv_iconst (v := 0) hx hb (by decide +kernel : decode cL_record 21 = .ok (.iconst 0, 1)) (by decide) ?_
    exact vx_ret (W.widen (k := 2) (n := 12) (by omega) (by omega) (W.iret (v := 0) hx hb hr (fun t2 ht2 hW2 => ⟨⟨0, qup u 122 0 r, rfl, Or.inl ⟨rfl, r, u, hpost, rfl⟩, by unfold qPost; rw [ht2]; exact h1⟩, h3.F ht2⟩) h3.2.2 (by decide +kernel : decode cL_record 22 = .ok (.ireturn, 1)) hlocks))
abbrev hL_segment : List (Nat × Nat × Nat × Nat) := [(0, 10, 13, 32), (0, 10, 17, 19)]
abbrev eL_segment : List String := ["java/lang/IndexOutOfBoundsException", "java/lang/IllegalArgumentException"]
theorem lL_segment : ∀ w ∈ ([.methodLink RL 75 mX9_segment.1, .instanceMethod mX9_segment.1, .selects mX9_segment.1.cls mX9_segment.1 mX9_segment.1] ++ qcw mX9_segment : List Jvm.Cond), w ∈ qgw := qgw_of [1237, 1238, 1239, 119, 1240] (by decide +kernel) (by decide +kernel)
set_option maxRecDepth 100000 in
set_option maxHeartbeats 4000000 in
theorem lw_segment {g : qG} (hw : qWF g) {d : Nat} {σ : qS} {a1 a2 : Int32} {Q : Int32 → qS → Prop} {T : String → qS → Prop} (hT : ∀ E u, T E u → E ∈ eL_segment) (h : qC g d mX9_segment [.inr 0, .inl a1, .inl a2] σ Q T) : Met g.1 yL_segment (.codeWith yL_segment cL_segment 5 (some .int) hL_segment :: qgw) (lrm 2 d) (va_Pc [.ref (g.2.2.2.1 0), .int a1, .int a2, .ref (g.2.2.2.1 122)] (lPre g σ)) (va_Qi (lQ eL_segment Q T) (qPost g) g.2.1) 2 12 g.2.1 := by
  have h' : vx_Met g.1 mX9_segment.1 (qws mX9_segment) (qrm mX9_segment d) (va_Pc ([Sum.inr 0, Sum.inl a1, Sum.inl a2].map (qv g.2.2.2.1)) (qPre g σ)) (va_Qi Q (qPost g) g.2.1) (qXc g T) 2 12 g.2.1 := h
  refine met_of_vx (vx_ofWH (cc := cL_segment) (maxL := 5) (ret := some .int) (hh := hL_segment) (by decide) rfl ?_)
  intro p e s m args below meth c s₁ B hml hv
  obtain ⟨rfl, ⟨hP, hK, hq, hA⟩, hN⟩ := hv
  have hx := B.exec
  have hb := B.bytes
  have hr := B.returns
  have hts0 := atoms_spec (ws := .codeWith yL_segment cL_segment 5 (some .int) hL_segment :: qgw) B.pre
  have htab := vx_table (x := yL_segment) B (hts0 _ List.mem_cons_self)
  have hts : ∀ w ∈ qgw, w.before _ s = true := fun w hw => hts0 w (List.mem_cons_of_mem _ hw)
  have hown : s.vm.findClass RL = some m.cls := findClass_of_methodNamed B.named
  have hlocks := B.notSynchronized
  have hS : va_S g.2.1 s.heap s.heap [] := va_S.rf
  have hl := lv_entry ([.ref (g.2.2.2.1 0), .int a1, .int a2, .ref (g.2.2.2.1 122)]) (n := 5) (Nat.le_of_ble_eq_true rfl)
  rw [lg_entry_eq]
  generalize (lg_sl ([.ref (g.2.2.2.1 0), .int a1, .int a2, .ref (g.2.2.2.1 122)]) ++ List.replicate (5 - (lg_sl ([.ref (g.2.2.2.1 0), .int a1, .int a2, .ref (g.2.2.2.1 122)])).length) Slot.unset).toArray = ls at hl ⊢
  have hl : lv_has ls 5 [(0, .ref (g.2.2.2.1 0)), (1, .int a1), (2, .int a2), (3, .ref (g.2.2.2.1 122))] := hl
  refine lv_aload_n (k := 3) hx hb (by decide +kernel : decode cL_segment 0 = .ok (.aload_n 3, 1)) rfl (lv_at hl 3 rfl) ?_
  refine lv_iconst (v := 0) hx hb (by decide +kernel : decode cL_segment 1 = .ok (.iconst 0, 1)) (by decide) ?_
  refine lv_aload_n (k := 0) hx hb (by decide +kernel : decode cL_segment 2 = .ok (.aload_n 0, 1)) rfl (lv_at hl 0 rfl) ?_
  refine lv_iload_n (k := 1) hx hb (by decide +kernel : decode cL_segment 3 = .ok (.iload_n 1, 1)) rfl (lv_at hl 1 rfl) ?_
  refine lv_iload_n (k := 2) hx hb (by decide +kernel : decode cL_segment 4 = .ok (.iload_n 2, 1)) rfl (lv_at hl 2 rfl) ?_
  refine vx_calli (vx_runV (C := mX9_segment.1.cls) (b := g.2.2.2.1 0) (As := [.int a1, .int a2]) (rest := [.int 0, .ref (g.2.2.2.1 122)]) ⟨hx, hb, hml, hown, hts⟩ h' ⟨⟨rfl, rfl, (by show d + 12 + 1 ≤ d + 13; omega), (by show 8 + (mX9_segment.2.2.1 + 11) + (60 * d + 300) ≤ 60 * d + 360; have h4 : mX9_segment.2.2.1 ≤ 40 := (by decide); omega), (fun w hw' a' U hW => by
      have hin : w ∈ qgw := by
        rcases List.mem_cons.mp hw' with rfl | h9
        · exact lL_segment _ (List.mem_of_getElem? (i := 4) rfl)
        · exact h9
      exact word_at hW (qgw_good hin) (hts _ hin)), List.mem_cons_self, hts _ (lL_segment _ (List.mem_of_getElem? (i := 4) rfl)), hts _ (lL_segment _ (List.mem_of_getElem? (i := 3) rfl)), (by decide), qlen (qM_spec (by decide +kernel)), hts _ (lL_segment _ (List.mem_of_getElem? (i := 0) rfl))⟩, hts _ (lL_segment _ (List.mem_of_getElem? (i := 1) rfl)), hts _ (lL_segment _ (List.mem_of_getElem? (i := 2) rfl))⟩ ⟨qblind, va_recv (q := (RX9, TX9, 4)) hK hP rfl (qW_obj (k := 0) rfl), fun U hU hW => ⟨rfl, by rw [hU]; exact hP, va_K.moved hW.alike hK, qK_warm hq hW (fun a _ _ => by rw [hU]), by rw [hU]; exact hA⟩⟩ rfl rfl hl.1 rfl (lv_room (Nat.le_of_ble_eq_true rfl)) (by decide +kernel : decode cL_segment 5 = .ok (.invokevirtual 75, 3)) ⟨(by show 0 + 2 ≤ 2; decide), (by show 0 + 12 ≤ 6 * 2; decide)⟩) hS (fun q _ h9 => h9) (fun q h9 => h9) (fun q _ h9 => h9) (fun E ce q9 u t H1 locs1 ht hvm _ hB hz1 hk1 hS1 hce hcv hcl => ?_) (fun r u t H1 locs1 ht hvm hpost hB hz1 hk1 hS1 => ?_)
  · obtain ⟨hTE, hPo⟩ := hB
    have hE := hT E u hTE
    have hE : E = "java/lang/IndexOutOfBoundsException" ∨ E = "java/lang/IllegalArgumentException" := by simpa using hE
    rcases hE with rfl | rfl
    · refine vx_catch (name := "java/lang/IndexOutOfBoundsException") hown [] ⟨0, 10, 13, 32⟩ [⟨0, 10, 17, 19⟩] htab (fun z hz => absurd hz List.not_mem_nil) (by decide) (by decide) (hts _ cl_ioe) (va_Nw.use rfl (hq.1 _ ca_ioe rfl)) hce hcv hcl ?_
      refine lv_astore hx hb (by decide +kernel : decode cL_segment 13 = .ok (.astore 4, 2)) hl (by decide) rfl (fun ls' hl' => ?_)
      refine lv_iconst (v := 1) hx hb (by decide +kernel : decode cL_segment 15 = .ok (.iconst 1, 1)) (by decide) ?_
      refine vx_ret (W.widen (k := 2) (n := 12) (by omega) (by omega) (W.iret (v := 1) hx hb hr (fun t2 ht2 hW2 => ⟨⟨1, u, rfl, Or.inr ⟨0, _, rfl, rfl, hTE⟩, by unfold qPost at hPo ⊢; rw [ht2]; rw [ht] at hPo; exact hPo⟩, hS1.F ht2⟩) hS1.2.2 (by decide +kernel : decode cL_segment 16 = .ok (.ireturn, 1)) hlocks))
    · refine vx_catch (name := "java/lang/IllegalArgumentException") hown [(⟨0, 10, 13, 32⟩ : ExceptionTableEntry)] ⟨0, 10, 17, 19⟩ [] htab (List.forall_mem_cons.mpr ⟨Or.inr ⟨by decide, "java/lang/IndexOutOfBoundsException", hts _ cl_ioe, hN ("java/lang/IllegalArgumentException", "java/lang/IndexOutOfBoundsException") (by decide)⟩, fun z hz => absurd hz List.not_mem_nil⟩) (by decide) (by decide) (hts _ cl_iae) (va_Nw.use rfl (hq.1 _ ca_iae rfl)) hce hcv hcl ?_
      refine lv_astore hx hb (by decide +kernel : decode cL_segment 17 = .ok (.astore 4, 2)) hl (by decide) rfl (fun ls' hl' => ?_)
      refine lv_iconst (v := 2) hx hb (by decide +kernel : decode cL_segment 19 = .ok (.iconst 2, 1)) (by decide) ?_
      refine vx_ret (W.widen (k := 2) (n := 12) (by omega) (by omega) (W.iret (v := 2) hx hb hr (fun t2 ht2 hW2 => ⟨⟨2, u, rfl, Or.inr ⟨1, _, rfl, rfl, hTE⟩, by unfold qPost at hPo ⊢; rw [ht2]; rw [ht] at hPo; exact hPo⟩, hS1.F ht2⟩) hS1.2.2 (by decide +kernel : decode cL_segment 20 = .ok (.ireturn, 1)) hlocks))
  · unfold qPost at hB
    rw [ht] at hB
    refine lv_i2l (v := r.toInt64) hx hb (by decide +kernel : decode cL_segment 8 = .ok (.i2l, 1)) rfl ?_
    refine va_last (D := g.2.2.1) (x := r.toInt64) (i := 0) hx hb hK hB (hw.D u) hS1 122 3 qW_outAt rfl (vp_in_nI (n := 0) (by decide) (by decide)) (by decide +kernel : decode cL_segment 9 = .ok (.lastore, 1)) (fun H2 locs2 h1 h2 h3 => ?_)
    rw [qW_outSet] at h1
    refine lv_goto (tgt := 21) hx hb (by decide +kernel : decode cL_segment 10 = .ok (.goto 11, 3)) rfl ?_
    refine lv_iconst (v := 0) hx hb (by decide +kernel : decode cL_segment 21 = .ok (.iconst 0, 1)) (by decide) ?_
    exact vx_ret (W.widen (k := 2) (n := 12) (by omega) (by omega) (W.iret (v := 0) hx hb hr (fun t2 ht2 hW2 => ⟨⟨0, qup u 122 0 r, rfl, Or.inl ⟨rfl, r, u, hpost, rfl⟩, by unfold qPost; rw [ht2]; exact h1⟩, h3.F ht2⟩) h3.2.2 (by decide +kernel : decode cL_segment 22 = .ok (.ireturn, 1)) hlocks))
abbrev hL_order : List (Nat × Nat × Nat × Nat) := [(0, 10, 13, 19), (0, 10, 17, 85)]
abbrev eL_order : List String := ["java/lang/IllegalArgumentException", "java/util/NoSuchElementException"]
theorem lL_order : ∀ w ∈ ([.methodLink RL 82 mX9_order.1, .instanceMethod mX9_order.1, .selects mX9_order.1.cls mX9_order.1 mX9_order.1] ++ qcw mX9_order : List Jvm.Cond), w ∈ qgw := qgw_of [1260, 1261, 1262, 119, 1263] (by decide +kernel) (by decide +kernel)
set_option maxRecDepth 100000 in
set_option maxHeartbeats 4000000 in
theorem lw_order {g : qG} (hw : qWF g) {d : Nat} {σ : qS} {a1 a2 : Int32} {Q : Int32 → qS → Prop} {T : String → qS → Prop} (hT : ∀ E u, T E u → E ∈ eL_order) (h : qC g d mX9_order [.inr 0, .inl a1, .inl a2] σ Q T) : Met g.1 yL_order (.codeWith yL_order cL_order 5 (some .int) hL_order :: qgw) (lrm 2 d) (va_Pc [.ref (g.2.2.2.1 0), .int a1, .int a2, .ref (g.2.2.2.1 122)] (lPre g σ)) (va_Qi (lQ eL_order Q T) (qPost g) g.2.1) 2 12 g.2.1 := by
  have h' : vx_Met g.1 mX9_order.1 (qws mX9_order) (qrm mX9_order d) (va_Pc ([Sum.inr 0, Sum.inl a1, Sum.inl a2].map (qv g.2.2.2.1)) (qPre g σ)) (va_Qi Q (qPost g) g.2.1) (qXc g T) 2 12 g.2.1 := h
  refine met_of_vx (vx_ofWH (cc := cL_order) (maxL := 5) (ret := some .int) (hh := hL_order) (by decide) rfl ?_)
  intro p e s m args below meth c s₁ B hml hv
  obtain ⟨rfl, ⟨hP, hK, hq, hA⟩, hN⟩ := hv
  have hx := B.exec
  have hb := B.bytes
  have hr := B.returns
  have hts0 := atoms_spec (ws := .codeWith yL_order cL_order 5 (some .int) hL_order :: qgw) B.pre
  have htab := vx_table (x := yL_order) B (hts0 _ List.mem_cons_self)
  have hts : ∀ w ∈ qgw, w.before _ s = true := fun w hw => hts0 w (List.mem_cons_of_mem _ hw)
  have hown : s.vm.findClass RL = some m.cls := findClass_of_methodNamed B.named
  have hlocks := B.notSynchronized
  have hS : va_S g.2.1 s.heap s.heap [] := va_S.rf
  have hl := lv_entry ([.ref (g.2.2.2.1 0), .int a1, .int a2, .ref (g.2.2.2.1 122)]) (n := 5) (Nat.le_of_ble_eq_true rfl)
  rw [lg_entry_eq]
  generalize (lg_sl ([.ref (g.2.2.2.1 0), .int a1, .int a2, .ref (g.2.2.2.1 122)]) ++ List.replicate (5 - (lg_sl ([.ref (g.2.2.2.1 0), .int a1, .int a2, .ref (g.2.2.2.1 122)])).length) Slot.unset).toArray = ls at hl ⊢
  have hl : lv_has ls 5 [(0, .ref (g.2.2.2.1 0)), (1, .int a1), (2, .int a2), (3, .ref (g.2.2.2.1 122))] := hl
  refine lv_aload_n (k := 3) hx hb (by decide +kernel : decode cL_order 0 = .ok (.aload_n 3, 1)) rfl (lv_at hl 3 rfl) ?_
  refine lv_iconst (v := 0) hx hb (by decide +kernel : decode cL_order 1 = .ok (.iconst 0, 1)) (by decide) ?_
  refine lv_aload_n (k := 0) hx hb (by decide +kernel : decode cL_order 2 = .ok (.aload_n 0, 1)) rfl (lv_at hl 0 rfl) ?_
  refine lv_iload_n (k := 1) hx hb (by decide +kernel : decode cL_order 3 = .ok (.iload_n 1, 1)) rfl (lv_at hl 1 rfl) ?_
  refine lv_iload_n (k := 2) hx hb (by decide +kernel : decode cL_order 4 = .ok (.iload_n 2, 1)) rfl (lv_at hl 2 rfl) ?_
  refine vx_calli (vx_runV (C := mX9_order.1.cls) (b := g.2.2.2.1 0) (As := [.int a1, .int a2]) (rest := [.int 0, .ref (g.2.2.2.1 122)]) ⟨hx, hb, hml, hown, hts⟩ h' ⟨⟨rfl, rfl, (by show d + 12 + 1 ≤ d + 13; omega), (by show 8 + (mX9_order.2.2.1 + 11) + (60 * d + 300) ≤ 60 * d + 360; have h4 : mX9_order.2.2.1 ≤ 40 := (by decide); omega), (fun w hw' a' U hW => by
      have hin : w ∈ qgw := by
        rcases List.mem_cons.mp hw' with rfl | h9
        · exact lL_order _ (List.mem_of_getElem? (i := 4) rfl)
        · exact h9
      exact word_at hW (qgw_good hin) (hts _ hin)), List.mem_cons_self, hts _ (lL_order _ (List.mem_of_getElem? (i := 4) rfl)), hts _ (lL_order _ (List.mem_of_getElem? (i := 3) rfl)), (by decide), qlen (qM_spec (by decide +kernel)), hts _ (lL_order _ (List.mem_of_getElem? (i := 0) rfl))⟩, hts _ (lL_order _ (List.mem_of_getElem? (i := 1) rfl)), hts _ (lL_order _ (List.mem_of_getElem? (i := 2) rfl))⟩ ⟨qblind, va_recv (q := (RX9, TX9, 4)) hK hP rfl (qW_obj (k := 0) rfl), fun U hU hW => ⟨rfl, by rw [hU]; exact hP, va_K.moved hW.alike hK, qK_warm hq hW (fun a _ _ => by rw [hU]), by rw [hU]; exact hA⟩⟩ rfl rfl hl.1 rfl (lv_room (Nat.le_of_ble_eq_true rfl)) (by decide +kernel : decode cL_order 5 = .ok (.invokevirtual 82, 3)) ⟨(by show 0 + 2 ≤ 2; decide), (by show 0 + 12 ≤ 6 * 2; decide)⟩) hS (fun q _ h9 => h9) (fun q h9 => h9) (fun q _ h9 => h9) (fun E ce q9 u t H1 locs1 ht hvm _ hB hz1 hk1 hS1 hce hcv hcl => ?_) (fun r u t H1 locs1 ht hvm hpost hB hz1 hk1 hS1 => ?_)
  · obtain ⟨hTE, hPo⟩ := hB
    have hE := hT E u hTE
    have hE : E = "java/lang/IllegalArgumentException" ∨ E = "java/util/NoSuchElementException" := by simpa using hE
    rcases hE with rfl | rfl
    · refine vx_catch (name := "java/lang/IllegalArgumentException") hown [] ⟨0, 10, 13, 19⟩ [⟨0, 10, 17, 85⟩] htab (fun z hz => absurd hz List.not_mem_nil) (by decide) (by decide) (hts _ cl_iae) (va_Nw.use rfl (hq.1 _ ca_iae rfl)) hce hcv hcl ?_
      refine lv_astore hx hb (by decide +kernel : decode cL_order 13 = .ok (.astore 4, 2)) hl (by decide) rfl (fun ls' hl' => ?_)
      refine lv_iconst (v := 1) hx hb (by decide +kernel : decode cL_order 15 = .ok (.iconst 1, 1)) (by decide) ?_
      refine vx_ret (W.widen (k := 2) (n := 12) (by omega) (by omega) (W.iret (v := 1) hx hb hr (fun t2 ht2 hW2 => ⟨⟨1, u, rfl, Or.inr ⟨0, _, rfl, rfl, hTE⟩, by unfold qPost at hPo ⊢; rw [ht2]; rw [ht] at hPo; exact hPo⟩, hS1.F ht2⟩) hS1.2.2 (by decide +kernel : decode cL_order 16 = .ok (.ireturn, 1)) hlocks))
    · refine vx_catch (name := "java/util/NoSuchElementException") hown [(⟨0, 10, 13, 19⟩ : ExceptionTableEntry)] ⟨0, 10, 17, 85⟩ [] htab (List.forall_mem_cons.mpr ⟨Or.inr ⟨by decide, "java/lang/IllegalArgumentException", hts _ cl_iae, hN ("java/util/NoSuchElementException", "java/lang/IllegalArgumentException") (by decide)⟩, fun z hz => absurd hz List.not_mem_nil⟩) (by decide) (by decide) (hts _ cl_nse) (va_Nw.use rfl (hq.1 _ ca_nse rfl)) hce hcv hcl ?_
      refine lv_astore hx hb (by decide +kernel : decode cL_order 17 = .ok (.astore 4, 2)) hl (by decide) rfl (fun ls' hl' => ?_)
      refine lv_iconst (v := 2) hx hb (by decide +kernel : decode cL_order 19 = .ok (.iconst 2, 1)) (by decide) ?_
      refine vx_ret (W.widen (k := 2) (n := 12) (by omega) (by omega) (W.iret (v := 2) hx hb hr (fun t2 ht2 hW2 => ⟨⟨2, u, rfl, Or.inr ⟨1, _, rfl, rfl, hTE⟩, by unfold qPost at hPo ⊢; rw [ht2]; rw [ht] at hPo; exact hPo⟩, hS1.F ht2⟩) hS1.2.2 (by decide +kernel : decode cL_order 20 = .ok (.ireturn, 1)) hlocks))
  · unfold qPost at hB
    rw [ht] at hB
    refine lv_i2l (v := r.toInt64) hx hb (by decide +kernel : decode cL_order 8 = .ok (.i2l, 1)) rfl ?_
    refine va_last (D := g.2.2.1) (x := r.toInt64) (i := 0) hx hb hK hB (hw.D u) hS1 122 3 qW_outAt rfl (vp_in_nI (n := 0) (by decide) (by decide)) (by decide +kernel : decode cL_order 9 = .ok (.lastore, 1)) (fun H2 locs2 h1 h2 h3 => ?_)
    rw [qW_outSet] at h1
    refine lv_goto (tgt := 21) hx hb (by decide +kernel : decode cL_order 10 = .ok (.goto 11, 3)) rfl ?_
    refine lv_iconst (v := 0) hx hb (by decide +kernel : decode cL_order 21 = .ok (.iconst 0, 1)) (by decide) ?_
    exact vx_ret (W.widen (k := 2) (n := 12) (by omega) (by omega) (W.iret (v := 0) hx hb hr (fun t2 ht2 hW2 => ⟨⟨0, qup u 122 0 r, rfl, Or.inl ⟨rfl, r, u, hpost, rfl⟩, by unfold qPost; rw [ht2]; exact h1⟩, h3.F ht2⟩) h3.2.2 (by decide +kernel : decode cL_order 22 = .ok (.ireturn, 1)) hlocks))
abbrev hL_transaction : List (Nat × Nat × Nat × Nat) := [(0, 10, 13, 32), (0, 10, 17, 19)]
abbrev eL_transaction : List String := ["java/lang/IndexOutOfBoundsException", "java/lang/IllegalArgumentException"]
theorem lL_transaction : ∀ w ∈ ([.methodLink RL 87 mX9_transaction.1, .instanceMethod mX9_transaction.1, .selects mX9_transaction.1.cls mX9_transaction.1 mX9_transaction.1] ++ qcw mX9_transaction : List Jvm.Cond), w ∈ qgw := qgw_of [1295, 1296, 1297, 119, 1298] (by decide +kernel) (by decide +kernel)
set_option maxRecDepth 100000 in
set_option maxHeartbeats 4000000 in
theorem lw_transaction {g : qG} (hw : qWF g) {d : Nat} {σ : qS} {a1 a2 : Int32} {Q : Int32 → qS → Prop} {T : String → qS → Prop} (hT : ∀ E u, T E u → E ∈ eL_transaction) (h : qC g d mX9_transaction [.inr 0, .inl a1, .inl a2] σ Q T) : Met g.1 yL_transaction (.codeWith yL_transaction cL_transaction 5 (some .int) hL_transaction :: qgw) (lrm 2 d) (va_Pc [.ref (g.2.2.2.1 0), .int a1, .int a2, .ref (g.2.2.2.1 122)] (lPre g σ)) (va_Qi (lQ eL_transaction Q T) (qPost g) g.2.1) 2 12 g.2.1 := by
  have h' : vx_Met g.1 mX9_transaction.1 (qws mX9_transaction) (qrm mX9_transaction d) (va_Pc ([Sum.inr 0, Sum.inl a1, Sum.inl a2].map (qv g.2.2.2.1)) (qPre g σ)) (va_Qi Q (qPost g) g.2.1) (qXc g T) 2 12 g.2.1 := h
  refine met_of_vx (vx_ofWH (cc := cL_transaction) (maxL := 5) (ret := some .int) (hh := hL_transaction) (by decide) rfl ?_)
  intro p e s m args below meth c s₁ B hml hv
  obtain ⟨rfl, ⟨hP, hK, hq, hA⟩, hN⟩ := hv
  have hx := B.exec
  have hb := B.bytes
  have hr := B.returns
  have hts0 := atoms_spec (ws := .codeWith yL_transaction cL_transaction 5 (some .int) hL_transaction :: qgw) B.pre
  have htab := vx_table (x := yL_transaction) B (hts0 _ List.mem_cons_self)
  have hts : ∀ w ∈ qgw, w.before _ s = true := fun w hw => hts0 w (List.mem_cons_of_mem _ hw)
  have hown : s.vm.findClass RL = some m.cls := findClass_of_methodNamed B.named
  have hlocks := B.notSynchronized
  have hS : va_S g.2.1 s.heap s.heap [] := va_S.rf
  have hl := lv_entry ([.ref (g.2.2.2.1 0), .int a1, .int a2, .ref (g.2.2.2.1 122)]) (n := 5) (Nat.le_of_ble_eq_true rfl)
  rw [lg_entry_eq]
  generalize (lg_sl ([.ref (g.2.2.2.1 0), .int a1, .int a2, .ref (g.2.2.2.1 122)]) ++ List.replicate (5 - (lg_sl ([.ref (g.2.2.2.1 0), .int a1, .int a2, .ref (g.2.2.2.1 122)])).length) Slot.unset).toArray = ls at hl ⊢
  have hl : lv_has ls 5 [(0, .ref (g.2.2.2.1 0)), (1, .int a1), (2, .int a2), (3, .ref (g.2.2.2.1 122))] := hl
  refine lv_aload_n (k := 3) hx hb (by decide +kernel : decode cL_transaction 0 = .ok (.aload_n 3, 1)) rfl (lv_at hl 3 rfl) ?_
  refine lv_iconst (v := 0) hx hb (by decide +kernel : decode cL_transaction 1 = .ok (.iconst 0, 1)) (by decide) ?_
  refine lv_aload_n (k := 0) hx hb (by decide +kernel : decode cL_transaction 2 = .ok (.aload_n 0, 1)) rfl (lv_at hl 0 rfl) ?_
  refine lv_iload_n (k := 1) hx hb (by decide +kernel : decode cL_transaction 3 = .ok (.iload_n 1, 1)) rfl (lv_at hl 1 rfl) ?_
  refine lv_iload_n (k := 2) hx hb (by decide +kernel : decode cL_transaction 4 = .ok (.iload_n 2, 1)) rfl (lv_at hl 2 rfl) ?_
  refine vx_calli (vx_runV (C := mX9_transaction.1.cls) (b := g.2.2.2.1 0) (As := [.int a1, .int a2]) (rest := [.int 0, .ref (g.2.2.2.1 122)]) ⟨hx, hb, hml, hown, hts⟩ h' ⟨⟨rfl, rfl, (by show d + 12 + 1 ≤ d + 13; omega), (by show 8 + (mX9_transaction.2.2.1 + 11) + (60 * d + 300) ≤ 60 * d + 360; have h4 : mX9_transaction.2.2.1 ≤ 40 := (by decide); omega), (fun w hw' a' U hW => by
      have hin : w ∈ qgw := by
        rcases List.mem_cons.mp hw' with rfl | h9
        · exact lL_transaction _ (List.mem_of_getElem? (i := 4) rfl)
        · exact h9
      exact word_at hW (qgw_good hin) (hts _ hin)), List.mem_cons_self, hts _ (lL_transaction _ (List.mem_of_getElem? (i := 4) rfl)), hts _ (lL_transaction _ (List.mem_of_getElem? (i := 3) rfl)), (by decide), qlen (qM_spec (by decide +kernel)), hts _ (lL_transaction _ (List.mem_of_getElem? (i := 0) rfl))⟩, hts _ (lL_transaction _ (List.mem_of_getElem? (i := 1) rfl)), hts _ (lL_transaction _ (List.mem_of_getElem? (i := 2) rfl))⟩ ⟨qblind, va_recv (q := (RX9, TX9, 4)) hK hP rfl (qW_obj (k := 0) rfl), fun U hU hW => ⟨rfl, by rw [hU]; exact hP, va_K.moved hW.alike hK, qK_warm hq hW (fun a _ _ => by rw [hU]), by rw [hU]; exact hA⟩⟩ rfl rfl hl.1 rfl (lv_room (Nat.le_of_ble_eq_true rfl)) (by decide +kernel : decode cL_transaction 5 = .ok (.invokevirtual 87, 3)) ⟨(by show 0 + 2 ≤ 2; decide), (by show 0 + 12 ≤ 6 * 2; decide)⟩) hS (fun q _ h9 => h9) (fun q h9 => h9) (fun q _ h9 => h9) (fun E ce q9 u t H1 locs1 ht hvm _ hB hz1 hk1 hS1 hce hcv hcl => ?_) (fun r u t H1 locs1 ht hvm hpost hB hz1 hk1 hS1 => ?_)
  · obtain ⟨hTE, hPo⟩ := hB
    have hE := hT E u hTE
    have hE : E = "java/lang/IndexOutOfBoundsException" ∨ E = "java/lang/IllegalArgumentException" := by simpa using hE
    rcases hE with rfl | rfl
    · refine vx_catch (name := "java/lang/IndexOutOfBoundsException") hown [] ⟨0, 10, 13, 32⟩ [⟨0, 10, 17, 19⟩] htab (fun z hz => absurd hz List.not_mem_nil) (by decide) (by decide) (hts _ cl_ioe) (va_Nw.use rfl (hq.1 _ ca_ioe rfl)) hce hcv hcl ?_
      refine lv_astore hx hb (by decide +kernel : decode cL_transaction 13 = .ok (.astore 4, 2)) hl (by decide) rfl (fun ls' hl' => ?_)
      refine lv_iconst (v := 1) hx hb (by decide +kernel : decode cL_transaction 15 = .ok (.iconst 1, 1)) (by decide) ?_
      refine vx_ret (W.widen (k := 2) (n := 12) (by omega) (by omega) (W.iret (v := 1) hx hb hr (fun t2 ht2 hW2 => ⟨⟨1, u, rfl, Or.inr ⟨0, _, rfl, rfl, hTE⟩, by unfold qPost at hPo ⊢; rw [ht2]; rw [ht] at hPo; exact hPo⟩, hS1.F ht2⟩) hS1.2.2 (by decide +kernel : decode cL_transaction 16 = .ok (.ireturn, 1)) hlocks))
    · refine vx_catch (name := "java/lang/IllegalArgumentException") hown [(⟨0, 10, 13, 32⟩ : ExceptionTableEntry)] ⟨0, 10, 17, 19⟩ [] htab (List.forall_mem_cons.mpr ⟨Or.inr ⟨by decide, "java/lang/IndexOutOfBoundsException", hts _ cl_ioe, hN ("java/lang/IllegalArgumentException", "java/lang/IndexOutOfBoundsException") (by decide)⟩, fun z hz => absurd hz List.not_mem_nil⟩) (by decide) (by decide) (hts _ cl_iae) (va_Nw.use rfl (hq.1 _ ca_iae rfl)) hce hcv hcl ?_
      refine lv_astore hx hb (by decide +kernel : decode cL_transaction 17 = .ok (.astore 4, 2)) hl (by decide) rfl (fun ls' hl' => ?_)
      refine lv_iconst (v := 2) hx hb (by decide +kernel : decode cL_transaction 19 = .ok (.iconst 2, 1)) (by decide) ?_
      refine vx_ret (W.widen (k := 2) (n := 12) (by omega) (by omega) (W.iret (v := 2) hx hb hr (fun t2 ht2 hW2 => ⟨⟨2, u, rfl, Or.inr ⟨1, _, rfl, rfl, hTE⟩, by unfold qPost at hPo ⊢; rw [ht2]; rw [ht] at hPo; exact hPo⟩, hS1.F ht2⟩) hS1.2.2 (by decide +kernel : decode cL_transaction 20 = .ok (.ireturn, 1)) hlocks))
  · unfold qPost at hB
    rw [ht] at hB
    refine lv_i2l (v := r.toInt64) hx hb (by decide +kernel : decode cL_transaction 8 = .ok (.i2l, 1)) rfl ?_
    refine va_last (D := g.2.2.1) (x := r.toInt64) (i := 0) hx hb hK hB (hw.D u) hS1 122 3 qW_outAt rfl (vp_in_nI (n := 0) (by decide) (by decide)) (by decide +kernel : decode cL_transaction 9 = .ok (.lastore, 1)) (fun H2 locs2 h1 h2 h3 => ?_)
    rw [qW_outSet] at h1
    refine lv_goto (tgt := 21) hx hb (by decide +kernel : decode cL_transaction 10 = .ok (.goto 11, 3)) rfl ?_
    refine lv_iconst (v := 0) hx hb (by decide +kernel : decode cL_transaction 21 = .ok (.iconst 0, 1)) (by decide) ?_
    exact vx_ret (W.widen (k := 2) (n := 12) (by omega) (by omega) (W.iret (v := 0) hx hb hr (fun t2 ht2 hW2 => ⟨⟨0, qup u 122 0 r, rfl, Or.inl ⟨rfl, r, u, hpost, rfl⟩, by unfold qPost; rw [ht2]; exact h1⟩, h3.F ht2⟩) h3.2.2 (by decide +kernel : decode cL_transaction 22 = .ok (.ireturn, 1)) hlocks))
abbrev hL_block : List (Nat × Nat × Nat × Nat) := [(0, 10, 13, 32)]
abbrev eL_block : List String := ["java/lang/IndexOutOfBoundsException"]
theorem lL_block : ∀ w ∈ ([.methodLink RL 90 mX9_block.1, .instanceMethod mX9_block.1, .selects mX9_block.1.cls mX9_block.1 mX9_block.1] ++ qcw mX9_block : List Jvm.Cond), w ∈ qgw := qgw_of [1306, 1307, 1308, 119, 1309] (by decide +kernel) (by decide +kernel)
set_option maxRecDepth 100000 in
set_option maxHeartbeats 4000000 in
theorem lw_block {g : qG} (hw : qWF g) {d : Nat} {σ : qS} {a1 a2 : Int32} {Q : Int32 → qS → Prop} {T : String → qS → Prop} (hT : ∀ E u, T E u → E ∈ eL_block) (h : qC g d mX9_block [.inr 0, .inl a1, .inl a2] σ Q T) : Met g.1 yL_block (.codeWith yL_block cL_block 5 (some .int) hL_block :: qgw) (lrm 1 d) (va_Pc [.ref (g.2.2.2.1 0), .int a1, .int a2, .ref (g.2.2.2.1 122)] (lPre g σ)) (va_Qi (lQ eL_block Q T) (qPost g) g.2.1) 1 6 g.2.1 := by
  have h' : vx_Met g.1 mX9_block.1 (qws mX9_block) (qrm mX9_block d) (va_Pc ([Sum.inr 0, Sum.inl a1, Sum.inl a2].map (qv g.2.2.2.1)) (qPre g σ)) (va_Qi Q (qPost g) g.2.1) (qXc g T) 1 6 g.2.1 := h
  refine met_of_vx (vx_ofWH (cc := cL_block) (maxL := 5) (ret := some .int) (hh := hL_block) (by decide) rfl ?_)
  intro p e s m args below meth c s₁ B hml hv
  obtain ⟨rfl, ⟨hP, hK, hq, hA⟩, hN⟩ := hv
  have hx := B.exec
  have hb := B.bytes
  have hr := B.returns
  have hts0 := atoms_spec (ws := .codeWith yL_block cL_block 5 (some .int) hL_block :: qgw) B.pre
  have htab := vx_table (x := yL_block) B (hts0 _ List.mem_cons_self)
  have hts : ∀ w ∈ qgw, w.before _ s = true := fun w hw => hts0 w (List.mem_cons_of_mem _ hw)
  have hown : s.vm.findClass RL = some m.cls := findClass_of_methodNamed B.named
  have hlocks := B.notSynchronized
  have hS : va_S g.2.1 s.heap s.heap [] := va_S.rf
  have hl := lv_entry ([.ref (g.2.2.2.1 0), .int a1, .int a2, .ref (g.2.2.2.1 122)]) (n := 5) (Nat.le_of_ble_eq_true rfl)
  rw [lg_entry_eq]
  generalize (lg_sl ([.ref (g.2.2.2.1 0), .int a1, .int a2, .ref (g.2.2.2.1 122)]) ++ List.replicate (5 - (lg_sl ([.ref (g.2.2.2.1 0), .int a1, .int a2, .ref (g.2.2.2.1 122)])).length) Slot.unset).toArray = ls at hl ⊢
  have hl : lv_has ls 5 [(0, .ref (g.2.2.2.1 0)), (1, .int a1), (2, .int a2), (3, .ref (g.2.2.2.1 122))] := hl
  refine lv_aload_n (k := 3) hx hb (by decide +kernel : decode cL_block 0 = .ok (.aload_n 3, 1)) rfl (lv_at hl 3 rfl) ?_
  refine lv_iconst (v := 0) hx hb (by decide +kernel : decode cL_block 1 = .ok (.iconst 0, 1)) (by decide) ?_
  refine lv_aload_n (k := 0) hx hb (by decide +kernel : decode cL_block 2 = .ok (.aload_n 0, 1)) rfl (lv_at hl 0 rfl) ?_
  refine lv_iload_n (k := 1) hx hb (by decide +kernel : decode cL_block 3 = .ok (.iload_n 1, 1)) rfl (lv_at hl 1 rfl) ?_
  refine lv_iload_n (k := 2) hx hb (by decide +kernel : decode cL_block 4 = .ok (.iload_n 2, 1)) rfl (lv_at hl 2 rfl) ?_
  refine vx_calli (vx_runV (C := mX9_block.1.cls) (b := g.2.2.2.1 0) (As := [.int a1, .int a2]) (rest := [.int 0, .ref (g.2.2.2.1 122)]) ⟨hx, hb, hml, hown, hts⟩ h' ⟨⟨rfl, rfl, (by show d + 12 + 1 ≤ d + 13; omega), (by show 8 + (mX9_block.2.2.1 + 11) + (60 * d + 300) ≤ 60 * d + 360; have h4 : mX9_block.2.2.1 ≤ 40 := (by decide); omega), (fun w hw' a' U hW => by
      have hin : w ∈ qgw := by
        rcases List.mem_cons.mp hw' with rfl | h9
        · exact lL_block _ (List.mem_of_getElem? (i := 4) rfl)
        · exact h9
      exact word_at hW (qgw_good hin) (hts _ hin)), List.mem_cons_self, hts _ (lL_block _ (List.mem_of_getElem? (i := 4) rfl)), hts _ (lL_block _ (List.mem_of_getElem? (i := 3) rfl)), (by decide), qlen (qM_spec (by decide +kernel)), hts _ (lL_block _ (List.mem_of_getElem? (i := 0) rfl))⟩, hts _ (lL_block _ (List.mem_of_getElem? (i := 1) rfl)), hts _ (lL_block _ (List.mem_of_getElem? (i := 2) rfl))⟩ ⟨qblind, va_recv (q := (RX9, TX9, 4)) hK hP rfl (qW_obj (k := 0) rfl), fun U hU hW => ⟨rfl, by rw [hU]; exact hP, va_K.moved hW.alike hK, qK_warm hq hW (fun a _ _ => by rw [hU]), by rw [hU]; exact hA⟩⟩ rfl rfl hl.1 rfl (lv_room (Nat.le_of_ble_eq_true rfl)) (by decide +kernel : decode cL_block 5 = .ok (.invokevirtual 90, 3)) ⟨(by show 0 + 1 ≤ 1; decide), (by show 0 + 6 ≤ 6 * 1; decide)⟩) hS (fun q _ h9 => h9) (fun q h9 => h9) (fun q _ h9 => h9) (fun E ce q9 u t H1 locs1 ht hvm _ hB hz1 hk1 hS1 hce hcv hcl => ?_) (fun r u t H1 locs1 ht hvm hpost hB hz1 hk1 hS1 => ?_)
  · obtain ⟨hTE, hPo⟩ := hB
    have hE := hT E u hTE
    obtain rfl : E = "java/lang/IndexOutOfBoundsException" := by simpa using hE
    refine vx_catch (name := "java/lang/IndexOutOfBoundsException") hown [] ⟨0, 10, 13, 32⟩ [] htab (fun z hz => absurd hz List.not_mem_nil) (by decide) (by decide) (hts _ cl_ioe) (va_Nw.use rfl (hq.1 _ ca_ioe rfl)) hce hcv hcl ?_
    refine lv_astore hx hb (by decide +kernel : decode cL_block 13 = .ok (.astore 4, 2)) hl (by decide) rfl (fun ls' hl' => ?_)
    refine lv_iconst (v := 1) hx hb (by decide +kernel : decode cL_block 15 = .ok (.iconst 1, 1)) (by decide) ?_
    refine vx_ret (W.widen (k := 1) (n := 6) (by omega) (by omega) (W.iret (v := 1) hx hb hr (fun t2 ht2 hW2 => ⟨⟨1, u, rfl, Or.inr ⟨0, _, rfl, rfl, hTE⟩, by unfold qPost at hPo ⊢; rw [ht2]; rw [ht] at hPo; exact hPo⟩, hS1.F ht2⟩) hS1.2.2 (by decide +kernel : decode cL_block 16 = .ok (.ireturn, 1)) hlocks))
  · unfold qPost at hB
    rw [ht] at hB
    refine lv_i2l (v := r.toInt64) hx hb (by decide +kernel : decode cL_block 8 = .ok (.i2l, 1)) rfl ?_
    refine va_last (D := g.2.2.1) (x := r.toInt64) (i := 0) hx hb hK hB (hw.D u) hS1 122 3 qW_outAt rfl (vp_in_nI (n := 0) (by decide) (by decide)) (by decide +kernel : decode cL_block 9 = .ok (.lastore, 1)) (fun H2 locs2 h1 h2 h3 => ?_)
    rw [qW_outSet] at h1
    refine lv_goto (tgt := 17) hx hb (by decide +kernel : decode cL_block 10 = .ok (.goto 7, 3)) rfl ?_
    refine lv_iconst (v := 0) hx hb (by decide +kernel : decode cL_block 17 = .ok (.iconst 0, 1)) (by decide) ?_
    exact vx_ret (W.widen (k := 1) (n := 6) (by omega) (by omega) (W.iret (v := 0) hx hb hr (fun t2 ht2 hW2 => ⟨⟨0, qup u 122 0 r, rfl, Or.inl ⟨rfl, r, u, hpost, rfl⟩, by unfold qPost; rw [ht2]; exact h1⟩, h3.F ht2⟩) h3.2.2 (by decide +kernel : decode cL_block 18 = .ok (.ireturn, 1)) hlocks))
abbrev hL_blockAt : List (Nat × Nat × Nat × Nat) := [(0, 12, 15, 32), (0, 12, 19, 19)]
abbrev eL_blockAt : List String := ["java/lang/IndexOutOfBoundsException", "java/lang/IllegalArgumentException"]
theorem lL_blockAt : ∀ w ∈ ([.methodLink RL 93 mX9_blockAt.1, .instanceMethod mX9_blockAt.1, .selects mX9_blockAt.1.cls mX9_blockAt.1 mX9_blockAt.1] ++ qcw mX9_blockAt : List Jvm.Cond), w ∈ qgw := qgw_of [1317, 1318, 1319, 119, 1320] (by decide +kernel) (by decide +kernel)
set_option maxRecDepth 100000 in
set_option maxHeartbeats 4000000 in
theorem lw_blockAt {g : qG} (hw : qWF g) {d : Nat} {σ : qS} {a1 a2 a3 : Int32} {Q : Int32 → qS → Prop} {T : String → qS → Prop} (hT : ∀ E u, T E u → E ∈ eL_blockAt) (h : qC g d mX9_blockAt [.inr 0, .inl a1, .inl a2, .inl a3] σ Q T) : Met g.1 yL_blockAt (.codeWith yL_blockAt cL_blockAt 6 (some .int) hL_blockAt :: qgw) (lrm 2 d) (va_Pc [.ref (g.2.2.2.1 0), .int a1, .int a2, .int a3, .ref (g.2.2.2.1 122)] (lPre g σ)) (va_Qi (lQ eL_blockAt Q T) (qPost g) g.2.1) 2 12 g.2.1 := by
  have h' : vx_Met g.1 mX9_blockAt.1 (qws mX9_blockAt) (qrm mX9_blockAt d) (va_Pc ([Sum.inr 0, Sum.inl a1, Sum.inl a2, Sum.inl a3].map (qv g.2.2.2.1)) (qPre g σ)) (va_Qi Q (qPost g) g.2.1) (qXc g T) 2 12 g.2.1 := h
  refine met_of_vx (vx_ofWH (cc := cL_blockAt) (maxL := 6) (ret := some .int) (hh := hL_blockAt) (by decide) rfl ?_)
  intro p e s m args below meth c s₁ B hml hv
  obtain ⟨rfl, ⟨hP, hK, hq, hA⟩, hN⟩ := hv
  have hx := B.exec
  have hb := B.bytes
  have hr := B.returns
  have hts0 := atoms_spec (ws := .codeWith yL_blockAt cL_blockAt 6 (some .int) hL_blockAt :: qgw) B.pre
  have htab := vx_table (x := yL_blockAt) B (hts0 _ List.mem_cons_self)
  have hts : ∀ w ∈ qgw, w.before _ s = true := fun w hw => hts0 w (List.mem_cons_of_mem _ hw)
  have hown : s.vm.findClass RL = some m.cls := findClass_of_methodNamed B.named
  have hlocks := B.notSynchronized
  have hS : va_S g.2.1 s.heap s.heap [] := va_S.rf
  have hl := lv_entry ([.ref (g.2.2.2.1 0), .int a1, .int a2, .int a3, .ref (g.2.2.2.1 122)]) (n := 6) (Nat.le_of_ble_eq_true rfl)
  rw [lg_entry_eq]
  generalize (lg_sl ([.ref (g.2.2.2.1 0), .int a1, .int a2, .int a3, .ref (g.2.2.2.1 122)]) ++ List.replicate (6 - (lg_sl ([.ref (g.2.2.2.1 0), .int a1, .int a2, .int a3, .ref (g.2.2.2.1 122)])).length) Slot.unset).toArray = ls at hl ⊢
  have hl : lv_has ls 6 [(0, .ref (g.2.2.2.1 0)), (1, .int a1), (2, .int a2), (3, .int a3), (4, .ref (g.2.2.2.1 122))] := hl
  refine lv_aload hx hb (by decide +kernel : decode cL_blockAt 0 = .ok (.aload 4, 2)) (lv_at hl 4 rfl) ?_
  refine lv_iconst (v := 0) hx hb (by decide +kernel : decode cL_blockAt 2 = .ok (.iconst 0, 1)) (by decide) ?_
  refine lv_aload_n (k := 0) hx hb (by decide +kernel : decode cL_blockAt 3 = .ok (.aload_n 0, 1)) rfl (lv_at hl 0 rfl) ?_
  refine lv_iload_n (k := 1) hx hb (by decide +kernel : decode cL_blockAt 4 = .ok (.iload_n 1, 1)) rfl (lv_at hl 1 rfl) ?_
  refine lv_iload_n (k := 2) hx hb (by decide +kernel : decode cL_blockAt 5 = .ok (.iload_n 2, 1)) rfl (lv_at hl 2 rfl) ?_
  refine lv_iload_n (k := 3) hx hb (by decide +kernel : decode cL_blockAt 6 = .ok (.iload_n 3, 1)) rfl (lv_at hl 3 rfl) ?_
  refine vx_calli (vx_runV (C := mX9_blockAt.1.cls) (b := g.2.2.2.1 0) (As := [.int a1, .int a2, .int a3]) (rest := [.int 0, .ref (g.2.2.2.1 122)]) ⟨hx, hb, hml, hown, hts⟩ h' ⟨⟨rfl, rfl, (by show d + 12 + 1 ≤ d + 13; omega), (by show 8 + (mX9_blockAt.2.2.1 + 11) + (60 * d + 300) ≤ 60 * d + 360; have h4 : mX9_blockAt.2.2.1 ≤ 40 := (by decide); omega), (fun w hw' a' U hW => by
      have hin : w ∈ qgw := by
        rcases List.mem_cons.mp hw' with rfl | h9
        · exact lL_blockAt _ (List.mem_of_getElem? (i := 4) rfl)
        · exact h9
      exact word_at hW (qgw_good hin) (hts _ hin)), List.mem_cons_self, hts _ (lL_blockAt _ (List.mem_of_getElem? (i := 4) rfl)), hts _ (lL_blockAt _ (List.mem_of_getElem? (i := 3) rfl)), (by decide), qlen (qM_spec (by decide +kernel)), hts _ (lL_blockAt _ (List.mem_of_getElem? (i := 0) rfl))⟩, hts _ (lL_blockAt _ (List.mem_of_getElem? (i := 1) rfl)), hts _ (lL_blockAt _ (List.mem_of_getElem? (i := 2) rfl))⟩ ⟨qblind, va_recv (q := (RX9, TX9, 4)) hK hP rfl (qW_obj (k := 0) rfl), fun U hU hW => ⟨rfl, by rw [hU]; exact hP, va_K.moved hW.alike hK, qK_warm hq hW (fun a _ _ => by rw [hU]), by rw [hU]; exact hA⟩⟩ rfl rfl hl.1 rfl (lv_room (Nat.le_of_ble_eq_true rfl)) (by decide +kernel : decode cL_blockAt 7 = .ok (.invokevirtual 93, 3)) ⟨(by show 0 + 2 ≤ 2; decide), (by show 0 + 12 ≤ 6 * 2; decide)⟩) hS (fun q _ h9 => h9) (fun q h9 => h9) (fun q _ h9 => h9) (fun E ce q9 u t H1 locs1 ht hvm _ hB hz1 hk1 hS1 hce hcv hcl => ?_) (fun r u t H1 locs1 ht hvm hpost hB hz1 hk1 hS1 => ?_)
  · obtain ⟨hTE, hPo⟩ := hB
    have hE := hT E u hTE
    have hE : E = "java/lang/IndexOutOfBoundsException" ∨ E = "java/lang/IllegalArgumentException" := by simpa using hE
    rcases hE with rfl | rfl
    · refine vx_catch (name := "java/lang/IndexOutOfBoundsException") hown [] ⟨0, 12, 15, 32⟩ [⟨0, 12, 19, 19⟩] htab (fun z hz => absurd hz List.not_mem_nil) (by decide) (by decide) (hts _ cl_ioe) (va_Nw.use rfl (hq.1 _ ca_ioe rfl)) hce hcv hcl ?_
      refine lv_astore hx hb (by decide +kernel : decode cL_blockAt 15 = .ok (.astore 5, 2)) hl (by decide) rfl (fun ls' hl' => ?_)
      refine lv_iconst (v := 1) hx hb (by decide +kernel : decode cL_blockAt 17 = .ok (.iconst 1, 1)) (by decide) ?_
      refine vx_ret (W.widen (k := 2) (n := 12) (by omega) (by omega) (W.iret (v := 1) hx hb hr (fun t2 ht2 hW2 => ⟨⟨1, u, rfl, Or.inr ⟨0, _, rfl, rfl, hTE⟩, by unfold qPost at hPo ⊢; rw [ht2]; rw [ht] at hPo; exact hPo⟩, hS1.F ht2⟩) hS1.2.2 (by decide +kernel : decode cL_blockAt 18 = .ok (.ireturn, 1)) hlocks))
    · refine vx_catch (name := "java/lang/IllegalArgumentException") hown [(⟨0, 12, 15, 32⟩ : ExceptionTableEntry)] ⟨0, 12, 19, 19⟩ [] htab (List.forall_mem_cons.mpr ⟨Or.inr ⟨by decide, "java/lang/IndexOutOfBoundsException", hts _ cl_ioe, hN ("java/lang/IllegalArgumentException", "java/lang/IndexOutOfBoundsException") (by decide)⟩, fun z hz => absurd hz List.not_mem_nil⟩) (by decide) (by decide) (hts _ cl_iae) (va_Nw.use rfl (hq.1 _ ca_iae rfl)) hce hcv hcl ?_
      refine lv_astore hx hb (by decide +kernel : decode cL_blockAt 19 = .ok (.astore 5, 2)) hl (by decide) rfl (fun ls' hl' => ?_)
      refine lv_iconst (v := 2) hx hb (by decide +kernel : decode cL_blockAt 21 = .ok (.iconst 2, 1)) (by decide) ?_
      refine vx_ret (W.widen (k := 2) (n := 12) (by omega) (by omega) (W.iret (v := 2) hx hb hr (fun t2 ht2 hW2 => ⟨⟨2, u, rfl, Or.inr ⟨1, _, rfl, rfl, hTE⟩, by unfold qPost at hPo ⊢; rw [ht2]; rw [ht] at hPo; exact hPo⟩, hS1.F ht2⟩) hS1.2.2 (by decide +kernel : decode cL_blockAt 22 = .ok (.ireturn, 1)) hlocks))
  · unfold qPost at hB
    rw [ht] at hB
    refine lv_i2l (v := r.toInt64) hx hb (by decide +kernel : decode cL_blockAt 10 = .ok (.i2l, 1)) rfl ?_
    refine va_last (D := g.2.2.1) (x := r.toInt64) (i := 0) hx hb hK hB (hw.D u) hS1 122 3 qW_outAt rfl (vp_in_nI (n := 0) (by decide) (by decide)) (by decide +kernel : decode cL_blockAt 11 = .ok (.lastore, 1)) (fun H2 locs2 h1 h2 h3 => ?_)
    rw [qW_outSet] at h1
    refine lv_goto (tgt := 23) hx hb (by decide +kernel : decode cL_blockAt 12 = .ok (.goto 11, 3)) rfl ?_
    refine lv_iconst (v := 0) hx hb (by decide +kernel : decode cL_blockAt 23 = .ok (.iconst 0, 1)) (by decide) ?_
    exact vx_ret (W.widen (k := 2) (n := 12) (by omega) (by omega) (W.iret (v := 0) hx hb hr (fun t2 ht2 hW2 => ⟨⟨0, qup u 122 0 r, rfl, Or.inl ⟨rfl, r, u, hpost, rfl⟩, by unfold qPost; rw [ht2]; exact h1⟩, h3.F ht2⟩) h3.2.2 (by decide +kernel : decode cL_blockAt 24 = .ok (.ireturn, 1)) hlocks))
abbrev hL_visibleAt : List (Nat × Nat × Nat × Nat) := [(0, 10, 13, 32), (0, 10, 17, 19)]
abbrev eL_visibleAt : List String := ["java/lang/IndexOutOfBoundsException", "java/lang/IllegalArgumentException"]
theorem lL_visibleAt : ∀ w ∈ ([.methodLink RL 96 mX9_visibleAt.1, .instanceMethod mX9_visibleAt.1, .selects mX9_visibleAt.1.cls mX9_visibleAt.1 mX9_visibleAt.1] ++ qcw mX9_visibleAt : List Jvm.Cond), w ∈ qgw := qgw_of [1325, 1326, 1327, 119, 1328] (by decide +kernel) (by decide +kernel)
set_option maxRecDepth 100000 in
set_option maxHeartbeats 4000000 in
theorem lw_visibleAt {g : qG} (hw : qWF g) {d : Nat} {σ : qS} {a1 a2 : Int32} {Q : Int32 → qS → Prop} {T : String → qS → Prop} (hT : ∀ E u, T E u → E ∈ eL_visibleAt) (h : qC g d mX9_visibleAt [.inr 0, .inl a1, .inl a2] σ Q T) : Met g.1 yL_visibleAt (.codeWith yL_visibleAt cL_visibleAt 5 (some .int) hL_visibleAt :: qgw) (lrm 2 d) (va_Pc [.ref (g.2.2.2.1 0), .int a1, .int a2, .ref (g.2.2.2.1 122)] (lPre g σ)) (va_Qi (lQ eL_visibleAt Q T) (qPost g) g.2.1) 2 12 g.2.1 := by
  have h' : vx_Met g.1 mX9_visibleAt.1 (qws mX9_visibleAt) (qrm mX9_visibleAt d) (va_Pc ([Sum.inr 0, Sum.inl a1, Sum.inl a2].map (qv g.2.2.2.1)) (qPre g σ)) (va_Qi Q (qPost g) g.2.1) (qXc g T) 2 12 g.2.1 := h
  refine met_of_vx (vx_ofWH (cc := cL_visibleAt) (maxL := 5) (ret := some .int) (hh := hL_visibleAt) (by decide) rfl ?_)
  intro p e s m args below meth c s₁ B hml hv
  obtain ⟨rfl, ⟨hP, hK, hq, hA⟩, hN⟩ := hv
  have hx := B.exec
  have hb := B.bytes
  have hr := B.returns
  have hts0 := atoms_spec (ws := .codeWith yL_visibleAt cL_visibleAt 5 (some .int) hL_visibleAt :: qgw) B.pre
  have htab := vx_table (x := yL_visibleAt) B (hts0 _ List.mem_cons_self)
  have hts : ∀ w ∈ qgw, w.before _ s = true := fun w hw => hts0 w (List.mem_cons_of_mem _ hw)
  have hown : s.vm.findClass RL = some m.cls := findClass_of_methodNamed B.named
  have hlocks := B.notSynchronized
  have hS : va_S g.2.1 s.heap s.heap [] := va_S.rf
  have hl := lv_entry ([.ref (g.2.2.2.1 0), .int a1, .int a2, .ref (g.2.2.2.1 122)]) (n := 5) (Nat.le_of_ble_eq_true rfl)
  rw [lg_entry_eq]
  generalize (lg_sl ([.ref (g.2.2.2.1 0), .int a1, .int a2, .ref (g.2.2.2.1 122)]) ++ List.replicate (5 - (lg_sl ([.ref (g.2.2.2.1 0), .int a1, .int a2, .ref (g.2.2.2.1 122)])).length) Slot.unset).toArray = ls at hl ⊢
  have hl : lv_has ls 5 [(0, .ref (g.2.2.2.1 0)), (1, .int a1), (2, .int a2), (3, .ref (g.2.2.2.1 122))] := hl
  refine lv_aload_n (k := 3) hx hb (by decide +kernel : decode cL_visibleAt 0 = .ok (.aload_n 3, 1)) rfl (lv_at hl 3 rfl) ?_
  refine lv_iconst (v := 0) hx hb (by decide +kernel : decode cL_visibleAt 1 = .ok (.iconst 0, 1)) (by decide) ?_
  refine lv_aload_n (k := 0) hx hb (by decide +kernel : decode cL_visibleAt 2 = .ok (.aload_n 0, 1)) rfl (lv_at hl 0 rfl) ?_
  refine lv_iload_n (k := 1) hx hb (by decide +kernel : decode cL_visibleAt 3 = .ok (.iload_n 1, 1)) rfl (lv_at hl 1 rfl) ?_
  refine lv_iload_n (k := 2) hx hb (by decide +kernel : decode cL_visibleAt 4 = .ok (.iload_n 2, 1)) rfl (lv_at hl 2 rfl) ?_
  refine vx_calli (vx_runV (C := mX9_visibleAt.1.cls) (b := g.2.2.2.1 0) (As := [.int a1, .int a2]) (rest := [.int 0, .ref (g.2.2.2.1 122)]) ⟨hx, hb, hml, hown, hts⟩ h' ⟨⟨rfl, rfl, (by show d + 12 + 1 ≤ d + 13; omega), (by show 8 + (mX9_visibleAt.2.2.1 + 11) + (60 * d + 300) ≤ 60 * d + 360; have h4 : mX9_visibleAt.2.2.1 ≤ 40 := (by decide); omega), (fun w hw' a' U hW => by
      have hin : w ∈ qgw := by
        rcases List.mem_cons.mp hw' with rfl | h9
        · exact lL_visibleAt _ (List.mem_of_getElem? (i := 4) rfl)
        · exact h9
      exact word_at hW (qgw_good hin) (hts _ hin)), List.mem_cons_self, hts _ (lL_visibleAt _ (List.mem_of_getElem? (i := 4) rfl)), hts _ (lL_visibleAt _ (List.mem_of_getElem? (i := 3) rfl)), (by decide), qlen (qM_spec (by decide +kernel)), hts _ (lL_visibleAt _ (List.mem_of_getElem? (i := 0) rfl))⟩, hts _ (lL_visibleAt _ (List.mem_of_getElem? (i := 1) rfl)), hts _ (lL_visibleAt _ (List.mem_of_getElem? (i := 2) rfl))⟩ ⟨qblind, va_recv (q := (RX9, TX9, 4)) hK hP rfl (qW_obj (k := 0) rfl), fun U hU hW => ⟨rfl, by rw [hU]; exact hP, va_K.moved hW.alike hK, qK_warm hq hW (fun a _ _ => by rw [hU]), by rw [hU]; exact hA⟩⟩ rfl rfl hl.1 rfl (lv_room (Nat.le_of_ble_eq_true rfl)) (by decide +kernel : decode cL_visibleAt 5 = .ok (.invokevirtual 96, 3)) ⟨(by show 0 + 2 ≤ 2; decide), (by show 0 + 12 ≤ 6 * 2; decide)⟩) hS (fun q _ h9 => h9) (fun q h9 => h9) (fun q _ h9 => h9) (fun E ce q9 u t H1 locs1 ht hvm _ hB hz1 hk1 hS1 hce hcv hcl => ?_) (fun r u t H1 locs1 ht hvm hpost hB hz1 hk1 hS1 => ?_)
  · obtain ⟨hTE, hPo⟩ := hB
    have hE := hT E u hTE
    have hE : E = "java/lang/IndexOutOfBoundsException" ∨ E = "java/lang/IllegalArgumentException" := by simpa using hE
    rcases hE with rfl | rfl
    · refine vx_catch (name := "java/lang/IndexOutOfBoundsException") hown [] ⟨0, 10, 13, 32⟩ [⟨0, 10, 17, 19⟩] htab (fun z hz => absurd hz List.not_mem_nil) (by decide) (by decide) (hts _ cl_ioe) (va_Nw.use rfl (hq.1 _ ca_ioe rfl)) hce hcv hcl ?_
      refine lv_astore hx hb (by decide +kernel : decode cL_visibleAt 13 = .ok (.astore 4, 2)) hl (by decide) rfl (fun ls' hl' => ?_)
      refine lv_iconst (v := 1) hx hb (by decide +kernel : decode cL_visibleAt 15 = .ok (.iconst 1, 1)) (by decide) ?_
      refine vx_ret (W.widen (k := 2) (n := 12) (by omega) (by omega) (W.iret (v := 1) hx hb hr (fun t2 ht2 hW2 => ⟨⟨1, u, rfl, Or.inr ⟨0, _, rfl, rfl, hTE⟩, by unfold qPost at hPo ⊢; rw [ht2]; rw [ht] at hPo; exact hPo⟩, hS1.F ht2⟩) hS1.2.2 (by decide +kernel : decode cL_visibleAt 16 = .ok (.ireturn, 1)) hlocks))
    · refine vx_catch (name := "java/lang/IllegalArgumentException") hown [(⟨0, 10, 13, 32⟩ : ExceptionTableEntry)] ⟨0, 10, 17, 19⟩ [] htab (List.forall_mem_cons.mpr ⟨Or.inr ⟨by decide, "java/lang/IndexOutOfBoundsException", hts _ cl_ioe, hN ("java/lang/IllegalArgumentException", "java/lang/IndexOutOfBoundsException") (by decide)⟩, fun z hz => absurd hz List.not_mem_nil⟩) (by decide) (by decide) (hts _ cl_iae) (va_Nw.use rfl (hq.1 _ ca_iae rfl)) hce hcv hcl ?_
      refine lv_astore hx hb (by decide +kernel : decode cL_visibleAt 17 = .ok (.astore 4, 2)) hl (by decide) rfl (fun ls' hl' => ?_)
      refine lv_iconst (v := 2) hx hb (by decide +kernel : decode cL_visibleAt 19 = .ok (.iconst 2, 1)) (by decide) ?_
      refine vx_ret (W.widen (k := 2) (n := 12) (by omega) (by omega) (W.iret (v := 2) hx hb hr (fun t2 ht2 hW2 => ⟨⟨2, u, rfl, Or.inr ⟨1, _, rfl, rfl, hTE⟩, by unfold qPost at hPo ⊢; rw [ht2]; rw [ht] at hPo; exact hPo⟩, hS1.F ht2⟩) hS1.2.2 (by decide +kernel : decode cL_visibleAt 20 = .ok (.ireturn, 1)) hlocks))
  · unfold qPost at hB
    rw [ht] at hB
    refine lv_i2l (v := r.toInt64) hx hb (by decide +kernel : decode cL_visibleAt 8 = .ok (.i2l, 1)) rfl ?_
    refine va_last (D := g.2.2.1) (x := r.toInt64) (i := 0) hx hb hK hB (hw.D u) hS1 122 3 qW_outAt rfl (vp_in_nI (n := 0) (by decide) (by decide)) (by decide +kernel : decode cL_visibleAt 9 = .ok (.lastore, 1)) (fun H2 locs2 h1 h2 h3 => ?_)
    rw [qW_outSet] at h1
    refine lv_goto (tgt := 21) hx hb (by decide +kernel : decode cL_visibleAt 10 = .ok (.goto 11, 3)) rfl ?_
    refine lv_iconst (v := 0) hx hb (by decide +kernel : decode cL_visibleAt 21 = .ok (.iconst 0, 1)) (by decide) ?_
    exact vx_ret (W.widen (k := 2) (n := 12) (by omega) (by omega) (W.iret (v := 0) hx hb hr (fun t2 ht2 hW2 => ⟨⟨0, qup u 122 0 r, rfl, Or.inl ⟨rfl, r, u, hpost, rfl⟩, by unfold qPost; rw [ht2]; exact h1⟩, h3.F ht2⟩) h3.2.2 (by decide +kernel : decode cL_visibleAt 22 = .ok (.ireturn, 1)) hlocks))
abbrev hL_positionAt : List (Nat × Nat × Nat × Nat) := [(0, 10, 13, 32), (0, 10, 17, 19)]
abbrev eL_positionAt : List String := ["java/lang/IndexOutOfBoundsException", "java/lang/IllegalArgumentException"]
theorem lL_positionAt : ∀ w ∈ ([.methodLink RL 99 mX9_positionAt.1, .instanceMethod mX9_positionAt.1, .selects mX9_positionAt.1.cls mX9_positionAt.1 mX9_positionAt.1] ++ qcw mX9_positionAt : List Jvm.Cond), w ∈ qgw := qgw_of [1333, 1334, 1335, 119, 1336] (by decide +kernel) (by decide +kernel)
set_option maxRecDepth 100000 in
set_option maxHeartbeats 4000000 in
theorem lw_positionAt {g : qG} (hw : qWF g) {d : Nat} {σ : qS} {a1 a2 : Int32} {Q : Int32 → qS → Prop} {T : String → qS → Prop} (hT : ∀ E u, T E u → E ∈ eL_positionAt) (h : qC g d mX9_positionAt [.inr 0, .inl a1, .inl a2] σ Q T) : Met g.1 yL_positionAt (.codeWith yL_positionAt cL_positionAt 5 (some .int) hL_positionAt :: qgw) (lrm 2 d) (va_Pc [.ref (g.2.2.2.1 0), .int a1, .int a2, .ref (g.2.2.2.1 122)] (lPre g σ)) (va_Qi (lQ eL_positionAt Q T) (qPost g) g.2.1) 2 12 g.2.1 := by
  have h' : vx_Met g.1 mX9_positionAt.1 (qws mX9_positionAt) (qrm mX9_positionAt d) (va_Pc ([Sum.inr 0, Sum.inl a1, Sum.inl a2].map (qv g.2.2.2.1)) (qPre g σ)) (va_Qi Q (qPost g) g.2.1) (qXc g T) 2 12 g.2.1 := h
  refine met_of_vx (vx_ofWH (cc := cL_positionAt) (maxL := 5) (ret := some .int) (hh := hL_positionAt) (by decide) rfl ?_)
  intro p e s m args below meth c s₁ B hml hv
  obtain ⟨rfl, ⟨hP, hK, hq, hA⟩, hN⟩ := hv
  have hx := B.exec
  have hb := B.bytes
  have hr := B.returns
  have hts0 := atoms_spec (ws := .codeWith yL_positionAt cL_positionAt 5 (some .int) hL_positionAt :: qgw) B.pre
  have htab := vx_table (x := yL_positionAt) B (hts0 _ List.mem_cons_self)
  have hts : ∀ w ∈ qgw, w.before _ s = true := fun w hw => hts0 w (List.mem_cons_of_mem _ hw)
  have hown : s.vm.findClass RL = some m.cls := findClass_of_methodNamed B.named
  have hlocks := B.notSynchronized
  have hS : va_S g.2.1 s.heap s.heap [] := va_S.rf
  have hl := lv_entry ([.ref (g.2.2.2.1 0), .int a1, .int a2, .ref (g.2.2.2.1 122)]) (n := 5) (Nat.le_of_ble_eq_true rfl)
  rw [lg_entry_eq]
  generalize (lg_sl ([.ref (g.2.2.2.1 0), .int a1, .int a2, .ref (g.2.2.2.1 122)]) ++ List.replicate (5 - (lg_sl ([.ref (g.2.2.2.1 0), .int a1, .int a2, .ref (g.2.2.2.1 122)])).length) Slot.unset).toArray = ls at hl ⊢
  have hl : lv_has ls 5 [(0, .ref (g.2.2.2.1 0)), (1, .int a1), (2, .int a2), (3, .ref (g.2.2.2.1 122))] := hl
  refine lv_aload_n (k := 3) hx hb (by decide +kernel : decode cL_positionAt 0 = .ok (.aload_n 3, 1)) rfl (lv_at hl 3 rfl) ?_
  refine lv_iconst (v := 0) hx hb (by decide +kernel : decode cL_positionAt 1 = .ok (.iconst 0, 1)) (by decide) ?_
  refine lv_aload_n (k := 0) hx hb (by decide +kernel : decode cL_positionAt 2 = .ok (.aload_n 0, 1)) rfl (lv_at hl 0 rfl) ?_
  refine lv_iload_n (k := 1) hx hb (by decide +kernel : decode cL_positionAt 3 = .ok (.iload_n 1, 1)) rfl (lv_at hl 1 rfl) ?_
  refine lv_iload_n (k := 2) hx hb (by decide +kernel : decode cL_positionAt 4 = .ok (.iload_n 2, 1)) rfl (lv_at hl 2 rfl) ?_
  refine vx_calli (vx_runV (C := mX9_positionAt.1.cls) (b := g.2.2.2.1 0) (As := [.int a1, .int a2]) (rest := [.int 0, .ref (g.2.2.2.1 122)]) ⟨hx, hb, hml, hown, hts⟩ h' ⟨⟨rfl, rfl, (by show d + 12 + 1 ≤ d + 13; omega), (by show 8 + (mX9_positionAt.2.2.1 + 11) + (60 * d + 300) ≤ 60 * d + 360; have h4 : mX9_positionAt.2.2.1 ≤ 40 := (by decide); omega), (fun w hw' a' U hW => by
      have hin : w ∈ qgw := by
        rcases List.mem_cons.mp hw' with rfl | h9
        · exact lL_positionAt _ (List.mem_of_getElem? (i := 4) rfl)
        · exact h9
      exact word_at hW (qgw_good hin) (hts _ hin)), List.mem_cons_self, hts _ (lL_positionAt _ (List.mem_of_getElem? (i := 4) rfl)), hts _ (lL_positionAt _ (List.mem_of_getElem? (i := 3) rfl)), (by decide), qlen (qM_spec (by decide +kernel)), hts _ (lL_positionAt _ (List.mem_of_getElem? (i := 0) rfl))⟩, hts _ (lL_positionAt _ (List.mem_of_getElem? (i := 1) rfl)), hts _ (lL_positionAt _ (List.mem_of_getElem? (i := 2) rfl))⟩ ⟨qblind, va_recv (q := (RX9, TX9, 4)) hK hP rfl (qW_obj (k := 0) rfl), fun U hU hW => ⟨rfl, by rw [hU]; exact hP, va_K.moved hW.alike hK, qK_warm hq hW (fun a _ _ => by rw [hU]), by rw [hU]; exact hA⟩⟩ rfl rfl hl.1 rfl (lv_room (Nat.le_of_ble_eq_true rfl)) (by decide +kernel : decode cL_positionAt 5 = .ok (.invokevirtual 99, 3)) ⟨(by show 0 + 2 ≤ 2; decide), (by show 0 + 12 ≤ 6 * 2; decide)⟩) hS (fun q _ h9 => h9) (fun q h9 => h9) (fun q _ h9 => h9) (fun E ce q9 u t H1 locs1 ht hvm _ hB hz1 hk1 hS1 hce hcv hcl => ?_) (fun r u t H1 locs1 ht hvm hpost hB hz1 hk1 hS1 => ?_)
  · obtain ⟨hTE, hPo⟩ := hB
    have hE := hT E u hTE
    have hE : E = "java/lang/IndexOutOfBoundsException" ∨ E = "java/lang/IllegalArgumentException" := by simpa using hE
    rcases hE with rfl | rfl
    · refine vx_catch (name := "java/lang/IndexOutOfBoundsException") hown [] ⟨0, 10, 13, 32⟩ [⟨0, 10, 17, 19⟩] htab (fun z hz => absurd hz List.not_mem_nil) (by decide) (by decide) (hts _ cl_ioe) (va_Nw.use rfl (hq.1 _ ca_ioe rfl)) hce hcv hcl ?_
      refine lv_astore hx hb (by decide +kernel : decode cL_positionAt 13 = .ok (.astore 4, 2)) hl (by decide) rfl (fun ls' hl' => ?_)
      refine lv_iconst (v := 1) hx hb (by decide +kernel : decode cL_positionAt 15 = .ok (.iconst 1, 1)) (by decide) ?_
      refine vx_ret (W.widen (k := 2) (n := 12) (by omega) (by omega) (W.iret (v := 1) hx hb hr (fun t2 ht2 hW2 => ⟨⟨1, u, rfl, Or.inr ⟨0, _, rfl, rfl, hTE⟩, by unfold qPost at hPo ⊢; rw [ht2]; rw [ht] at hPo; exact hPo⟩, hS1.F ht2⟩) hS1.2.2 (by decide +kernel : decode cL_positionAt 16 = .ok (.ireturn, 1)) hlocks))
    · refine vx_catch (name := "java/lang/IllegalArgumentException") hown [(⟨0, 10, 13, 32⟩ : ExceptionTableEntry)] ⟨0, 10, 17, 19⟩ [] htab (List.forall_mem_cons.mpr ⟨Or.inr ⟨by decide, "java/lang/IndexOutOfBoundsException", hts _ cl_ioe, hN ("java/lang/IllegalArgumentException", "java/lang/IndexOutOfBoundsException") (by decide)⟩, fun z hz => absurd hz List.not_mem_nil⟩) (by decide) (by decide) (hts _ cl_iae) (va_Nw.use rfl (hq.1 _ ca_iae rfl)) hce hcv hcl ?_
      refine lv_astore hx hb (by decide +kernel : decode cL_positionAt 17 = .ok (.astore 4, 2)) hl (by decide) rfl (fun ls' hl' => ?_)
      refine lv_iconst (v := 2) hx hb (by decide +kernel : decode cL_positionAt 19 = .ok (.iconst 2, 1)) (by decide) ?_
      refine vx_ret (W.widen (k := 2) (n := 12) (by omega) (by omega) (W.iret (v := 2) hx hb hr (fun t2 ht2 hW2 => ⟨⟨2, u, rfl, Or.inr ⟨1, _, rfl, rfl, hTE⟩, by unfold qPost at hPo ⊢; rw [ht2]; rw [ht] at hPo; exact hPo⟩, hS1.F ht2⟩) hS1.2.2 (by decide +kernel : decode cL_positionAt 20 = .ok (.ireturn, 1)) hlocks))
  · unfold qPost at hB
    rw [ht] at hB
    refine lv_i2l (v := r.toInt64) hx hb (by decide +kernel : decode cL_positionAt 8 = .ok (.i2l, 1)) rfl ?_
    refine va_last (D := g.2.2.1) (x := r.toInt64) (i := 0) hx hb hK hB (hw.D u) hS1 122 3 qW_outAt rfl (vp_in_nI (n := 0) (by decide) (by decide)) (by decide +kernel : decode cL_positionAt 9 = .ok (.lastore, 1)) (fun H2 locs2 h1 h2 h3 => ?_)
    rw [qW_outSet] at h1
    refine lv_goto (tgt := 21) hx hb (by decide +kernel : decode cL_positionAt 10 = .ok (.goto 11, 3)) rfl ?_
    refine lv_iconst (v := 0) hx hb (by decide +kernel : decode cL_positionAt 21 = .ok (.iconst 0, 1)) (by decide) ?_
    exact vx_ret (W.widen (k := 2) (n := 12) (by omega) (by omega) (W.iret (v := 0) hx hb hr (fun t2 ht2 hW2 => ⟨⟨0, qup u 122 0 r, rfl, Or.inl ⟨rfl, r, u, hpost, rfl⟩, by unfold qPost; rw [ht2]; exact h1⟩, h3.F ht2⟩) h3.2.2 (by decide +kernel : decode cL_positionAt 22 = .ok (.ireturn, 1)) hlocks))
abbrev hL_visible : List (Nat × Nat × Nat × Nat) := [(0, 10, 13, 32), (0, 10, 17, 85)]
abbrev eL_visible : List String := ["java/lang/IndexOutOfBoundsException", "java/util/NoSuchElementException"]
theorem lL_visible : ∀ w ∈ ([.methodLink RL 102 mX9_visible.1, .instanceMethod mX9_visible.1, .selects mX9_visible.1.cls mX9_visible.1 mX9_visible.1] ++ qcw mX9_visible : List Jvm.Cond), w ∈ qgw := qgw_of [1345, 1346, 1347, 119, 1348] (by decide +kernel) (by decide +kernel)
set_option maxRecDepth 100000 in
set_option maxHeartbeats 4000000 in
theorem lw_visible {g : qG} (hw : qWF g) {d : Nat} {σ : qS} {a1 a2 : Int32} {Q : Int32 → qS → Prop} {T : String → qS → Prop} (hT : ∀ E u, T E u → E ∈ eL_visible) (h : qC g d mX9_visible [.inr 0, .inl a1, .inl a2] σ Q T) : Met g.1 yL_visible (.codeWith yL_visible cL_visible 5 (some .int) hL_visible :: qgw) (lrm 2 d) (va_Pc [.ref (g.2.2.2.1 0), .int a1, .int a2, .ref (g.2.2.2.1 122)] (lPre g σ)) (va_Qi (lQ eL_visible Q T) (qPost g) g.2.1) 2 12 g.2.1 := by
  have h' : vx_Met g.1 mX9_visible.1 (qws mX9_visible) (qrm mX9_visible d) (va_Pc ([Sum.inr 0, Sum.inl a1, Sum.inl a2].map (qv g.2.2.2.1)) (qPre g σ)) (va_Qi Q (qPost g) g.2.1) (qXc g T) 2 12 g.2.1 := h
  refine met_of_vx (vx_ofWH (cc := cL_visible) (maxL := 5) (ret := some .int) (hh := hL_visible) (by decide) rfl ?_)
  intro p e s m args below meth c s₁ B hml hv
  obtain ⟨rfl, ⟨hP, hK, hq, hA⟩, hN⟩ := hv
  have hx := B.exec
  have hb := B.bytes
  have hr := B.returns
  have hts0 := atoms_spec (ws := .codeWith yL_visible cL_visible 5 (some .int) hL_visible :: qgw) B.pre
  have htab := vx_table (x := yL_visible) B (hts0 _ List.mem_cons_self)
  have hts : ∀ w ∈ qgw, w.before _ s = true := fun w hw => hts0 w (List.mem_cons_of_mem _ hw)
  have hown : s.vm.findClass RL = some m.cls := findClass_of_methodNamed B.named
  have hlocks := B.notSynchronized
  have hS : va_S g.2.1 s.heap s.heap [] := va_S.rf
  have hl := lv_entry ([.ref (g.2.2.2.1 0), .int a1, .int a2, .ref (g.2.2.2.1 122)]) (n := 5) (Nat.le_of_ble_eq_true rfl)
  rw [lg_entry_eq]
  generalize (lg_sl ([.ref (g.2.2.2.1 0), .int a1, .int a2, .ref (g.2.2.2.1 122)]) ++ List.replicate (5 - (lg_sl ([.ref (g.2.2.2.1 0), .int a1, .int a2, .ref (g.2.2.2.1 122)])).length) Slot.unset).toArray = ls at hl ⊢
  have hl : lv_has ls 5 [(0, .ref (g.2.2.2.1 0)), (1, .int a1), (2, .int a2), (3, .ref (g.2.2.2.1 122))] := hl
  refine lv_aload_n (k := 3) hx hb (by decide +kernel : decode cL_visible 0 = .ok (.aload_n 3, 1)) rfl (lv_at hl 3 rfl) ?_
  refine lv_iconst (v := 0) hx hb (by decide +kernel : decode cL_visible 1 = .ok (.iconst 0, 1)) (by decide) ?_
  refine lv_aload_n (k := 0) hx hb (by decide +kernel : decode cL_visible 2 = .ok (.aload_n 0, 1)) rfl (lv_at hl 0 rfl) ?_
  refine lv_iload_n (k := 1) hx hb (by decide +kernel : decode cL_visible 3 = .ok (.iload_n 1, 1)) rfl (lv_at hl 1 rfl) ?_
  refine lv_iload_n (k := 2) hx hb (by decide +kernel : decode cL_visible 4 = .ok (.iload_n 2, 1)) rfl (lv_at hl 2 rfl) ?_
  refine vx_calli (vx_runV (C := mX9_visible.1.cls) (b := g.2.2.2.1 0) (As := [.int a1, .int a2]) (rest := [.int 0, .ref (g.2.2.2.1 122)]) ⟨hx, hb, hml, hown, hts⟩ h' ⟨⟨rfl, rfl, (by show d + 12 + 1 ≤ d + 13; omega), (by show 8 + (mX9_visible.2.2.1 + 11) + (60 * d + 300) ≤ 60 * d + 360; have h4 : mX9_visible.2.2.1 ≤ 40 := (by decide); omega), (fun w hw' a' U hW => by
      have hin : w ∈ qgw := by
        rcases List.mem_cons.mp hw' with rfl | h9
        · exact lL_visible _ (List.mem_of_getElem? (i := 4) rfl)
        · exact h9
      exact word_at hW (qgw_good hin) (hts _ hin)), List.mem_cons_self, hts _ (lL_visible _ (List.mem_of_getElem? (i := 4) rfl)), hts _ (lL_visible _ (List.mem_of_getElem? (i := 3) rfl)), (by decide), qlen (qM_spec (by decide +kernel)), hts _ (lL_visible _ (List.mem_of_getElem? (i := 0) rfl))⟩, hts _ (lL_visible _ (List.mem_of_getElem? (i := 1) rfl)), hts _ (lL_visible _ (List.mem_of_getElem? (i := 2) rfl))⟩ ⟨qblind, va_recv (q := (RX9, TX9, 4)) hK hP rfl (qW_obj (k := 0) rfl), fun U hU hW => ⟨rfl, by rw [hU]; exact hP, va_K.moved hW.alike hK, qK_warm hq hW (fun a _ _ => by rw [hU]), by rw [hU]; exact hA⟩⟩ rfl rfl hl.1 rfl (lv_room (Nat.le_of_ble_eq_true rfl)) (by decide +kernel : decode cL_visible 5 = .ok (.invokevirtual 102, 3)) ⟨(by show 0 + 2 ≤ 2; decide), (by show 0 + 12 ≤ 6 * 2; decide)⟩) hS (fun q _ h9 => h9) (fun q h9 => h9) (fun q _ h9 => h9) (fun E ce q9 u t H1 locs1 ht hvm _ hB hz1 hk1 hS1 hce hcv hcl => ?_) (fun r u t H1 locs1 ht hvm hpost hB hz1 hk1 hS1 => ?_)
  · obtain ⟨hTE, hPo⟩ := hB
    have hE := hT E u hTE
    have hE : E = "java/lang/IndexOutOfBoundsException" ∨ E = "java/util/NoSuchElementException" := by simpa using hE
    rcases hE with rfl | rfl
    · refine vx_catch (name := "java/lang/IndexOutOfBoundsException") hown [] ⟨0, 10, 13, 32⟩ [⟨0, 10, 17, 85⟩] htab (fun z hz => absurd hz List.not_mem_nil) (by decide) (by decide) (hts _ cl_ioe) (va_Nw.use rfl (hq.1 _ ca_ioe rfl)) hce hcv hcl ?_
      refine lv_astore hx hb (by decide +kernel : decode cL_visible 13 = .ok (.astore 4, 2)) hl (by decide) rfl (fun ls' hl' => ?_)
      refine lv_iconst (v := 1) hx hb (by decide +kernel : decode cL_visible 15 = .ok (.iconst 1, 1)) (by decide) ?_
      refine vx_ret (W.widen (k := 2) (n := 12) (by omega) (by omega) (W.iret (v := 1) hx hb hr (fun t2 ht2 hW2 => ⟨⟨1, u, rfl, Or.inr ⟨0, _, rfl, rfl, hTE⟩, by unfold qPost at hPo ⊢; rw [ht2]; rw [ht] at hPo; exact hPo⟩, hS1.F ht2⟩) hS1.2.2 (by decide +kernel : decode cL_visible 16 = .ok (.ireturn, 1)) hlocks))
    · refine vx_catch (name := "java/util/NoSuchElementException") hown [(⟨0, 10, 13, 32⟩ : ExceptionTableEntry)] ⟨0, 10, 17, 85⟩ [] htab (List.forall_mem_cons.mpr ⟨Or.inr ⟨by decide, "java/lang/IndexOutOfBoundsException", hts _ cl_ioe, hN ("java/util/NoSuchElementException", "java/lang/IndexOutOfBoundsException") (by decide)⟩, fun z hz => absurd hz List.not_mem_nil⟩) (by decide) (by decide) (hts _ cl_nse) (va_Nw.use rfl (hq.1 _ ca_nse rfl)) hce hcv hcl ?_
      refine lv_astore hx hb (by decide +kernel : decode cL_visible 17 = .ok (.astore 4, 2)) hl (by decide) rfl (fun ls' hl' => ?_)
      refine lv_iconst (v := 2) hx hb (by decide +kernel : decode cL_visible 19 = .ok (.iconst 2, 1)) (by decide) ?_
      refine vx_ret (W.widen (k := 2) (n := 12) (by omega) (by omega) (W.iret (v := 2) hx hb hr (fun t2 ht2 hW2 => ⟨⟨2, u, rfl, Or.inr ⟨1, _, rfl, rfl, hTE⟩, by unfold qPost at hPo ⊢; rw [ht2]; rw [ht] at hPo; exact hPo⟩, hS1.F ht2⟩) hS1.2.2 (by decide +kernel : decode cL_visible 20 = .ok (.ireturn, 1)) hlocks))
  · unfold qPost at hB
    rw [ht] at hB
    refine lv_i2l (v := r.toInt64) hx hb (by decide +kernel : decode cL_visible 8 = .ok (.i2l, 1)) rfl ?_
    refine va_last (D := g.2.2.1) (x := r.toInt64) (i := 0) hx hb hK hB (hw.D u) hS1 122 3 qW_outAt rfl (vp_in_nI (n := 0) (by decide) (by decide)) (by decide +kernel : decode cL_visible 9 = .ok (.lastore, 1)) (fun H2 locs2 h1 h2 h3 => ?_)
    rw [qW_outSet] at h1
    refine lv_goto (tgt := 21) hx hb (by decide +kernel : decode cL_visible 10 = .ok (.goto 11, 3)) rfl ?_
    refine lv_iconst (v := 0) hx hb (by decide +kernel : decode cL_visible 21 = .ok (.iconst 0, 1)) (by decide) ?_
    exact vx_ret (W.widen (k := 2) (n := 12) (by omega) (by omega) (W.iret (v := 0) hx hb hr (fun t2 ht2 hW2 => ⟨⟨0, qup u 122 0 r, rfl, Or.inl ⟨rfl, r, u, hpost, rfl⟩, by unfold qPost; rw [ht2]; exact h1⟩, h3.F ht2⟩) h3.2.2 (by decide +kernel : decode cL_visible 22 = .ok (.ireturn, 1)) hlocks))
abbrev hL_consumer : List (Nat × Nat × Nat × Nat) := [(0, 10, 13, 32), (0, 10, 17, 19)]
abbrev eL_consumer : List String := ["java/lang/IndexOutOfBoundsException", "java/lang/IllegalArgumentException"]
theorem lL_consumer : ∀ w ∈ ([.methodLink RL 105 mX9_consumer.1, .instanceMethod mX9_consumer.1, .selects mX9_consumer.1.cls mX9_consumer.1 mX9_consumer.1] ++ qcw mX9_consumer : List Jvm.Cond), w ∈ qgw := qgw_of [1353, 1354, 1355, 119, 1356] (by decide +kernel) (by decide +kernel)
set_option maxRecDepth 100000 in
set_option maxHeartbeats 4000000 in
theorem lw_consumer {g : qG} (hw : qWF g) {d : Nat} {σ : qS} {a1 a2 : Int32} {Q : Int32 → qS → Prop} {T : String → qS → Prop} (hT : ∀ E u, T E u → E ∈ eL_consumer) (h : qC g d mX9_consumer [.inr 0, .inl a1, .inl a2] σ Q T) : Met g.1 yL_consumer (.codeWith yL_consumer cL_consumer 5 (some .int) hL_consumer :: qgw) (lrm 2 d) (va_Pc [.ref (g.2.2.2.1 0), .int a1, .int a2, .ref (g.2.2.2.1 122)] (lPre g σ)) (va_Qi (lQ eL_consumer Q T) (qPost g) g.2.1) 2 12 g.2.1 := by
  have h' : vx_Met g.1 mX9_consumer.1 (qws mX9_consumer) (qrm mX9_consumer d) (va_Pc ([Sum.inr 0, Sum.inl a1, Sum.inl a2].map (qv g.2.2.2.1)) (qPre g σ)) (va_Qi Q (qPost g) g.2.1) (qXc g T) 2 12 g.2.1 := h
  refine met_of_vx (vx_ofWH (cc := cL_consumer) (maxL := 5) (ret := some .int) (hh := hL_consumer) (by decide) rfl ?_)
  intro p e s m args below meth c s₁ B hml hv
  obtain ⟨rfl, ⟨hP, hK, hq, hA⟩, hN⟩ := hv
  have hx := B.exec
  have hb := B.bytes
  have hr := B.returns
  have hts0 := atoms_spec (ws := .codeWith yL_consumer cL_consumer 5 (some .int) hL_consumer :: qgw) B.pre
  have htab := vx_table (x := yL_consumer) B (hts0 _ List.mem_cons_self)
  have hts : ∀ w ∈ qgw, w.before _ s = true := fun w hw => hts0 w (List.mem_cons_of_mem _ hw)
  have hown : s.vm.findClass RL = some m.cls := findClass_of_methodNamed B.named
  have hlocks := B.notSynchronized
  have hS : va_S g.2.1 s.heap s.heap [] := va_S.rf
  have hl := lv_entry ([.ref (g.2.2.2.1 0), .int a1, .int a2, .ref (g.2.2.2.1 122)]) (n := 5) (Nat.le_of_ble_eq_true rfl)
  rw [lg_entry_eq]
  generalize (lg_sl ([.ref (g.2.2.2.1 0), .int a1, .int a2, .ref (g.2.2.2.1 122)]) ++ List.replicate (5 - (lg_sl ([.ref (g.2.2.2.1 0), .int a1, .int a2, .ref (g.2.2.2.1 122)])).length) Slot.unset).toArray = ls at hl ⊢
  have hl : lv_has ls 5 [(0, .ref (g.2.2.2.1 0)), (1, .int a1), (2, .int a2), (3, .ref (g.2.2.2.1 122))] := hl
  refine lv_aload_n (k := 3) hx hb (by decide +kernel : decode cL_consumer 0 = .ok (.aload_n 3, 1)) rfl (lv_at hl 3 rfl) ?_
  refine lv_iconst (v := 0) hx hb (by decide +kernel : decode cL_consumer 1 = .ok (.iconst 0, 1)) (by decide) ?_
  refine lv_aload_n (k := 0) hx hb (by decide +kernel : decode cL_consumer 2 = .ok (.aload_n 0, 1)) rfl (lv_at hl 0 rfl) ?_
  refine lv_iload_n (k := 1) hx hb (by decide +kernel : decode cL_consumer 3 = .ok (.iload_n 1, 1)) rfl (lv_at hl 1 rfl) ?_
  refine lv_iload_n (k := 2) hx hb (by decide +kernel : decode cL_consumer 4 = .ok (.iload_n 2, 1)) rfl (lv_at hl 2 rfl) ?_
  refine vx_calli (vx_runV (C := mX9_consumer.1.cls) (b := g.2.2.2.1 0) (As := [.int a1, .int a2]) (rest := [.int 0, .ref (g.2.2.2.1 122)]) ⟨hx, hb, hml, hown, hts⟩ h' ⟨⟨rfl, rfl, (by show d + 12 + 1 ≤ d + 13; omega), (by show 8 + (mX9_consumer.2.2.1 + 11) + (60 * d + 300) ≤ 60 * d + 360; have h4 : mX9_consumer.2.2.1 ≤ 40 := (by decide); omega), (fun w hw' a' U hW => by
      have hin : w ∈ qgw := by
        rcases List.mem_cons.mp hw' with rfl | h9
        · exact lL_consumer _ (List.mem_of_getElem? (i := 4) rfl)
        · exact h9
      exact word_at hW (qgw_good hin) (hts _ hin)), List.mem_cons_self, hts _ (lL_consumer _ (List.mem_of_getElem? (i := 4) rfl)), hts _ (lL_consumer _ (List.mem_of_getElem? (i := 3) rfl)), (by decide), qlen (qM_spec (by decide +kernel)), hts _ (lL_consumer _ (List.mem_of_getElem? (i := 0) rfl))⟩, hts _ (lL_consumer _ (List.mem_of_getElem? (i := 1) rfl)), hts _ (lL_consumer _ (List.mem_of_getElem? (i := 2) rfl))⟩ ⟨qblind, va_recv (q := (RX9, TX9, 4)) hK hP rfl (qW_obj (k := 0) rfl), fun U hU hW => ⟨rfl, by rw [hU]; exact hP, va_K.moved hW.alike hK, qK_warm hq hW (fun a _ _ => by rw [hU]), by rw [hU]; exact hA⟩⟩ rfl rfl hl.1 rfl (lv_room (Nat.le_of_ble_eq_true rfl)) (by decide +kernel : decode cL_consumer 5 = .ok (.invokevirtual 105, 3)) ⟨(by show 0 + 2 ≤ 2; decide), (by show 0 + 12 ≤ 6 * 2; decide)⟩) hS (fun q _ h9 => h9) (fun q h9 => h9) (fun q _ h9 => h9) (fun E ce q9 u t H1 locs1 ht hvm _ hB hz1 hk1 hS1 hce hcv hcl => ?_) (fun r u t H1 locs1 ht hvm hpost hB hz1 hk1 hS1 => ?_)
  · obtain ⟨hTE, hPo⟩ := hB
    have hE := hT E u hTE
    have hE : E = "java/lang/IndexOutOfBoundsException" ∨ E = "java/lang/IllegalArgumentException" := by simpa using hE
    rcases hE with rfl | rfl
    · refine vx_catch (name := "java/lang/IndexOutOfBoundsException") hown [] ⟨0, 10, 13, 32⟩ [⟨0, 10, 17, 19⟩] htab (fun z hz => absurd hz List.not_mem_nil) (by decide) (by decide) (hts _ cl_ioe) (va_Nw.use rfl (hq.1 _ ca_ioe rfl)) hce hcv hcl ?_
      refine lv_astore hx hb (by decide +kernel : decode cL_consumer 13 = .ok (.astore 4, 2)) hl (by decide) rfl (fun ls' hl' => ?_)
      refine lv_iconst (v := 1) hx hb (by decide +kernel : decode cL_consumer 15 = .ok (.iconst 1, 1)) (by decide) ?_
      refine vx_ret (W.widen (k := 2) (n := 12) (by omega) (by omega) (W.iret (v := 1) hx hb hr (fun t2 ht2 hW2 => ⟨⟨1, u, rfl, Or.inr ⟨0, _, rfl, rfl, hTE⟩, by unfold qPost at hPo ⊢; rw [ht2]; rw [ht] at hPo; exact hPo⟩, hS1.F ht2⟩) hS1.2.2 (by decide +kernel : decode cL_consumer 16 = .ok (.ireturn, 1)) hlocks))
    · refine vx_catch (name := "java/lang/IllegalArgumentException") hown [(⟨0, 10, 13, 32⟩ : ExceptionTableEntry)] ⟨0, 10, 17, 19⟩ [] htab (List.forall_mem_cons.mpr ⟨Or.inr ⟨by decide, "java/lang/IndexOutOfBoundsException", hts _ cl_ioe, hN ("java/lang/IllegalArgumentException", "java/lang/IndexOutOfBoundsException") (by decide)⟩, fun z hz => absurd hz List.not_mem_nil⟩) (by decide) (by decide) (hts _ cl_iae) (va_Nw.use rfl (hq.1 _ ca_iae rfl)) hce hcv hcl ?_
      refine lv_astore hx hb (by decide +kernel : decode cL_consumer 17 = .ok (.astore 4, 2)) hl (by decide) rfl (fun ls' hl' => ?_)
      refine lv_iconst (v := 2) hx hb (by decide +kernel : decode cL_consumer 19 = .ok (.iconst 2, 1)) (by decide) ?_
      refine vx_ret (W.widen (k := 2) (n := 12) (by omega) (by omega) (W.iret (v := 2) hx hb hr (fun t2 ht2 hW2 => ⟨⟨2, u, rfl, Or.inr ⟨1, _, rfl, rfl, hTE⟩, by unfold qPost at hPo ⊢; rw [ht2]; rw [ht] at hPo; exact hPo⟩, hS1.F ht2⟩) hS1.2.2 (by decide +kernel : decode cL_consumer 20 = .ok (.ireturn, 1)) hlocks))
  · unfold qPost at hB
    rw [ht] at hB
    refine lv_i2l (v := r.toInt64) hx hb (by decide +kernel : decode cL_consumer 8 = .ok (.i2l, 1)) rfl ?_
    refine va_last (D := g.2.2.1) (x := r.toInt64) (i := 0) hx hb hK hB (hw.D u) hS1 122 3 qW_outAt rfl (vp_in_nI (n := 0) (by decide) (by decide)) (by decide +kernel : decode cL_consumer 9 = .ok (.lastore, 1)) (fun H2 locs2 h1 h2 h3 => ?_)
    rw [qW_outSet] at h1
    refine lv_goto (tgt := 21) hx hb (by decide +kernel : decode cL_consumer 10 = .ok (.goto 11, 3)) rfl ?_
    refine lv_iconst (v := 0) hx hb (by decide +kernel : decode cL_consumer 21 = .ok (.iconst 0, 1)) (by decide) ?_
    exact vx_ret (W.widen (k := 2) (n := 12) (by omega) (by omega) (W.iret (v := 0) hx hb hr (fun t2 ht2 hW2 => ⟨⟨0, qup u 122 0 r, rfl, Or.inl ⟨rfl, r, u, hpost, rfl⟩, by unfold qPost; rw [ht2]; exact h1⟩, h3.F ht2⟩) h3.2.2 (by decide +kernel : decode cL_consumer 22 = .ok (.ireturn, 1)) hlocks))
abbrev hL_slowest : List (Nat × Nat × Nat × Nat) := [(0, 8, 11, 85)]
abbrev eL_slowest : List String := ["java/util/NoSuchElementException"]
theorem lL_slowest : ∀ w ∈ ([.methodLink RL 111 mX9_slowest.1, .instanceMethod mX9_slowest.1, .selects mX9_slowest.1.cls mX9_slowest.1 mX9_slowest.1] ++ qcw mX9_slowest : List Jvm.Cond), w ∈ qgw := qgw_of [1380, 1381, 1382, 119, 1383] (by decide +kernel) (by decide +kernel)
set_option maxRecDepth 100000 in
set_option maxHeartbeats 4000000 in
theorem lw_slowest {g : qG} (hw : qWF g) {d : Nat} {σ : qS} {Q : Int32 → qS → Prop} {T : String → qS → Prop} (hT : ∀ E u, T E u → E ∈ eL_slowest) (h : qC g d mX9_slowest [.inr 0] σ Q T) : Met g.1 yL_slowest (.codeWith yL_slowest cL_slowest 3 (some .int) hL_slowest :: qgw) (lrm 1 d) (va_Pc [.ref (g.2.2.2.1 0), .ref (g.2.2.2.1 122)] (lPre g σ)) (va_Qi (lQ eL_slowest Q T) (qPost g) g.2.1) 1 6 g.2.1 := by
  have h' : vx_Met g.1 mX9_slowest.1 (qws mX9_slowest) (qrm mX9_slowest d) (va_Pc ([Sum.inr 0].map (qv g.2.2.2.1)) (qPre g σ)) (va_Qi Q (qPost g) g.2.1) (qXc g T) 1 6 g.2.1 := h
  refine met_of_vx (vx_ofWH (cc := cL_slowest) (maxL := 3) (ret := some .int) (hh := hL_slowest) (by decide) rfl ?_)
  intro p e s m args below meth c s₁ B hml hv
  obtain ⟨rfl, ⟨hP, hK, hq, hA⟩, hN⟩ := hv
  have hx := B.exec
  have hb := B.bytes
  have hr := B.returns
  have hts0 := atoms_spec (ws := .codeWith yL_slowest cL_slowest 3 (some .int) hL_slowest :: qgw) B.pre
  have htab := vx_table (x := yL_slowest) B (hts0 _ List.mem_cons_self)
  have hts : ∀ w ∈ qgw, w.before _ s = true := fun w hw => hts0 w (List.mem_cons_of_mem _ hw)
  have hown : s.vm.findClass RL = some m.cls := findClass_of_methodNamed B.named
  have hlocks := B.notSynchronized
  have hS : va_S g.2.1 s.heap s.heap [] := va_S.rf
  have hl := lv_entry ([.ref (g.2.2.2.1 0), .ref (g.2.2.2.1 122)]) (n := 3) (Nat.le_of_ble_eq_true rfl)
  rw [lg_entry_eq]
  generalize (lg_sl ([.ref (g.2.2.2.1 0), .ref (g.2.2.2.1 122)]) ++ List.replicate (3 - (lg_sl ([.ref (g.2.2.2.1 0), .ref (g.2.2.2.1 122)])).length) Slot.unset).toArray = ls at hl ⊢
  have hl : lv_has ls 3 [(0, .ref (g.2.2.2.1 0)), (1, .ref (g.2.2.2.1 122))] := hl
  refine lv_aload_n (k := 1) hx hb (by decide +kernel : decode cL_slowest 0 = .ok (.aload_n 1, 1)) rfl (lv_at hl 1 rfl) ?_
  refine lv_iconst (v := 0) hx hb (by decide +kernel : decode cL_slowest 1 = .ok (.iconst 0, 1)) (by decide) ?_
  refine lv_aload_n (k := 0) hx hb (by decide +kernel : decode cL_slowest 2 = .ok (.aload_n 0, 1)) rfl (lv_at hl 0 rfl) ?_
  refine vx_calli (vx_runV (C := mX9_slowest.1.cls) (b := g.2.2.2.1 0) (As := []) (rest := [.int 0, .ref (g.2.2.2.1 122)]) ⟨hx, hb, hml, hown, hts⟩ h' ⟨⟨rfl, rfl, (by show d + 12 + 1 ≤ d + 13; omega), (by show 8 + (mX9_slowest.2.2.1 + 11) + (60 * d + 300) ≤ 60 * d + 360; have h4 : mX9_slowest.2.2.1 ≤ 40 := (by decide); omega), (fun w hw' a' U hW => by
      have hin : w ∈ qgw := by
        rcases List.mem_cons.mp hw' with rfl | h9
        · exact lL_slowest _ (List.mem_of_getElem? (i := 4) rfl)
        · exact h9
      exact word_at hW (qgw_good hin) (hts _ hin)), List.mem_cons_self, hts _ (lL_slowest _ (List.mem_of_getElem? (i := 4) rfl)), hts _ (lL_slowest _ (List.mem_of_getElem? (i := 3) rfl)), (by decide), qlen (qM_spec (by decide +kernel)), hts _ (lL_slowest _ (List.mem_of_getElem? (i := 0) rfl))⟩, hts _ (lL_slowest _ (List.mem_of_getElem? (i := 1) rfl)), hts _ (lL_slowest _ (List.mem_of_getElem? (i := 2) rfl))⟩ ⟨qblind, va_recv (q := (RX9, TX9, 4)) hK hP rfl (qW_obj (k := 0) rfl), fun U hU hW => ⟨rfl, by rw [hU]; exact hP, va_K.moved hW.alike hK, qK_warm hq hW (fun a _ _ => by rw [hU]), by rw [hU]; exact hA⟩⟩ rfl rfl hl.1 rfl (lv_room (Nat.le_of_ble_eq_true rfl)) (by decide +kernel : decode cL_slowest 3 = .ok (.invokevirtual 111, 3)) ⟨(by show 0 + 1 ≤ 1; decide), (by show 0 + 6 ≤ 6 * 1; decide)⟩) hS (fun q _ h9 => h9) (fun q h9 => h9) (fun q _ h9 => h9) (fun E ce q9 u t H1 locs1 ht hvm _ hB hz1 hk1 hS1 hce hcv hcl => ?_) (fun r u t H1 locs1 ht hvm hpost hB hz1 hk1 hS1 => ?_)
  · obtain ⟨hTE, hPo⟩ := hB
    have hE := hT E u hTE
    obtain rfl : E = "java/util/NoSuchElementException" := by simpa using hE
    refine vx_catch (name := "java/util/NoSuchElementException") hown [] ⟨0, 8, 11, 85⟩ [] htab (fun z hz => absurd hz List.not_mem_nil) (by decide) (by decide) (hts _ cl_nse) (va_Nw.use rfl (hq.1 _ ca_nse rfl)) hce hcv hcl ?_
    refine lv_astore_n (k := 2) hx hb (by decide +kernel : decode cL_slowest 11 = .ok (.astore_n 2, 1)) rfl hl (by decide) rfl (fun ls' hl' => ?_)
    refine lv_iconst (v := 1) hx hb (by decide +kernel : decode cL_slowest 12 = .ok (.iconst 1, 1)) (by decide) ?_
    refine vx_ret (W.widen (k := 1) (n := 6) (by omega) (by omega) (W.iret (v := 1) hx hb hr (fun t2 ht2 hW2 => ⟨⟨1, u, rfl, Or.inr ⟨0, _, rfl, rfl, hTE⟩, by unfold qPost at hPo ⊢; rw [ht2]; rw [ht] at hPo; exact hPo⟩, hS1.F ht2⟩) hS1.2.2 (by decide +kernel : decode cL_slowest 13 = .ok (.ireturn, 1)) hlocks))
  · unfold qPost at hB
    rw [ht] at hB
    refine lv_i2l (v := r.toInt64) hx hb (by decide +kernel : decode cL_slowest 6 = .ok (.i2l, 1)) rfl ?_
    refine va_last (D := g.2.2.1) (x := r.toInt64) (i := 0) hx hb hK hB (hw.D u) hS1 122 3 qW_outAt rfl (vp_in_nI (n := 0) (by decide) (by decide)) (by decide +kernel : decode cL_slowest 7 = .ok (.lastore, 1)) (fun H2 locs2 h1 h2 h3 => ?_)
    rw [qW_outSet] at h1
    refine lv_goto (tgt := 14) hx hb (by decide +kernel : decode cL_slowest 8 = .ok (.goto 6, 3)) rfl ?_
    refine lv_iconst (v := 0) hx hb (by decide +kernel : decode cL_slowest 14 = .ok (.iconst 0, 1)) (by decide) ?_
    exact vx_ret (W.widen (k := 1) (n := 6) (by omega) (by omega) (W.iret (v := 0) hx hb hr (fun t2 ht2 hW2 => ⟨⟨0, qup u 122 0 r, rfl, Or.inl ⟨rfl, r, u, hpost, rfl⟩, by unfold qPost; rw [ht2]; exact h1⟩, h3.F ht2⟩) h3.2.2 (by decide +kernel : decode cL_slowest 15 = .ok (.ireturn, 1)) hlocks))
abbrev hL_wouldFree : List (Nat × Nat × Nat × Nat) := [(0, 9, 12, 32)]
abbrev eL_wouldFree : List String := ["java/lang/IndexOutOfBoundsException"]
theorem lL_wouldFree : ∀ w ∈ ([.methodLink RL 114 mX9_wouldFree.1, .instanceMethod mX9_wouldFree.1, .selects mX9_wouldFree.1.cls mX9_wouldFree.1 mX9_wouldFree.1] ++ qcw mX9_wouldFree : List Jvm.Cond), w ∈ qgw := qgw_of [1388, 1389, 1390, 119, 1391] (by decide +kernel) (by decide +kernel)
set_option maxRecDepth 100000 in
set_option maxHeartbeats 4000000 in
theorem lw_wouldFree {g : qG} (hw : qWF g) {d : Nat} {σ : qS} {a1 : Int32} {Q : Int32 → qS → Prop} {T : String → qS → Prop} (hT : ∀ E u, T E u → E ∈ eL_wouldFree) (h : qC g d mX9_wouldFree [.inr 0, .inl a1] σ Q T) : Met g.1 yL_wouldFree (.codeWith yL_wouldFree cL_wouldFree 4 (some .int) hL_wouldFree :: qgw) (lrm 1 d) (va_Pc [.ref (g.2.2.2.1 0), .int a1, .ref (g.2.2.2.1 122)] (lPre g σ)) (va_Qi (lQ eL_wouldFree Q T) (qPost g) g.2.1) 1 6 g.2.1 := by
  have h' : vx_Met g.1 mX9_wouldFree.1 (qws mX9_wouldFree) (qrm mX9_wouldFree d) (va_Pc ([Sum.inr 0, Sum.inl a1].map (qv g.2.2.2.1)) (qPre g σ)) (va_Qi Q (qPost g) g.2.1) (qXc g T) 1 6 g.2.1 := h
  refine met_of_vx (vx_ofWH (cc := cL_wouldFree) (maxL := 4) (ret := some .int) (hh := hL_wouldFree) (by decide) rfl ?_)
  intro p e s m args below meth c s₁ B hml hv
  obtain ⟨rfl, ⟨hP, hK, hq, hA⟩, hN⟩ := hv
  have hx := B.exec
  have hb := B.bytes
  have hr := B.returns
  have hts0 := atoms_spec (ws := .codeWith yL_wouldFree cL_wouldFree 4 (some .int) hL_wouldFree :: qgw) B.pre
  have htab := vx_table (x := yL_wouldFree) B (hts0 _ List.mem_cons_self)
  have hts : ∀ w ∈ qgw, w.before _ s = true := fun w hw => hts0 w (List.mem_cons_of_mem _ hw)
  have hown : s.vm.findClass RL = some m.cls := findClass_of_methodNamed B.named
  have hlocks := B.notSynchronized
  have hS : va_S g.2.1 s.heap s.heap [] := va_S.rf
  have hl := lv_entry ([.ref (g.2.2.2.1 0), .int a1, .ref (g.2.2.2.1 122)]) (n := 4) (Nat.le_of_ble_eq_true rfl)
  rw [lg_entry_eq]
  generalize (lg_sl ([.ref (g.2.2.2.1 0), .int a1, .ref (g.2.2.2.1 122)]) ++ List.replicate (4 - (lg_sl ([.ref (g.2.2.2.1 0), .int a1, .ref (g.2.2.2.1 122)])).length) Slot.unset).toArray = ls at hl ⊢
  have hl : lv_has ls 4 [(0, .ref (g.2.2.2.1 0)), (1, .int a1), (2, .ref (g.2.2.2.1 122))] := hl
  refine lv_aload_n (k := 2) hx hb (by decide +kernel : decode cL_wouldFree 0 = .ok (.aload_n 2, 1)) rfl (lv_at hl 2 rfl) ?_
  refine lv_iconst (v := 0) hx hb (by decide +kernel : decode cL_wouldFree 1 = .ok (.iconst 0, 1)) (by decide) ?_
  refine lv_aload_n (k := 0) hx hb (by decide +kernel : decode cL_wouldFree 2 = .ok (.aload_n 0, 1)) rfl (lv_at hl 0 rfl) ?_
  refine lv_iload_n (k := 1) hx hb (by decide +kernel : decode cL_wouldFree 3 = .ok (.iload_n 1, 1)) rfl (lv_at hl 1 rfl) ?_
  refine vx_calli (vx_runV (C := mX9_wouldFree.1.cls) (b := g.2.2.2.1 0) (As := [.int a1]) (rest := [.int 0, .ref (g.2.2.2.1 122)]) ⟨hx, hb, hml, hown, hts⟩ h' ⟨⟨rfl, rfl, (by show d + 12 + 1 ≤ d + 13; omega), (by show 8 + (mX9_wouldFree.2.2.1 + 11) + (60 * d + 300) ≤ 60 * d + 360; have h4 : mX9_wouldFree.2.2.1 ≤ 40 := (by decide); omega), (fun w hw' a' U hW => by
      have hin : w ∈ qgw := by
        rcases List.mem_cons.mp hw' with rfl | h9
        · exact lL_wouldFree _ (List.mem_of_getElem? (i := 4) rfl)
        · exact h9
      exact word_at hW (qgw_good hin) (hts _ hin)), List.mem_cons_self, hts _ (lL_wouldFree _ (List.mem_of_getElem? (i := 4) rfl)), hts _ (lL_wouldFree _ (List.mem_of_getElem? (i := 3) rfl)), (by decide), qlen (qM_spec (by decide +kernel)), hts _ (lL_wouldFree _ (List.mem_of_getElem? (i := 0) rfl))⟩, hts _ (lL_wouldFree _ (List.mem_of_getElem? (i := 1) rfl)), hts _ (lL_wouldFree _ (List.mem_of_getElem? (i := 2) rfl))⟩ ⟨qblind, va_recv (q := (RX9, TX9, 4)) hK hP rfl (qW_obj (k := 0) rfl), fun U hU hW => ⟨rfl, by rw [hU]; exact hP, va_K.moved hW.alike hK, qK_warm hq hW (fun a _ _ => by rw [hU]), by rw [hU]; exact hA⟩⟩ rfl rfl hl.1 rfl (lv_room (Nat.le_of_ble_eq_true rfl)) (by decide +kernel : decode cL_wouldFree 4 = .ok (.invokevirtual 114, 3)) ⟨(by show 0 + 1 ≤ 1; decide), (by show 0 + 6 ≤ 6 * 1; decide)⟩) hS (fun q _ h9 => h9) (fun q h9 => h9) (fun q _ h9 => h9) (fun E ce q9 u t H1 locs1 ht hvm _ hB hz1 hk1 hS1 hce hcv hcl => ?_) (fun r u t H1 locs1 ht hvm hpost hB hz1 hk1 hS1 => ?_)
  · obtain ⟨hTE, hPo⟩ := hB
    have hE := hT E u hTE
    obtain rfl : E = "java/lang/IndexOutOfBoundsException" := by simpa using hE
    refine vx_catch (name := "java/lang/IndexOutOfBoundsException") hown [] ⟨0, 9, 12, 32⟩ [] htab (fun z hz => absurd hz List.not_mem_nil) (by decide) (by decide) (hts _ cl_ioe) (va_Nw.use rfl (hq.1 _ ca_ioe rfl)) hce hcv hcl ?_
    refine lv_astore_n (k := 3) hx hb (by decide +kernel : decode cL_wouldFree 12 = .ok (.astore_n 3, 1)) rfl hl (by decide) rfl (fun ls' hl' => ?_)
    refine lv_iconst (v := 1) hx hb (by decide +kernel : decode cL_wouldFree 13 = .ok (.iconst 1, 1)) (by decide) ?_
    refine vx_ret (W.widen (k := 1) (n := 6) (by omega) (by omega) (W.iret (v := 1) hx hb hr (fun t2 ht2 hW2 => ⟨⟨1, u, rfl, Or.inr ⟨0, _, rfl, rfl, hTE⟩, by unfold qPost at hPo ⊢; rw [ht2]; rw [ht] at hPo; exact hPo⟩, hS1.F ht2⟩) hS1.2.2 (by decide +kernel : decode cL_wouldFree 14 = .ok (.ireturn, 1)) hlocks))
  · unfold qPost at hB
    rw [ht] at hB
    refine lv_i2l (v := r.toInt64) hx hb (by decide +kernel : decode cL_wouldFree 7 = .ok (.i2l, 1)) rfl ?_
    refine va_last (D := g.2.2.1) (x := r.toInt64) (i := 0) hx hb hK hB (hw.D u) hS1 122 3 qW_outAt rfl (vp_in_nI (n := 0) (by decide) (by decide)) (by decide +kernel : decode cL_wouldFree 8 = .ok (.lastore, 1)) (fun H2 locs2 h1 h2 h3 => ?_)
    rw [qW_outSet] at h1
    refine lv_goto (tgt := 15) hx hb (by decide +kernel : decode cL_wouldFree 9 = .ok (.goto 6, 3)) rfl ?_
    refine lv_iconst (v := 0) hx hb (by decide +kernel : decode cL_wouldFree 15 = .ok (.iconst 0, 1)) (by decide) ?_
    exact vx_ret (W.widen (k := 1) (n := 6) (by omega) (by omega) (W.iret (v := 0) hx hb hr (fun t2 ht2 hW2 => ⟨⟨0, qup u 122 0 r, rfl, Or.inl ⟨rfl, r, u, hpost, rfl⟩, by unfold qPost; rw [ht2]; exact h1⟩, h3.F ht2⟩) h3.2.2 (by decide +kernel : decode cL_wouldFree 16 = .ok (.ireturn, 1)) hlocks))
