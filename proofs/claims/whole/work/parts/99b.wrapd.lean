/-! ===== the law's wrappers whose answers are doubles ===== -/
theorem qtab_do : qtab[123]? = some (true, 5, 1, []) := by decide +kernel
theorem qW_dAt {E : Nat → Nat} {cs : Nat → ClassId} {σ : qS} : (qW E cs σ)[123]? = some (E 123, .inl (cs 4, 1, .inr (.inr (.inr (.inl (fun j => FP.f2d (σ 123 j).toUInt32)))))) := by
  rw [qW_at (qt_lt qtab_do), qE_arr qtab_do]
  rfl
theorem qW_dSet {E : Nat → Nat} {cs : Nat → ClassId} {σ : qS} {r : UInt32} : (qW E cs σ).set 123 (E 123, .inl (cs 4, 1, .inr (.inr (.inr (.inl (vf_upd (fun j => FP.f2d (σ 123 j).toUInt32) (0 : Int32).toNatClampNeg (FP.f2d r))))))) = qW E cs (qup σ 123 0 r.toInt32) := by
  refine qW_set ?_ (fun a h => qup_o a h)
  rw [qE_arr qtab_do]
  show Sum.inl (cs 4, 1, Sum.inr (Sum.inr (Sum.inr (Sum.inl (fun j => FP.f2d (qup σ 123 0 r.toInt32 123 j).toUInt32))))) = _
  rw [qup_u]
  refine congrArg (fun z => Sum.inl (cs 4, 1, Sum.inr (Sum.inr (Sum.inr (Sum.inl z))))) ?_
  funext j
  unfold upd vf_upd
  show FP.f2d (if j = 0 then r.toInt32 else σ 123 j).toUInt32 = if j = 0 then FP.f2d r else FP.f2d (σ 123 j).toUInt32
  split <;> rfl
def lQF (hs : List String) (Q : Int32 → qS → Prop) (T : String → qS → Prop) (k : Int32) (u : qS) : Prop := (k = 0 ∧ ∃ r u0, Q r u0 ∧ u = qup u0 123 0 r) ∨ ∃ j E, hs[j]? = some E ∧ k = nI (j + 1) ∧ T E u
abbrev hL_fill : List (Nat × Nat × Nat × Nat) := [(0, 9, 12, 32)]
abbrev eL_fill : List String := ["java/lang/IndexOutOfBoundsException"]
theorem lL_fill : ∀ w ∈ ([.methodLink RL 78 mX9_fill.1, .instanceMethod mX9_fill.1, .selects mX9_fill.1.cls mX9_fill.1 mX9_fill.1] ++ qcw mX9_fill : List Jvm.Cond), w ∈ qgw := qgw_of [1248, 1249, 1250, 119, 1251] (by decide +kernel) (by decide +kernel)
set_option maxRecDepth 100000 in
set_option maxHeartbeats 4000000 in
theorem lw_fill {g : qG} (hw : qWF g) {d : Nat} {σ : qS} {a1 : Int32} {Q : Int32 → qS → Prop} {T : String → qS → Prop} (hT : ∀ E u, T E u → E ∈ eL_fill) (hF : ∀ r u, Q r u → fOk r.toUInt32) (h : qC g d mX9_fill [.inr 0, .inl a1] σ Q T) : Met g.1 yL_fill (.codeWith yL_fill cL_fill 4 (some .int) hL_fill :: qgw) (lrm 1 d) (va_Pc [.ref (g.2.2.2.1 0), .int a1, .ref (g.2.2.2.1 123)] (lPre g σ)) (va_Qi (lQF eL_fill Q T) (qPost g) g.2.1) 1 6 g.2.1 := by
  have h' : vx_Met g.1 mX9_fill.1 (qws mX9_fill) (qrm mX9_fill d) (va_Pc ([Sum.inr 0, Sum.inl a1].map (qv g.2.2.2.1)) (qPre g σ)) (va_Qf (fun r u => Q r.toInt32 u) (qPost g) g.2.1) (qXc g T) 1 6 g.2.1 := h
  refine met_of_vx (vx_ofWH (cc := cL_fill) (maxL := 4) (ret := some .int) (hh := hL_fill) (by decide) rfl ?_)
  intro p e s m args below meth c s₁ B hml hv
  obtain ⟨rfl, ⟨hP, hK, hq, hA⟩, hN⟩ := hv
  have hx := B.exec
  have hb := B.bytes
  have hr := B.returns
  have hts0 := atoms_spec (ws := .codeWith yL_fill cL_fill 4 (some .int) hL_fill :: qgw) B.pre
  have htab := vx_table (x := yL_fill) B (hts0 _ List.mem_cons_self)
  have hts : ∀ w ∈ qgw, w.before _ s = true := fun w hw => hts0 w (List.mem_cons_of_mem _ hw)
  have hown : s.vm.findClass RL = some m.cls := findClass_of_methodNamed B.named
  have hlocks := B.notSynchronized
  have hS : va_S g.2.1 s.heap s.heap [] := va_S.rf
  have hl := lv_entry ([.ref (g.2.2.2.1 0), .int a1, .ref (g.2.2.2.1 123)]) (n := 4) (Nat.le_of_ble_eq_true rfl)
  rw [lg_entry_eq]
  generalize (lg_sl ([.ref (g.2.2.2.1 0), .int a1, .ref (g.2.2.2.1 123)]) ++ List.replicate (4 - (lg_sl ([.ref (g.2.2.2.1 0), .int a1, .ref (g.2.2.2.1 123)])).length) Slot.unset).toArray = ls at hl ⊢
  have hl : lv_has ls 4 [(0, .ref (g.2.2.2.1 0)), (1, .int a1), (2, .ref (g.2.2.2.1 123))] := hl
  refine lv_aload_n (k := 2) hx hb (by decide +kernel : decode cL_fill 0 = .ok (.aload_n 2, 1)) rfl (lv_at hl 2 rfl) ?_
  refine lv_iconst (v := 0) hx hb (by decide +kernel : decode cL_fill 1 = .ok (.iconst 0, 1)) (by decide) ?_
  refine lv_aload_n (k := 0) hx hb (by decide +kernel : decode cL_fill 2 = .ok (.aload_n 0, 1)) rfl (lv_at hl 0 rfl) ?_
  refine lv_iload_n (k := 1) hx hb (by decide +kernel : decode cL_fill 3 = .ok (.iload_n 1, 1)) rfl (lv_at hl 1 rfl) ?_
  refine vx_callf (vx_runV (C := mX9_fill.1.cls) (b := g.2.2.2.1 0) (As := [.int a1]) (rest := [.int 0, .ref (g.2.2.2.1 123)]) ⟨hx, hb, hml, hown, hts⟩ h' ⟨⟨rfl, rfl, (by show d + 12 + 1 ≤ d + 13; omega), (by show 8 + (mX9_fill.2.2.1 + 11) + (60 * d + 300) ≤ 60 * d + 360; have h4 : mX9_fill.2.2.1 ≤ 40 := (by decide); omega), (fun w hw' a' U hW => by
      have hin : w ∈ qgw := by
        rcases List.mem_cons.mp hw' with rfl | h9
        · exact lL_fill _ (List.mem_of_getElem? (i := 4) rfl)
        · exact h9
      exact word_at hW (qgw_good hin) (hts _ hin)), List.mem_cons_self, hts _ (lL_fill _ (List.mem_of_getElem? (i := 4) rfl)), hts _ (lL_fill _ (List.mem_of_getElem? (i := 3) rfl)), (by decide), (fun sig h9 => by
      have h2 : (parseMethodDescriptor mX9_fill.1.desc).map (fun d => d.parameters.length) = some 1 := by decide +kernel
      rw [h9] at h2
      exact (Option.some.inj h2).symm), hts _ (lL_fill _ (List.mem_of_getElem? (i := 0) rfl))⟩, hts _ (lL_fill _ (List.mem_of_getElem? (i := 1) rfl)), hts _ (lL_fill _ (List.mem_of_getElem? (i := 2) rfl))⟩ ⟨qblind, va_recv (q := (RX9, TX9, 4)) hK hP rfl (qW_obj (k := 0) rfl), fun U hU hW => ⟨rfl, by rw [hU]; exact hP, va_K.moved hW.alike hK, qK_warm hq hW (fun a _ _ => by rw [hU]), by rw [hU]; exact hA⟩⟩ rfl rfl hl.1 rfl (lv_room (Nat.le_of_ble_eq_true rfl)) (by decide +kernel : decode cL_fill 4 = .ok (.invokevirtual 78, 3)) ⟨(by show 0 + 1 ≤ 1; decide), (by show 0 + 6 ≤ 6 * 1; decide)⟩) hS (fun q _ h9 => h9) (fun q h9 => h9) (fun q _ h9 => h9) (fun E ce q9 u t H1 locs1 ht hvm _ hB hz1 hk1 hS1 hce hcv hcl => ?_) (fun r u t H1 locs1 ht hvm hpost hB hz1 hk1 hS1 => ?_)
  · obtain ⟨hTE, hPo⟩ := hB
    have hE := hT E u hTE
    obtain rfl : E = "java/lang/IndexOutOfBoundsException" := by simpa using hE
    refine vx_catch (name := "java/lang/IndexOutOfBoundsException") hown [] ⟨0, 9, 12, 32⟩ [] htab (fun z hz => absurd hz List.not_mem_nil) (by decide) (by decide) (hts _ cl_ioe) (va_Nw.use rfl (hq.1 _ ca_ioe rfl)) hce hcv hcl ?_
    refine lv_astore_n (k := 3) hx hb (by decide +kernel : decode cL_fill 12 = .ok (.astore_n 3, 1)) rfl hl (by decide) rfl (fun ls' hl' => ?_)
    refine lv_iconst (v := 1) hx hb (by decide +kernel : decode cL_fill 13 = .ok (.iconst 1, 1)) (by decide) ?_
    refine vx_ret (W.widen (k := 1) (n := 6) (by omega) (by omega) (W.iret (v := 1) hx hb hr (fun t2 ht2 hW2 => ⟨⟨1, u, rfl, Or.inr ⟨0, _, rfl, rfl, hTE⟩, by unfold qPost at hPo ⊢; rw [ht2]; rw [ht] at hPo; exact hPo⟩, hS1.F ht2⟩) hS1.2.2 (by decide +kernel : decode cL_fill 14 = .ok (.ireturn, 1)) hlocks))
  · unfold qPost at hB
    rw [ht] at hB
    have hok : fOk r := hF _ _ hpost
    refine lv_f2d hx hb (by decide +kernel : decode cL_fill 7 = .ok (.f2d, 1)) (f2d_n hok) ?_
    refine va_dast (D := g.2.2.1) (x := FP.f2d r) (i := 0) hx hb hK hB (hw.D u) hS1 123 4 qW_dAt rfl (vp_in_nI (n := 0) (by decide) (by decide)) (by decide +kernel : decode cL_fill 8 = .ok (.dastore, 1)) (fun H2 locs2 h1 h2 h3 => ?_)
    rw [qW_dSet] at h1
    refine lv_goto (tgt := 15) hx hb (by decide +kernel : decode cL_fill 9 = .ok (.goto 6, 3)) rfl ?_
    refine lv_iconst (v := 0) hx hb (by decide +kernel : decode cL_fill 15 = .ok (.iconst 0, 1)) (by decide) ?_
    exact vx_ret (W.widen (k := 1) (n := 6) (by omega) (by omega) (W.iret (v := 0) hx hb hr (fun t2 ht2 hW2 => ⟨⟨0, qup u 123 0 r.toInt32, rfl, Or.inl ⟨rfl, r.toInt32, u, hpost, rfl⟩, by unfold qPost; rw [ht2]; exact h1⟩, h3.F ht2⟩) h3.2.2 (by decide +kernel : decode cL_fill 16 = .ok (.ireturn, 1)) hlocks))
abbrev hL_lag : List (Nat × Nat × Nat × Nat) := [(0, 9, 12, 32)]
abbrev eL_lag : List String := ["java/lang/IndexOutOfBoundsException"]
theorem lL_lag : ∀ w ∈ ([.methodLink RL 108 mX9_lag.1, .instanceMethod mX9_lag.1, .selects mX9_lag.1.cls mX9_lag.1 mX9_lag.1] ++ qcw mX9_lag : List Jvm.Cond), w ∈ qgw := qgw_of [1369, 1370, 1371, 119, 1372] (by decide +kernel) (by decide +kernel)
set_option maxRecDepth 100000 in
set_option maxHeartbeats 4000000 in
theorem lw_lag {g : qG} (hw : qWF g) {d : Nat} {σ : qS} {a1 : Int32} {Q : Int32 → qS → Prop} {T : String → qS → Prop} (hT : ∀ E u, T E u → E ∈ eL_lag) (hF : ∀ r u, Q r u → fOk r.toUInt32) (h : qC g d mX9_lag [.inr 0, .inl a1] σ Q T) : Met g.1 yL_lag (.codeWith yL_lag cL_lag 4 (some .int) hL_lag :: qgw) (lrm 1 d) (va_Pc [.ref (g.2.2.2.1 0), .int a1, .ref (g.2.2.2.1 123)] (lPre g σ)) (va_Qi (lQF eL_lag Q T) (qPost g) g.2.1) 1 6 g.2.1 := by
  have h' : vx_Met g.1 mX9_lag.1 (qws mX9_lag) (qrm mX9_lag d) (va_Pc ([Sum.inr 0, Sum.inl a1].map (qv g.2.2.2.1)) (qPre g σ)) (va_Qf (fun r u => Q r.toInt32 u) (qPost g) g.2.1) (qXc g T) 1 6 g.2.1 := h
  refine met_of_vx (vx_ofWH (cc := cL_lag) (maxL := 4) (ret := some .int) (hh := hL_lag) (by decide) rfl ?_)
  intro p e s m args below meth c s₁ B hml hv
  obtain ⟨rfl, ⟨hP, hK, hq, hA⟩, hN⟩ := hv
  have hx := B.exec
  have hb := B.bytes
  have hr := B.returns
  have hts0 := atoms_spec (ws := .codeWith yL_lag cL_lag 4 (some .int) hL_lag :: qgw) B.pre
  have htab := vx_table (x := yL_lag) B (hts0 _ List.mem_cons_self)
  have hts : ∀ w ∈ qgw, w.before _ s = true := fun w hw => hts0 w (List.mem_cons_of_mem _ hw)
  have hown : s.vm.findClass RL = some m.cls := findClass_of_methodNamed B.named
  have hlocks := B.notSynchronized
  have hS : va_S g.2.1 s.heap s.heap [] := va_S.rf
  have hl := lv_entry ([.ref (g.2.2.2.1 0), .int a1, .ref (g.2.2.2.1 123)]) (n := 4) (Nat.le_of_ble_eq_true rfl)
  rw [lg_entry_eq]
  generalize (lg_sl ([.ref (g.2.2.2.1 0), .int a1, .ref (g.2.2.2.1 123)]) ++ List.replicate (4 - (lg_sl ([.ref (g.2.2.2.1 0), .int a1, .ref (g.2.2.2.1 123)])).length) Slot.unset).toArray = ls at hl ⊢
  have hl : lv_has ls 4 [(0, .ref (g.2.2.2.1 0)), (1, .int a1), (2, .ref (g.2.2.2.1 123))] := hl
  refine lv_aload_n (k := 2) hx hb (by decide +kernel : decode cL_lag 0 = .ok (.aload_n 2, 1)) rfl (lv_at hl 2 rfl) ?_
  refine lv_iconst (v := 0) hx hb (by decide +kernel : decode cL_lag 1 = .ok (.iconst 0, 1)) (by decide) ?_
  refine lv_aload_n (k := 0) hx hb (by decide +kernel : decode cL_lag 2 = .ok (.aload_n 0, 1)) rfl (lv_at hl 0 rfl) ?_
  refine lv_iload_n (k := 1) hx hb (by decide +kernel : decode cL_lag 3 = .ok (.iload_n 1, 1)) rfl (lv_at hl 1 rfl) ?_
  refine vx_callf (vx_runV (C := mX9_lag.1.cls) (b := g.2.2.2.1 0) (As := [.int a1]) (rest := [.int 0, .ref (g.2.2.2.1 123)]) ⟨hx, hb, hml, hown, hts⟩ h' ⟨⟨rfl, rfl, (by show d + 12 + 1 ≤ d + 13; omega), (by show 8 + (mX9_lag.2.2.1 + 11) + (60 * d + 300) ≤ 60 * d + 360; have h4 : mX9_lag.2.2.1 ≤ 40 := (by decide); omega), (fun w hw' a' U hW => by
      have hin : w ∈ qgw := by
        rcases List.mem_cons.mp hw' with rfl | h9
        · exact lL_lag _ (List.mem_of_getElem? (i := 4) rfl)
        · exact h9
      exact word_at hW (qgw_good hin) (hts _ hin)), List.mem_cons_self, hts _ (lL_lag _ (List.mem_of_getElem? (i := 4) rfl)), hts _ (lL_lag _ (List.mem_of_getElem? (i := 3) rfl)), (by decide), (fun sig h9 => by
      have h2 : (parseMethodDescriptor mX9_lag.1.desc).map (fun d => d.parameters.length) = some 1 := by decide +kernel
      rw [h9] at h2
      exact (Option.some.inj h2).symm), hts _ (lL_lag _ (List.mem_of_getElem? (i := 0) rfl))⟩, hts _ (lL_lag _ (List.mem_of_getElem? (i := 1) rfl)), hts _ (lL_lag _ (List.mem_of_getElem? (i := 2) rfl))⟩ ⟨qblind, va_recv (q := (RX9, TX9, 4)) hK hP rfl (qW_obj (k := 0) rfl), fun U hU hW => ⟨rfl, by rw [hU]; exact hP, va_K.moved hW.alike hK, qK_warm hq hW (fun a _ _ => by rw [hU]), by rw [hU]; exact hA⟩⟩ rfl rfl hl.1 rfl (lv_room (Nat.le_of_ble_eq_true rfl)) (by decide +kernel : decode cL_lag 4 = .ok (.invokevirtual 108, 3)) ⟨(by show 0 + 1 ≤ 1; decide), (by show 0 + 6 ≤ 6 * 1; decide)⟩) hS (fun q _ h9 => h9) (fun q h9 => h9) (fun q _ h9 => h9) (fun E ce q9 u t H1 locs1 ht hvm _ hB hz1 hk1 hS1 hce hcv hcl => ?_) (fun r u t H1 locs1 ht hvm hpost hB hz1 hk1 hS1 => ?_)
  · obtain ⟨hTE, hPo⟩ := hB
    have hE := hT E u hTE
    obtain rfl : E = "java/lang/IndexOutOfBoundsException" := by simpa using hE
    refine vx_catch (name := "java/lang/IndexOutOfBoundsException") hown [] ⟨0, 9, 12, 32⟩ [] htab (fun z hz => absurd hz List.not_mem_nil) (by decide) (by decide) (hts _ cl_ioe) (va_Nw.use rfl (hq.1 _ ca_ioe rfl)) hce hcv hcl ?_
    refine lv_astore_n (k := 3) hx hb (by decide +kernel : decode cL_lag 12 = .ok (.astore_n 3, 1)) rfl hl (by decide) rfl (fun ls' hl' => ?_)
    refine lv_iconst (v := 1) hx hb (by decide +kernel : decode cL_lag 13 = .ok (.iconst 1, 1)) (by decide) ?_
    refine vx_ret (W.widen (k := 1) (n := 6) (by omega) (by omega) (W.iret (v := 1) hx hb hr (fun t2 ht2 hW2 => ⟨⟨1, u, rfl, Or.inr ⟨0, _, rfl, rfl, hTE⟩, by unfold qPost at hPo ⊢; rw [ht2]; rw [ht] at hPo; exact hPo⟩, hS1.F ht2⟩) hS1.2.2 (by decide +kernel : decode cL_lag 14 = .ok (.ireturn, 1)) hlocks))
  · unfold qPost at hB
    rw [ht] at hB
    have hok : fOk r := hF _ _ hpost
    refine lv_f2d hx hb (by decide +kernel : decode cL_lag 7 = .ok (.f2d, 1)) (f2d_n hok) ?_
    refine va_dast (D := g.2.2.1) (x := FP.f2d r) (i := 0) hx hb hK hB (hw.D u) hS1 123 4 qW_dAt rfl (vp_in_nI (n := 0) (by decide) (by decide)) (by decide +kernel : decode cL_lag 8 = .ok (.dastore, 1)) (fun H2 locs2 h1 h2 h3 => ?_)
    rw [qW_dSet] at h1
    refine lv_goto (tgt := 15) hx hb (by decide +kernel : decode cL_lag 9 = .ok (.goto 6, 3)) rfl ?_
    refine lv_iconst (v := 0) hx hb (by decide +kernel : decode cL_lag 15 = .ok (.iconst 0, 1)) (by decide) ?_
    exact vx_ret (W.widen (k := 1) (n := 6) (by omega) (by omega) (W.iret (v := 0) hx hb hr (fun t2 ht2 hW2 => ⟨⟨0, qup u 123 0 r.toInt32, rfl, Or.inl ⟨rfl, r.toInt32, u, hpost, rfl⟩, by unfold qPost; rw [ht2]; exact h1⟩, h3.F ht2⟩) h3.2.2 (by decide +kernel : decode cL_lag 16 = .ok (.ireturn, 1)) hlocks))
