/-! ===== the law's cases of fill and lag ===== -/
/-- the law, with a float in its local 7 -/
def lVf (g : qG) (b : Nat) (p : Program) (e : Env) (s : State) (m : MethodId) (below : List Frame) (meth : Method) (c : Code) (pc : Nat) (ls : List (Option qP)) (st : List qP) (σ : qS) (n : Nat) (x : UInt32) : Prop :=
  ∀ (H : Heap) (locs : List Loc) (cells slots : Nat) (la : Array Slot), va_P g.2.2.1 vwCl (qW g.2.2.2.1 g.2.2.2.2 σ) H → va_S g.2.1 s.heap H locs → cells ≤ 200 + 3 * n → slots ≤ 60000 + 18 * n → lL g b la ls → la[7]? = some (.val (.float x)) →
    W p g.1 e room_1 s m #[Value.ref b] below meth c H locs cells slots (lw_Z below #[Value.ref b] s) (F0 m pc la (st.map (qv g.2.2.2.1)))
theorem lL_f {g : qG} {b : Nat} {x : UInt32} {la : Array Slot} {ls : List (Option qP)} (h : lv_has la 8 ((7, Value.float x) :: ((0, Value.ref b) :: qas g.2.2.2.1 ls).filter (fun q => !(q.1 == 7) && !(q.1 + 1 == 7 && q.2.category == 2)))) : lL g b la (ls.set 7 none) ∧ la[7]? = some (.val (.float x)) := by
  refine ⟨⟨h.1, h.2.1, ?_, fun j w hj => ?_⟩, h.2.2 (7, Value.float x) List.mem_cons_self⟩
  · exact h.2.2 (0, Value.ref b) (List.mem_cons_of_mem _ (List.mem_filter.mpr ⟨List.mem_cons_self, rfl⟩))
  · rw [List.getElem?_set] at hj
    by_cases hij : 7 = j
    · subst hij
      rw [if_pos rfl] at hj
      split at hj
      · cases hj
      · cases hj
    · rw [if_neg hij] at hj
      refine h.2.2 (j, qv g.2.2.2.1 w) (List.mem_cons_of_mem _ (List.mem_filter.mpr ⟨List.mem_cons_of_mem _ (qas_mem hj), ?_⟩))
      have h1 : (j == 7) = false := by rw [beq_eq_false_iff_ne]; exact fun e => hij e.symm
      have h2 : ((qv g.2.2.2.1 w).category == 2) = false := by rw [qv_cat]; rfl
      show (!(j == 7) && !(j + 1 == 7 && (qv g.2.2.2.1 w).category == 2)) = true
      rw [h1, h2, Bool.and_false]
      rfl
section LVF
variable {g : qG} {b L : Nat} {xs : Nat → Int32} {p : Program} {e : Env} {s : State} {m : MethodId} {below : List Frame} {meth : Method} {c : Code} {pc : Nat} {ls : List (Option qP)} {st : List qP} {σ : qS} {n : Nat}
theorem lV_aload {k v : Nat} (F : lCtx g b L xs p s m meth c) (hd : decode code pc = .ok (.aload k, 2)) (hl : ls[k]? = some (some (.inr v))) (h : lV g b p e s m below meth c (pc + 2) ls (.inr v :: st) σ n) : lV g b p e s m below meth c pc ls st σ n :=
  fun H locs cells slots la hP hS hc hs hL => lv_aload F.1 F.2.1 hd (hL.2.2.2 _ _ hl) (h H locs cells slots la hP hS hc hs hL)
/-- a call that answers with an int, the float kept -/
theorem lF_call {D idx k ci nf : Nat} {rs : List (Nat × Nat)} {q : vw_C} {M' : qMd} {Q : Int32 → qS → Prop} {ty : FieldType} {x : UInt32} (F : lCtx g b L xs p s m meth c) (hk : qtab[k]? = some (false, ci, nf, rs)) (hc : vwCl[ci]? = some q) (hq : q.1 = M'.1.cls) (hM : qMok M') (hr : M'.2.2.2.1 = some ty)
    (hw : ∀ w ∈ ([.methodLink RL idx M'.1, .instanceMethod M'.1, .selects M'.1.cls M'.1 M'.1] ++ qcw M' : List Jvm.Cond), w ∈ qgw) (hn : M'.2.2.2.2.1 = 0) (hD : D ≤ 100) (hb : qMd_b M' = 0) (hnn : n ≤ 600) (hd : decode code pc = .ok (.invokevirtual idx, 3))
    (hq9 : qC g D M' [.inr k] σ Q (fun _ _ => False)) (h : ∀ r u, Q r u → lVf g b p e s m below meth c (pc + 3) ls [.inl r] u n x) : lVf g b p e s m below meth c pc ls [.inr k] σ n x := by
  intro H locs cells slots la hP hS hc9 hs9 hL h7
  obtain ⟨F1, F2, F3, F4, F5, F6, F7, F8, F9, F10, F11, F12, F13, F14, F15⟩ := id F
  have hM9 := qC_met hq9
  have e9 : qQc g M' Q = va_Qi Q (qPost g) g.2.1 := qQc_i hr (fun e9 => hM.2.2.2 (by rw [hr, e9]))
  rw [e9] at hM9
  have hcd := hw _ (List.mem_append_right _ (List.mem_cons_of_mem _ List.mem_cons_self))
  have h40 := hM.2.2.1
  refine va_calli (va_runV (C := M'.1.cls) (b := g.2.2.2.1 k) (As := []) (rest := []) ⟨F1, F2, F4, F5, F6⟩ hM9 ⟨⟨rfl, rfl, (by show D + 12 + 1 ≤ 2048; omega), (by show 8 + (M'.2.2.1 + 11) + (60 * D + 300) ≤ 84000; omega), (fun w hw' a' U hW => by
      have hin : w ∈ qgw := by
        rcases List.mem_cons.mp hw' with rfl | h9
        · exact hcd
        · exact h9
      exact word_at hW (qgw_good hin) (F6 _ hin)), List.mem_cons_self, F6 _ hcd, F6 _ (hw _ (List.mem_append_right _ List.mem_cons_self)), hM.1, qlen hM, F6 _ (hw _ (List.mem_append_left _ List.mem_cons_self))⟩, F6 _ (hw _ (List.mem_append_left _ (List.mem_cons_of_mem _ List.mem_cons_self))), F6 _ (hw _ (List.mem_append_left _ (List.mem_cons_of_mem _ (List.mem_cons_of_mem _ List.mem_cons_self))))⟩ ⟨qblind, ?_, fun U hU hW => ⟨rfl, by rw [hU]; exact hP, va_K.moved hW.alike F8, qK_warm F9 hW (fun a h1 h2 => by rw [hU]; exact hS.2.1 a h1 h2), fun q9 h9 => (F11 q9).mpr (by rw [hU] at h9; exact Nat.le_trans hS.1 h9)⟩⟩ rfl hn.symm hL.1 rfl (lv_room (by decide)) hd ⟨(by show cells + qMd_b M' ≤ 601024; omega), (by show slots + 6 * qMd_b M' ≤ 7293034; omega)⟩) hS (fun q9 _ h9 => h9) (fun q9 h9 => h9) (fun r u t H1 locs1 ht hvm hpost hB hz1 hk1 hS1 => ?_)
  · have hr9 := va_recv F8 hP hc (qW_obj hk)
    rw [hq] at hr9
    exact hr9
  · unfold qPost at hB
    rw [ht] at hB
    exact h r u hpost H1 locs1 _ _ la hB hS1 (by omega) (by omega) hL h7
/-- a call that answers with a float, which goes into the local 7 -/
theorem lV_fcall {D idx k ci nf : Nat} {rs : List (Nat × Nat)} {q : vw_C} {M' : qMd} {a1 : Int32} {Q : Int32 → qS → Prop} (F : lCtx g b L xs p s m meth c) (hk : qtab[k]? = some (false, ci, nf, rs)) (hc : vwCl[ci]? = some q) (hq : q.1 = M'.1.cls) (hM : (M'.1.cls ≠ "java/lang/invoke/MethodHandle" ∧ M'.1.cls ≠ "java/lang/invoke/VarHandle") ∧ (parseMethodDescriptor M'.1.desc).map (fun d => d.parameters.length) = some 1 ∧ M'.2.2.1 ≤ 40) (hf : M'.2.2.2.1 = some .float)
    (hw : ∀ w ∈ ([.methodLink RL idx M'.1, .instanceMethod M'.1, .selects M'.1.cls M'.1 M'.1] ++ qcw M' : List Jvm.Cond), w ∈ qgw) (hD : D ≤ 100) (hb : qMd_b M' = 0) (hn1 : M'.2.2.2.2.1 = 1) (hnn : n ≤ 600) (hd : decode code pc = .ok (.invokevirtual idx, 3)) (hd2 : decode code (pc + 3) = .ok (.fstore 7, 2))
    (hq9 : qC g D M' [.inr k, .inl a1] σ Q (fun _ _ => False)) (h : ∀ (r : UInt32) (u : qS), Q r.toInt32 u → lVf g b p e s m below meth c (pc + 5) (ls.set 7 none) [] u n r) : lV g b p e s m below meth c pc ls [.inl a1, .inr k] σ n := by
  intro H locs cells slots la hP hS hc9 hs9 hL
  obtain ⟨F1, F2, F3, F4, F5, F6, F7, F8, F9, F10, F11, F12, F13, F14, F15⟩ := id F
  have hM9 := qC_met hq9
  rw [qQc_f hf] at hM9
  have hcd := hw _ (List.mem_append_right _ (List.mem_cons_of_mem _ List.mem_cons_self))
  have h40 := hM.2.2
  refine va_callf (va_runV (C := M'.1.cls) (b := g.2.2.2.1 k) (As := [.int a1]) (rest := []) ⟨F1, F2, F4, F5, F6⟩ hM9 ⟨⟨rfl, rfl, (by show D + 12 + 1 ≤ 2048; omega), (by show 8 + (M'.2.2.1 + 11) + (60 * D + 300) ≤ 84000; omega), (fun w hw' a' U hW => by
      have hin : w ∈ qgw := by
        rcases List.mem_cons.mp hw' with rfl | h9
        · exact hcd
        · exact h9
      exact word_at hW (qgw_good hin) (F6 _ hin)), List.mem_cons_self, F6 _ hcd, F6 _ (hw _ (List.mem_append_right _ List.mem_cons_self)), hM.1, (fun sig h9 => by
      have h2 := hM.2.1
      rw [h9] at h2
      exact hn1.trans (Option.some.inj h2).symm), F6 _ (hw _ (List.mem_append_left _ List.mem_cons_self))⟩, F6 _ (hw _ (List.mem_append_left _ (List.mem_cons_of_mem _ List.mem_cons_self))), F6 _ (hw _ (List.mem_append_left _ (List.mem_cons_of_mem _ (List.mem_cons_of_mem _ List.mem_cons_self))))⟩ ⟨qblind, ?_, fun U hU hW => ⟨rfl, by rw [hU]; exact hP, va_K.moved hW.alike F8, qK_warm F9 hW (fun a h1 h2 => by rw [hU]; exact hS.2.1 a h1 h2), fun q9 h9 => (F11 q9).mpr (by rw [hU] at h9; exact Nat.le_trans hS.1 h9)⟩⟩ rfl hn1.symm hL.1 rfl (lv_room (by decide)) hd ⟨(by show cells + qMd_b M' ≤ 601024; omega), (by show slots + 6 * qMd_b M' ≤ 7293034; omega)⟩) hS (fun q9 _ h9 => h9) (fun q9 h9 => h9) (fun r u t H1 locs1 ht hvm hpost hB hz1 hk1 hS1 => ?_)
  · have hr9 := va_recv F8 hP hc (qW_obj hk)
    rw [hq] at hr9
    exact hr9
  · unfold qPost at hB
    rw [ht] at hB
    refine lv_fstore F1 F2 hd2 hL.has (by decide) rfl (fun la' h' => ?_)
    obtain ⟨h8, h9⟩ := lL_f h'
    exact h r u hpost H1 locs1 _ _ la' hB hS1 (by omega) (by omega) h8 h9
end LVF
def lPF (g : qG) (D : Nat) (R : qS → Prop) (Mx Mm : qMd) (a : Int32) (σ : qS) : Prop :=
  qC g D Mx [.inr 0, .inl a] σ (fun r σ1 => fOk r.toUInt32 ∧ qC g D Mm [.inr 86, .inl a] (qup σ1 123 0 r) (fun bv σ2 => R σ2 ∧ σ2 86 0 = 0 ∧ bv = σ2 123 0 ∧ fOk bv.toUInt32) (fun _ _ => False))
    (fun E σ1 => E ∈ ["java/lang/IndexOutOfBoundsException"] ∧ qC g D Mm [.inr 86, .inl a] σ1 (fun _ σ2 => R σ2 ∧ σ2 86 0 = nI 1) (fun _ _ => False))
theorem lM_220 : ∀ w ∈ ([.methodLink RL 220 mX10_fill.1, .instanceMethod mX10_fill.1, .selects mX10_fill.1.cls mX10_fill.1 mX10_fill.1] ++ qcw mX10_fill : List Jvm.Cond), w ∈ qgw := qgw_of [1927, 1928, 1929, 129, 1930] (by decide +kernel) (by decide +kernel)
theorem lW_fill : ∀ w ∈ ([.methodLink RL 217 yL_fill, .static yL_fill, .initialized yL_fill.cls, .codeWith yL_fill cL_fill 4 (some .int) hL_fill] : List Jvm.Cond), w ∈ qgw := qgw_of [1245, 1246, 118, 1247] (by decide +kernel) (by decide +kernel)
theorem law_26 {g : qG} {b L : Nat} {xs : Nat → Int32} {p : Program} {e : Env} {s : State} {m : MethodId} {below : List Frame} {meth : Method} {c : Code} {n D i : Nat} {σ : qS} {R : qS → Prop} (F : lCtx g b L xs p s m meth c) (hi : i + 6 ≤ L) (hn : n ≤ 512) (hD : D ≤ 100) (hp : lPF g D R mX9_fill mX10_fill (xs (i + 1)) σ) (hk : ∀ (u : qS) (a b9 : Option qP), R u → lV g b p e s m below meth c 2400 [none, some (.inr 0), some (.inr 86), some (.inr 122), some (.inr 123), some (.inl (nI i)), a, b9] [] u (n + 1)) (o6 o7 : Option qP) : lV g b p e s m below meth c 1575 [none, some (.inr 0), some (.inr 86), some (.inr 122), some (.inr 123), some (.inl (nI i)), o6, o7] [] σ n := by
  have hw9 : qWF g := F.2.2.2.2.2.2.2.2.2.2.2.1
  refine lV_aload_n (k := 1) F dL_law_1575 rfl ?_
  refine lV_arg (i := i) (j := 1) F (by omega) rfl rfl dL_law_1576 dL_law_1577 dL_law_1579 dL_law_1580 dL_law_1581 ?_
  refine lV_aload (k := 4) F dL_law_1582 rfl ?_
  have key : ∀ (k9 : Int32) (u : qS) (Q2 : Int32 → qS → Prop), qC g D mX10_fill [.inr 86, .inl (xs (i + 1))] u Q2 (fun _ _ => False) → (∀ bv u2, Q2 bv u2 → R u2 ∧ u2 86 0 = k9 ∧ (k9 = 0 → bv = u2 123 0 ∧ fOk bv.toUInt32)) → lV g b p e s m below meth c 1587 [none, some (.inr 0), some (.inr 86), some (.inr 122), some (.inr 123), some (.inl (nI i)), o6, o7] [.inl k9] u (n + 1) := by
    intro k9 u Q2 hq2 hQ2
    refine lV_istore (k := 6) F (by decide) (by decide) dL_law_1587 ?_
    refine lV_aload_n (k := 2) F dL_law_1589 rfl ?_
    refine lV_arg (i := i) (j := 1) F (by omega) rfl rfl dL_law_1590 dL_law_1591 dL_law_1593 dL_law_1594 dL_law_1595 ?_
    refine lV_fcall (D := D) (k := 86) (q := (RX10, TX10, 63)) F rfl rfl rfl ⟨by decide, by decide +kernel, by decide⟩ rfl lM_220 hD rfl rfl (by omega) dL_law_1596 dL_law_1599 hq2 (fun r u2 hbu => ?_)
    obtain ⟨hR, h0, h1⟩ := hQ2 _ u2 hbu
    have hgo : lV g b p e s m below meth c 1650 [none, some (.inr 0), some (.inr 86), some (.inr 122), some (.inr 123), some (.inl (nI i)), some (.inl k9), none] [] u2 (n + 1) := lV_goto (tgt := 2400) F dL_law_1650 rfl (hk u2 _ _ hR)
    obtain ⟨F1, F2, F3, F4, F5, F6, F7, F8, F9, F10, F11, F12, F13, F14, F15⟩ := id F
    intro H locs cells slots la hP hS hc9 hs9 hL h7
    refine lv_aload_n (k := 2) F1 F2 dL_law_1601 rfl (hL.2.2.2 2 (.inr 86) rfl) ?_
    refine lF_call (D := D) (k := 86) (q := (RX10, TX10, 63)) (ty := .int) (x := r) F rfl rfl rfl (qM_spec (by decide +kernel)) rfl lM_127 rfl hD rfl (by omega) dL_law_1602 (c_thrown hw9 D [.inr 86] u2 (u2 86 0) u2 (fun r u => r = u2 86 0 ∧ u = u2) _ rfl ⟨rfl, rfl⟩) (fun r9 u9 hru => ?_) H locs cells slots la hP hS hc9 hs9 hL h7
    obtain ⟨rfl, rfl⟩ := hru
    intro H locs cells slots la hP hS hc9 hs9 hL h7
    refine lv_iload (i := 6) (x := k9) F1 F2 dL_law_1605 (hL.2.2.2 6 (.inl k9) rfl) ?_
    refine lv_icmp_eq (tgt := 1612) F1 F2 dL_law_1607 rfl (fun _ => ?_) (fun hne => absurd h0 hne)
    refine lv_iload (i := 6) (x := k9) F1 F2 dL_law_1612 (hL.2.2.2 6 (.inl k9) rfl) ?_
    refine lv_if_ne (tgt := 1650) F1 F2 dL_law_1614 rfl (fun _ => hgo H locs cells slots la hP hS hc9 hs9 hL) (fun hz => ?_)
    obtain ⟨h2, h3⟩ := h1 hz
    have hok : fOk r := h3
    refine lv_aload (i := 4) F1 F2 dL_law_1617 (hL.2.2.2 4 (.inr 123) rfl) ?_
    refine lv_iconst (v := 0) F1 F2 dL_law_1619 (by decide) ?_
    refine va_dald (D := g.2.2.1) F1 F2 F8 hP 123 4 qW_dAt rfl (vp_in_nI (n := 0) (by decide) (by decide)) dL_law_1620 ?_
    refine lv_fload (i := 7) (x := r) F1 F2 dL_law_1621 h7 ?_
    refine lv_f2d F1 F2 dL_law_1623 (f2d_n hok) ?_
    refine lv_dcmp F1 F2 dL_law_1624 ?_
    have hcm : Op.cmpValue (FP.dcmp (FP.f2d (u9 123 (0 : Int32).toNatClampNeg).toUInt32) (FP.f2d r)) .l = 0 := by
      have e1 : u9 123 (0 : Int32).toNatClampNeg = r.toInt32 := h2.symm
      rw [e1, bits_r, dcmp_s hok]
      rfl
    rw [hcm]
    exact lv_if_eq (tgt := 1650) F1 F2 dL_law_1625 rfl (fun _ => hgo H locs cells slots la hP hS hc9 hs9 hL) (fun hn0 => absurd rfl hn0)
  refine lV_wrap (na := 3) (as := [.inr 0, .inl (xs (i + 1)), .inr 123]) F (lw_fill hw9 (fun E u hE => hE.1) (fun r u h => h.1) hp) (by decide) hD (by omega) lW_fill (by decide) (by decide +kernel) (by decide) rfl dL_law_1584 (fun k9 u hQ => ?_)
  rcases hQ with ⟨rfl, r, u0, hq, rfl⟩ | ⟨j, E, hj, rfl, hTE⟩
  · exact key 0 _ _ hq.2 (fun bv u2 h => ⟨h.1, h.2.1, fun _ => h.2.2⟩)
  · have ej : j = 0 := by
      have := (List.getElem?_eq_some_iff.mp hj).1
      have h3 : eL_fill.length = 1 := rfl
      omega
    rw [ej]
    exact key _ u _ hTE.2 (fun bv u2 h => ⟨h.1, h.2, fun h0 => absurd h0 (nI_ne0 (by omega) (by omega))⟩)
theorem lM_247 : ∀ w ∈ ([.methodLink RL 247 mX10_lag.1, .instanceMethod mX10_lag.1, .selects mX10_lag.1.cls mX10_lag.1 mX10_lag.1] ++ qcw mX10_lag : List Jvm.Cond), w ∈ qgw := qgw_of [1943, 1944, 1945, 129, 1946] (by decide +kernel) (by decide +kernel)
theorem lW_lag : ∀ w ∈ ([.methodLink RL 245 yL_lag, .static yL_lag, .initialized yL_lag.cls, .codeWith yL_lag cL_lag 4 (some .int) hL_lag] : List Jvm.Cond), w ∈ qgw := qgw_of [1366, 1367, 118, 1368] (by decide +kernel) (by decide +kernel)
theorem law_35 {g : qG} {b L : Nat} {xs : Nat → Int32} {p : Program} {e : Env} {s : State} {m : MethodId} {below : List Frame} {meth : Method} {c : Code} {n D i : Nat} {σ : qS} {R : qS → Prop} (F : lCtx g b L xs p s m meth c) (hi : i + 6 ≤ L) (hn : n ≤ 512) (hD : D ≤ 100) (hp : lPF g D R mX9_lag mX10_lag (xs (i + 1)) σ) (hk : ∀ (u : qS) (a b9 : Option qP), R u → lV g b p e s m below meth c 2400 [none, some (.inr 0), some (.inr 86), some (.inr 122), some (.inr 123), some (.inl (nI i)), a, b9] [] u (n + 1)) (o6 o7 : Option qP) : lV g b p e s m below meth c 2209 [none, some (.inr 0), some (.inr 86), some (.inr 122), some (.inr 123), some (.inl (nI i)), o6, o7] [] σ n := by
  have hw9 : qWF g := F.2.2.2.2.2.2.2.2.2.2.2.1
  refine lV_aload_n (k := 1) F dL_law_2209 rfl ?_
  refine lV_arg (i := i) (j := 1) F (by omega) rfl rfl dL_law_2210 dL_law_2211 dL_law_2213 dL_law_2214 dL_law_2215 ?_
  refine lV_aload (k := 4) F dL_law_2216 rfl ?_
  have key : ∀ (k9 : Int32) (u : qS) (Q2 : Int32 → qS → Prop), qC g D mX10_lag [.inr 86, .inl (xs (i + 1))] u Q2 (fun _ _ => False) → (∀ bv u2, Q2 bv u2 → R u2 ∧ u2 86 0 = k9 ∧ (k9 = 0 → bv = u2 123 0 ∧ fOk bv.toUInt32)) → lV g b p e s m below meth c 2221 [none, some (.inr 0), some (.inr 86), some (.inr 122), some (.inr 123), some (.inl (nI i)), o6, o7] [.inl k9] u (n + 1) := by
    intro k9 u Q2 hq2 hQ2
    refine lV_istore (k := 6) F (by decide) (by decide) dL_law_2221 ?_
    refine lV_aload_n (k := 2) F dL_law_2223 rfl ?_
    refine lV_arg (i := i) (j := 1) F (by omega) rfl rfl dL_law_2224 dL_law_2225 dL_law_2227 dL_law_2228 dL_law_2229 ?_
    refine lV_fcall (D := D) (k := 86) (q := (RX10, TX10, 63)) F rfl rfl rfl ⟨by decide, by decide +kernel, by decide⟩ rfl lM_247 hD rfl rfl (by omega) dL_law_2230 dL_law_2233 hq2 (fun r u2 hbu => ?_)
    obtain ⟨hR, h0, h1⟩ := hQ2 _ u2 hbu
    have hgo : lV g b p e s m below meth c 2284 [none, some (.inr 0), some (.inr 86), some (.inr 122), some (.inr 123), some (.inl (nI i)), some (.inl k9), none] [] u2 (n + 1) := lV_goto (tgt := 2400) F dL_law_2284 rfl (hk u2 _ _ hR)
    obtain ⟨F1, F2, F3, F4, F5, F6, F7, F8, F9, F10, F11, F12, F13, F14, F15⟩ := id F
    intro H locs cells slots la hP hS hc9 hs9 hL h7
    refine lv_aload_n (k := 2) F1 F2 dL_law_2235 rfl (hL.2.2.2 2 (.inr 86) rfl) ?_
    refine lF_call (D := D) (k := 86) (q := (RX10, TX10, 63)) (ty := .int) (x := r) F rfl rfl rfl (qM_spec (by decide +kernel)) rfl lM_127 rfl hD rfl (by omega) dL_law_2236 (c_thrown hw9 D [.inr 86] u2 (u2 86 0) u2 (fun r u => r = u2 86 0 ∧ u = u2) _ rfl ⟨rfl, rfl⟩) (fun r9 u9 hru => ?_) H locs cells slots la hP hS hc9 hs9 hL h7
    obtain ⟨rfl, rfl⟩ := hru
    intro H locs cells slots la hP hS hc9 hs9 hL h7
    refine lv_iload (i := 6) (x := k9) F1 F2 dL_law_2239 (hL.2.2.2 6 (.inl k9) rfl) ?_
    refine lv_icmp_eq (tgt := 2246) F1 F2 dL_law_2241 rfl (fun _ => ?_) (fun hne => absurd h0 hne)
    refine lv_iload (i := 6) (x := k9) F1 F2 dL_law_2246 (hL.2.2.2 6 (.inl k9) rfl) ?_
    refine lv_if_ne (tgt := 2284) F1 F2 dL_law_2248 rfl (fun _ => hgo H locs cells slots la hP hS hc9 hs9 hL) (fun hz => ?_)
    obtain ⟨h2, h3⟩ := h1 hz
    have hok : fOk r := h3
    refine lv_aload (i := 4) F1 F2 dL_law_2251 (hL.2.2.2 4 (.inr 123) rfl) ?_
    refine lv_iconst (v := 0) F1 F2 dL_law_2253 (by decide) ?_
    refine va_dald (D := g.2.2.1) F1 F2 F8 hP 123 4 qW_dAt rfl (vp_in_nI (n := 0) (by decide) (by decide)) dL_law_2254 ?_
    refine lv_fload (i := 7) (x := r) F1 F2 dL_law_2255 h7 ?_
    refine lv_f2d F1 F2 dL_law_2257 (f2d_n hok) ?_
    refine lv_dcmp F1 F2 dL_law_2258 ?_
    have hcm : Op.cmpValue (FP.dcmp (FP.f2d (u9 123 (0 : Int32).toNatClampNeg).toUInt32) (FP.f2d r)) .l = 0 := by
      have e1 : u9 123 (0 : Int32).toNatClampNeg = r.toInt32 := h2.symm
      rw [e1, bits_r, dcmp_s hok]
      rfl
    rw [hcm]
    exact lv_if_eq (tgt := 2284) F1 F2 dL_law_2259 rfl (fun _ => hgo H locs cells slots la hP hS hc9 hs9 hL) (fun hn0 => absurd rfl hn0)
  refine lV_wrap (na := 3) (as := [.inr 0, .inl (xs (i + 1)), .inr 123]) F (lw_lag hw9 (fun E u hE => hE.1) (fun r u h => h.1) hp) (by decide) hD (by omega) lW_lag (by decide) (by decide +kernel) (by decide) rfl dL_law_2218 (fun k9 u hQ => ?_)
  rcases hQ with ⟨rfl, r, u0, hq, rfl⟩ | ⟨j, E, hj, rfl, hTE⟩
  · exact key 0 _ _ hq.2 (fun bv u2 h => ⟨h.1, h.2.1, fun _ => h.2.2⟩)
  · have ej : j = 0 := by
      have := (List.getElem?_eq_some_iff.mp hj).1
      have h3 : eL_lag.length = 1 := rfl
      omega
    rw [ej]
    exact key _ u _ hTE.2 (fun bv u2 h => ⟨h.1, h.2, fun h0 => absurd h0 (nI_ne0 (by omega) (by omega))⟩)
