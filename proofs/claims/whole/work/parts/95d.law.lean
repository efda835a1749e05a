/-! ===== the law's own walk, over any relation that its pairs of calls keep ===== -/
def lCtx (g : qG) (b L : Nat) (xs : Nat → Int32) (p : Program) (s : State) (m : MethodId) (meth : Method) (c : Code) : Prop :=
  p.tables.exec = Jvm.exec ∧ c.code = code ∧ meth.sig.returnType = ret ∧ c.maxLocals = 8 ∧ s.vm.findClass RL = some m.cls ∧ (∀ w ∈ qgw, w.before #[Value.ref b] s = true) ∧ meth.locks = false ∧ va_K g.2.2.1 vwCl (qtys g.2.2.2.2) s ∧ qK g s ∧ lK s ∧ (∀ q, g.2.1 q ↔ s.heap.size ≤ q) ∧ qWF g ∧ va_X b L xs s s.heap ∧ b < s.heap.size ∧ L ≤ 3072
def lL (g : qG) (b : Nat) (la : Array Slot) (ls : List (Option qP)) : Prop := la.size = 8 ∧ lv_wf la ∧ la[0]? = some (.val (.ref b)) ∧ ∀ (i : Nat) (v : qP), ls[i]? = some (some v) → la[i]? = some (.val (qv g.2.2.2.1 v))
def lV (g : qG) (b : Nat) (p : Program) (e : Env) (s : State) (m : MethodId) (below : List Frame) (meth : Method) (c : Code) (pc : Nat) (ls : List (Option qP)) (st : List qP) (σ : qS) (n : Nat) : Prop :=
  ∀ (H : Heap) (locs : List Loc) (cells slots : Nat) (la : Array Slot), va_P g.2.2.1 vwCl (qW g.2.2.2.1 g.2.2.2.2 σ) H → va_S g.2.1 s.heap H locs → cells ≤ 200 + 3 * n → slots ≤ 60000 + 18 * n → lL g b la ls →
    W p g.1 e room_1 s m #[Value.ref b] below meth c H locs cells slots (lw_Z below #[Value.ref b] s) (F0 m pc la (st.map (qv g.2.2.2.1)))
theorem lL.has {g : qG} {b : Nat} {la : Array Slot} {ls : List (Option qP)} (h : lL g b la ls) : lv_has la 8 ((0, .ref b) :: qas g.2.2.2.1 ls) := by
  refine ⟨h.1, h.2.1, fun q hq => ?_⟩
  rcases List.mem_cons.mp hq with rfl | hq
  · exact h.2.2.1
  · obtain ⟨v, h1, h2⟩ := qas_of hq
    rw [h2]
    exact h.2.2.2 _ _ h1
theorem lL.of_store {g : qG} {b i : Nat} {v : qP} {la : Array Slot} {ls : List (Option qP)} (hi : i ≠ 0) (h : lv_has la 8 ((i, qv g.2.2.2.1 v) :: ((0, Value.ref b) :: qas g.2.2.2.1 ls).filter (fun q => !(q.1 == i) && !(q.1 + 1 == i && q.2.category == 2)))) : lL g b la (ls.set i (some v)) := by
  refine ⟨h.1, h.2.1, ?_, fun j w hj => ?_⟩
  · refine h.2.2 (0, Value.ref b) (List.mem_cons_of_mem _ (List.mem_filter.mpr ⟨List.mem_cons_self, ?_⟩))
    have h1 : ((0 : Nat) == i) = false := by rw [beq_eq_false_iff_ne]; exact fun e => hi e.symm
    show (!(0 == i) && !(0 + 1 == i && (Value.ref b).category == 2)) = true
    rw [h1, show ((Value.ref b).category == 2) = false from rfl, Bool.and_false]
    rfl
  · rw [List.getElem?_set] at hj
    by_cases hij : i = j
    · subst hij
      rw [if_pos rfl] at hj
      split at hj
      · cases hj
        exact h.2.2 (i, qv g.2.2.2.1 v) List.mem_cons_self
      · cases hj
    · rw [if_neg hij] at hj
      refine h.2.2 (j, qv g.2.2.2.1 w) (List.mem_cons_of_mem _ (List.mem_filter.mpr ⟨List.mem_cons_of_mem _ (qas_mem hj), ?_⟩))
      have h1 : (j == i) = false := by rw [beq_eq_false_iff_ne]; exact fun e => hij e.symm
      have h2 : ((qv g.2.2.2.1 w).category == 2) = false := by rw [qv_cat]; rfl
      show (!(j == i) && !(j + 1 == i && (qv g.2.2.2.1 w).category == 2)) = true
      rw [h1, h2, Bool.and_false]
      rfl
section LV
variable {g : qG} {b L : Nat} {xs : Nat → Int32} {p : Program} {e : Env} {s : State} {m : MethodId} {below : List Frame} {meth : Method} {c : Code} {pc n : Nat} {ls : List (Option qP)} {st : List qP} {σ : qS}
theorem lV_iload {k : Nat} {v : Int32} (F : lCtx g b L xs p s m meth c) (hd : decode code pc = .ok (.iload k, 2)) (hl : ls[k]? = some (some (.inl v))) (h : lV g b p e s m below meth c (pc + 2) ls (.inl v :: st) σ n) : lV g b p e s m below meth c pc ls st σ n :=
  fun H locs cells slots la hP hS hc hs hL => lv_iload F.1 F.2.1 hd (hL.2.2.2 _ _ hl) (h H locs cells slots la hP hS hc hs hL)
theorem lV_aload_n {k : Fin 4} {v : Nat} (F : lCtx g b L xs p s m meth c) (hd : decode code pc = .ok (.aload_n k, 1)) (hl : ls[k.val]? = some (some (.inr v))) (h : lV g b p e s m below meth c (pc + 1) ls (.inr v :: st) σ n) : lV g b p e s m below meth c pc ls st σ n :=
  fun H locs cells slots la hP hS hc hs hL => lv_aload_n F.1 F.2.1 hd rfl (hL.2.2.2 _ _ hl) (h H locs cells slots la hP hS hc hs hL)
theorem lV_istore {k : Nat} {v : Int32} (F : lCtx g b L xs p s m meth c) (hk : k < 8) (h0 : k ≠ 0) (hd : decode code pc = .ok (.istore k, 2)) (h : lV g b p e s m below meth c (pc + 2) (ls.set k (some (.inl v))) st σ n) : lV g b p e s m below meth c pc ls (.inl v :: st) σ n :=
  fun H locs cells slots la hP hS hc hs hL => lv_istore F.1 F.2.1 hd hL.has hk rfl (fun la' h' => h H locs cells slots la' hP hS hc hs (lL.of_store h0 h'))
theorem lV_goto {off : Int} {tgt : Nat} (F : lCtx g b L xs p s m meth c) (hd : decode code pc = .ok (.goto off, 3)) (ht : (pc : Int) + off = (tgt : Int)) (h : lV g b p e s m below meth c tgt ls st σ n) : lV g b p e s m below meth c pc ls st σ n :=
  fun H locs cells slots la hP hS hc hs hL => lv_goto F.1 F.2.1 hd ht (h H locs cells slots la hP hS hc hs hL)
theorem lV_eq {off : Int} {tgt : Nat} {x : Int32} (F : lCtx g b L xs p s m meth c) (hd : decode code pc = .ok (.if_icmp .eq off, 3)) (ht : (pc : Int) + off = (tgt : Int)) (h : lV g b p e s m below meth c tgt ls st σ n) : lV g b p e s m below meth c pc ls (.inl x :: .inl x :: st) σ n :=
  fun H locs cells slots la hP hS hc hs hL => lv_icmp_eq F.1 F.2.1 hd ht (fun _ => h H locs cells slots la hP hS hc hs hL) (fun hn => absurd rfl hn)
/-- an argument out of the script -/
theorem lV_arg {i j : Nat} (F : lCtx g b L xs p s m meth c) (hij : i + j < L) (hl : ls[5]? = some (some (.inl (nI i)))) {jj : Int} (hjj : Int32.ofInt jj = nI j) (d0 : decode code pc = .ok (.aload_n 0, 1)) (d1 : decode code (pc + 1) = .ok (.iload 5, 2)) (d3 : decode code (pc + 3) = .ok (.iconst jj, 1)) (d4 : decode code (pc + 4) = .ok (.iadd, 1)) (d5 : decode code (pc + 5) = .ok (.iaload, 1))
    (h : lV g b p e s m below meth c (pc + 6) ls (.inl (xs (i + j)) :: st) σ n) : lV g b p e s m below meth c pc ls st σ n := by
  intro H locs cells slots la hP hS hc hs hL
  obtain ⟨F1, F2, F3, F4, F5, F6, F7, F8, F9, F10, F11, F12, F13, F14, F15⟩ := id F
  refine lv_aload_n (k := 0) F1 F2 d0 rfl hL.2.2.1 ?_
  refine lv_iload F1 F2 d1 (hL.2.2.2 _ _ hl) ?_
  refine lv_iconst (v := nI j) F1 F2 d3 hjj ?_
  refine lv_iadd F1 F2 d4 ?_
  rw [nI_add]
  refine va_sld F1 F2 F13 F14 (fun hA => absurd ((F11 b).mp hA) (Nat.not_le.mpr F14)) hS (vp_in_nI hij (by omega)) d5 ?_
  rw [nI_clamp (by omega)]
  exact h H locs cells slots la hP hS hc hs hL
/-- a call of a method by its contract; nothing is thrown -/
theorem lV_call {D idx k ci nf nn : Nat} {rs : List (Nat × Nat)} {q : vw_C} {M' : qMd} {as : List qP} {Q : Int32 → qS → Prop} {ty : FieldType} (F : lCtx g b L xs p s m meth c) (hk : qtab[k]? = some (false, ci, nf, rs)) (hc : vwCl[ci]? = some q) (hq : q.1 = M'.1.cls) (hM : qMok M') (hr : M'.2.2.2.1 = some ty)
    (hw : ∀ w ∈ ([.methodLink RL idx M'.1, .instanceMethod M'.1, .selects M'.1.cls M'.1 M'.1] ++ qcw M' : List Jvm.Cond), w ∈ qgw) (hn : as.length = M'.2.2.2.2.1) (h8 : st.length ≤ 8) (hD : D ≤ 100) (hb : qMd_b M' ≤ 3 * nn) (hnn : n + nn ≤ 600) (hd : decode code pc = .ok (.invokevirtual idx, 3))
    (hq9 : qC g D M' (.inr k :: as) σ Q (fun _ _ => False)) (h : ∀ r u, Q r u → lV g b p e s m below meth c (pc + 3) ls (.inl r :: st) u (n + nn)) : lV g b p e s m below meth c pc ls (as.reverse ++ .inr k :: st) σ n := by
  intro H locs cells slots la hP hS hc9 hs9 hL
  obtain ⟨F1, F2, F3, F4, F5, F6, F7, F8, F9, F10, F11, F12, F13, F14, F15⟩ := id F
  have hM9 := qC_met hq9
  have e9 : qQc g M' Q = va_Qi Q (qPost g) g.2.1 := qQc_i hr (fun e9 => hM.2.2.2 (by rw [hr, e9]))
  rw [e9] at hM9
  have hcd := hw _ (List.mem_append_right _ (List.mem_cons_of_mem _ List.mem_cons_self))
  have h40 := hM.2.2.1
  refine va_calli (va_runV (C := M'.1.cls) (b := g.2.2.2.1 k) (As := as.map (qv g.2.2.2.1)) (rest := st.map (qv g.2.2.2.1)) ⟨F1, F2, F4, F5, F6⟩ hM9 ⟨⟨rfl, rfl, (by show D + 12 + 1 ≤ 2048; omega), (by show 8 + (M'.2.2.1 + 11) + (60 * D + 300) ≤ 84000; omega), (fun w hw' a' U hW => by
      have hin : w ∈ qgw := by
        rcases List.mem_cons.mp hw' with rfl | h9
        · exact hcd
        · exact h9
      exact word_at hW (qgw_good hin) (F6 _ hin)), List.mem_cons_self, F6 _ hcd, F6 _ (hw _ (List.mem_append_right _ List.mem_cons_self)), hM.1, qlen hM, F6 _ (hw _ (List.mem_append_left _ List.mem_cons_self))⟩, F6 _ (hw _ (List.mem_append_left _ (List.mem_cons_of_mem _ List.mem_cons_self))), F6 _ (hw _ (List.mem_append_left _ (List.mem_cons_of_mem _ (List.mem_cons_of_mem _ List.mem_cons_self))))⟩ ⟨qblind, ?_, fun U hU hW => ⟨rfl, by rw [hU]; exact hP, va_K.moved hW.alike F8, qK_warm F9 hW (fun a h1 h2 => by rw [hU]; exact hS.2.1 a h1 h2), fun q9 h9 => (F11 q9).mpr (by rw [hU] at h9; exact Nat.le_trans hS.1 h9)⟩⟩ rfl (by rw [List.length_map]; exact hn) hL.1 ?_ (lv_room (by rw [qsum]; exact h8)) hd ⟨(by show cells + qMd_b M' ≤ 601024; omega), (by show slots + 6 * qMd_b M' ≤ 7293034; omega)⟩) hS (fun q9 _ h9 => h9) (fun q9 h9 => h9) (fun r u t H1 locs1 ht hvm hpost hB hz1 hk1 hS1 => ?_)
  · have hr9 := va_recv F8 hP hc (qW_obj hk)
    rw [hq] at hr9
    exact hr9
  · show (as.reverse ++ .inr k :: st).map (qv g.2.2.2.1) = (as.map (qv g.2.2.2.1)).reverse ++ .ref (g.2.2.2.1 k) :: st.map (qv g.2.2.2.1)
    rw [List.map_append, List.map_reverse]
    rfl
  · unfold qPost at hB
    rw [ht] at hB
    exact h r u hpost H1 locs1 _ _ la hB hS1 (by omega) (by omega) hL
/-- a call of a wrapper -/
theorem lV_wrap {d bb idx mL : Nat} {y : MethodName} {cc : ByteArray} {hh : List (Nat × Nat × Nat × Nat)} {as : List qP} {Q : Int32 → qS → Prop} {na : Nat} (F : lCtx g b L xs p s m meth c) (hM : Met g.1 y (.codeWith y cc mL (some .int) hh :: qgw) (lrm bb d) (va_Pc (as.map (qv g.2.2.2.1)) (lPre g σ)) (va_Qi Q (qPost g) g.2.1) bb (6 * bb) g.2.1) (hbb : bb ≤ 3) (hd9 : d ≤ 100) (hnn : n ≤ 600)
    (hw : ∀ w ∈ ([.methodLink RL idx y, .static y, .initialized y.cls, .codeWith y cc mL (some .int) hh] : List Jvm.Cond), w ∈ qgw) (hy : y.cls ≠ "java/lang/invoke/MethodHandle" ∧ y.cls ≠ "java/lang/invoke/VarHandle") (hlen : (parseMethodDescriptor y.desc).map (fun d => d.parameters.length) = some na) (hmL : mL ≤ 40) (hn : as.length = na) (hd : decode code pc = .ok (.invokestatic idx, 3))
    (h : ∀ r u, Q r u → lV g b p e s m below meth c (pc + 3) ls [.inl r] u (n + 1)) : lV g b p e s m below meth c pc ls as.reverse σ n := by
  intro H locs cells slots la hP hS hc9 hs9 hL
  obtain ⟨F1, F2, F3, F4, F5, F6, F7, F8, F9, F10, F11, F12, F13, F14, F15⟩ := id F
  have hcd := hw _ (List.mem_cons_of_mem _ (List.mem_cons_of_mem _ (List.mem_cons_of_mem _ List.mem_cons_self)))
  refine va_calli (vx_runSW (As := as.map (qv g.2.2.2.1)) (rest := []) ⟨F1, F2, F4, F5, F6⟩ hM ⟨⟨rfl, rfl, (by show d + 13 + 1 ≤ 2048; omega), (by show 8 + (mL + 11) + (60 * d + 360) ≤ 84000; omega), (fun w hw' a' U hW => by
      have hin : w ∈ qgw := by
        rcases List.mem_cons.mp hw' with rfl | h9
        · exact hcd
        · exact h9
      exact word_at hW (qgw_good hin) (F6 _ hin)), List.mem_cons_self⟩, F6 _ hcd, F6 _ (hw _ (List.mem_cons_of_mem _ (List.mem_cons_of_mem _ List.mem_cons_self))), hy, (fun sig hsg => by rw [hsg] at hlen; exact (Option.some.inj hlen).symm), F6 _ (hw _ List.mem_cons_self), F6 _ (hw _ (List.mem_cons_of_mem _ List.mem_cons_self))⟩ ⟨lblind, fun U hU hW => ⟨rfl, ⟨by rw [hU]; exact hP, va_K.moved hW.alike F8, qK_warm F9 hW (fun a h1 h2 => by rw [hU]; exact hS.2.1 a h1 h2), fun q9 h9 => (F11 q9).mpr (by rw [hU] at h9; exact Nat.le_trans hS.1 h9)⟩, lK_moved F10 hW.alike⟩⟩ rfl (by rw [List.length_map]; exact hn) hL.1 (by rw [List.append_nil]; exact List.map_reverse) (lv_room (by decide)) hd ⟨(by show cells + bb ≤ 601024; omega), (by show slots + 6 * bb ≤ 7293034; omega)⟩) hS (fun q9 _ h9 => h9) (fun q9 h9 => h9) (fun r u t H1 locs1 ht hvm hpost hB hz1 hk1 hS1 => ?_)
  unfold qPost at hB
  rw [ht] at hB
  exact h r u hpost H1 locs1 _ _ la hB hS1 (by omega) (by omega) hL
theorem lV_tail {D idx : Nat} {off : Int} {k bv : Int32} {o5 : Option qP} {v4 : Option qP} (F : lCtx g b L xs p s m meth c) (hD : D ≤ 100) (hn : n ≤ 600) (h0 : σ 86 0 = k) (h1 : k = 0 → bv = σ 122 0) (hw : ∀ w ∈ ([.methodLink RL idx mX10_thrown.1, .instanceMethod mX10_thrown.1, .selects mX10_thrown.1.cls mX10_thrown.1 mX10_thrown.1] ++ qcw mX10_thrown : List Jvm.Cond), w ∈ qgw)
    (d0 : decode code pc = .ok (.aload_n 2, 1)) (d1 : decode code (pc + 1) = .ok (.invokevirtual idx, 3)) (d4 : decode code (pc + 1 + 3) = .ok (.iload 6, 2)) (d6 : decode code (pc + 1 + 3 + 2) = .ok (.if_icmp .eq 5, 3)) (d11 : decode code (pc + 11) = .ok (.iload 6, 2)) (d13 : decode code (pc + 11 + 2) = .ok (.ifCond .ne 15, 3)) (d16 : decode code (pc + 11 + 2 + 3) = .ok (.aload_n 3, 1)) (d17 : decode code (pc + 11 + 2 + 3 + 1) = .ok (.iconst 0, 1)) (d18 : decode code (pc + 11 + 2 + 3 + 1 + 1) = .ok (.laload, 1)) (d19 : decode code (pc + 11 + 2 + 3 + 1 + 1 + 1) = .ok (.iload 7, 2)) (d21 : decode code (pc + 11 + 2 + 3 + 1 + 1 + 1 + 2) = .ok (.i2l, 1)) (d22 : decode code (pc + 11 + 2 + 3 + 1 + 1 + 1 + 2 + 1) = .ok (.lcmp, 1)) (d23 : decode code (pc + 11 + 2 + 3 + 1 + 1 + 1 + 2 + 1 + 1) = .ok (.ifCond .eq 5, 3)) (d28 : decode code (pc + 28) = .ok (.goto off, 3)) (ht : ((pc + 28 : Nat) : Int) + off = ((2400 : Nat) : Int))
    (h : lV g b p e s m below meth c 2400 [none, some (.inr 0), some (.inr 86), some (.inr 122), v4, o5, some (.inl k), some (.inl bv)] [] σ n) : lV g b p e s m below meth c pc [none, some (.inr 0), some (.inr 86), some (.inr 122), v4, o5, some (.inl k), some (.inl bv)] [] σ n := by
  have hw9 : qWF g := F.2.2.2.2.2.2.2.2.2.2.2.1
  refine lV_aload_n (k := 2) F d0 rfl ?_
  refine lV_call (D := D) (nn := 0) (as := []) (k := 86) (q := (RX10, TX10, 63)) (ty := .int) F rfl rfl rfl (qM_spec (by decide +kernel)) rfl hw rfl (Nat.zero_le _) hD (Nat.le_refl _) hn d1 (c_thrown hw9 D [.inr 86] σ (σ 86 0) σ (fun r u => r = σ 86 0 ∧ u = σ) _ rfl ⟨rfl, rfl⟩) (fun r u hru => ?_)
  obtain ⟨rfl, rfl⟩ := hru
  refine lV_iload (k := 6) F d4 rfl ?_
  rw [h0]
  refine lV_eq (tgt := pc + 11) F d6 (by omega) ?_
  refine lV_iload (k := 6) F d11 rfl ?_
  have hg : lV g b p e s m below meth c (pc + 28) [none, some (.inr 0), some (.inr 86), some (.inr 122), v4, o5, some (.inl k), some (.inl bv)] [] u (n + 0) := lV_goto (tgt := 2400) F d28 ht h
  intro H locs cells slots la hP hS hc hs hL
  obtain ⟨F1, F2, F3, F4, F5, F6, F7, F8, F9, F10, F11, F12, F13, F14, F15⟩ := id F
  refine lv_if_ne (tgt := pc + 28) F1 F2 d13 (by omega) (fun _ => hg H locs cells slots la hP hS hc hs hL) (fun hk0 => ?_)
  refine lv_aload_n (k := 3) F1 F2 d16 rfl (hL.2.2.2 3 (.inr 122) rfl) ?_
  refine lv_iconst (v := 0) F1 F2 d17 (by decide) ?_
  refine va_lald (D := g.2.2.1) F1 F2 F8 hP 122 3 qW_outAt rfl (vp_in_nI (n := 0) (by decide) (by decide)) d18 ?_
  refine lv_iload F1 F2 d19 (hL.2.2.2 7 (.inl bv) rfl) ?_
  refine lv_i2l (v := bv.toInt64) F1 F2 d21 rfl ?_
  refine W.lcmp F1 F2 d22 ?_
  have hcm : lg_cmp ((u 122 (0 : Int32).toNatClampNeg).toInt64) bv.toInt64 = 0 := by
    rw [h1 hk0]
    show lg_cmp ((u 122 0).toInt64) (u 122 0).toInt64 = 0
    unfold lg_cmp
    simp
  rw [hcm]
  exact lv_if_eq (tgt := pc + 28) F1 F2 d23 (by omega) (fun _ => hg H locs cells slots la hP hS hc hs hL) (fun hn0 => absurd rfl hn0)
end LV
