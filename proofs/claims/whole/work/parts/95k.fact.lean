/-! ===== what the start gives: printed by wip/whole/gen27.py ===== -/
section NF
variable {s : State} {b : Nat}
theorem n_w : ∀ w ∈ ([.instantiable RX0 7, .instantiable RX1 2, .instantiable RX2 14, .instantiable RX3 12, .instantiable RX4 11, .instantiable RX5 1, .instantiable RX6 4, .instantiable RX7 7, .instantiable RX8 4, .instantiable RX9 4, .instantiable RX10 63, .arrayClass .int, .arrayClass .byte, .arrayClass .boolean, .arrayClass .long, .arrayClass .double] : List Jvm.Cond), w ∈ lw_tbl := qtb_of [263, 297, 151, 372, 157, 163, 366, 228, 378, 143, 1408, 172, 513, 1634, 1635, 2110] (by decide +kernel)
theorem n_K (hts : ∀ w ∈ lw_tbl, w.before #[Value.ref b] s = true) : ∃ (D : va_G) (cs : Nat → ClassId), va_K D vwCl (qtys cs) s := by
  have hq : ∀ w ∈ qgw, w.before #[Value.ref b] s = true := fun w hw => hts w (List.mem_filter.mp hw).1
  obtain ⟨c0, i0, k0⟩ := u_known (C := RX0) (T := TX0) (N := 7) (n := 7) hq qin0 (hts _ (n_w _ (List.mem_of_getElem? (i := 0) rfl)))
  obtain ⟨c1, i1, k1⟩ := u_known (C := RX1) (T := TX1) (N := 2) (n := 2) hq qin1 (hts _ (n_w _ (List.mem_of_getElem? (i := 1) rfl)))
  obtain ⟨c2, i2, k2⟩ := u_known (C := RX2) (T := TX2) (N := 14) (n := 14) hq qin2 (hts _ (n_w _ (List.mem_of_getElem? (i := 2) rfl)))
  obtain ⟨c3, i3, k3⟩ := u_known (C := RX3) (T := TX3) (N := 12) (n := 12) hq qin3 (hts _ (n_w _ (List.mem_of_getElem? (i := 3) rfl)))
  obtain ⟨c4, i4, k4⟩ := u_known (C := RX4) (T := TX4) (N := 11) (n := 11) hq qin4 (hts _ (n_w _ (List.mem_of_getElem? (i := 4) rfl)))
  obtain ⟨c5, i5, k5⟩ := u_known (C := RX5) (T := TX5) (N := 1) (n := 1) hq qin5 (hts _ (n_w _ (List.mem_of_getElem? (i := 5) rfl)))
  obtain ⟨c6, i6, k6⟩ := u_known (C := RX6) (T := TX6) (N := 4) (n := 4) hq qin6 (hts _ (n_w _ (List.mem_of_getElem? (i := 6) rfl)))
  obtain ⟨c7, i7, k7⟩ := u_known (C := RX7) (T := TX7) (N := 7) (n := 7) hq qin7 (hts _ (n_w _ (List.mem_of_getElem? (i := 7) rfl)))
  obtain ⟨c8, i8, k8⟩ := u_known (C := RX8) (T := TX8) (N := 4) (n := 4) hq qin8 (hts _ (n_w _ (List.mem_of_getElem? (i := 8) rfl)))
  obtain ⟨c9, i9, k9⟩ := u_known (C := RX9) (T := TX9) (N := 4) (n := 4) hq qin9 (hts _ (n_w _ (List.mem_of_getElem? (i := 9) rfl)))
  obtain ⟨c10, i10, k10⟩ := u_known (C := RX10) (T := TX10) (N := 63) (n := 63) hq qin10 (hts _ (n_w _ (List.mem_of_getElem? (i := 10) rfl)))
  obtain ⟨a0, kA0, comp0, f0, g0, h0⟩ := Cond.arrayClass_spec (hts (.arrayClass .int) (n_w _ (List.mem_of_getElem? (i := 11) rfl)))
  obtain ⟨a1, kA1, comp1, f1, g1, h1⟩ := Cond.arrayClass_spec (hts (.arrayClass .byte) (n_w _ (List.mem_of_getElem? (i := 12) rfl)))
  obtain ⟨a2, kA2, comp2, f2, g2, h2⟩ := Cond.arrayClass_spec (hts (.arrayClass .boolean) (n_w _ (List.mem_of_getElem? (i := 13) rfl)))
  obtain ⟨a3, kA3, comp3, f3, g3, h3⟩ := Cond.arrayClass_spec (hts (.arrayClass .long) (n_w _ (List.mem_of_getElem? (i := 14) rfl)))
  obtain ⟨a4, kA4, comp4, f4, g4, h4⟩ := Cond.arrayClass_spec (hts (.arrayClass .double) (n_w _ (List.mem_of_getElem? (i := 15) rfl)))
  refine ⟨(fun k => ([c0, c1, c2, c3, c4, c5, c6, c7, c8, c9, c10] : List ClassId).getD k c0, fun k => ([i0, i1, i2, i3, i4, i5, i6, i7, i8, i9, i10] : List (Nat → Nat)).getD k i0), fun k => ([a0, a1, a2, a3, a4] : List ClassId).getD k a0, fun k q hk => ?_, fun k q hk => ?_⟩
  · match k, hk with
    | 0, hk => cases Option.some.inj hk; exact k0
    | 1, hk => cases Option.some.inj hk; exact k1
    | 2, hk => cases Option.some.inj hk; exact k2
    | 3, hk => cases Option.some.inj hk; exact k3
    | 4, hk => cases Option.some.inj hk; exact k4
    | 5, hk => cases Option.some.inj hk; exact k5
    | 6, hk => cases Option.some.inj hk; exact k6
    | 7, hk => cases Option.some.inj hk; exact k7
    | 8, hk => cases Option.some.inj hk; exact k8
    | 9, hk => cases Option.some.inj hk; exact k9
    | 10, hk => cases Option.some.inj hk; exact k10
    | k + 11, hk => exact absurd (List.getElem?_eq_some_iff.mp hk).1 (by show ¬ k + 11 < 11; omega)
  · match k, hk with
    | 0, hk => cases Option.some.inj hk; exact ⟨fun n z => ⟨fun k h => (by cases h), kA0, g0, comp0, h0⟩, f0⟩
    | 1, hk => cases Option.some.inj hk; exact ⟨fun n z => ⟨fun k h => (by cases h), kA1, g1, comp1, h1⟩, f1⟩
    | 2, hk => cases Option.some.inj hk; exact ⟨fun n z => ⟨fun k h => (by cases h), kA2, g2, comp2, h2⟩, f2⟩
    | 3, hk => cases Option.some.inj hk; exact ⟨fun n z => ⟨fun k h => (by cases h), kA3, g3, comp3, h3⟩, f3⟩
    | 4, hk => cases Option.some.inj hk; exact ⟨fun n z => ⟨fun k h => (by cases h), kA4, g4, comp4, h4⟩, f4⟩
    | k + 5, hk => exact absurd (List.getElem?_eq_some_iff.mp hk).1 (by show ¬ k + 5 < 5; omega)
theorem n_s : ∀ w ∈ ([.laysStatic "java/lang/String" "COMPACT_STRINGS" "Z", .initialized "java/lang/String", .laysStatic "jdk/internal/util/Preconditions" "SIOOBE_FORMATTER" "Ljava/util/function/BiFunction;", .initialized "jdk/internal/util/Preconditions", .laysStatic "SharedLog" "NUMBERS" "[I", .initialized "SharedLog", .laysStatic "SharedLog" "SIZES" "[I", .initialized "SharedLog", .laysStatic "java/lang/Throwable" "UNASSIGNED_STACK" "[Ljava/lang/StackTraceElement;", .initialized "java/lang/Throwable", .laysStatic "java/lang/Throwable" "SUPPRESSED_SENTINEL" "Ljava/util/List;", .initialized "java/lang/Throwable"] : List Jvm.Cond), w ∈ lw_tbl := qtb_of [558, 135, 577, 137, 639, 119, 719, 119, 938, 130, 940, 130] (by decide +kernel)
theorem n_m : ∀ q ∈ qmsgs, Jvm.Cond.stringRef "SharedLog" q.1 q.2 ∈ lw_tbl := by decide +kernel
theorem n_t : Jvm.Cond.stringRef "SharedLog$Tokens" 60 qwords ∈ lw_tbl := qtb_of (ws := [Jvm.Cond.stringRef "SharedLog$Tokens" 60 qwords]) [548] (by decide +kernel) _ List.mem_cons_self
abbrev nF : List Jvm.Cond := flatC (Jvm.Cond.and given_1 narrow_1)
theorem n_p : ∀ w ∈ ([.eq (.static "java/lang/String" "COMPACT_STRINGS" "Z") (.int 1), .isRef (.static "jdk/internal/util/Preconditions" "SIOOBE_FORMATTER" "Ljava/util/function/BiFunction;"), .arrayOf (.static "SharedLog" "NUMBERS" "[I") .int, .eq (.length (.static "SharedLog" "NUMBERS" "[I")) (.int 13), .arrayOf (.static "SharedLog" "SIZES" "[I") .int, .eq (.length (.static "SharedLog" "SIZES" "[I")) (.int 9), .isRef (.static "java/lang/Throwable" "UNASSIGNED_STACK" "[Ljava/lang/StackTraceElement;"), .isRef (.static "java/lang/Throwable" "SUPPRESSED_SENTINEL" "Ljava/util/List;"), .exactly (.string "SharedLog$Tokens" 60) "java/lang/String", .eq (.field (.string "SharedLog$Tokens" 60) "java/lang/String" "coder" "B") (.int 0), .arrayOf (.field (.string "SharedLog$Tokens" 60) "java/lang/String" "value" "[B") .byte, .eq (.length (.field (.string "SharedLog$Tokens" 60) "java/lang/String" "value" "[B")) (.int 144)] : List Jvm.Cond), w ∈ nF := by decide +kernel
theorem n_pn : ∀ j, j < 13 → Jvm.Cond.eq (.elem (.static "SharedLog" "NUMBERS" "[I") (.int (Int32.ofNat j))) (.int (qnbs j)) ∈ nF := fun j hj => va_run (N := 13) (p := 12) (f := fun j => Jvm.Cond.eq (.elem (.static "SharedLog" "NUMBERS" "[I") (.int (Int32.ofNat j))) (.int (qnbs j))) (by decide +kernel) j hj
theorem n_ps : ∀ j, j < 9 → Jvm.Cond.eq (.elem (.static "SharedLog" "SIZES" "[I") (.int (Int32.ofNat j))) (.int (qszs j)) ∈ nF := fun j hj => va_run (N := 9) (p := 28) (f := fun j => Jvm.Cond.eq (.elem (.static "SharedLog" "SIZES" "[I") (.int (Int32.ofNat j))) (.int (qszs j))) (by decide +kernel) j hj
theorem n_pt : ∀ j, j < 144 → Jvm.Cond.eq (.elem (.field (.string "SharedLog$Tokens" 60) "java/lang/String" "value" "[B") (.int (Int32.ofNat j))) (.int (qwbs.getD j 0)) ∈ nF := fun j hj => va_run (N := 144) (p := 99) (f := fun j => Jvm.Cond.eq (.elem (.field (.string "SharedLog$Tokens" 60) "java/lang/String" "value" "[B") (.int (Int32.ofNat j))) (.int (qwbs.getD j 0))) (by decide +kernel) j hj
theorem n_pm : ∀ q ∈ qmsgs, Jvm.Cond.exactly (.string "SharedLog" q.1) "java/lang/String" ∈ nF := by decide +kernel
theorem n_pc : ∀ q ∈ lpairs, Jvm.Cond.not (.castable q.1 q.2) ∈ nF := by decide +kernel
theorem n_lK (hgv : (Jvm.Cond.and given_1 narrow_1).before #[Value.ref b] s = true) : lK s := fun q hq => va_Nc.of (flat_of_before _ hgv _ (n_pc q hq))
theorem n_qK {g : qG} (hfl : g.1.flags = flags0) (hA : ∀ a : Nat, a < s.heap.size → ¬ g.2.1 a) (hts : ∀ w ∈ lw_tbl, w.before #[Value.ref b] s = true) (hgv : (Jvm.Cond.and given_1 narrow_1).before #[Value.ref b] s = true) : qK g s := by
  have hn := flat_of_before _ hgv
  have P : ∀ i w, _ := fun i w (h : _[i]? = some w) => hn w (n_p w (List.mem_of_getElem? h))
  have S : ∀ i w, _ := fun i w (h : _[i]? = some w) => hts w (n_s w (List.mem_of_getElem? h))
  refine ⟨fun w hw hq => ?_, ⟨vx_Zqof (S 8 _ rfl) (S 9 _ rfl) (P 6 _ rfl) hA, vx_Zqof (S 10 _ rfl) (S 11 _ rfl) (P 7 _ rfl) hA⟩, ?_, ?_, fun q hq => ?_, ?_, ?_, va_Zof (S 0 _ rfl) (S 1 _ rfl) (va_eqt (P 0 _ rfl)) hA, va_Zqof (S 2 _ rfl) (S 3 _ rfl) (P 1 _ rfl) hA⟩
  · have h1 := hts w hw
    cases w <;> first | exact va_Nw.of rfl h1 | exact absurd (show false = true from hq) Bool.false_ne_true
  · obtain ⟨t, ht, hT⟩ := va_Tof (N := 9) (f := fun j => .int (qszs j)) (A := g.2.1) (by decide) (P 4 _ rfl) (va_eqt (P 5 _ rfl)) (fun j hj => va_eqt (hn _ (n_ps j hj))) hA
    exact ⟨t, va_Zof (S 6 _ rfl) (S 7 _ rfl) ht hA, hT⟩
  · obtain ⟨t, ht, hT⟩ := va_Tof (N := 13) (f := fun j => .int (qnbs j)) (A := g.2.1) (by decide) (P 2 _ rfl) (va_eqt (P 3 _ rfl)) (fun j hj => va_eqt (hn _ (n_pn j hj))) hA
    exact ⟨t, va_Zof (S 4 _ rfl) (S 5 _ rfl) ht hA, hT⟩
  · obtain ⟨a, c, cA, kA, q1, -⟩ := Cond.exactly_spec (args := #[Value.ref b]) (first := s) (o := none) (s := s) (idx := []) (t := .string "SharedLog" q.1) (cls := "java/lang/String") (hn _ (n_pm q hq))
    exact ⟨a, vk_R.of (hts _ (n_m q hq)) q1⟩
  · have z0 : ∀ i : Nat, i < 1 → i = 0 := fun i h => by omega
    obtain ⟨adK, adV, hS, hE⟩ := vk_Sof (args := #[Value.ref b]) (s := s) (N := 1) (tm := fun _ => .string "SharedLog$Tokens" 60) (len := [144]) (byt := [qwbs]) (A := g.2.1) (fun i hi => by rw [z0 i hi]; decide) (fun i _ => P 8 _ rfl) (fun i _ => P 9 _ rfl) (fun i _ => P 10 _ rfl) (fun i hi => by rw [z0 i hi]; exact P 11 _ rfl) (fun i hi j hj => by rw [z0 i hi] at hj ⊢; exact hn _ (n_pt j hj)) (fun i j h1 h2 h3 => absurd ((z0 i h1).trans (z0 j h2).symm) h3) hA
    exact ⟨adK, adV, hS, vk_R.of (hts _ n_t) (hE 0 (by decide))⟩
  · unfold Launch.stackTraces
    rw [hfl]
    decide
end NF
