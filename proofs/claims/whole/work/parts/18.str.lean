/-! ===== the JDK's length and charAt over the class's constant text: printed by wip/whole/gen18.py ===== -/
def j_coder : qMd := (yJ0_coder_7d493, cJ0_coder_7d493, 1, some .byte, 0, 0, 0)
theorem j_coder_w : ∀ w ∈ qcw j_coder, w ∈ qgw := qgw_of [135, 556] (by decide +kernel) (by decide +kernel)
theorem j_coder_m : qMok j_coder := qM_spec (by decide +kernel)
def j_len : qMd := (yJ0_length_8abf5, cJ0_length_8abf5, 1, some .int, 0, 0, 0)
theorem j_len_w : ∀ w ∈ qcw j_len, w ∈ qgw := qgw_of [135, 552] (by decide +kernel) (by decide +kernel)
theorem j_len_m : qMok j_len := qM_spec (by decide +kernel)
def j_lat : qMd := (yJ0_isLatin1_aae02, cJ0_isLatin1_aae02, 1, some .boolean, 0, 0, 0)
theorem j_lat_w : ∀ w ∈ qcw j_lat, w ∈ qgw := qgw_of [135, 569] (by decide +kernel) (by decide +kernel)
theorem j_lat_m : qMok j_lat := qM_spec (by decide +kernel)
def j_char : qMd := (yJ0_charAt_5068e, cJ0_charAt_5068e, 2, some .char, 1, 0, 0)
theorem j_char_w : ∀ w ∈ qcw j_char, w ∈ qgw := qgw_of [135, 565] (by decide +kernel) (by decide +kernel)
theorem j_char_m : qMok j_char := qM_spec (by decide +kernel)
def j_lchar : qMd := (yJ1_charAt_3b067, cJ1_charAt_3b067, 2, some .char, 2, 0, 0)
theorem j_lchar_w : ∀ w ∈ qcw j_lchar, w ∈ qgw := qgw_of [136, 572] (by decide +kernel) (by decide +kernel)
theorem j_lchar_m : qMok j_lchar := qM_spec (by decide +kernel)
def j_chk : qMd := (yJ0_checkIndex_df160, cJ0_checkIndex_df160, 2, none, 2, 0, 0)
theorem j_chk_w : ∀ w ∈ qcw j_chk, w ∈ qgw := qgw_of [135, 575] (by decide +kernel) (by decide +kernel)
theorem j_chk_m : qMok j_chk := qM_spec (by decide +kernel)
def j_pchk : qMd := (yJ3_checkIndex_8e157, cJ3_checkIndex_8e157, 3, some .int, 3, 0, 0)
theorem j_pchk_w : ∀ w ∈ qcw j_pchk, w ∈ qgw := qgw_of [137, 580] (by decide +kernel) (by decide +kernel)
theorem j_pchk_m : qMok j_pchk := qM_spec (by decide +kernel)
theorem j_l_coder : ∀ w ∈ ([.methodLink "java/lang/String" 335 j_coder.1, .instanceMethod j_coder.1, .selects j_coder.1.cls j_coder.1 j_coder.1] : List Jvm.Cond), w ∈ qgw := qgw_of [553, 554, 555] (by decide +kernel) (by decide +kernel)
theorem j_l_lat : ∀ w ∈ ([.methodLink "java/lang/String" 492 j_lat.1, .instanceMethod j_lat.1, .selects j_lat.1.cls j_lat.1 j_lat.1] : List Jvm.Cond), w ∈ qgw := qgw_of [566, 567, 568] (by decide +kernel) (by decide +kernel)
theorem j_l_lchar : ∀ w ∈ ([.methodLink "java/lang/String" 495 j_lchar.1, .static j_lchar.1] : List Jvm.Cond), w ∈ qgw := qgw_of [570, 571] (by decide +kernel) (by decide +kernel)
theorem j_l_chk : ∀ w ∈ ([.methodLink "java/lang/StringLatin1" 9 j_chk.1, .static j_chk.1] : List Jvm.Cond), w ∈ qgw := qgw_of [573, 574] (by decide +kernel) (by decide +kernel)
theorem j_l_pchk : ∀ w ∈ ([.methodLink "java/lang/String" 1059 j_pchk.1, .static j_pchk.1] : List Jvm.Cond), w ∈ qgw := qgw_of [578, 579] (by decide +kernel) (by decide +kernel)
theorem j_l_len : ∀ w ∈ ([.methodLink "SharedLog$Tokens" 62 j_len.1, .instanceMethod j_len.1, .selects j_len.1.cls j_len.1 j_len.1] : List Jvm.Cond), w ∈ qgw := qgw_of [549, 550, 551] (by decide +kernel) (by decide +kernel)
theorem j_l_char : ∀ w ∈ ([.methodLink "SharedLog$Tokens" 72 j_char.1, .instanceMethod j_char.1, .selects j_char.1.cls j_char.1 j_char.1] : List Jvm.Cond), w ∈ qgw := qgw_of [562, 563, 564] (by decide +kernel) (by decide +kernel)
theorem j_f : ∀ w ∈ ([.fieldLink "java/lang/String" 9 "java/lang/String" "value" "[B", .fieldLink "java/lang/String" 15 "java/lang/String" "coder" "B", .fieldLink "java/lang/String" 38 "java/lang/String" "COMPACT_STRINGS" "Z", .fieldLink "java/lang/String" 1053 "jdk/internal/util/Preconditions" "SIOOBE_FORMATTER" "Ljava/util/function/BiFunction;"] : List Jvm.Cond), w ∈ qgw := qgw_of [2129, 2130, 557, 576] (by decide +kernel) (by decide +kernel)
/-- what of the state these methods use -/
def jK (A : Nat → Prop) (adK adV : Nat → Nat) (U : State) : Prop := vk_S 1 [144] [qwbs] adK adV A U U.heap ∧ va_Z "java/lang/String" "COMPACT_STRINGS" "Z" (.int 1) A U U.heap ∧ va_Zq "jdk/internal/util/Preconditions" "SIOOBE_FORMATTER" "Ljava/util/function/BiFunction;" A U U.heap
theorem jK_warm {A : Nat → Prop} {adK adV : Nat → Nat} {s U : State} (h : jK A adK adV s) (hW : s.WarmedH U.vm) (hq : ∀ a : Nat, a < s.heap.size → ¬ A a → U.heap[a]? = s.heap[a]?) : jK A adK adV U :=
  ⟨(h.1.moved hW.alike).kept hq, (h.2.1.moved hW.alike).kept hq, (h.2.2.moved hW.alike).kept hq⟩
def jrm (d : Nat) : Room := { frames := d, cells := 0, slots := 0, locals := 60 * d }
def jPc (A : Nat → Prop) (adK adV : Nat → Nat) (as : List Value) (H : Heap) : Array Value → State → Prop := va_Pc as (fun U => U.heap = H ∧ jK A adK adV U)
theorem jblind {A : Nat → Prop} {adK adV : Nat → Nat} {as : List Value} {H : Heap} : FrameBlind (jPc A adK adV as H) := by
  intro a U f mk q
  obtain ⟨q0, q1, q2⟩ := q
  exact ⟨q0, q1, jK_warm (U := U.calling f mk a) q2 (State.WarmedH.refl U) (fun _ _ _ => rfl)⟩
/-- a number for an answer, nothing changed -/
def jQi (v : Int32) (H : Heap) : Array Value → State → Outcome → State → Prop := va_Qi (fun r (_ : Unit) => r = v) (fun _ t => t.heap = H) (fun _ => False)
def jQv (H : Heap) : Array Value → State → Outcome → State → Prop := va_Qv (fun (_ : Unit) => True) (fun _ t => t.heap = H) (fun _ => False)
theorem jcallB {own : String} {idx d : Nat} {M' : qMd} {s : State} {args : Array Value} {R : Room} (hts : ∀ w ∈ qgw, w.before args s = true) (hM : qMok M') (hw : ∀ w ∈ qcw M', w ∈ qgw) (hl : Jvm.Cond.methodLink own idx M'.1 ∈ qgw) (hR : d + 1 ≤ R.frames ∧ 60 * d + 60 ≤ R.locals) :
    CallB R s args own idx M'.1 M'.2.1 M'.2.2.1 M'.2.2.2.1 (qws M') (jrm d) 0 0 M'.2.2.2.2.1 := by
  have hcd := hw _ (List.mem_cons_of_mem _ List.mem_cons_self)
  refine ⟨rfl, rfl, hR.1, ?_, fun w hw' a' U hW => ?_, List.mem_cons_self, hts _ hcd, hts _ (hw _ List.mem_cons_self), hM.1, qlen hM, hts _ hl⟩
  · have h40 := hM.2.2.1
    show 8 + (M'.2.2.1 + 11) + 60 * d ≤ R.locals
    omega
  · have hin : w ∈ qgw := by
      rcases List.mem_cons.mp hw' with rfl | h
      · exact hcd
      · exact h
    exact word_at hW (qgw_good hin) (hts _ hin)

def qwc (i : Nat) : Int32 := qwbs.getD i 0
theorem qwc_ok : ∀ i, i < 144 → ((qwc i &&& 255).toUInt32 % 65536).toInt32 = qwc i ∧ narrow .char (.int (qwc i)) = .int (qwc i) := by decide +kernel
section JS
variable {l : Launch} {A : Nat → Prop} {adK adV : Nat → Nat}
theorem j_coder_c {H : Heap} : Met l j_coder.1 (qws j_coder) (jrm 0) (jPc A adK adV [.ref (adK 0)] H) (jQi 0 H) 0 0 (fun _ => False) := by
  refine Met.ofW (cc := j_coder.2.1) (maxL := 1) (ret := some .byte) (by decide) rfl ?_
  intro p e s m args below meth c s₁ B hml hv
  obtain ⟨rfl, rfl, hK⟩ := hv
  obtain ⟨hK1, hK2, hK3⟩ := id hK
  have hx := B.exec
  have hb := B.bytes
  have hr := B.returns
  have hts := atoms_spec (ws := qws j_coder) B.pre
  have hts : ∀ w ∈ qgw, w.before _ s = true := fun w hw => hts w (List.mem_cons_of_mem _ hw)
  have hown : s.vm.findClass "java/lang/String" = some m.cls := findClass_of_methodNamed B.named
  have hlocks := B.notSynchronized
  have hS : va_S A s.heap s.heap [] := va_S.rf
  have hF : va_S (fun _ => False) s.heap s.heap [] := va_S.rf
  have hl := lv_entry ([.ref (adK 0)]) (n := 1) (Nat.le_of_ble_eq_true rfl)
  rw [lg_entry_eq]
  generalize (lg_sl ([.ref (adK 0)]) ++ List.replicate (1 - (lg_sl ([.ref (adK 0)])).length) Slot.unset).toArray = ls at hl ⊢
  have hl : lv_has ls 1 [(0, .ref (adK 0))] := hl
  refine va_gets hx hb hK2 hS hown (hts _ (j_f _ (List.mem_of_getElem? (i := 2) rfl))) (fun _ h9 => h9) (by decide +kernel : decode j_coder.2.1 0 = .ok (.getstatic 38, 3)) ?_
  refine lv_if_eq (tgt := 13) hx hb (by decide +kernel : decode j_coder.2.1 3 = .ok (.ifCond .eq 10, 3)) rfl (fun h => absurd h (by decide)) (fun _ => ?_)
  refine lv_aload_n (k := 0) hx hb (by decide +kernel : decode j_coder.2.1 6 = .ok (.aload_n 0, 1)) rfl (lv_at hl 0 rfl) ?_
  refine vk_getf hx hb (hK1.1 0 (by decide)).2.1 hS hown (hts _ (j_f _ (List.mem_of_getElem? (i := 1) rfl))) (fun _ h9 => h9) (by decide +kernel : decode j_coder.2.1 7 = .ok (.getfield 15, 3)) ?_
  refine lv_goto (tgt := 14) hx hb (by decide +kernel : decode j_coder.2.1 10 = .ok (.goto 4, 3)) rfl ?_
  exact W.zret hx hb hr (by decide) (fun t ht hW => ⟨⟨0, (), rfl, rfl, ht⟩, by rw [ht]; exact Nat.le_refl _, fun q _ _ => by rw [ht]⟩) hF.2.2 (by decide +kernel : decode j_coder.2.1 14 = .ok (.ireturn, 1)) hlocks
theorem j_lat_c {H : Heap} : Met l j_lat.1 (qws j_lat) (jrm 0) (jPc A adK adV [.ref (adK 0)] H) (jQi 1 H) 0 0 (fun _ => False) := by
  refine Met.ofW (cc := j_lat.2.1) (maxL := 1) (ret := some .boolean) (by decide) rfl ?_
  intro p e s m args below meth c s₁ B hml hv
  obtain ⟨rfl, rfl, hK⟩ := hv
  obtain ⟨hK1, hK2, hK3⟩ := id hK
  have hx := B.exec
  have hb := B.bytes
  have hr := B.returns
  have hts := atoms_spec (ws := qws j_lat) B.pre
  have hts : ∀ w ∈ qgw, w.before _ s = true := fun w hw => hts w (List.mem_cons_of_mem _ hw)
  have hown : s.vm.findClass "java/lang/String" = some m.cls := findClass_of_methodNamed B.named
  have hlocks := B.notSynchronized
  have hS : va_S A s.heap s.heap [] := va_S.rf
  have hF : va_S (fun _ => False) s.heap s.heap [] := va_S.rf
  have hl := lv_entry ([.ref (adK 0)]) (n := 1) (Nat.le_of_ble_eq_true rfl)
  rw [lg_entry_eq]
  generalize (lg_sl ([.ref (adK 0)]) ++ List.replicate (1 - (lg_sl ([.ref (adK 0)])).length) Slot.unset).toArray = ls at hl ⊢
  have hl : lv_has ls 1 [(0, .ref (adK 0))] := hl
  refine va_gets hx hb hK2 hS hown (hts _ (j_f _ (List.mem_of_getElem? (i := 2) rfl))) (fun _ h9 => h9) (by decide +kernel : decode j_lat.2.1 0 = .ok (.getstatic 38, 3)) ?_
  refine lv_if_eq (tgt := 17) hx hb (by decide +kernel : decode j_lat.2.1 3 = .ok (.ifCond .eq 14, 3)) rfl (fun h => absurd h (by decide)) (fun _ => ?_)
  refine lv_aload_n (k := 0) hx hb (by decide +kernel : decode j_lat.2.1 6 = .ok (.aload_n 0, 1)) rfl (lv_at hl 0 rfl) ?_
  refine vk_getf hx hb (hK1.1 0 (by decide)).2.1 hS hown (hts _ (j_f _ (List.mem_of_getElem? (i := 1) rfl))) (fun _ h9 => h9) (by decide +kernel : decode j_lat.2.1 7 = .ok (.getfield 15, 3)) ?_
  refine lv_if_ne (tgt := 17) hx hb (by decide +kernel : decode j_lat.2.1 10 = .ok (.ifCond .ne 7, 3)) rfl (fun h => absurd rfl h) (fun _ => ?_)
  refine lv_iconst (v := 1) hx hb (by decide +kernel : decode j_lat.2.1 13 = .ok (.iconst 1, 1)) (by decide) ?_
  refine lv_goto (tgt := 18) hx hb (by decide +kernel : decode j_lat.2.1 14 = .ok (.goto 4, 3)) rfl ?_
  exact W.zret hx hb hr (by decide) (fun t ht hW => ⟨⟨1, (), rfl, rfl, ht⟩, by rw [ht]; exact Nat.le_refl _, fun q _ _ => by rw [ht]⟩) hF.2.2 (by decide +kernel : decode j_lat.2.1 18 = .ok (.ireturn, 1)) hlocks
theorem j_len_c {H : Heap} : Met l j_len.1 (qws j_len) (jrm 1) (jPc A adK adV [.ref (adK 0)] H) (jQi 144 H) 0 0 (fun _ => False) := by
  refine Met.ofW (cc := j_len.2.1) (maxL := 1) (ret := some .int) (by decide) rfl ?_
  intro p e s m args below meth c s₁ B hml hv
  obtain ⟨rfl, rfl, hK⟩ := hv
  obtain ⟨hK1, hK2, hK3⟩ := id hK
  have hx := B.exec
  have hb := B.bytes
  have hr := B.returns
  have hts := atoms_spec (ws := qws j_len) B.pre
  have hts : ∀ w ∈ qgw, w.before _ s = true := fun w hw => hts w (List.mem_cons_of_mem _ hw)
  have hown : s.vm.findClass "java/lang/String" = some m.cls := findClass_of_methodNamed B.named
  have hlocks := B.notSynchronized
  have hS : va_S A s.heap s.heap [] := va_S.rf
  have hF : va_S (fun _ => False) s.heap s.heap [] := va_S.rf
  have hl := lv_entry ([.ref (adK 0)]) (n := 1) (Nat.le_of_ble_eq_true rfl)
  rw [lg_entry_eq]
  generalize (lg_sl ([.ref (adK 0)]) ++ List.replicate (1 - (lg_sl ([.ref (adK 0)])).length) Slot.unset).toArray = ls at hl ⊢
  have hl : lv_has ls 1 [(0, .ref (adK 0))] := hl
  refine lv_aload_n (k := 0) hx hb (by decide +kernel : decode j_len.2.1 0 = .ok (.aload_n 0, 1)) rfl (lv_at hl 0 rfl) ?_
  refine vk_getf hx hb (hK1.1 0 (by decide)).2.2.1 hS hown (hts _ (j_f _ (List.mem_of_getElem? (i := 0) rfl))) (fun _ h9 => h9) (by decide +kernel : decode j_len.2.1 1 = .ok (.getfield 9, 3)) ?_
  refine va_tlen (v := 144) hx hb (hK1.1 0 (by decide)).2.2.2 hS rfl (by decide +kernel : decode j_len.2.1 4 = .ok (.arraylength, 1)) ?_
  refine lv_aload_n (k := 0) hx hb (by decide +kernel : decode j_len.2.1 5 = .ok (.aload_n 0, 1)) rfl (lv_at hl 0 rfl) ?_
  refine va_calli (va_runV (C := "java/lang/String") (b := adK 0) (As := []) (rest := [.int 144]) ⟨hx, hb, hml, hown, hts⟩ (j_coder_c (l := l) (A := A) (adK := adK) (adV := adV) (H := s.heap)) ⟨jcallB hts j_coder_m j_coder_w (j_l_coder _ List.mem_cons_self) ⟨Nat.le_refl _, Nat.le_refl _⟩, hts _ (j_l_coder _ (List.mem_cons_of_mem _ List.mem_cons_self)), hts _ (j_l_coder _ (List.mem_cons_of_mem _ (List.mem_cons_of_mem _ List.mem_cons_self)))⟩ ⟨jblind, vk_recv hK1 (by decide) hS, fun U hU hW => ⟨rfl, hU, jK_warm hK hW (fun a _ _ => by rw [hU])⟩⟩ rfl rfl hl.1 rfl (lv_room (by decide)) (by decide +kernel : decode j_len.2.1 6 = .ok (.invokevirtual 335, 3)) ⟨Nat.le_refl _, Nat.le_refl _⟩) hF (fun q _ h => h.elim) (fun q h => h.elim) (fun r u t H1 locs1 ht hvm hw hB hz1 hk1 hS1 => ?_)
  subst hw
  have e1 : s.heap = H1 := hB.symm.trans ht
  subst e1
  have hF := hS1
  have hS : va_S A s.heap s.heap locs1 := ⟨Nat.le_refl _, fun _ _ _ => rfl, fun l hl => (hF.2.2 l hl).elim⟩
  refine lv_ishr hx hb (by decide +kernel : decode j_len.2.1 9 = .ok (.ishr, 1)) ?_
  exact W.iret (v := 144) hx hb hr (fun t ht hW => ⟨⟨144, (), rfl, rfl, ht⟩, by rw [ht]; exact Nat.le_refl _, fun q _ _ => by rw [ht]⟩) hF.2.2 (by decide +kernel : decode j_len.2.1 10 = .ok (.ireturn, 1)) hlocks
theorem j_pchk_c {H : Heap} {i n : Nat} {v : Option Nat} (hi : i < n) (hn : n < 2 ^ 31) : Met l j_pchk.1 (qws j_pchk) (jrm 0) (jPc A adK adV [.int (nI i), .int (nI n), va_rf v] H) (jQi (nI i) H) 0 0 (fun _ => False) := by
  cases v with
  | none =>
    change Met l j_pchk.1 (qws j_pchk) (jrm 0) (jPc A adK adV [.int (nI i), .int (nI n), .null] H) (jQi (nI i) H) 0 0 (fun _ => False)
    refine Met.ofW (cc := j_pchk.2.1) (maxL := 3) (ret := some .int) (by decide) rfl ?_
    intro p e s m args below meth c s₁ B hml hv
    obtain ⟨rfl, rfl, hK⟩ := hv
    obtain ⟨hK1, hK2, hK3⟩ := id hK
    have hx := B.exec
    have hb := B.bytes
    have hr := B.returns
    have hts := atoms_spec (ws := qws j_pchk) B.pre
    have hts : ∀ w ∈ qgw, w.before _ s = true := fun w hw => hts w (List.mem_cons_of_mem _ hw)
    have hown : s.vm.findClass "jdk/internal/util/Preconditions" = some m.cls := findClass_of_methodNamed B.named
    have hlocks := B.notSynchronized
    have hS : va_S A s.heap s.heap [] := va_S.rf
    have hF : va_S (fun _ => False) s.heap s.heap [] := va_S.rf
    have hl := lv_entry ([.int (nI i), .int (nI n), .null]) (n := 3) (Nat.le_of_ble_eq_true rfl)
    rw [lg_entry_eq]
    generalize (lg_sl ([.int (nI i), .int (nI n), .null]) ++ List.replicate (3 - (lg_sl ([.int (nI i), .int (nI n), .null])).length) Slot.unset).toArray = ls at hl ⊢
    have hl : lv_has ls 3 [(0, .int (nI i)), (1, .int (nI n)), (2, .null)] := hl
    refine lv_iload_n (k := 0) hx hb (by decide +kernel : decode j_pchk.2.1 0 = .ok (.iload_n 0, 1)) rfl (lv_at hl 0 rfl) ?_
    refine lv_if_lt (tgt := 9) hx hb (by decide +kernel : decode j_pchk.2.1 1 = .ok (.ifCond .lt 8, 3)) rfl (fun h => absurd h (nI_pos (by omega))) (fun _ => ?_)
    refine lv_iload_n (k := 0) hx hb (by decide +kernel : decode j_pchk.2.1 4 = .ok (.iload_n 0, 1)) rfl (lv_at hl 0 rfl) ?_
    refine lv_iload_n (k := 1) hx hb (by decide +kernel : decode j_pchk.2.1 5 = .ok (.iload_n 1, 1)) rfl (lv_at hl 1 rfl) ?_
    refine lv_icmp_lt (tgt := 16) hx hb (by decide +kernel : decode j_pchk.2.1 6 = .ok (.if_icmp .lt 10, 3)) rfl (fun _ => ?_) (fun h => absurd (nI_lt hi hn) h)
    refine lv_iload_n (k := 0) hx hb (by decide +kernel : decode j_pchk.2.1 16 = .ok (.iload_n 0, 1)) rfl (lv_at hl 0 rfl) ?_
    exact W.iret (v := nI i) hx hb hr (fun t ht hW => ⟨⟨nI i, (), rfl, rfl, ht⟩, by rw [ht]; exact Nat.le_refl _, fun q _ _ => by rw [ht]⟩) hF.2.2 (by decide +kernel : decode j_pchk.2.1 17 = .ok (.ireturn, 1)) hlocks
  | some r =>
    change Met l j_pchk.1 (qws j_pchk) (jrm 0) (jPc A adK adV [.int (nI i), .int (nI n), .ref r] H) (jQi (nI i) H) 0 0 (fun _ => False)
    refine Met.ofW (cc := j_pchk.2.1) (maxL := 3) (ret := some .int) (by decide) rfl ?_
    intro p e s m args below meth c s₁ B hml hv
    obtain ⟨rfl, rfl, hK⟩ := hv
    obtain ⟨hK1, hK2, hK3⟩ := id hK
    have hx := B.exec
    have hb := B.bytes
    have hr := B.returns
    have hts := atoms_spec (ws := qws j_pchk) B.pre
    have hts : ∀ w ∈ qgw, w.before _ s = true := fun w hw => hts w (List.mem_cons_of_mem _ hw)
    have hown : s.vm.findClass "jdk/internal/util/Preconditions" = some m.cls := findClass_of_methodNamed B.named
    have hlocks := B.notSynchronized
    have hS : va_S A s.heap s.heap [] := va_S.rf
    have hF : va_S (fun _ => False) s.heap s.heap [] := va_S.rf
    have hl := lv_entry ([.int (nI i), .int (nI n), .ref r]) (n := 3) (Nat.le_of_ble_eq_true rfl)
    rw [lg_entry_eq]
    generalize (lg_sl ([.int (nI i), .int (nI n), .ref r]) ++ List.replicate (3 - (lg_sl ([.int (nI i), .int (nI n), .ref r])).length) Slot.unset).toArray = ls at hl ⊢
    have hl : lv_has ls 3 [(0, .int (nI i)), (1, .int (nI n)), (2, .ref r)] := hl
    refine lv_iload_n (k := 0) hx hb (by decide +kernel : decode j_pchk.2.1 0 = .ok (.iload_n 0, 1)) rfl (lv_at hl 0 rfl) ?_
    refine lv_if_lt (tgt := 9) hx hb (by decide +kernel : decode j_pchk.2.1 1 = .ok (.ifCond .lt 8, 3)) rfl (fun h => absurd h (nI_pos (by omega))) (fun _ => ?_)
    refine lv_iload_n (k := 0) hx hb (by decide +kernel : decode j_pchk.2.1 4 = .ok (.iload_n 0, 1)) rfl (lv_at hl 0 rfl) ?_
    refine lv_iload_n (k := 1) hx hb (by decide +kernel : decode j_pchk.2.1 5 = .ok (.iload_n 1, 1)) rfl (lv_at hl 1 rfl) ?_
    refine lv_icmp_lt (tgt := 16) hx hb (by decide +kernel : decode j_pchk.2.1 6 = .ok (.if_icmp .lt 10, 3)) rfl (fun _ => ?_) (fun h => absurd (nI_lt hi hn) h)
    refine lv_iload_n (k := 0) hx hb (by decide +kernel : decode j_pchk.2.1 16 = .ok (.iload_n 0, 1)) rfl (lv_at hl 0 rfl) ?_
    exact W.iret (v := nI i) hx hb hr (fun t ht hW => ⟨⟨nI i, (), rfl, rfl, ht⟩, by rw [ht]; exact Nat.le_refl _, fun q _ _ => by rw [ht]⟩) hF.2.2 (by decide +kernel : decode j_pchk.2.1 17 = .ok (.ireturn, 1)) hlocks
theorem j_chk_c {H : Heap} {i n : Nat} (hi : i < n) (hn : n < 2 ^ 31) : Met l j_chk.1 (qws j_chk) (jrm 1) (jPc A adK adV [.int (nI i), .int (nI n)] H) (jQv H) 0 0 (fun _ => False) := by
  refine Met.ofW (cc := j_chk.2.1) (maxL := 2) (ret := none) (by decide) rfl ?_
  intro p e s m args below meth c s₁ B hml hv
  obtain ⟨rfl, rfl, hK⟩ := hv
  obtain ⟨hK1, hK2, hK3⟩ := id hK
  have hx := B.exec
  have hb := B.bytes
  have hr := B.returns
  have hts := atoms_spec (ws := qws j_chk) B.pre
  have hts : ∀ w ∈ qgw, w.before _ s = true := fun w hw => hts w (List.mem_cons_of_mem _ hw)
  have hown : s.vm.findClass "java/lang/String" = some m.cls := findClass_of_methodNamed B.named
  have hlocks := B.notSynchronized
  have hS : va_S A s.heap s.heap [] := va_S.rf
  have hF : va_S (fun _ => False) s.heap s.heap [] := va_S.rf
  have hl := lv_entry ([.int (nI i), .int (nI n)]) (n := 2) (Nat.le_of_ble_eq_true rfl)
  rw [lg_entry_eq]
  generalize (lg_sl ([.int (nI i), .int (nI n)]) ++ List.replicate (2 - (lg_sl ([.int (nI i), .int (nI n)])).length) Slot.unset).toArray = ls at hl ⊢
  have hl : lv_has ls 2 [(0, .int (nI i)), (1, .int (nI n))] := hl
  refine lv_iload_n (k := 0) hx hb (by decide +kernel : decode j_chk.2.1 0 = .ok (.iload_n 0, 1)) rfl (lv_at hl 0 rfl) ?_
  refine lv_iload_n (k := 1) hx hb (by decide +kernel : decode j_chk.2.1 1 = .ok (.iload_n 1, 1)) rfl (lv_at hl 1 rfl) ?_
  have key : ∀ v : Option Nat, va_Z "jdk/internal/util/Preconditions" "SIOOBE_FORMATTER" "Ljava/util/function/BiFunction;" (va_rf v) A s s.heap → W p l e (headSpec (qws j_chk) (jrm 1)).room s m (List.toArray [Value.int (nI i), Value.int (nI n)]) below meth c s.heap [] 0 0 (MQ below (jQv s.heap) (List.toArray [Value.int (nI i), Value.int (nI n)]) s 0 0 fun _ => False) (F0 m 2 ls [.int (nI n), .int (nI i)]) := by
    intro v hZ
    refine va_gets hx hb hZ hS hown (hts _ (j_f _ (List.mem_of_getElem? (i := 3) rfl))) (fun _ h9 => h9) (by decide +kernel : decode j_chk.2.1 2 = .ok (.getstatic 1053, 3)) ?_
    refine va_calli (va_runS (As := [.int (nI i), .int (nI n), va_rf v]) (rest := []) ⟨hx, hb, hml, hown, hts⟩ (j_pchk_c (l := l) (A := A) (adK := adK) (adV := adV) (H := s.heap) (v := v) hi hn) ⟨jcallB hts j_pchk_m j_pchk_w (j_l_pchk _ List.mem_cons_self) ⟨Nat.le_refl _, Nat.le_refl _⟩, hts _ (j_l_pchk _ (List.mem_cons_of_mem _ List.mem_cons_self))⟩ ⟨jblind, fun U hU hW => ⟨rfl, hU, jK_warm hK hW (fun a _ _ => by rw [hU])⟩⟩ rfl rfl hl.1 rfl (lv_room (by decide)) (by decide +kernel : decode j_chk.2.1 5 = .ok (.invokestatic 1059, 3)) ⟨Nat.le_refl _, Nat.le_refl _⟩) hF (fun q _ h => h.elim) (fun q h => h.elim) (fun r u t H1 locs1 ht hvm hw hB hz1 hk1 hS1 => ?_)
    have e1 : s.heap = H1 := hB.symm.trans ht
    subst e1
    have hF := hS1
    refine lv_pop hx hb (by decide +kernel : decode j_chk.2.1 8 = .ok (.pop, 1)) rfl ?_
    exact W.vret hx hb hr (fun t ht hW => ⟨⟨(), rfl, trivial, ht⟩, by rw [ht]; exact Nat.le_refl _, fun q _ _ => by rw [ht]⟩) hF.2.2 (by decide +kernel : decode j_chk.2.1 9 = .ok (.return_, 1)) hlocks
  rcases hK3 with h3 | ⟨t, h3⟩
  · exact key none h3
  · exact key (some t) h3
theorem j_lchar_c {H : Heap} {i : Nat} (hi : i < 144) : Met l j_lchar.1 (qws j_lchar) (jrm 2) (jPc A adK adV [.ref (adV 0), .int (nI i)] H) (jQi (qwc i) H) 0 0 (fun _ => False) := by
  refine Met.ofW (cc := j_lchar.2.1) (maxL := 2) (ret := some .char) (by decide) rfl ?_
  intro p e s m args below meth c s₁ B hml hv
  obtain ⟨rfl, rfl, hK⟩ := hv
  obtain ⟨hK1, hK2, hK3⟩ := id hK
  have hx := B.exec
  have hb := B.bytes
  have hr := B.returns
  have hts := atoms_spec (ws := qws j_lchar) B.pre
  have hts : ∀ w ∈ qgw, w.before _ s = true := fun w hw => hts w (List.mem_cons_of_mem _ hw)
  have hown : s.vm.findClass "java/lang/StringLatin1" = some m.cls := findClass_of_methodNamed B.named
  have hlocks := B.notSynchronized
  have hS : va_S A s.heap s.heap [] := va_S.rf
  have hF : va_S (fun _ => False) s.heap s.heap [] := va_S.rf
  have hl := lv_entry ([.ref (adV 0), .int (nI i)]) (n := 2) (Nat.le_of_ble_eq_true rfl)
  rw [lg_entry_eq]
  generalize (lg_sl ([.ref (adV 0), .int (nI i)]) ++ List.replicate (2 - (lg_sl ([.ref (adV 0), .int (nI i)])).length) Slot.unset).toArray = ls at hl ⊢
  have hl : lv_has ls 2 [(0, .ref (adV 0)), (1, .int (nI i))] := hl
  refine lv_iload_n (k := 1) hx hb (by decide +kernel : decode j_lchar.2.1 0 = .ok (.iload_n 1, 1)) rfl (lv_at hl 1 rfl) ?_
  refine lv_aload_n (k := 0) hx hb (by decide +kernel : decode j_lchar.2.1 1 = .ok (.aload_n 0, 1)) rfl (lv_at hl 0 rfl) ?_
  refine va_tlen (v := nI 144) hx hb (hK1.1 0 (by decide)).2.2.2 hS rfl (by decide +kernel : decode j_lchar.2.1 2 = .ok (.arraylength, 1)) ?_
  refine va_callv (va_runS (As := [.int (nI i), .int (nI 144)]) (rest := []) ⟨hx, hb, hml, hown, hts⟩ (j_chk_c (l := l) (A := A) (adK := adK) (adV := adV) (H := s.heap) hi (by decide)) ⟨jcallB hts j_chk_m j_chk_w (j_l_chk _ List.mem_cons_self) ⟨Nat.le_refl _, Nat.le_refl _⟩, hts _ (j_l_chk _ (List.mem_cons_of_mem _ List.mem_cons_self))⟩ ⟨jblind, fun U hU hW => ⟨rfl, hU, jK_warm hK hW (fun a _ _ => by rw [hU])⟩⟩ rfl rfl hl.1 rfl (lv_room (by decide)) (by decide +kernel : decode j_lchar.2.1 3 = .ok (.invokestatic 9, 3)) ⟨Nat.le_refl _, Nat.le_refl _⟩) hF (fun q _ h => h.elim) (fun q h => h.elim) (fun u t H1 locs1 ht hvm hw hB hz1 hk1 hS1 => ?_)
  have e1 : s.heap = H1 := hB.symm.trans ht
  subst e1
  have hF := hS1
  have hS : va_S A s.heap s.heap locs1 := ⟨Nat.le_refl _, fun _ _ _ => rfl, fun l hl => (hF.2.2 l hl).elim⟩
  refine lv_aload_n (k := 0) hx hb (by decide +kernel : decode j_lchar.2.1 6 = .ok (.aload_n 0, 1)) rfl (lv_at hl 0 rfl) ?_
  refine lv_iload_n (k := 1) hx hb (by decide +kernel : decode j_lchar.2.1 7 = .ok (.iload_n 1, 1)) rfl (lv_at hl 1 rfl) ?_
  refine va_tb (v := .int (qwc i)) hx hb (hK1.1 0 (by decide)).2.2.2 hS (vp_in_nI (show i < 144 from hi) (by decide)) (by rw [nI_clamp (by omega)]; rfl) (by decide +kernel : decode j_lchar.2.1 8 = .ok (.baload, 1)) ?_
  refine lv_sipush (v := 255) hx hb (by decide +kernel : decode j_lchar.2.1 9 = .ok (.sipush 255, 3)) (by decide) ?_
  refine lv_iand hx hb (by decide +kernel : decode j_lchar.2.1 12 = .ok (.iand, 1)) ?_
  refine lv_i2c (v := qwc i) hx hb (by decide +kernel : decode j_lchar.2.1 13 = .ok (.i2c, 1)) (qwc_ok i hi).1 ?_
  exact W.zret hx hb hr (qwc_ok i hi).2 (fun t ht hW => ⟨⟨qwc i, (), rfl, rfl, ht⟩, by rw [ht]; exact Nat.le_refl _, fun q _ _ => by rw [ht]⟩) hF.2.2 (by decide +kernel : decode j_lchar.2.1 14 = .ok (.ireturn, 1)) hlocks
theorem j_char_c {H : Heap} {i : Nat} (hi : i < 144) : Met l j_char.1 (qws j_char) (jrm 3) (jPc A adK adV [.ref (adK 0), .int (nI i)] H) (jQi (qwc i) H) 0 0 (fun _ => False) := by
  refine Met.ofW (cc := j_char.2.1) (maxL := 2) (ret := some .char) (by decide) rfl ?_
  intro p e s m args below meth c s₁ B hml hv
  obtain ⟨rfl, rfl, hK⟩ := hv
  obtain ⟨hK1, hK2, hK3⟩ := id hK
  have hx := B.exec
  have hb := B.bytes
  have hr := B.returns
  have hts := atoms_spec (ws := qws j_char) B.pre
  have hts : ∀ w ∈ qgw, w.before _ s = true := fun w hw => hts w (List.mem_cons_of_mem _ hw)
  have hown : s.vm.findClass "java/lang/String" = some m.cls := findClass_of_methodNamed B.named
  have hlocks := B.notSynchronized
  have hS : va_S A s.heap s.heap [] := va_S.rf
  have hF : va_S (fun _ => False) s.heap s.heap [] := va_S.rf
  have hl := lv_entry ([.ref (adK 0), .int (nI i)]) (n := 2) (Nat.le_of_ble_eq_true rfl)
  rw [lg_entry_eq]
  generalize (lg_sl ([.ref (adK 0), .int (nI i)]) ++ List.replicate (2 - (lg_sl ([.ref (adK 0), .int (nI i)])).length) Slot.unset).toArray = ls at hl ⊢
  have hl : lv_has ls 2 [(0, .ref (adK 0)), (1, .int (nI i))] := hl
  refine lv_aload_n (k := 0) hx hb (by decide +kernel : decode j_char.2.1 0 = .ok (.aload_n 0, 1)) rfl (lv_at hl 0 rfl) ?_
  refine va_calli (va_runV (C := "java/lang/String") (b := adK 0) (As := []) (rest := []) ⟨hx, hb, hml, hown, hts⟩ (j_lat_c (l := l) (A := A) (adK := adK) (adV := adV) (H := s.heap)) ⟨jcallB hts j_lat_m j_lat_w (j_l_lat _ List.mem_cons_self) ⟨(by decide), (by decide)⟩, hts _ (j_l_lat _ (List.mem_cons_of_mem _ List.mem_cons_self)), hts _ (j_l_lat _ (List.mem_cons_of_mem _ (List.mem_cons_of_mem _ List.mem_cons_self)))⟩ ⟨jblind, vk_recv hK1 (by decide) hS, fun U hU hW => ⟨rfl, hU, jK_warm hK hW (fun a _ _ => by rw [hU])⟩⟩ rfl rfl hl.1 rfl (lv_room (by decide)) (by decide +kernel : decode j_char.2.1 1 = .ok (.invokevirtual 492, 3)) ⟨Nat.le_refl _, Nat.le_refl _⟩) hF (fun q _ h => h.elim) (fun q h => h.elim) (fun r u t H1 locs1 ht hvm hw hB hz1 hk1 hS1 => ?_)
  subst hw
  have e1 : s.heap = H1 := hB.symm.trans ht
  subst e1
  have hF := hS1
  have hS : va_S A s.heap s.heap locs1 := ⟨Nat.le_refl _, fun _ _ _ => rfl, fun l hl => (hF.2.2 l hl).elim⟩
  refine lv_if_eq (tgt := 16) hx hb (by decide +kernel : decode j_char.2.1 4 = .ok (.ifCond .eq 12, 3)) rfl (fun h => absurd h (by decide)) (fun _ => ?_)
  refine lv_aload_n (k := 0) hx hb (by decide +kernel : decode j_char.2.1 7 = .ok (.aload_n 0, 1)) rfl (lv_at hl 0 rfl) ?_
  refine vk_getf hx hb (hK1.1 0 (by decide)).2.2.1 hS hown (hts _ (j_f _ (List.mem_of_getElem? (i := 0) rfl))) (fun _ h9 => h9) (by decide +kernel : decode j_char.2.1 8 = .ok (.getfield 9, 3)) ?_
  refine lv_iload_n (k := 1) hx hb (by decide +kernel : decode j_char.2.1 11 = .ok (.iload_n 1, 1)) rfl (lv_at hl 1 rfl) ?_
  refine va_calli (va_runS (As := [.ref (adV 0), .int (nI i)]) (rest := []) ⟨hx, hb, hml, hown, hts⟩ (j_lchar_c (l := l) (A := A) (adK := adK) (adV := adV) (H := s.heap) hi) ⟨jcallB hts j_lchar_m j_lchar_w (j_l_lchar _ List.mem_cons_self) ⟨Nat.le_refl _, Nat.le_refl _⟩, hts _ (j_l_lchar _ (List.mem_cons_of_mem _ List.mem_cons_self))⟩ ⟨jblind, fun U hU hW => ⟨rfl, hU, jK_warm hK hW (fun a _ _ => by rw [hU])⟩⟩ rfl rfl hl.1 rfl (lv_room (by decide)) (by decide +kernel : decode j_char.2.1 12 = .ok (.invokestatic 495, 3)) ⟨Nat.le_refl _, Nat.le_refl _⟩) hF (fun q _ h => h.elim) (fun q h => h.elim) (fun r u t H1 locs1' ht hvm hw hB hz1 hk1 hS1 => ?_)
  subst hw
  have e1 : s.heap = H1 := hB.symm.trans ht
  subst e1
  have hF := hS1
  exact W.zret hx hb hr (qwc_ok i hi).2 (fun t ht hW => ⟨⟨qwc i, (), rfl, rfl, ht⟩, by rw [ht]; exact Nat.le_refl _, fun q _ _ => by rw [ht]⟩) hF.2.2 (by decide +kernel : decode j_char.2.1 15 = .ok (.ireturn, 1)) hlocks
end JS
section JV
variable {g : qG} {M : qMd} {d bu pc : Nat} {ls : List (Option qP)} {st : List qP} {σ : qS} {Q : Int32 → qS → Prop} {T : String → qS → Prop}
/-- WORDS.length() -/
theorem qV_wlen (hM : M.1.cls = "SharedLog$Tokens") (h8 : st.length ≤ 8) (d0 : decode M.2.1 pc = .ok (.ldc 60, 2)) (d2 : decode M.2.1 (pc + 2) = .ok (.invokevirtual 62, 3)) (h : qV g M d bu (pc + 5) ls (.inl 144 :: st) σ Q T) : qV g M d bu pc ls st σ Q T := by
  intro p e s m args below meth c H locs cells slots la F N L
  obtain ⟨F1, F2, F3, F4, F5, F6, F7, F8, F9, F10, F11, F12⟩ := id F
  obtain ⟨K1, K2, K3, K4, K5, ⟨adK, adV, K6, K7⟩, K8, K9, K10⟩ := F10
  obtain ⟨N1, N2, N3, N4⟩ := id N
  have hK : jK g.2.1 adK adV s := ⟨K6, K9, K10⟩
  refine va_ldcS F1 F2 F5 (by rw [hM]; exact K7) d0 ?_
  have hq : ∀ U : State, U.heap = H → ∀ a : Nat, a < s.heap.size → ¬ g.2.1 a → U.heap[a]? = s.heap[a]? := fun U hU a h1 h2 => by rw [hU]; exact N2.2.1 a h1 h2
  refine va_calli (va_runV (C := "java/lang/String") (b := adK 0) (As := []) (rest := st.map (qv g.2.2.2.1)) ⟨F1, F2, F4, F5, F6⟩ (j_len_c (l := g.1) (A := g.2.1) (adK := adK) (adV := adV) (H := H)) ⟨jcallB F6 j_len_m j_len_w (by rw [hM]; exact j_l_len _ List.mem_cons_self) ⟨(by show 1 + 1 ≤ d + 12; omega), (by show 60 * 1 + 60 ≤ 60 * d + 300; omega)⟩, F6 _ (j_l_len _ (List.mem_cons_of_mem _ List.mem_cons_self)), F6 _ (j_l_len _ (List.mem_cons_of_mem _ (List.mem_cons_of_mem _ List.mem_cons_self)))⟩ ⟨jblind, vk_recv K6 (by decide) N2, fun U hU hW => ⟨rfl, hU, jK_warm hK hW (hq U hU)⟩⟩ rfl rfl L.1 rfl (lv_room (by rw [qsum]; exact h8)) d2 ⟨(by show cells + 0 ≤ qMd_b M; omega), (by show slots + 0 ≤ 6 * qMd_b M; omega)⟩) N2 (fun q _ h => h.elim) (fun q h => h.elim) (fun r u t H1 locs1 ht hvm hw hB hz1 hk1 hS1 => ?_)
  subst hw
  have e1 : H = H1 := hB.symm.trans ht
  subst e1
  exact h p e s m args below meth c H locs1 _ _ la F ⟨N1, hS1, by omega, by omega⟩ L
/-- WORDS.charAt(l0 + l4) -/
theorem qV_wchar {a b : Int32} {i : Nat} (hM : M.1.cls = "SharedLog$Tokens") (h8 : st.length ≤ 6) (d0 : decode M.2.1 pc = .ok (.ldc 60, 2)) (d2 : decode M.2.1 (pc + 2) = .ok (.iload_n 0, 1)) (d3 : decode M.2.1 (pc + 3) = .ok (.iload 4, 2)) (d5 : decode M.2.1 (pc + 5) = .ok (.iadd, 1)) (d6 : decode M.2.1 (pc + 6) = .ok (.invokevirtual 72, 3)) (h0 : ls[0]? = some (some (.inl a))) (h4 : ls[4]? = some (some (.inl b))) (he : a + b = nI i) (hi : i < 144)
    (h : qV g M d bu (pc + 9) ls (.inl (qwc i) :: st) σ Q T) : qV g M d bu pc ls st σ Q T := by
  intro p e s m args below meth c H locs cells slots la F N L
  obtain ⟨F1, F2, F3, F4, F5, F6, F7, F8, F9, F10, F11, F12⟩ := id F
  obtain ⟨K1, K2, K3, K4, K5, ⟨adK, adV, K6, K7⟩, K8, K9, K10⟩ := F10
  obtain ⟨N1, N2, N3, N4⟩ := id N
  have hK : jK g.2.1 adK adV s := ⟨K6, K9, K10⟩
  refine va_ldcS F1 F2 F5 (by rw [hM]; exact K7) d0 ?_
  refine lv_iload_n (k := 0) F1 F2 d2 rfl (L.2.2 _ _ h0) ?_
  refine lv_iload F1 F2 d3 (L.2.2 _ _ h4) ?_
  refine lv_iadd F1 F2 d5 ?_
  rw [he]
  have hq : ∀ U : State, U.heap = H → ∀ a : Nat, a < s.heap.size → ¬ g.2.1 a → U.heap[a]? = s.heap[a]? := fun U hU a h1 h2 => by rw [hU]; exact N2.2.1 a h1 h2
  refine va_calli (va_runV (C := "java/lang/String") (b := adK 0) (As := [.int (nI i)]) (rest := st.map (qv g.2.2.2.1)) ⟨F1, F2, F4, F5, F6⟩ (j_char_c (l := g.1) (A := g.2.1) (adK := adK) (adV := adV) (H := H) hi) ⟨jcallB F6 j_char_m j_char_w (by rw [hM]; exact j_l_char _ List.mem_cons_self) ⟨(by show 3 + 1 ≤ d + 12; omega), (by show 60 * 3 + 60 ≤ 60 * d + 300; omega)⟩, F6 _ (j_l_char _ (List.mem_cons_of_mem _ List.mem_cons_self)), F6 _ (j_l_char _ (List.mem_cons_of_mem _ (List.mem_cons_of_mem _ List.mem_cons_self)))⟩ ⟨jblind, vk_recv K6 (by decide) N2, fun U hU hW => ⟨rfl, hU, jK_warm hK hW (hq U hU)⟩⟩ rfl rfl L.1 rfl (lv_room (by rw [qsum]; omega)) d6 ⟨(by show cells + 0 ≤ qMd_b M; omega), (by show slots + 0 ≤ 6 * qMd_b M; omega)⟩) N2 (fun q _ h => h.elim) (fun q h => h.elim) (fun r u t H1 locs1 ht hvm hw hB hz1 hk1 hS1 => ?_)
  subst hw
  have e1 : H = H1 := hB.symm.trans ht
  subst e1
  exact h p e s m args below meth c H locs1 _ _ la F ⟨N1, hS1, by omega, by omega⟩ L
end JV
