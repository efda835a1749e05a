/-! ===== the pure machine: states are numbers at (cell, slot); the graph of cells is fixed ===== -/
abbrev qP : Type := Int32 ⊕ Nat
abbrev qS : Type := Nat → Nat → Int32
def qup (σ : qS) (k j : Nat) (v : Int32) : qS := fun a b => if a = k then (if b = j then v else σ a b) else σ a b
/-- the keywords' codes: the one array of longs, never written -/
def qkw : Nat → Int64 := fun j => ([2268462, 116831540, 1130068, 24716933, 609664709, 114201, 628164, 343342, 594980, 6706792, 427595, 609752116, 762030, 302, 464660, 5018519941, 2937011, 719918116] : List Int64).getD j 0
def qfv (E : Nat → Nat) (σ : qS) (k : Nat) (rs : List (Nat × Nat)) (j : Nat) : Value := match rs.lookup j with
  | some r => .ref (E r)
  | none => .int (σ k j)
def qar (cs : Nat → ClassId) (f : Nat → Int32) (ty n : Nat) : va_E :=
  if ty < 3 then .inl (cs ty, n, .inl f)
  else if ty = 3 then .inl (cs 3, n, .inr (.inl qkw))
  else if ty = 4 then .inl (cs 3, n, .inr (.inl (fun j => (f j).toInt64)))
  else .inl (cs 4, n, .inr (.inr (.inr (.inl (fun j => FP.f2d (f j).toUInt32)))))
def qE (E : Nat → Nat) (cs : Nat → ClassId) (σ : qS) (k : Nat) : va_E := match qtab[k]? with
  | some (true, ty, n, _) => qar cs (σ k) ty n
  | some (false, ci, n, rs) => .inr (ci, (List.range n).map (fun j => qfv E σ k rs j))
  | none => qar cs (σ k) 0 0
def qW (E : Nat → Nat) (cs : Nat → ClassId) (σ : qS) : va_W := (List.range qtab.length).map (fun k => (E k, qE E cs σ k))
abbrev qtys (cs : Nat → ClassId) : List (ClassId × FieldType) := [(cs 0, .int), (cs 1, .byte), (cs 2, .boolean), (cs 3, .long), (cs 4, .double)]
def qv (E : Nat → Nat) : qP → Value
  | .inl n => .int n
  | .inr k => .ref (E k)
theorem qv_cat (E : Nat → Nat) (x : qP) : (qv E x).category = 1 := by cases x <;> rfl
theorem qW_at {E : Nat → Nat} {cs : Nat → ClassId} {σ : qS} {k : Nat} (h : k < qtab.length) : (qW E cs σ)[k]? = some (E k, qE E cs σ k) := by
  unfold qW
  rw [List.getElem?_map, List.getElem?_range h]
  rfl
theorem qW_len {E : Nat → Nat} {cs : Nat → ClassId} {σ : qS} : (qW E cs σ).length = qtab.length := by
  unfold qW
  rw [List.length_map, List.length_range]
theorem qW_set {E : Nat → Nat} {cs : Nat → ClassId} {σ σ' : qS} {k : Nat} {en : va_E} (he : qE E cs σ' k = en) (ho : ∀ a, a ≠ k → σ' a = σ a) : (qW E cs σ).set k (E k, en) = qW E cs σ' := by
  refine List.ext_getElem? fun i => ?_
  rw [List.getElem?_set]
  by_cases hi : i < qtab.length
  · rw [qW_at (σ := σ') hi]
    by_cases hk : k = i
    · subst hk
      rw [if_pos rfl, if_pos (by rw [qW_len]; exact hi), he]
    · rw [if_neg hk, qW_at hi]
      have h : σ' i = σ i := ho i (fun e => hk e.symm)
      have e : qE E cs σ' i = qE E cs σ i := by
        unfold qE
        split
        · rw [h]
        · simp only [qfv, h]
        · rw [h]
      rw [e]
  · have h1 : (qW E cs σ')[i]? = none := List.getElem?_eq_none (by rw [qW_len]; omega)
    rw [h1]
    by_cases hk : k = i
    · subst hk
      rw [if_pos rfl, if_neg (by rw [qW_len]; exact hi)]
    · rw [if_neg hk]
      exact List.getElem?_eq_none (by rw [qW_len]; omega)
theorem qup_o {σ : qS} {k j : Nat} {v : Int32} (a : Nat) (h : a ≠ k) : qup σ k j v a = σ a := by
  funext b
  unfold qup
  rw [if_neg h]
theorem qup_u {σ : qS} {k j : Nat} {v : Int32} : qup σ k j v k = upd (σ k) j v := by
  funext b
  unfold qup upd
  rw [if_pos rfl]
/-- what is fixed: the launch, which cells may change, the tables, the cells' addresses, the array classes -/
abbrev qG : Type := Launch × (Nat → Prop) × va_G × (Nat → Nat) × (Nat → ClassId)
/-- a method: name, bytes, places of locals, return type, number of parameters, its class among vwCl, how many exceptions it may make -/
abbrev qMd : Type := MethodName × ByteArray × Nat × Option FieldType × Nat × Nat × Nat
abbrev qMd_b (M : qMd) : Nat := M.2.2.2.2.2.2
def qgw : List Cond := lw_tbl.filter goodWord
def qnest : Cond → Bool
  | .fieldLinkNest .. => true
  | .methodLinkNest .. => true
  | .castable .. => true
  | .declares .. => true
  | _ => false
/-- the sizes of records, and how many numbers follow a command's word: two constant arrays of the class -/
def qszs : Nat → Int32 := fun j => ([4, 4, 4, 12, 6, 8, 10, 8, 6] : List Int32).getD j 0
def qnbs : Nat → Int32 := fun j => ([0, 1, 1, 3, 1, 2, 3, 1, 2, 0, 0, 1, 0] : List Int32).getD j 0
/-- the texts of exceptions, by their entries in the class's pool -/
def qmsgs : List (Nat × String) := [(241, "there is no such thing"), (244, "an argument is out of range"), (234, "the log does not allow this now"), (37, "the buffer has no room"), (48, "the length is out of range"), (89, "a setting is out of range"), (135, "the record is durable"), (248, "there is no such element")]
def qwords : String := "begin   commit  abort   write   remove  copy    send    join    read    flush   mark    repeat  when    in      next    durable bytes   unread  "
def qwbs : List Int32 := [98, 101, 103, 105, 110, 32, 32, 32, 99, 111, 109, 109, 105, 116, 32, 32, 97, 98, 111, 114, 116, 32, 32, 32, 119, 114, 105, 116, 101, 32, 32, 32, 114, 101, 109, 111, 118, 101, 32, 32, 99, 111, 112, 121, 32, 32, 32, 32, 115, 101, 110, 100, 32, 32, 32, 32, 106, 111, 105, 110, 32, 32, 32, 32, 114, 101, 97, 100, 32, 32, 32, 32, 102, 108, 117, 115, 104, 32, 32, 32, 109, 97, 114, 107, 32, 32, 32, 32, 114, 101, 112, 101, 97, 116, 32, 32, 119, 104, 101, 110, 32, 32, 32, 32, 105, 110, 32, 32, 32, 32, 32, 32, 110, 101, 120, 116, 32, 32, 32, 32, 100, 117, 114, 97, 98, 108, 101, 32, 98, 121, 116, 101, 115, 32, 32, 32, 117, 110, 114, 101, 97, 100, 32, 32]
/-- what of the state at its beginning a method may use: words that aren't good ones, constants -/
def qK (g : qG) (U : State) : Prop :=
  (∀ w ∈ lw_tbl, qnest w = true → va_Nw w U) ∧
  (vx_Zq Bundle.tN "UNASSIGNED_STACK" Bundle.steD g.2.1 U U.heap ∧ vx_Zq Bundle.tN "SUPPRESSED_SENTINEL" Bundle.listD g.2.1 U U.heap) ∧
  (∃ a : Nat, va_Z "SharedLog" "SIZES" "[I" (.ref a) g.2.1 U U.heap ∧ va_T .int a 9 (fun j => .int (qszs j)) g.2.1 U U.heap) ∧
  (∃ a : Nat, va_Z "SharedLog" "NUMBERS" "[I" (.ref a) g.2.1 U U.heap ∧ va_T .int a 13 (fun j => .int (qnbs j)) g.2.1 U U.heap) ∧
  (∀ q ∈ qmsgs, ∃ sa : Nat, vk_R "SharedLog" q.1 q.2 sa U) ∧
  (∃ adK adV : Nat → Nat, vk_S 1 [144] [qwbs] adK adV g.2.1 U U.heap ∧ vk_R "SharedLog$Tokens" 60 qwords (adK 0) U) ∧
  g.1.stackTraces = false ∧ va_Z "java/lang/String" "COMPACT_STRINGS" "Z" (.int 1) g.2.1 U U.heap ∧ va_Zq "jdk/internal/util/Preconditions" "SIOOBE_FORMATTER" "Ljava/util/function/BiFunction;" g.2.1 U U.heap
theorem qK_warm {g : qG} {s U : State} (h : qK g s) (hW : s.WarmedH U.vm) (hq : ∀ a : Nat, a < s.heap.size → ¬ g.2.1 a → U.heap[a]? = s.heap[a]?) : qK g U := by
  obtain ⟨h1, ⟨h2, h3⟩, ⟨a, h4, h5⟩, ⟨b, h6, h7⟩, h8, ⟨adK, adV, h9, h10⟩, h11, h12, h13⟩ := h
  have hv := hW.alike
  refine ⟨fun w hw hn => ?_, ⟨(h2.moved hv).kept hq, (h3.moved hv).kept hq⟩, ⟨a, (h4.moved hv).kept hq, (h5.moved hv).kept hq⟩, ⟨b, (h6.moved hv).kept hq, (h7.moved hv).kept hq⟩, fun q hq' => ?_, ⟨adK, adV, (h9.moved hv).kept hq, h10.warm hW⟩, h11, (h12.moved hv).kept hq, (h13.moved hv).kept hq⟩
  · have h1 := h1 w hw hn
    cases w <;> first | exact va_Nw.warmF hW h1 | exact va_Nw.warmM hW h1 | exact va_Nw.warmC hW h1 | exact va_Nw.warmD hW h1 | exact absurd (show false = true from hn) Bool.false_ne_true
  · obtain ⟨sa, hs⟩ := h8 q hq'
    exact ⟨sa, hs.warm hW⟩
theorem qK_same {g : qG} {s U : State} (h : qK g s) (hv : s.vm = U.vm) (hh : s.heap = U.heap) : qK g U := by
  refine qK_warm h ?_ (fun a _ _ => by rw [hh])
  rw [← hv]
  exact State.WarmedH.refl s
/-- the addresses are apart, and may change -/
def qWF (g : qG) : Prop := (∀ i j, i < qtab.length → j < qtab.length → g.2.2.2.1 i = g.2.2.2.1 j → i = j) ∧ ∀ i, i < qtab.length → g.2.1 (g.2.2.2.1 i)
theorem qWF.D {g : qG} (h : qWF g) (σ : qS) : va_D g.2.1 (qW g.2.2.2.1 g.2.2.2.2 σ) := by
  have key : ∀ (k : Nat) (q : Nat × va_E), (qW g.2.2.2.1 g.2.2.2.2 σ)[k]? = some q → k < qtab.length ∧ q.1 = g.2.2.2.1 k := by
    intro k q hk
    by_cases hl : k < qtab.length
    · rw [qW_at hl] at hk
      exact ⟨hl, by rw [← Option.some.inj hk]⟩
    · rw [List.getElem?_eq_none (by rw [qW_len]; omega)] at hk
      cases hk
  refine ⟨fun i j p q hi hj e => ?_, fun k q hk => ?_⟩
  · obtain ⟨a1, a2⟩ := key i p hi
    obtain ⟨b1, b2⟩ := key j q hj
    exact h.1 i j a1 b1 (by rw [← a2, ← b2, e])
  · obtain ⟨a1, a2⟩ := key k q hk
    rw [a2]
    exact h.2 k a1
def qPre (g : qG) (σ : qS) (U : State) : Prop := va_P g.2.2.1 vwCl (qW g.2.2.2.1 g.2.2.2.2 σ) U.heap ∧ va_K g.2.2.1 vwCl (qtys g.2.2.2.2) U ∧ qK g U ∧ ∀ q, U.heap.size ≤ q → g.2.1 q
def qPost (g : qG) (σ : qS) (t : State) : Prop := va_P g.2.2.1 vwCl (qW g.2.2.2.1 g.2.2.2.2 σ) t.heap
def qQc (g : qG) (M : qMd) (Q : Int32 → qS → Prop) : Array Value → State → Outcome → State → Prop := match M.2.2.2.1 with
  | none => va_Qv (Q 0) (qPost g) g.2.1
  | some .float => va_Qf (fun r u => Q r.toInt32 u) (qPost g) g.2.1
  | some _ => va_Qi Q (qPost g) g.2.1
theorem qQc_i {g : qG} {M : qMd} {Q : Int32 → qS → Prop} {ty : FieldType} (hr : M.2.2.2.1 = some ty) (h : ty ≠ .float) : qQc g M Q = va_Qi Q (qPost g) g.2.1 := by
  unfold qQc
  rw [hr]
  cases ty <;> first | rfl | exact absurd rfl h
theorem qQc_v {g : qG} {M : qMd} {Q : Int32 → qS → Prop} (hr : M.2.2.2.1 = none) : qQc g M Q = va_Qv (Q 0) (qPost g) g.2.1 := by
  unfold qQc
  rw [hr]
theorem qQc_f {g : qG} {M : qMd} {Q : Int32 → qS → Prop} (hr : M.2.2.2.1 = some .float) : qQc g M Q = va_Qf (fun r u => Q r.toInt32 u) (qPost g) g.2.1 := by
  unfold qQc
  rw [hr]
def qXc (g : qG) (T : String → qS → Prop) : String → State → State → Prop := vx_X (fun _ : qS => True) (fun E u t => T E u ∧ qPost g u t) g.2.1
def qws (M : qMd) : List Cond := .code M.1 M.2.1 M.2.2.1 M.2.2.2.1 :: qgw
def qrm (M : qMd) (d : Nat) : Room := { frames := d + 12, cells := qMd_b M, slots := 6 * qMd_b M, locals := 60 * d + 300 }
/-- a method's contract at depth d: from σ, with these arguments, it returns with Q or throws with T -/
def qC (g : qG) (d : Nat) (M : qMd) (as : List qP) (σ : qS) (Q : Int32 → qS → Prop) (T : String → qS → Prop) : Prop :=
  vx_Met g.1 M.1 (qws M) (qrm M d) (va_Pc (as.map (qv g.2.2.2.1)) (qPre g σ)) (qQc g M Q) (qXc g T) (qMd_b M) (6 * qMd_b M) g.2.1
def qL (E : Nat → Nat) (n : Nat) (la : Array Slot) (ls : List (Option qP)) : Prop := la.size = n ∧ lv_wf la ∧ ∀ (i : Nat) (v : qP), ls[i]? = some (some v) → la[i]? = some (.val (qv E v))
def qFix (g : qG) (M : qMd) (p : Program) (s : State) (m : MethodId) (args : Array Value) (meth : Method) (c : Code) : Prop :=
  p.tables.exec = Jvm.exec ∧ c.code = M.2.1 ∧ meth.sig.returnType = M.2.2.2.1 ∧ c.maxLocals = M.2.2.1 ∧ s.vm.findClass M.1.cls = some m.cls ∧ (∀ w ∈ qgw, w.before args s = true) ∧ meth.locks = false ∧ (∀ x ∈ c.exceptionTable.toList, False) ∧ va_K g.2.2.1 vwCl (qtys g.2.2.2.2) s ∧ qK g s ∧ (∀ q, s.heap.size ≤ q → g.2.1 q) ∧ qWF g
def qNow (g : qG) (M : qMd) (bu : Nat) (s : State) (σ : qS) (H : Heap) (locs : List Loc) (cells slots : Nat) : Prop :=
  va_P g.2.2.1 vwCl (qW g.2.2.2.1 g.2.2.2.2 σ) H ∧ va_S g.2.1 s.heap H locs ∧ cells + bu ≤ qMd_b M ∧ slots + 6 * bu ≤ 6 * qMd_b M
/-- the machine in method M at pc comes to its end with Q or T -/
def qV (g : qG) (M : qMd) (d bu pc : Nat) (ls : List (Option qP)) (st : List qP) (σ : qS) (Q : Int32 → qS → Prop) (T : String → qS → Prop) : Prop :=
  ∀ (p : Program) (e : Env) (s : State) (m : MethodId) (args : Array Value) (below : List Frame) (meth : Method) (c : Code) (H : Heap) (locs : List Loc) (cells slots : Nat) (la : Array Slot),
    qFix g M p s m args meth c → qNow g M bu s σ H locs cells slots → qL g.2.2.2.1 M.2.2.1 la ls →
    W p g.1 e (qrm M d) s m args below meth c H locs cells slots (vx_MQ below (qQc g M Q) (qXc g T) args s (qMd_b M) (6 * qMd_b M) g.2.1) (F0 m pc la (st.map (qv g.2.2.2.1)))
theorem qws_in {M : qMd} (hc : Cond.code M.1 M.2.1 M.2.2.1 M.2.2.2.1 ∈ lw_tbl) (hg : goodWord (Cond.code M.1 M.2.1 M.2.2.1 M.2.2.2.1) = true) : ∀ w ∈ qws M, w ∈ qgw := by
  intro w hw
  rcases List.mem_cons.mp hw with rfl | h
  · exact List.mem_filter.mpr ⟨hc, hg⟩
  · exact h
theorem qgw_good {w : Cond} (h : w ∈ qgw) : (w.onTables && w.keeps) = true ∨ ∃ ty, w = .arrayClass ty := good_of_word (List.mem_filter.mp h).2
theorem qL_entry (E : Nat → Nat) (as : List qP) {n : Nat} (h : as.length ≤ n) : lg_sl (as.map (qv E)) = as.map (fun a => Slot.val (qv E a)) := by
  clear h
  induction as with
  | nil => rfl
  | cons a t ih =>
    have e : lg_sl ((a :: t).map (qv E)) = (if (qv E a).category = 2 then [Slot.val (qv E a), .second] else [Slot.val (qv E a)]) ++ lg_sl (t.map (qv E)) := rfl
    rw [e, ih, qv_cat, if_neg (by decide)]
    rfl
theorem qC_of {g : qG} {M : qMd} {d : Nat} {as : List qP} {σ : qS} {Q : Int32 → qS → Prop} {T : String → qS → Prop} (hn : as.length ≤ M.2.2.1) (hp : plainName M.1.cls = true) (hw : qWF g)
    (h : qV g M d (qMd_b M) 0 (as.map some ++ List.replicate (M.2.2.1 - as.length) none) [] σ Q T) : qC g d M as σ Q T := by
  unfold qC
  refine vx_ofW (cc := M.2.1) (maxL := M.2.2.1) (ret := M.2.2.2.1) hp rfl ?_
  intro p e s m args below meth c s₁ B hml hx hv
  obtain ⟨rfl, hP, hK, hq, hA⟩ := hv
  have hts := atoms_spec (ws := qws M) B.pre
  rw [lg_entry_eq, qL_entry _ _ hn, List.length_map]
  have hwf := lv_entry (as.map (qv g.2.2.2.1)) (n := M.2.2.1) (by rw [qL_entry _ _ hn, List.length_map]; exact hn)
  rw [qL_entry _ _ hn, List.length_map] at hwf
  refine h p e s m _ below meth c s.heap [] 0 0 _ ⟨B.exec, B.bytes, B.returns, hml, findClass_of_methodNamed B.named, fun w hw => hts w (List.mem_cons_of_mem _ hw), B.notSynchronized, hx, hK, hq, hA, hw⟩ ⟨hP, va_S.rf, by omega, by omega⟩ ⟨hwf.1, hwf.2.1, fun i v hi => ?_⟩
  have hi1 : i < as.length := by
    by_cases h1 : i < as.length
    · exact h1
    · rw [List.getElem?_append_right (by rw [List.length_map]; omega), List.getElem?_replicate] at hi
      split at hi <;> cases hi
  rw [List.getElem?_append_left (by rw [List.length_map]; exact hi1), List.getElem?_map] at hi
  rw [List.getElem?_toArray, List.getElem?_append_left (by rw [List.length_map]; exact hi1), List.getElem?_map]
  cases hg : as[i]? with
  | none => rw [hg] at hi; cases hi
  | some x =>
    rw [hg] at hi
    cases hi
    rfl
/-! ===== the rules: an instruction a row ===== -/
def qas (E : Nat → Nat) (ls : List (Option qP)) : List (Nat × Value) := (List.range ls.length).filterMap (fun i => match ls[i]? with
  | some (some v) => some (i, qv E v)
  | _ => none)
theorem qas_mem {E : Nat → Nat} {ls : List (Option qP)} {i : Nat} {v : qP} (h : ls[i]? = some (some v)) : (i, qv E v) ∈ qas E ls := by
  refine List.mem_filterMap.mpr ⟨i, List.mem_range.mpr (List.getElem?_eq_some_iff.mp h).1, ?_⟩
  rw [h]
theorem qas_of {E : Nat → Nat} {ls : List (Option qP)} {q : Nat × Value} (h : q ∈ qas E ls) : ∃ v, ls[q.1]? = some (some v) ∧ q.2 = qv E v := by
  obtain ⟨i, -, hi⟩ := List.mem_filterMap.mp h
  split at hi
  · rename_i v hv
    cases hi
    exact ⟨v, hv, rfl⟩
  · cases hi
theorem qL.has {E : Nat → Nat} {n : Nat} {la : Array Slot} {ls : List (Option qP)} (h : qL E n la ls) : lv_has la n (qas E ls) := by
  refine ⟨h.1, h.2.1, fun q hq => ?_⟩
  obtain ⟨v, h1, h2⟩ := qas_of hq
  rw [h2]
  exact h.2.2 _ _ h1
theorem qL.of_store {E : Nat → Nat} {n i : Nat} {v : qP} {la : Array Slot} {ls : List (Option qP)} (h : lv_has la n ((i, qv E v) :: (qas E ls).filter (fun q => !(q.1 == i) && !(q.1 + 1 == i && q.2.category == 2)))) : qL E n la (ls.set i (some v)) := by
  refine ⟨h.1, h.2.1, fun j w hj => ?_⟩
  rw [List.getElem?_set] at hj
  by_cases hij : i = j
  · subst hij
    rw [if_pos rfl] at hj
    split at hj
    · cases hj
      exact h.2.2 (i, qv E v) List.mem_cons_self
    · cases hj
  · rw [if_neg hij] at hj
    refine h.2.2 (j, qv E w) (List.mem_cons_of_mem _ (List.mem_filter.mpr ⟨qas_mem hj, ?_⟩))
    have h1 : (j == i) = false := by rw [beq_eq_false_iff_ne]; exact fun e => hij e.symm
    have h2 : ((qv E w).category == 2) = false := by rw [qv_cat]; rfl
    show (!(j == i) && !(j + 1 == i && (qv E w).category == 2)) = true
    rw [h1, h2, Bool.and_false]
    rfl
def qcmp (c : Jvm.ClassFile.Cond) (x y : Int32) : Prop := match c with
  | .eq => x = y
  | .ne => ¬ x = y
  | .lt => x < y
  | .ge => y ≤ x
  | .gt => y < x
  | .le => x ≤ y
section QV
variable {g : qG} {M : qMd} {d bu pc : Nat} {ls : List (Option qP)} {st : List qP} {σ : qS} {Q : Int32 → qS → Prop} {T : String → qS → Prop}
theorem qV_iconst {n : Int} (hd : decode M.2.1 pc = .ok (.iconst n, 1)) (h : qV g M d bu (pc + 1) ls (.inl (Int32.ofInt n) :: st) σ Q T) : qV g M d bu pc ls st σ Q T :=
  fun p e s m args below meth c H locs cells slots la F N L => lv_iconst F.1 F.2.1 hd rfl (h p e s m args below meth c H locs cells slots la F N L)
theorem qV_bipush {n : Int} (hd : decode M.2.1 pc = .ok (.bipush n, 2)) (h : qV g M d bu (pc + 2) ls (.inl (Int8.ofInt n).toInt32 :: st) σ Q T) : qV g M d bu pc ls st σ Q T :=
  fun p e s m args below meth c H locs cells slots la F N L => lv_bipush F.1 F.2.1 hd rfl (h p e s m args below meth c H locs cells slots la F N L)
theorem qV_sipush {n : Int} (hd : decode M.2.1 pc = .ok (.sipush n, 3)) (h : qV g M d bu (pc + 3) ls (.inl (Int16.ofInt n).toInt32 :: st) σ Q T) : qV g M d bu pc ls st σ Q T :=
  fun p e s m args below meth c H locs cells slots la F N L => lv_sipush F.1 F.2.1 hd rfl (h p e s m args below meth c H locs cells slots la F N L)
theorem qV_iload_n {k : Fin 4} {v : Int32} (hd : decode M.2.1 pc = .ok (.iload_n k, 1)) (hl : ls[k.val]? = some (some (.inl v))) (h : qV g M d bu (pc + 1) ls (.inl v :: st) σ Q T) : qV g M d bu pc ls st σ Q T :=
  fun p e s m args below meth c H locs cells slots la F N L => lv_iload_n F.1 F.2.1 hd rfl (L.2.2 _ _ hl) (h p e s m args below meth c H locs cells slots la F N L)
theorem qV_iload {k : Nat} {v : Int32} (hd : decode M.2.1 pc = .ok (.iload k, 2)) (hl : ls[k]? = some (some (.inl v))) (h : qV g M d bu (pc + 2) ls (.inl v :: st) σ Q T) : qV g M d bu pc ls st σ Q T :=
  fun p e s m args below meth c H locs cells slots la F N L => lv_iload F.1 F.2.1 hd (L.2.2 _ _ hl) (h p e s m args below meth c H locs cells slots la F N L)
theorem qV_aload_n {k : Fin 4} {v : Nat} (hd : decode M.2.1 pc = .ok (.aload_n k, 1)) (hl : ls[k.val]? = some (some (.inr v))) (h : qV g M d bu (pc + 1) ls (.inr v :: st) σ Q T) : qV g M d bu pc ls st σ Q T :=
  fun p e s m args below meth c H locs cells slots la F N L => lv_aload_n F.1 F.2.1 hd rfl (L.2.2 _ _ hl) (h p e s m args below meth c H locs cells slots la F N L)
theorem qV_aload {k : Nat} {v : Nat} (hd : decode M.2.1 pc = .ok (.aload k, 2)) (hl : ls[k]? = some (some (.inr v))) (h : qV g M d bu (pc + 2) ls (.inr v :: st) σ Q T) : qV g M d bu pc ls st σ Q T :=
  fun p e s m args below meth c H locs cells slots la F N L => lv_aload F.1 F.2.1 hd (L.2.2 _ _ hl) (h p e s m args below meth c H locs cells slots la F N L)
theorem qV_istore_n {k : Fin 4} {v : Int32} (hd : decode M.2.1 pc = .ok (.istore_n k, 1)) (hn : k.val < M.2.2.1) (h : qV g M d bu (pc + 1) (ls.set k.val (some (.inl v))) st σ Q T) : qV g M d bu pc ls (.inl v :: st) σ Q T :=
  fun p e s m args below meth c H locs cells slots la F N L => lv_istore_n F.1 F.2.1 hd rfl L.has hn rfl (fun la' h' => h p e s m args below meth c H locs cells slots la' F N (qL.of_store h'))
theorem qV_istore {k : Nat} {v : Int32} (hd : decode M.2.1 pc = .ok (.istore k, 2)) (hn : k < M.2.2.1) (h : qV g M d bu (pc + 2) (ls.set k (some (.inl v))) st σ Q T) : qV g M d bu pc ls (.inl v :: st) σ Q T :=
  fun p e s m args below meth c H locs cells slots la F N L => lv_istore F.1 F.2.1 hd L.has hn rfl (fun la' h' => h p e s m args below meth c H locs cells slots la' F N (qL.of_store h'))
theorem qV_iinc {k : Nat} {n : Int} {v : Int32} (hd : decode M.2.1 pc = .ok (.iinc k n, 3)) (hl : ls[k]? = some (some (.inl v))) (hn : k < M.2.2.1) (h : qV g M d bu (pc + 3) (ls.set k (some (.inl (v + Int32.ofInt n)))) st σ Q T) : qV g M d bu pc ls st σ Q T := by
  intro p e s m args below meth c H locs cells slots la F N L
  obtain ⟨i, hi⟩ := List.mem_iff_getElem?.mp (qas_mem (E := g.2.2.2.1) hl)
  exact lv_iinc F.1 F.2.1 hd L.has hi rfl hn rfl (fun la' h' => h p e s m args below meth c H locs cells slots la' F N (qL.of_store (v := .inl (v + Int32.ofInt n)) h'))
theorem qV_iadd {x y : Int32} (hd : decode M.2.1 pc = .ok (.iadd, 1)) (h : qV g M d bu (pc + 1) ls (.inl (x + y) :: st) σ Q T) : qV g M d bu pc ls (.inl y :: .inl x :: st) σ Q T :=
  fun p e s m args below meth c H locs cells slots la F N L => lv_iadd F.1 F.2.1 hd (h p e s m args below meth c H locs cells slots la F N L)
theorem qV_isub {x y : Int32} (hd : decode M.2.1 pc = .ok (.isub, 1)) (h : qV g M d bu (pc + 1) ls (.inl (x - y) :: st) σ Q T) : qV g M d bu pc ls (.inl y :: .inl x :: st) σ Q T :=
  fun p e s m args below meth c H locs cells slots la F N L => lv_isub F.1 F.2.1 hd (h p e s m args below meth c H locs cells slots la F N L)
theorem qV_imul {x y : Int32} (hd : decode M.2.1 pc = .ok (.imul, 1)) (h : qV g M d bu (pc + 1) ls (.inl (x * y) :: st) σ Q T) : qV g M d bu pc ls (.inl y :: .inl x :: st) σ Q T :=
  fun p e s m args below meth c H locs cells slots la F N L => lv_imul F.1 F.2.1 hd (h p e s m args below meth c H locs cells slots la F N L)
theorem qV_iand {x y : Int32} (hd : decode M.2.1 pc = .ok (.iand, 1)) (h : qV g M d bu (pc + 1) ls (.inl (x &&& y) :: st) σ Q T) : qV g M d bu pc ls (.inl y :: .inl x :: st) σ Q T :=
  fun p e s m args below meth c H locs cells slots la F N L => lv_iand F.1 F.2.1 hd (h p e s m args below meth c H locs cells slots la F N L)
theorem qV_ixor {x y : Int32} (hd : decode M.2.1 pc = .ok (.ixor, 1)) (h : qV g M d bu (pc + 1) ls (.inl (x ^^^ y) :: st) σ Q T) : qV g M d bu pc ls (.inl y :: .inl x :: st) σ Q T :=
  fun p e s m args below meth c H locs cells slots la F N L => lv_ixor F.1 F.2.1 hd (h p e s m args below meth c H locs cells slots la F N L)
theorem qV_ishr {x y : Int32} (hd : decode M.2.1 pc = .ok (.ishr, 1)) (h : qV g M d bu (pc + 1) ls (.inl (x >>> (y &&& 31)) :: st) σ Q T) : qV g M d bu pc ls (.inl y :: .inl x :: st) σ Q T :=
  fun p e s m args below meth c H locs cells slots la F N L => lv_ishr F.1 F.2.1 hd (h p e s m args below meth c H locs cells slots la F N L)
theorem qV_idiv {x y : Int32} (hd : decode M.2.1 pc = .ok (.idiv, 1)) (hy : ¬ y = 0) (h : qV g M d bu (pc + 1) ls (.inl (x / y) :: st) σ Q T) : qV g M d bu pc ls (.inl y :: .inl x :: st) σ Q T :=
  fun p e s m args below meth c H locs cells slots la F N L => lv_idiv F.1 F.2.1 hd hy (h p e s m args below meth c H locs cells slots la F N L)
theorem qV_i2b {x : Int32} (hd : decode M.2.1 pc = .ok (.i2b, 1)) (h : qV g M d bu (pc + 1) ls (.inl x.toInt8.toInt32 :: st) σ Q T) : qV g M d bu pc ls (.inl x :: st) σ Q T :=
  fun p e s m args below meth c H locs cells slots la F N L => lv_i2b F.1 F.2.1 hd rfl (h p e s m args below meth c H locs cells slots la F N L)
theorem qV_i2s {x : Int32} (hd : decode M.2.1 pc = .ok (.i2s, 1)) (h : qV g M d bu (pc + 1) ls (.inl x.toInt16.toInt32 :: st) σ Q T) : qV g M d bu pc ls (.inl x :: st) σ Q T :=
  fun p e s m args below meth c H locs cells slots la F N L => lv_i2s F.1 F.2.1 hd rfl (h p e s m args below meth c H locs cells slots la F N L)
theorem qV_pop {x : qP} (hd : decode M.2.1 pc = .ok (.pop, 1)) (h : qV g M d bu (pc + 1) ls st σ Q T) : qV g M d bu pc ls (x :: st) σ Q T :=
  fun p e s m args below meth c H locs cells slots la F N L => lv_pop F.1 F.2.1 hd (qv_cat _ x) (h p e s m args below meth c H locs cells slots la F N L)
theorem qV_dup {x : qP} (hd : decode M.2.1 pc = .ok (.dup, 1)) (h : qV g M d bu (pc + 1) ls (x :: x :: st) σ Q T) : qV g M d bu pc ls (x :: st) σ Q T :=
  fun p e s m args below meth c H locs cells slots la F N L => lv_dup F.1 F.2.1 hd (qv_cat _ x) (h p e s m args below meth c H locs cells slots la F N L)
theorem qV_dup2 {x y : qP} (hd : decode M.2.1 pc = .ok (.dup2, 1)) (h : qV g M d bu (pc + 1) ls (x :: y :: x :: y :: st) σ Q T) : qV g M d bu pc ls (x :: y :: st) σ Q T :=
  fun p e s m args below meth c H locs cells slots la F N L => lv_dup2_11 F.1 F.2.1 hd (qv_cat _ x) (qv_cat _ y) (h p e s m args below meth c H locs cells slots la F N L)
theorem qV_goto {off : Int} {tgt : Nat} (hd : decode M.2.1 pc = .ok (.goto off, 3)) (ht : (pc : Int) + off = (tgt : Int)) (h : qV g M d bu tgt ls st σ Q T) : qV g M d bu pc ls st σ Q T :=
  fun p e s m args below meth c H locs cells slots la F N L => lv_goto F.1 F.2.1 hd ht (h p e s m args below meth c H locs cells slots la F N L)
theorem qV_icmp {cd : Jvm.ClassFile.Cond} {off : Int} {tgt : Nat} {x y : Int32} (hd : decode M.2.1 pc = .ok (.if_icmp cd off, 3)) (ht : (pc : Int) + off = (tgt : Int)) (h1 : qcmp cd x y → qV g M d bu tgt ls st σ Q T) (h2 : ¬ qcmp cd x y → qV g M d bu (pc + 3) ls st σ Q T) : qV g M d bu pc ls (.inl y :: .inl x :: st) σ Q T := by
  intro p e s m args below meth c H locs cells slots la F N L
  cases cd with
  | eq => exact lv_icmp_eq F.1 F.2.1 hd ht (fun q => h1 q p e s m args below meth c H locs cells slots la F N L) (fun q => h2 q p e s m args below meth c H locs cells slots la F N L)
  | ne => exact lv_icmp_ne F.1 F.2.1 hd ht (fun q => h1 q p e s m args below meth c H locs cells slots la F N L) (fun q => h2 (fun r => r q) p e s m args below meth c H locs cells slots la F N L)
  | lt => exact lv_icmp_lt F.1 F.2.1 hd ht (fun q => h1 q p e s m args below meth c H locs cells slots la F N L) (fun q => h2 q p e s m args below meth c H locs cells slots la F N L)
  | ge => exact lv_icmp_ge F.1 F.2.1 hd ht (fun q => h1 q p e s m args below meth c H locs cells slots la F N L) (fun q => h2 q p e s m args below meth c H locs cells slots la F N L)
  | gt => exact lv_icmp_gt F.1 F.2.1 hd ht (fun q => h1 q p e s m args below meth c H locs cells slots la F N L) (fun q => h2 q p e s m args below meth c H locs cells slots la F N L)
  | le => exact lv_icmp_le F.1 F.2.1 hd ht (fun q => h1 q p e s m args below meth c H locs cells slots la F N L) (fun q => h2 q p e s m args below meth c H locs cells slots la F N L)
theorem qV_if {cd : Jvm.ClassFile.Cond} {off : Int} {tgt : Nat} {x : Int32} (hd : decode M.2.1 pc = .ok (.ifCond cd off, 3)) (ht : (pc : Int) + off = (tgt : Int)) (h1 : qcmp cd x 0 → qV g M d bu tgt ls st σ Q T) (h2 : ¬ qcmp cd x 0 → qV g M d bu (pc + 3) ls st σ Q T) : qV g M d bu pc ls (.inl x :: st) σ Q T := by
  intro p e s m args below meth c H locs cells slots la F N L
  cases cd with
  | eq => exact lv_if_eq F.1 F.2.1 hd ht (fun q => h1 q p e s m args below meth c H locs cells slots la F N L) (fun q => h2 q p e s m args below meth c H locs cells slots la F N L)
  | ne => exact lv_if_ne F.1 F.2.1 hd ht (fun q => h1 q p e s m args below meth c H locs cells slots la F N L) (fun q => h2 (fun r => r q) p e s m args below meth c H locs cells slots la F N L)
  | lt => exact lv_if_lt F.1 F.2.1 hd ht (fun q => h1 q p e s m args below meth c H locs cells slots la F N L) (fun q => h2 q p e s m args below meth c H locs cells slots la F N L)
  | ge => exact lv_if_ge F.1 F.2.1 hd ht (fun q => h1 q p e s m args below meth c H locs cells slots la F N L) (fun q => h2 q p e s m args below meth c H locs cells slots la F N L)
  | gt => exact lv_if_gt F.1 F.2.1 hd ht (fun q => h1 q p e s m args below meth c H locs cells slots la F N L) (fun q => h2 q p e s m args below meth c H locs cells slots la F N L)
  | le => exact lv_if_le F.1 F.2.1 hd ht (fun q => h1 q p e s m args below meth c H locs cells slots la F N L) (fun q => h2 q p e s m args below meth c H locs cells slots la F N L)
theorem qV_tableIn {dflt lo hi off : Int} {offs : Array Int} {len tgt : Nat} {x : Int32} (hd : decode M.2.1 pc = .ok (.tableswitch dflt lo hi offs, len)) (h1 : ¬ x.toInt < lo) (h2 : ¬ hi < x.toInt) (ho : offs[(x.toInt - lo).toNat]? = some off) (ht : (pc : Int) + off = (tgt : Int)) (h : qV g M d bu tgt ls st σ Q T) : qV g M d bu pc ls (.inl x :: st) σ Q T :=
  fun p e s m args below meth c H locs cells slots la F N L => lv_tableIn F.1 F.2.1 hd h1 h2 ho ht (h p e s m args below meth c H locs cells slots la F N L)
theorem qV_tableOut {dflt lo hi : Int} {offs : Array Int} {len tgt : Nat} {x : Int32} (hd : decode M.2.1 pc = .ok (.tableswitch dflt lo hi offs, len)) (h1 : x.toInt < lo ∨ hi < x.toInt) (ht : (pc : Int) + dflt = (tgt : Int)) (h : qV g M d bu tgt ls st σ Q T) : qV g M d bu pc ls (.inl x :: st) σ Q T :=
  fun p e s m args below meth c H locs cells slots la F N L => lv_tableOut F.1 F.2.1 hd h1 ht (h p e s m args below meth c H locs cells slots la F N L)
end QV
