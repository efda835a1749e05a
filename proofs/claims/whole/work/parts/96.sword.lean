/-! ===== scanWord: a method with a long ===== -/
def qB (g : qG) (M : qMd) (d pc : Nat) (lo : List (Nat × Value)) (st : List Value) (σ : qS) (Q : Int32 → qS → Prop) (T : String → qS → Prop) : Prop :=
  ∀ (p : Program) (e : Env) (s : State) (m : MethodId) (args : Array Value) (below : List Frame) (meth : Method) (c : Code) (H : Heap) (locs : List Loc) (cells slots : Nat) (la : Array Slot),
    qFix g M p s m args meth c → qNow g M 0 s σ H locs cells slots → lv_has la M.2.2.1 lo →
    W p g.1 e (qrm M d) s m args below meth c H locs cells slots (vx_MQ below (qQc g M Q) (qXc g T) args s (qMd_b M) (6 * qMd_b M) g.2.1) (F0 m pc la st)
section QB
variable {g : qG} {M M' : qMd} {d pc : Nat} {lo lo' : List (Nat × Value)} {st : List Value} {as : List qP} {σ : qS} {Q : Int32 → qS → Prop} {T : String → qS → Prop}
theorem B_iconst {n : Int} {v : Int32} (hd : decode M.2.1 pc = .ok (.iconst n, 1)) (hv : Int32.ofInt n = v) (h : qB g M d (pc + 1) lo (.int v :: st) σ Q T) : qB g M d pc lo st σ Q T :=
  fun p e s m args below meth c H locs cells slots la F N L => lv_iconst F.1 F.2.1 hd hv (h p e s m args below meth c H locs cells slots la F N L)
theorem B_bipush {n : Int} {v : Int32} (hd : decode M.2.1 pc = .ok (.bipush n, 2)) (hv : (Int8.ofInt n).toInt32 = v) (h : qB g M d (pc + 2) lo (.int v :: st) σ Q T) : qB g M d pc lo st σ Q T :=
  fun p e s m args below meth c H locs cells slots la F N L => lv_bipush F.1 F.2.1 hd hv (h p e s m args below meth c H locs cells slots la F N L)
theorem B_lconst {n : Fin 2} {v : Int64} (hd : decode M.2.1 pc = .ok (.lconst n, 1)) (hv : Int64.ofNat (n : Nat) = v) (h : qB g M d (pc + 1) lo (.long v :: st) σ Q T) : qB g M d pc lo st σ Q T :=
  fun p e s m args below meth c H locs cells slots la F N L => lv_lconst F.1 F.2.1 hd hv (h p e s m args below meth c H locs cells slots la F N L)
theorem B_aload {k : Fin 4} {a : Nat} (hd : decode M.2.1 pc = .ok (.aload_n k, 1)) (hl : (k.val, Value.ref a) ∈ lo) (h : qB g M d (pc + 1) lo (.ref a :: st) σ Q T) : qB g M d pc lo st σ Q T :=
  fun p e s m args below meth c H locs cells slots la F N L => lv_aload_n F.1 F.2.1 hd rfl (L.2.2 _ hl) (h p e s m args below meth c H locs cells slots la F N L)
theorem B_iload {k : Fin 4} {x : Int32} (hd : decode M.2.1 pc = .ok (.iload_n k, 1)) (hl : (k.val, Value.int x) ∈ lo) (h : qB g M d (pc + 1) lo (.int x :: st) σ Q T) : qB g M d pc lo st σ Q T :=
  fun p e s m args below meth c H locs cells slots la F N L => lv_iload_n F.1 F.2.1 hd rfl (L.2.2 _ hl) (h p e s m args below meth c H locs cells slots la F N L)
theorem B_lload {k : Fin 4} {x : Int64} (hd : decode M.2.1 pc = .ok (.lload_n k, 1)) (hl : (k.val, Value.long x) ∈ lo) (h : qB g M d (pc + 1) lo (.long x :: st) σ Q T) : qB g M d pc lo st σ Q T :=
  fun p e s m args below meth c H locs cells slots la F N L => lv_lload_n F.1 F.2.1 hd rfl (L.2.2 _ hl) (h p e s m args below meth c H locs cells slots la F N L)
theorem B_lstore {k : Fin 4} {x : Int64} (hd : decode M.2.1 pc = .ok (.lstore_n k, 1)) (hn : k.val + 1 < M.2.2.1) (hl : (k.val, Value.long x) :: lo.filter (fun q => !(q.1 == k.val) && (!(q.1 == k.val + 1) && !(q.1 + 1 == k.val && q.2.category == 2))) = lo') (h : qB g M d (pc + 1) lo' st σ Q T) : qB g M d pc lo (.long x :: st) σ Q T :=
  fun p e s m args below meth c H locs cells slots la F N L => lv_lstore_n F.1 F.2.1 hd rfl L hn hl (fun la' h' => h p e s m args below meth c H locs cells slots la' F N h')
theorem B_istore {k : Fin 4} {x : Int32} (hd : decode M.2.1 pc = .ok (.istore_n k, 1)) (hn : k.val < M.2.2.1) (hl : (k.val, Value.int x) :: lo.filter (fun q => !(q.1 == k.val) && !(q.1 + 1 == k.val && q.2.category == 2)) = lo') (h : qB g M d (pc + 1) lo' st σ Q T) : qB g M d pc lo (.int x :: st) σ Q T :=
  fun p e s m args below meth c H locs cells slots la F N L => lv_istore_n F.1 F.2.1 hd rfl L hn hl (fun la' h' => h p e s m args below meth c H locs cells slots la' F N h')
theorem B_iinc {i k : Nat} {n : Int} {x v : Int32} (hd : decode M.2.1 pc = .ok (.iinc i n, 3)) (hk : lo[k]? = some (i, .int x)) (hv : x + Int32.ofInt n = v) (hn : i < M.2.2.1) (hl : (i, Value.int v) :: lo.filter (fun q => !(q.1 == i) && !(q.1 + 1 == i && q.2.category == 2)) = lo') (h : qB g M d (pc + 3) lo' st σ Q T) : qB g M d pc lo st σ Q T :=
  fun p e s m args below meth c H locs cells slots la F N L => lv_iinc F.1 F.2.1 hd L hk hv hn hl (fun la' h' => h p e s m args below meth c H locs cells slots la' F N h')
theorem B_iadd {x y : Int32} (hd : decode M.2.1 pc = .ok (.iadd, 1)) (h : qB g M d (pc + 1) lo (.int (x + y) :: st) σ Q T) : qB g M d pc lo (.int y :: .int x :: st) σ Q T :=
  fun p e s m args below meth c H locs cells slots la F N L => lv_iadd F.1 F.2.1 hd (h p e s m args below meth c H locs cells slots la F N L)
theorem B_isub {x y : Int32} (hd : decode M.2.1 pc = .ok (.isub, 1)) (h : qB g M d (pc + 1) lo (.int (x - y) :: st) σ Q T) : qB g M d pc lo (.int y :: .int x :: st) σ Q T :=
  fun p e s m args below meth c H locs cells slots la F N L => lv_isub F.1 F.2.1 hd (h p e s m args below meth c H locs cells slots la F N L)
theorem B_lmul {x y : Int64} (hd : decode M.2.1 pc = .ok (.lmul, 1)) (h : qB g M d (pc + 1) lo (.long (x * y) :: st) σ Q T) : qB g M d pc lo (.long y :: .long x :: st) σ Q T :=
  fun p e s m args below meth c H locs cells slots la F N L => lv_lmul F.1 F.2.1 hd (h p e s m args below meth c H locs cells slots la F N L)
theorem B_ladd {x y : Int64} (hd : decode M.2.1 pc = .ok (.ladd, 1)) (h : qB g M d (pc + 1) lo (.long (x + y) :: st) σ Q T) : qB g M d pc lo (.long y :: .long x :: st) σ Q T :=
  fun p e s m args below meth c H locs cells slots la F N L => lv_ladd F.1 F.2.1 hd (h p e s m args below meth c H locs cells slots la F N L)
theorem B_lsub {x y : Int64} (hd : decode M.2.1 pc = .ok (.lsub, 1)) (h : qB g M d (pc + 1) lo (.long (x - y) :: st) σ Q T) : qB g M d pc lo (.long y :: .long x :: st) σ Q T :=
  fun p e s m args below meth c H locs cells slots la F N L => lv_lsub F.1 F.2.1 hd (h p e s m args below meth c H locs cells slots la F N L)
theorem B_i2l {x : Int32} (hd : decode M.2.1 pc = .ok (.i2l, 1)) (h : qB g M d (pc + 1) lo (.long x.toInt64 :: st) σ Q T) : qB g M d pc lo (.int x :: st) σ Q T :=
  fun p e s m args below meth c H locs cells slots la F N L => lv_i2l F.1 F.2.1 hd rfl (h p e s m args below meth c H locs cells slots la F N L)
theorem B_lcmp {x y : Int64} (hd : decode M.2.1 pc = .ok (.lcmp, 1)) (h : qB g M d (pc + 1) lo (.int (lg_cmp x y) :: st) σ Q T) : qB g M d pc lo (.long y :: .long x :: st) σ Q T :=
  fun p e s m args below meth c H locs cells slots la F N L => W.lcmp F.1 F.2.1 hd (h p e s m args below meth c H locs cells slots la F N L)
theorem B_ldc2 {i : Nat} {v : Int64} (hd : decode M.2.1 pc = .ok (.ldc2_w i, 3)) (hw : Jvm.Cond.constantLong M.1.cls i v ∈ qgw) (h : qB g M d (pc + 3) lo (.long v :: st) σ Q T) : qB g M d pc lo st σ Q T :=
  fun p e s m args below meth c H locs cells slots la F N L => lv_ldc2 F.1 F.2.1 F.2.2.2.2.1 (F.2.2.2.2.2.1 _ hw) hd (h p e s m args below meth c H locs cells slots la F N L)
theorem B_dup {a : Nat} (hd : decode M.2.1 pc = .ok (.dup, 1)) (h : qB g M d (pc + 1) lo (.ref a :: .ref a :: st) σ Q T) : qB g M d pc lo (.ref a :: st) σ Q T :=
  fun p e s m args below meth c H locs cells slots la F N L => lv_dup F.1 F.2.1 hd rfl (h p e s m args below meth c H locs cells slots la F N L)
theorem B_goto {off : Int} {tgt : Nat} (hd : decode M.2.1 pc = .ok (.goto off, 3)) (ht : (pc : Int) + off = (tgt : Int)) (h : qB g M d tgt lo st σ Q T) : qB g M d pc lo st σ Q T :=
  fun p e s m args below meth c H locs cells slots la F N L => lv_goto F.1 F.2.1 hd ht (h p e s m args below meth c H locs cells slots la F N L)
theorem B_ge {off : Int} {tgt : Nat} {x y : Int32} (hd : decode M.2.1 pc = .ok (.if_icmp .ge off, 3)) (ht : (pc : Int) + off = (tgt : Int)) (h1 : y ≤ x → qB g M d tgt lo st σ Q T) (h2 : ¬ y ≤ x → qB g M d (pc + 3) lo st σ Q T) : qB g M d pc lo (.int y :: .int x :: st) σ Q T :=
  fun p e s m args below meth c H locs cells slots la F N L => lv_icmp_ge F.1 F.2.1 hd ht (fun q => h1 q p e s m args below meth c H locs cells slots la F N L) (fun q => h2 q p e s m args below meth c H locs cells slots la F N L)
theorem B_le {off : Int} {tgt : Nat} {x y : Int32} (hd : decode M.2.1 pc = .ok (.if_icmp .le off, 3)) (ht : (pc : Int) + off = (tgt : Int)) (h1 : x ≤ y → qB g M d tgt lo st σ Q T) (h2 : ¬ x ≤ y → qB g M d (pc + 3) lo st σ Q T) : qB g M d pc lo (.int y :: .int x :: st) σ Q T :=
  fun p e s m args below meth c H locs cells slots la F N L => lv_icmp_le F.1 F.2.1 hd ht (fun q => h1 q p e s m args below meth c H locs cells slots la F N L) (fun q => h2 q p e s m args below meth c H locs cells slots la F N L)
theorem B_ifeq {off : Int} {tgt : Nat} {x : Int32} (hd : decode M.2.1 pc = .ok (.ifCond .eq off, 3)) (ht : (pc : Int) + off = (tgt : Int)) (h1 : x = 0 → qB g M d tgt lo st σ Q T) (h2 : ¬ x = 0 → qB g M d (pc + 3) lo st σ Q T) : qB g M d pc lo (.int x :: st) σ Q T :=
  fun p e s m args below meth c H locs cells slots la F N L => lv_if_eq F.1 F.2.1 hd ht (fun q => h1 q p e s m args below meth c H locs cells slots la F N L) (fun q => h2 q p e s m args below meth c H locs cells slots la F N L)
theorem B_ifne {off : Int} {tgt : Nat} {x : Int32} (hd : decode M.2.1 pc = .ok (.ifCond .ne off, 3)) (ht : (pc : Int) + off = (tgt : Int)) (h1 : ¬ x = 0 → qB g M d tgt lo st σ Q T) (h2 : x = 0 → qB g M d (pc + 3) lo st σ Q T) : qB g M d pc lo (.int x :: st) σ Q T :=
  fun p e s m args below meth c H locs cells slots la F N L => lv_if_ne F.1 F.2.1 hd ht (fun q => h1 q p e s m args below meth c H locs cells slots la F N L) (fun q => h2 q p e s m args below meth c H locs cells slots la F N L)
theorem B_get {idx ci j k n : Nat} {rs : List (Nat × Nat)} {q : vw_C} {y : Value} (hk : qtab[k]? = some (false, ci, n, rs)) (hj : j < n) (hc : vwCl[ci]? = some q) (hjq : j < q.2.2) (hf : (q.2.1 j).1 = q.1) (hw : Jvm.Cond.fieldLink M.1.cls idx q.1 (q.2.1 j).2.1 (q.2.1 j).2.2.1 ∈ qgw) (hy : qfv g.2.2.2.1 σ k rs j = y)
    (hd : decode M.2.1 pc = .ok (.getfield idx, 3)) (h : qB g M d (pc + 3) lo (y :: st) σ Q T) : qB g M d pc lo (.ref (g.2.2.2.1 k) :: st) σ Q T := by
  intro p e s m args below meth c H locs cells slots la F N L
  obtain ⟨F1, F2, F3, F4, F5, F6, F7, F8, F9, F10, F11, F12⟩ := id F
  refine va_get (D := g.2.2.1) (ci := ci) (v := qfv g.2.2.2.1 σ k rs j) (C := q.1) (T := q.2.1) (N := q.2.2) F1 F2 F6 (qcl_ok ci q hc).1 F5 F9 N.1 k (qW_obj hk) hc j hjq (F6 _ hw) (fun x hx => by rw [← hf]; exact hx) ?_ hd ?_
  · rw [List.getElem?_map, List.getElem?_range hj]
    rfl
  · rw [hy]
    exact h p e s m args below meth c H locs cells slots la F N L
theorem B_put {idx ci j k n : Nat} {rs : List (Nat × Nat)} {q : vw_C} {ty : FieldType} {x : Int32} (hk : qtab[k]? = some (false, ci, n, rs)) (hj : j < n) (hr : rs.lookup j = none) (hc : vwCl[ci]? = some q) (hjq : j < q.2.2) (hf : (q.2.1 j).1 = q.1) (hfin : (q.2.1 j).2.2.2 = false) (hty : parseFieldDescriptor (q.2.1 j).2.2.1 = some ty) (hn : narrow ty (.int x) = .int x) (hfit : fits ty (.int x) = true) (hw : Jvm.Cond.fieldLink M.1.cls idx q.1 (q.2.1 j).2.1 (q.2.1 j).2.2.1 ∈ qgw)
    (hd : decode M.2.1 pc = .ok (.putfield idx, 3)) (h : qB g M d (pc + 3) lo st (qup σ k j x) Q T) : qB g M d pc lo (.int x :: .ref (g.2.2.2.1 k) :: st) σ Q T := by
  intro p e s m args below meth c H locs cells slots la F N L
  obtain ⟨F1, F2, F3, F4, F5, F6, F7, F8, F9, F10, F11, F12⟩ := id F
  refine va_put (D := g.2.2.1) (ci := ci) (v := .int x) (ty := ty) (C := q.1) (T := q.2.1) (N := q.2.2) F1 F2 F6 (qcl_ok ci q hc).1 (qty ci) (qcl_ok ci q hc).2.1 (qcl_ok ci q hc).2.2 F5 F9 N.1 (F12.D σ) N.2.1 k (qW_obj hk) hc j hjq (F6 _ hw) (fun x hx => by rw [← hf]; exact hx) hfin hty hn hfit (by rw [List.length_map, List.length_range]; exact hj) hd (fun H1 locs1 h1 h2 h3 => ?_)
  rw [qW_put hk hr] at h1
  exact h p e s m args below meth c H1 locs1 cells slots la F ⟨h1, h3, N.2.2⟩ L
theorem B_retv (hr : M.2.2.2.1 = none) (hd : decode M.2.1 pc = .ok (.return_, 1)) (h : Q 0 σ) : qB g M d pc lo [] σ Q T := by
  intro p e s m args below meth c H locs cells slots la F N L
  obtain ⟨F1, F2, F3, F4, F5, F6, F7, F8, F9, F10, F11, F12⟩ := id F
  refine vx_ret (W.widen (k := qMd_b M) (n := 6 * qMd_b M) (by have := N.2.2; omega) (by have := N.2.2; omega) (W.vret F1 F2 (F3.trans hr) (fun t ht hW => ?_) N.2.1.2.2 hd F7))
  rw [qQc_v hr]
  exact ⟨⟨σ, rfl, h, by unfold qPost; rw [ht]; exact N.1⟩, N.2.1.F ht⟩
theorem qW_kw {E : Nat → Nat} {cs : Nat → ClassId} {σ : qS} {k n : Nat} {rs : List (Nat × Nat)} (hk : qtab[k]? = some (true, 3, n, rs)) : (qW E cs σ)[k]? = some (E k, .inl (cs 3, n, .inr (.inl qkw))) := by
  rw [qW_at (qt_lt hk), qE_arr hk]
  rfl
theorem B_lald {k n : Nat} {rs : List (Nat × Nat)} {i : Int32} (hk : qtab[k]? = some (true, 3, n, rs)) (hi : vp_in i n) (hd : decode M.2.1 pc = .ok (.laload, 1)) (h : qB g M d (pc + 1) lo (.long (qkw i.toNatClampNeg) :: st) σ Q T) : qB g M d pc lo (.int i :: .ref (g.2.2.2.1 k) :: st) σ Q T := by
  intro p e s m args below meth c H locs cells slots la F N L
  obtain ⟨F1, F2, F3, F4, F5, F6, F7, F8, F9, F10, F11, F12⟩ := id F
  exact va_lald (D := g.2.2.1) F1 F2 F9 N.1 k 3 (qW_kw hk) rfl hi hd (h p e s m args below meth c H locs cells slots la F N L)
theorem B_call {idx k ci n : Nat} {rs : List (Nat × Nat)} {q : vw_C} {ty : FieldType} (hk : qtab[k]? = some (false, ci, n, rs)) (hc : vwCl[ci]? = some q) (hq : q.1 = M'.1.cls) (hM : qMok M') (hty : M'.2.2.2.1 = some ty) (hnf : ty ≠ .float) (hw : ∀ w ∈ qCwd M.1.cls (idx, M', 0, none), w ∈ qgw)
    (hn : as.length = M'.2.2.2.2.1) (h8 : (st.map fun v => v.category).sum ≤ 8) (hb : qMd_b M' = 0) (hd : decode M.2.1 pc = .ok (.invokevirtual idx, 3))
    (h : qC g d M' (.inr k :: as) σ (fun r σ' => qB g M (d + 1) (pc + 3) lo (.int r :: st) σ' Q T) T) : qB g M (d + 1) pc lo ((as.map (qv g.2.2.2.1)).reverse ++ .ref (g.2.2.2.1 k) :: st) σ Q T := by
  intro p e s m args below meth c H locs cells slots la F N L
  obtain ⟨F1, F2, F3, F4, F5, F6, F7, F8, F9, F10, F11, F12⟩ := id F
  obtain ⟨N1, N2, N3, N4⟩ := id N
  have hpre := qpre_of F N
  have hcw : ∀ w ∈ qcw M', w ∈ qgw := fun w hw' => hw w (List.mem_append_right _ hw')
  have hl : Jvm.Cond.methodLink M.1.cls idx M'.1 ∈ qgw := hw _ List.mem_cons_self
  have hi : Jvm.Cond.instanceMethod M'.1 ∈ qgw := hw _ (List.mem_cons_of_mem _ List.mem_cons_self)
  have hs : Jvm.Cond.selects M'.1.cls M'.1 M'.1 ∈ qgw := hw _ (List.mem_cons_of_mem _ (List.mem_cons_of_mem _ List.mem_cons_self))
  have hr := vx_runV (meth := meth) (R := qrm M (d + 1)) (e := e) (below := below) (locs := locs) (cells := cells) (slots := slots) (g := F0 m pc la ((as.map (qv g.2.2.2.1)).reverse ++ .ref (g.2.2.2.1 k) :: st)) (rest := st) (C := M'.1.cls) (b := g.2.2.2.1 k) (As := as.map (qv g.2.2.2.1)) ⟨F1, F2, F4, F5, F6⟩ h ⟨qcallB F hM hcw hl, F6 _ hi, F6 _ hs⟩ ⟨qblind, by have hr := va_recv F9 N.1 hc (qW_obj hk); rw [hq] at hr; exact hr, fun U hU hW => ⟨rfl, hpre U hU hW⟩⟩ rfl (by rw [List.length_map]; exact hn) L.1 rfl (lv_room h8) hd ⟨by show cells + qMd_b M' ≤ qMd_b M; omega, by show slots + 6 * qMd_b M' ≤ 6 * qMd_b M; omega⟩
  rw [qQc_i hty hnf] at hr
  have kx : ∀ (E : String) (ce : Cell) (q9 : Addr) (u : qS) (t : State) (H1 : Heap) (locs1 : List Loc), t.heap = H1 → s.vm.Alike t.vm → True → (T E u ∧ qPost g u t) → H.size ≤ H1.size → (∀ q : Nat, q < H.size → ¬ g.2.1 q → H1[q]? = H[q]?) → va_S g.2.1 s.heap H1 locs1 → H1[q9]? = some ce → ce.vm = .none → s.vm.findClass E = some ce.cls → vx_W p g.1 e (qrm M (d + 1)) s m args below meth c H1 locs1 (cells + qMd_b M') (slots + 6 * qMd_b M') (vx_MQ below (qQc g M Q) (qXc g T) args s (qMd_b M) (6 * qMd_b M) g.2.1) (F0 m pc la st) q9 := by
    intro E ce q9 u t H1 locs1 ht hvm _ hB hz1 hk1 hS1 hce hcv hcl
    refine vx_out (E := E) (fun x hx => (F8 x hx).elim) F7 hce hcv hcl (fun t2 ht2 hv2 => ⟨u, trivial, ⟨hB.1, ?_⟩, hS1.F ht2⟩) hS1.2.2 (by omega) (by omega)
    have h2 := hB.2
    unfold qPost at h2 ⊢
    rw [ht2]
    rw [ht] at h2
    exact h2
  refine vx_calli hr N2 (fun q _ h => h) (fun q h => h) (fun q _ h => h) kx (fun r u t H1 locs1 ht hvm hpost hB hz1 hk1 hS1 => ?_)
  unfold qPost at hB
  rw [ht] at hB
  exact hpost p e s m args below meth c H1 locs1 _ _ la F ⟨hB, hS1, by omega, by omega⟩ L
end QB
theorem sw_w : ∀ w ∈ [Jvm.Cond.fieldLink RX10 182 "SharedLogModel" "token" "I", Jvm.Cond.fieldLink RX10 179 "SharedLogModel" "scanAt" "I", Jvm.Cond.fieldLink RX10 185 "SharedLogModel" "tokenStart" "I", Jvm.Cond.fieldLink RX10 194 "SharedLogModel" "keyword" "I", Jvm.Cond.fieldLink RX10 172 "SharedLogModel" "keywords" "[J", Jvm.Cond.constantLong RX10 416 (32 : Int64), Jvm.Cond.constantLong RX10 418 (96 : Int64)], w ∈ qgw := qgw_of [1484, 1483, 1485, 1488, 1481, 1979, 1980] (by decide +kernel) (by decide +kernel)
theorem sw_c1 : ∀ w ∈ qCwd RX10 (413, mX10_isLetter, 0, none), w ∈ qgw := qgw_of [1971, 1973, 92, 129, 1974] (by decide +kernel) (by decide +kernel)
theorem sw_c2 : ∀ w ∈ qCwd RX10 (410, mX10_byteAt, 0, none), w ∈ qgw := qgw_of [1967, 1969, 91, 129, 1970] (by decide +kernel) (by decide +kernel)
/-! words as numbers -/
def bvL (f : Int → Int) (a : Int) : Nat → Int64
  | 0 => 0
  | k + 1 => bvL f a k * 32 + (iI (f (a + k))).toInt64 - 96
def bl (l : List Int) : Int := l.foldl (fun x c => 32 * x + (c - 96)) 0
theorem bl_s (l : List Int) (c : Int) : bl (l ++ [c]) = 32 * bl l + (c - 96) := by
  unfold bl
  rw [List.foldl_append]
  rfl
theorem i2l_b : ∀ c : Fin 256, (Int32.ofInt ((c.val : Nat) : Int)).toInt64 = Int64.ofInt ((c.val : Nat) : Int) := by decide +kernel
theorem i2l_c {c : Int} (h0 : 0 ≤ c) (h1 : c < 256) : (iI c).toInt64 = Int64.ofInt c := by
  have h := i2l_b ⟨c.toNat, by omega⟩
  have e : ((c.toNat : Nat) : Int) = c := by omega
  simp only [e] at h
  exact h
theorem bvL_i {f : Int → Int} {a : Int} : ∀ k : Nat, (∀ i : Nat, i < k → 97 ≤ f (a + i) ∧ f (a + i) ≤ 122) → bvL f a k = Int64.ofInt (bl (lt f a k)) := by
  intro k
  induction k with
  | zero => intro _; rfl
  | succ k ih =>
    intro h
    have hk := h k (by omega)
    show bvL f a k * 32 + (iI (f (a + k))).toInt64 - 96 = Int64.ofInt (bl (lt f a k ++ [f (a + k)]))
    rw [ih (fun i hi => h i (by omega)), i2l_c (by omega) (by omega), bl_s, show 32 * bl (lt f a k) + (f (a + k) - 96) = bl (lt f a k) * 32 + f (a + k) - 96 by omega, Int64.ofInt_sub, Int64.ofInt_add, Int64.ofInt_mul]
    rfl
theorem bl_b {f : Int → Int} {a : Int} : ∀ k : Nat, (∀ i : Nat, i < k → 97 ≤ f (a + i) ∧ f (a + i) ≤ 122) → 0 ≤ bl (lt f a k) ∧ bl (lt f a k) < 32 ^ k ∧ (0 < k → 1 ≤ bl (lt f a k)) := by
  intro k
  induction k with
  | zero => intro _; exact ⟨Int.le_refl 0, (by decide : (0 : Int) < 32 ^ 0), fun h => by omega⟩
  | succ k ih =>
    intro h
    have hk := h k (by omega)
    obtain ⟨h1, h2, -⟩ := ih (fun i hi => h i (by omega))
    have e : bl (lt f a (k + 1)) = 32 * bl (lt f a k) + (f (a + k) - 96) := bl_s _ _
    rw [e, Int.pow_succ]
    omega
theorem bl_inj {f : Int → Int} {a : Int} : ∀ (r : List Int), (∀ c ∈ r, 97 ≤ c ∧ c ≤ 122) → ∀ k : Nat, (∀ i : Nat, i < k → 97 ≤ f (a + i) ∧ f (a + i) ≤ 122) → bl (lt f a k) = bl r.reverse → lt f a k = r.reverse := by
  intro r
  induction r with
  | nil =>
    intro _ k hk h
    cases k with
    | zero => rfl
    | succ k =>
      have := (bl_b (k + 1) hk).2.2 (by omega)
      have h0 : bl (List.reverse ([] : List Int)) = 0 := rfl
      omega
  | cons c t ih =>
    intro hr k hk h
    rw [List.reverse_cons] at h ⊢
    rw [bl_s] at h
    have hc := hr c (List.mem_cons_self ..)
    cases k with
    | zero =>
      have h0 : bl (lt f a 0) = 0 := rfl
      rw [h0] at h
      omega
    | succ k =>
      have e : bl (lt f a (k + 1)) = 32 * bl (lt f a k) + (f (a + k) - 96) := bl_s _ _
      have hl := hk k (by omega)
      rw [e] at h
      have e1 : f (a + k) = c := by omega
      have e2 : bl (lt f a k) = bl t.reverse := by omega
      show lt f a k ++ [f (a + k)] = t.reverse ++ [c]
      rw [ih (fun x hx => hr x (List.mem_cons_of_mem _ hx)) k (fun i hi => hk i (by omega)) e2, e1]
theorem WL_ok : ∀ k : Fin 18, (qkw k.val = Int64.ofInt (bl (WL.getD k.val [])) ∧ (0 ≤ bl (WL.getD k.val []) ∧ bl (WL.getD k.val []) < 1099511627776)) ∧ (∀ c ∈ (WL.getD k.val []).reverse, 97 ≤ c ∧ c ≤ 122) := by decide +kernel
theorem kw_iff {f : Int → Int} {a : Int} {n : Nat} (n8 : n ≤ 8) (h : ∀ i : Nat, i < n → 97 ≤ f (a + i) ∧ f (a + i) ≤ 122) (k : Nat) (hk : k < 18) : qkw k = bvL f a n ↔ lt f a n = WL.getD k [] := by
  obtain ⟨⟨w1, w2, w3⟩, w4⟩ := WL_ok ⟨k, hk⟩
  have w1 : qkw k = Int64.ofInt (bl (WL.getD k [])) := w1
  have w2 : 0 ≤ bl (WL.getD k []) := w2
  have w3 : bl (WL.getD k []) < 1099511627776 := w3
  have w4 : ∀ c ∈ (WL.getD k []).reverse, 97 ≤ c ∧ c ≤ 122 := w4
  obtain ⟨b1, b2, -⟩ := bl_b n h
  have b3 : bl (lt f a n) < 1099511627776 := by
    have : (32 : Int) ^ n ≤ 32 ^ 8 := by
      rcases (show n = 0 ∨ n = 1 ∨ n = 2 ∨ n = 3 ∨ n = 4 ∨ n = 5 ∨ n = 6 ∨ n = 7 ∨ n = 8 by omega) with e | e | e | e | e | e | e | e | e <;> rw [e] <;> decide
    have e : (32 : Int) ^ 8 = 1099511627776 := by decide
    omega
  rw [w1, bvL_i n h]
  constructor
  · intro e
    have e2 : bl (WL.getD k []) = bl (lt f a n) := by
      have e3 := congrArg Int64.toInt e
      rw [Int64.toInt_ofInt_of_le (by omega) (by omega), Int64.toInt_ofInt_of_le (by omega) (by omega)] at e3
      exact e3
    have := bl_inj (WL.getD k []).reverse w4 n h (by rw [List.reverse_reverse]; exact e2.symm)
    rw [List.reverse_reverse] at this
    exact this
  · intro e
    rw [e]
/-- the last keyword of that number -/
def lw (w : Int64) (z : Int) : Nat → Int
  | 0 => z
  | k + 1 => if qkw k = w then k else lw w z k
def lwl (l : List Int) : Nat → Int
  | 0 => -1
  | k + 1 => if l = WL.getD k [] then k else lwl l k
theorem lw_l {f : Int → Int} {a : Int} {n : Nat} (n8 : n ≤ 8) (h : ∀ i : Nat, i < n → 97 ≤ f (a + i) ∧ f (a + i) ≤ 122) : ∀ k : Nat, k ≤ 18 → lw (bvL f a n) (-1) k = lwl (lt f a n) k := by
  intro k
  induction k with
  | zero => intro _; rfl
  | succ k ih =>
    intro hk
    have i := kw_iff n8 h k (by omega)
    show (if qkw k = bvL f a n then ((k : Nat) : Int) else lw (bvL f a n) (-1) k) = if lt f a n = WL.getD k [] then ((k : Nat) : Int) else lwl (lt f a n) k
    by_cases e : lt f a n = WL.getD k []
    · rw [if_pos e, if_pos (i.mpr e)]
    · rw [if_neg e, if_neg (fun h2 => e (i.mp h2)), ih (by omega)]
theorem WL_i : ∀ k : Fin 18, lwl (WL.getD k.val []) 18 = ((k.val : Nat) : Int) ∧ kw (WL.getD k.val []) = ((k.val : Nat) : Int) := by decide +kernel
theorem lwl_n {l : List Int} (h : ∀ k : Nat, k < 18 → l ≠ WL.getD k []) : ∀ k : Nat, k ≤ 18 → lwl l k = -1 := by
  intro k
  induction k with
  | zero => intro _; rfl
  | succ k ih =>
    intro hk
    show (if l = WL.getD k [] then ((k : Nat) : Int) else lwl l k) = -1
    rw [if_neg (h k (by omega)), ih (by omega)]
theorem kwn_n {l : List Int} (h : ∀ k : Nat, k < 18 → l ≠ WL.getD k []) : ∀ f k : Nat, k + f ≤ 18 → kwn l f k = -1 := by
  intro f
  induction f with
  | zero => intro k _; rfl
  | succ f ih =>
    intro k hk
    show (if l = WL.getD k [] then ((k : Nat) : Int) else kwn l f (k + 1)) = -1
    rw [if_neg (h k (by omega)), ih (k + 1) (by omega)]
theorem lwl_kw (l : List Int) : lwl l 18 = kw l := by
  by_cases h : ∃ k : Nat, k < 18 ∧ l = WL.getD k []
  · obtain ⟨k, hk, e⟩ := h
    obtain ⟨h1, h2⟩ := WL_i ⟨k, hk⟩
    rw [e]
    exact h1.trans h2.symm
  · have h' : ∀ k : Nat, k < 18 → l ≠ WL.getD k [] := fun k hk e => h ⟨k, hk, e⟩
    rw [lwl_n h' 18 (by omega)]
    exact (kwn_n h' 18 0 (by omega)).symm
