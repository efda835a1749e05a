/-! ===== the rules of the heap, of returns and calls ===== -/
def qfp (σ : qS) (k : Nat) (rs : List (Nat × Nat)) (j : Nat) : qP := match rs.lookup j with
  | some r => .inr r
  | none => .inl (σ k j)
theorem qfp_v (E : Nat → Nat) (σ : qS) (k : Nat) (rs : List (Nat × Nat)) (j : Nat) : qv E (qfp σ k rs j) = qfv E σ k rs j := by
  unfold qfp qfv
  cases rs.lookup j <;> rfl
theorem qE_obj {E : Nat → Nat} {cs : Nat → ClassId} {σ : qS} {k ci n : Nat} {rs : List (Nat × Nat)} (hk : qtab[k]? = some (false, ci, n, rs)) : qE E cs σ k = .inr (ci, (List.range n).map (fun j => qfv E σ k rs j)) := by
  unfold qE
  rw [hk]
theorem qE_arr {E : Nat → Nat} {cs : Nat → ClassId} {σ : qS} {k ty n : Nat} {rs : List (Nat × Nat)} (hk : qtab[k]? = some (true, ty, n, rs)) : qE E cs σ k = qar cs (σ k) ty n := by
  unfold qE
  rw [hk]
theorem qt_lt {k : Nat} {x : Bool × Nat × Nat × List (Nat × Nat)} (hk : qtab[k]? = some x) : k < qtab.length := (List.getElem?_eq_some_iff.mp hk).1
theorem qW_obj {E : Nat → Nat} {cs : Nat → ClassId} {σ : qS} {k ci n : Nat} {rs : List (Nat × Nat)} (hk : qtab[k]? = some (false, ci, n, rs)) : (qW E cs σ)[k]? = some (E k, .inr (ci, (List.range n).map (fun j => qfv E σ k rs j))) := by
  rw [qW_at (qt_lt hk), qE_obj hk]
theorem qW_arr {E : Nat → Nat} {cs : Nat → ClassId} {σ : qS} {k ty n : Nat} {rs : List (Nat × Nat)} (h3 : ty < 3) (hk : qtab[k]? = some (true, ty, n, rs)) : (qW E cs σ)[k]? = some (E k, .inl (cs ty, n, .inl (σ k))) := by
  rw [qW_at (qt_lt hk), qE_arr hk]
  unfold qar
  rw [if_pos h3]
theorem qW_put {E : Nat → Nat} {cs : Nat → ClassId} {σ : qS} {k ci n j : Nat} {v : Int32} {rs : List (Nat × Nat)} (hk : qtab[k]? = some (false, ci, n, rs)) (hr : rs.lookup j = none) :
    (qW E cs σ).set k (E k, .inr (ci, ((List.range n).map (fun j => qfv E σ k rs j)).set j (.int v))) = qW E cs (qup σ k j v) := by
  refine qW_set ?_ (fun a h => qup_o a h)
  rw [qE_obj hk]
  refine congrArg (fun z => Sum.inr (ci, z)) (List.ext_getElem? fun i => ?_)
  rw [List.getElem?_set, List.getElem?_map, List.getElem?_map, List.length_map, List.length_range]
  by_cases hi : i < n
  · rw [List.getElem?_range hi]
    by_cases hj : j = i
    · subst hj
      rw [if_pos rfl, if_pos hi]
      show some (qfv E (qup σ k j v) k rs j) = _
      unfold qfv
      rw [hr]
      show some (Value.int (qup σ k j v k j)) = _
      rw [qup_u]
      unfold upd
      rw [if_pos rfl]
    · rw [if_neg hj]
      show some (qfv E (qup σ k j v) k rs i) = some (qfv E σ k rs i)
      unfold qfv
      rw [qup_u]
      unfold upd
      rw [if_neg (fun e => hj e.symm)]
  · have h0 : (List.range n)[i]? = none := List.getElem?_eq_none (by rw [List.length_range]; omega)
    rw [h0]
    by_cases hj : j = i
    · rw [if_pos hj, if_neg (by omega)]
      rfl
    · rw [if_neg hj]
      rfl
theorem qW_ast {E : Nat → Nat} {cs : Nat → ClassId} {σ : qS} {k ty n j : Nat} {v : Int32} {rs : List (Nat × Nat)} (h3 : ty < 3) (hk : qtab[k]? = some (true, ty, n, rs)) :
    (qW E cs σ).set k (E k, .inl (cs ty, n, .inl (upd (σ k) j v))) = qW E cs (qup σ k j v) := by
  refine qW_set ?_ (fun a h => qup_o a h)
  rw [qE_arr hk]
  unfold qar
  rw [if_pos h3, qup_u]
theorem qsum (E : Nat → Nat) : ∀ st : List qP, ((st.map (qv E)).map fun v => v.category).sum = st.length
  | [] => rfl
  | a :: t => by
    show (qv E a).category + ((t.map (qv E)).map fun v => v.category).sum = t.length + 1
    rw [qv_cat, qsum E t]
    omega
section QH
variable {g : qG} {M : qMd} {d bu pc : Nat} {ls : List (Option qP)} {st : List qP} {σ : qS} {Q : Int32 → qS → Prop} {T : String → qS → Prop}
theorem qV_get {idx ci j k n : Nat} {rs : List (Nat × Nat)} {q : vw_C} (hk : qtab[k]? = some (false, ci, n, rs)) (hj : j < n) (hc : vwCl[ci]? = some q) (hjq : j < q.2.2) (hf : (q.2.1 j).1 = q.1) (hw : Jvm.Cond.fieldLink M.1.cls idx q.1 (q.2.1 j).2.1 (q.2.1 j).2.2.1 ∈ qgw)
    (hd : decode M.2.1 pc = .ok (.getfield idx, 3)) (h : qV g M d bu (pc + 3) ls (qfp σ k rs j :: st) σ Q T) : qV g M d bu pc ls (.inr k :: st) σ Q T := by
  intro p e s m args below meth c H locs cells slots la F N L
  obtain ⟨F1, F2, F3, F4, F5, F6, F7, F8, F9, F10, F11, F12⟩ := id F
  refine va_get (D := g.2.2.1) (ci := ci) (v := qfv g.2.2.2.1 σ k rs j) (C := q.1) (T := q.2.1) (N := q.2.2) F1 F2 F6 (qcl_ok ci q hc).1 F5 F9 N.1 k (qW_obj hk) hc j hjq (F6 _ hw) (fun x hx => by rw [← hf]; exact hx) ?_ hd ?_
  · rw [List.getElem?_map, List.getElem?_range hj]
    rfl
  · rw [← qfp_v]
    exact h p e s m args below meth c H locs cells slots la F N L
theorem qV_getN {idx ci j k n : Nat} {rs : List (Nat × Nat)} {q : vw_C} (hk : qtab[k]? = some (false, ci, n, rs)) (hj : j < n) (hc : vwCl[ci]? = some q) (hjq : j < q.2.2) (hf : (q.2.1 j).1 = q.1) (hw : Jvm.Cond.fieldLinkNest M.1.cls idx q.1 (q.2.1 j).2.1 (q.2.1 j).2.2.1 "SharedLog" ∈ lw_tbl)
    (hd : decode M.2.1 pc = .ok (.getfield idx, 3)) (h : qV g M d bu (pc + 3) ls (qfp σ k rs j :: st) σ Q T) : qV g M d bu pc ls (.inr k :: st) σ Q T := by
  intro p e s m args below meth c H locs cells slots la F N L
  obtain ⟨F1, F2, F3, F4, F5, F6, F7, F8, F9, F10, F11, F12⟩ := id F
  refine va_getN (D := g.2.2.1) (ci := ci) (v := qfv g.2.2.2.1 σ k rs j) (C := q.1) (T := q.2.1) (N := q.2.2) F1 F2 F6 (qcl_ok ci q hc).1 F5 F9 N.1 k (qW_obj hk) hc j hjq (va_Nw.use rfl (F10.1 _ hw rfl)) (fun x hx => by rw [← hf]; exact hx) ?_ hd ?_
  · rw [List.getElem?_map, List.getElem?_range hj]
    rfl
  · rw [← qfp_v]
    exact h p e s m args below meth c H locs cells slots la F N L
theorem qV_put {idx ci j k n : Nat} {rs : List (Nat × Nat)} {q : vw_C} {ty : FieldType} {x : Int32} (hk : qtab[k]? = some (false, ci, n, rs)) (hj : j < n) (hr : rs.lookup j = none) (hc : vwCl[ci]? = some q) (hjq : j < q.2.2) (hf : (q.2.1 j).1 = q.1) (hfin : (q.2.1 j).2.2.2 = false) (hty : parseFieldDescriptor (q.2.1 j).2.2.1 = some ty) (hn : narrow ty (.int x) = .int x) (hfit : fits ty (.int x) = true) (hw : Jvm.Cond.fieldLink M.1.cls idx q.1 (q.2.1 j).2.1 (q.2.1 j).2.2.1 ∈ qgw)
    (hd : decode M.2.1 pc = .ok (.putfield idx, 3)) (h : qV g M d bu (pc + 3) ls st (qup σ k j x) Q T) : qV g M d bu pc ls (.inl x :: .inr k :: st) σ Q T := by
  intro p e s m args below meth c H locs cells slots la F N L
  obtain ⟨F1, F2, F3, F4, F5, F6, F7, F8, F9, F10, F11, F12⟩ := id F
  refine va_put (D := g.2.2.1) (ci := ci) (v := .int x) (ty := ty) (C := q.1) (T := q.2.1) (N := q.2.2) F1 F2 F6 (qcl_ok ci q hc).1 (qty ci) (qcl_ok ci q hc).2.1 (qcl_ok ci q hc).2.2 F5 F9 N.1 (F12.D σ) N.2.1 k (qW_obj hk) hc j hjq (F6 _ hw) (fun x hx => by rw [← hf]; exact hx) hfin hty hn hfit (by rw [List.length_map, List.length_range]; exact hj) hd (fun H1 locs1 h1 h2 h3 => ?_)
  rw [qW_put hk hr] at h1
  exact h p e s m args below meth c H1 locs1 cells slots la F ⟨h1, h3, N.2.2⟩ L
theorem qV_putN {idx ci j k n : Nat} {rs : List (Nat × Nat)} {q : vw_C} {ty : FieldType} {x : Int32} (hk : qtab[k]? = some (false, ci, n, rs)) (hj : j < n) (hr : rs.lookup j = none) (hc : vwCl[ci]? = some q) (hjq : j < q.2.2) (hf : (q.2.1 j).1 = q.1) (hfin : (q.2.1 j).2.2.2 = false) (hty : parseFieldDescriptor (q.2.1 j).2.2.1 = some ty) (hn : narrow ty (.int x) = .int x) (hfit : fits ty (.int x) = true) (hw : Jvm.Cond.fieldLinkNest M.1.cls idx q.1 (q.2.1 j).2.1 (q.2.1 j).2.2.1 "SharedLog" ∈ lw_tbl)
    (hd : decode M.2.1 pc = .ok (.putfield idx, 3)) (h : qV g M d bu (pc + 3) ls st (qup σ k j x) Q T) : qV g M d bu pc ls (.inl x :: .inr k :: st) σ Q T := by
  intro p e s m args below meth c H locs cells slots la F N L
  obtain ⟨F1, F2, F3, F4, F5, F6, F7, F8, F9, F10, F11, F12⟩ := id F
  refine va_putN (D := g.2.2.1) (ci := ci) (v := .int x) (ty := ty) (C := q.1) (T := q.2.1) (N := q.2.2) F1 F2 F6 (qcl_ok ci q hc).1 (qty ci) (qcl_ok ci q hc).2.1 (qcl_ok ci q hc).2.2 F5 F9 N.1 (F12.D σ) N.2.1 k (qW_obj hk) hc j hjq (va_Nw.use rfl (F10.1 _ hw rfl)) (fun x hx => by rw [← hf]; exact hx) hfin hty hn hfit (by rw [List.length_map, List.length_range]; exact hj) hd (fun H1 locs1 h1 h2 h3 => ?_)
  rw [qW_put hk hr] at h1
  exact h p e s m args below meth c H1 locs1 cells slots la F ⟨h1, h3, N.2.2⟩ L
theorem qV_iald {k n : Nat} {rs : List (Nat × Nat)} {i : Int32} (hk : qtab[k]? = some (true, 0, n, rs)) (hi : vp_in i n) (hd : decode M.2.1 pc = .ok (.iaload, 1)) (h : qV g M d bu (pc + 1) ls (.inl (σ k i.toNatClampNeg) :: st) σ Q T) : qV g M d bu pc ls (.inl i :: .inr k :: st) σ Q T := by
  intro p e s m args below meth c H locs cells slots la F N L
  obtain ⟨F1, F2, F3, F4, F5, F6, F7, F8, F9, F10, F11, F12⟩ := id F
  exact va_iald F1 F2 F9 N.1 k 0 (qW_arr (by decide) hk) rfl hi hd (h p e s m args below meth c H locs cells slots la F N L)
theorem qV_bald {k n : Nat} {rs : List (Nat × Nat)} {i : Int32} (hk : qtab[k]? = some (true, 1, n, rs)) (hi : vp_in i n) (hd : decode M.2.1 pc = .ok (.baload, 1)) (h : qV g M d bu (pc + 1) ls (.inl (σ k i.toNatClampNeg) :: st) σ Q T) : qV g M d bu pc ls (.inl i :: .inr k :: st) σ Q T := by
  intro p e s m args below meth c H locs cells slots la F N L
  obtain ⟨F1, F2, F3, F4, F5, F6, F7, F8, F9, F10, F11, F12⟩ := id F
  exact va_bald F1 F2 F9 N.1 k 1 (qW_arr (by decide) hk) rfl hi hd (h p e s m args below meth c H locs cells slots la F N L)
theorem qV_zald {k n : Nat} {rs : List (Nat × Nat)} {i : Int32} (hk : qtab[k]? = some (true, 2, n, rs)) (hi : vp_in i n) (hd : decode M.2.1 pc = .ok (.baload, 1)) (h : qV g M d bu (pc + 1) ls (.inl (σ k i.toNatClampNeg) :: st) σ Q T) : qV g M d bu pc ls (.inl i :: .inr k :: st) σ Q T := by
  intro p e s m args below meth c H locs cells slots la F N L
  obtain ⟨F1, F2, F3, F4, F5, F6, F7, F8, F9, F10, F11, F12⟩ := id F
  exact va_zald F1 F2 F9 N.1 k 2 (qW_arr (by decide) hk) rfl hi hd (h p e s m args below meth c H locs cells slots la F N L)
theorem qV_iast {k n : Nat} {rs : List (Nat × Nat)} {i x : Int32} (hk : qtab[k]? = some (true, 0, n, rs)) (hi : vp_in i n) (hd : decode M.2.1 pc = .ok (.iastore, 1)) (h : qV g M d bu (pc + 1) ls st (qup σ k i.toNatClampNeg x) Q T) : qV g M d bu pc ls (.inl x :: .inl i :: .inr k :: st) σ Q T := by
  intro p e s m args below meth c H locs cells slots la F N L
  obtain ⟨F1, F2, F3, F4, F5, F6, F7, F8, F9, F10, F11, F12⟩ := id F
  refine va_iast F1 F2 F9 N.1 (F12.D σ) N.2.1 k 0 (qW_arr (by decide) hk) rfl hi hd (fun H1 locs1 h1 h2 h3 => ?_)
  rw [qW_ast (by decide) hk] at h1
  exact h p e s m args below meth c H1 locs1 cells slots la F ⟨h1, h3, N.2.2⟩ L
theorem qV_bast {k n : Nat} {rs : List (Nat × Nat)} {i x : Int32} (hk : qtab[k]? = some (true, 1, n, rs)) (hi : vp_in i n) (hd : decode M.2.1 pc = .ok (.bastore, 1)) (h : qV g M d bu (pc + 1) ls st (qup σ k i.toNatClampNeg (vp_nar .byte x)) Q T) : qV g M d bu pc ls (.inl x :: .inl i :: .inr k :: st) σ Q T := by
  intro p e s m args below meth c H locs cells slots la F N L
  obtain ⟨F1, F2, F3, F4, F5, F6, F7, F8, F9, F10, F11, F12⟩ := id F
  refine va_bast F1 F2 F9 N.1 (F12.D σ) N.2.1 k 1 (qW_arr (by decide) hk) rfl hi hd (fun H1 locs1 h1 h2 h3 => ?_)
  rw [qW_ast (by decide) hk] at h1
  exact h p e s m args below meth c H1 locs1 cells slots la F ⟨h1, h3, N.2.2⟩ L
theorem qV_zast {k n : Nat} {rs : List (Nat × Nat)} {i x : Int32} (hk : qtab[k]? = some (true, 2, n, rs)) (hi : vp_in i n) (hd : decode M.2.1 pc = .ok (.bastore, 1)) (h : qV g M d bu (pc + 1) ls st (qup σ k i.toNatClampNeg (vp_nar .boolean x)) Q T) : qV g M d bu pc ls (.inl x :: .inl i :: .inr k :: st) σ Q T := by
  intro p e s m args below meth c H locs cells slots la F N L
  obtain ⟨F1, F2, F3, F4, F5, F6, F7, F8, F9, F10, F11, F12⟩ := id F
  refine va_zast F1 F2 F9 N.1 (F12.D σ) N.2.1 k 2 (qW_arr (by decide) hk) rfl hi hd (fun H1 locs1 h1 h2 h3 => ?_)
  rw [qW_ast (by decide) hk] at h1
  exact h p e s m args below meth c H1 locs1 cells slots la F ⟨h1, h3, N.2.2⟩ L
theorem qV_alen {k ty n : Nat} {rs : List (Nat × Nat)} (h3 : ty < 3) (hk : qtab[k]? = some (true, ty, n, rs)) (hd : decode M.2.1 pc = .ok (.arraylength, 1)) (h : qV g M d bu (pc + 1) ls (.inl (nI n) :: st) σ Q T) : qV g M d bu pc ls (.inr k :: st) σ Q T := by
  intro p e s m args below meth c H locs cells slots la F N L
  obtain ⟨F1, F2, F3, F4, F5, F6, F7, F8, F9, F10, F11, F12⟩ := id F
  have hh := h p e s m args below meth c H locs cells slots la F N L
  match ty, h3, hk with
  | 0, _, hk => exact va_alen F1 F2 F9 N.1 k 0 (qW_arr (by decide) hk) rfl rfl hd hh
  | 1, _, hk => exact va_alen F1 F2 F9 N.1 k 1 (qW_arr (by decide) hk) rfl rfl hd hh
  | 2, _, hk => exact va_alen F1 F2 F9 N.1 k 2 (qW_arr (by decide) hk) rfl rfl hd hh
theorem qV_ret {ty : FieldType} {v : Int32} (hr : M.2.2.2.1 = some ty) (hnf : ty ≠ .float) (hn : narrow ty (.int v) = .int v) (hd : decode M.2.1 pc = .ok (.ireturn, 1)) (h : Q v σ) : qV g M d bu pc ls [.inl v] σ Q T := by
  intro p e s m args below meth c H locs cells slots la F N L
  obtain ⟨F1, F2, F3, F4, F5, F6, F7, F8, F9, F10, F11, F12⟩ := id F
  refine vx_ret (W.widen (k := qMd_b M) (n := 6 * qMd_b M) (by have := N.2.2; omega) (by have := N.2.2; omega) (W.zret F1 F2 (F3.trans hr) hn (fun t ht hW => ?_) N.2.1.2.2 hd F7))
  rw [qQc_i hr hnf]
  exact ⟨⟨v, σ, rfl, h, by unfold qPost; rw [ht]; exact N.1⟩, N.2.1.F ht⟩
theorem qV_retv (hr : M.2.2.2.1 = none) (hd : decode M.2.1 pc = .ok (.return_, 1)) (h : Q 0 σ) : qV g M d bu pc ls [] σ Q T := by
  intro p e s m args below meth c H locs cells slots la F N L
  obtain ⟨F1, F2, F3, F4, F5, F6, F7, F8, F9, F10, F11, F12⟩ := id F
  refine vx_ret (W.widen (k := qMd_b M) (n := 6 * qMd_b M) (by have := N.2.2; omega) (by have := N.2.2; omega) (W.vret F1 F2 (F3.trans hr) (fun t ht hW => ?_) N.2.1.2.2 hd F7))
  rw [qQc_v hr]
  exact ⟨⟨σ, rfl, h, by unfold qPost; rw [ht]; exact N.1⟩, N.2.1.F ht⟩
end QH
