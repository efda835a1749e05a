/-! ===== floats: the ends of the four methods that answer with a float ===== -/
section QF
variable {g : qG} {M M' : qMd} {d bu pc : Nat} {ls : List (Option qP)} {st as : List qP} {σ : qS} {Q : Int32 → qS → Prop} {T : String → qS → Prop}
theorem qF_ret {p : Program} {e : Env} {s : State} {m : MethodId} {args : Array Value} {below : List Frame} {meth : Method} {c : Code} {H : Heap} {locs : List Loc} {cells slots : Nat} {la : Array Slot} {v : UInt32} (F : qFix g M p s m args meth c) (N : qNow g M bu s σ H locs cells slots) (hr : M.2.2.2.1 = some .float) (hd : decode M.2.1 pc = .ok (.freturn, 1)) (h : Q v.toInt32 σ) :
    W p g.1 e (qrm M d) s m args below meth c H locs cells slots (vx_MQ below (qQc g M Q) (qXc g T) args s (qMd_b M) (6 * qMd_b M) g.2.1) (F0 m pc la [.float v]) := by
  obtain ⟨F1, F2, F3, F4, F5, F6, F7, F8, F9, F10, F11, F12⟩ := id F
  refine vx_ret (W.widen (k := qMd_b M) (n := 6 * qMd_b M) (by have := N.2.2; omega) (by have := N.2.2; omega) (W.fret F1 F2 (F3.trans hr) (fun t ht hW => ?_) N.2.1.2.2 hd F7))
  rw [qQc_f hr]
  exact ⟨⟨v, σ, rfl, h, by unfold qPost; rw [ht]; exact N.1⟩, N.2.1.F ht⟩
/-- where a float on the stack is the answer: at once, or after a goto -/
def qend (M : qMd) (pc : Nat) : Prop := decode M.2.1 pc = .ok (.freturn, 1) ∨ ∃ (off : Int) (tgt : Nat), decode M.2.1 pc = .ok (.goto off, 3) ∧ (pc : Int) + off = (tgt : Int) ∧ decode M.2.1 tgt = .ok (.freturn, 1)
theorem qF_end {p : Program} {e : Env} {s : State} {m : MethodId} {args : Array Value} {below : List Frame} {meth : Method} {c : Code} {H : Heap} {locs : List Loc} {cells slots : Nat} {la : Array Slot} {v : UInt32} (F : qFix g M p s m args meth c) (N : qNow g M bu s σ H locs cells slots) (hr : M.2.2.2.1 = some .float) (hd : qend M pc) (h : Q v.toInt32 σ) :
    W p g.1 e (qrm M d) s m args below meth c H locs cells slots (vx_MQ below (qQc g M Q) (qXc g T) args s (qMd_b M) (6 * qMd_b M) g.2.1) (F0 m pc la [.float v]) := by
  rcases hd with hd | ⟨off, tgt, h1, h2, h3⟩
  · exact qF_ret F N hr hd h
  · exact lv_goto (tgt := tgt) F.1 F.2.1 h1 h2 (qF_ret F N hr h3 h)
theorem qV_f0 (hr : M.2.2.2.1 = some .float) (h1 : decode M.2.1 pc = .ok (.fconst 0, 1)) (he : qend M (pc + 1)) (h : Q FP.fconst0.toInt32 σ) : qV g M d bu pc ls [] σ Q T := by
  intro p e s m args below meth c H locs cells slots la F N L
  exact lv_fconst0 F.1 F.2.1 h1 (qF_end F N hr he h)
theorem qV_fl {k : Fin 4} {x y : Int32} (hr : M.2.2.2.1 = some .float) (h1 : decode M.2.1 pc = .ok (.i2f, 1)) (h2 : decode M.2.1 (pc + 1) = .ok (.iload_n k, 1)) (hl : ls[k.val]? = some (some (.inl y))) (h3 : decode M.2.1 (pc + 2) = .ok (.i2f, 1)) (h4 : decode M.2.1 (pc + 3) = .ok (.fdiv, 1)) (he : qend M (pc + 4)) (hn : vf_n32 (FP.fdiv (FP.i2f x) (FP.i2f y))) (h : Q (FP.fdiv (FP.i2f x) (FP.i2f y)).toInt32 σ) : qV g M d bu pc ls [.inl x] σ Q T := by
  intro p e s m args below meth c H locs cells slots la F N L
  refine lv_i2f F.1 F.2.1 h1 ?_
  refine lv_iload_n (k := k) (x := y) F.1 F.2.1 h2 rfl (L.2.2 k.val (.inl y) hl) ?_
  refine lv_i2f F.1 F.2.1 h3 ?_
  exact lv_fdiv F.1 F.2.1 h4 hn (qF_end F N hr he h)
theorem qV_fg {k ci n j idx : Nat} {rs : List (Nat × Nat)} {q : vw_C} {x : Int32} (hr : M.2.2.2.1 = some .float) (h1 : decode M.2.1 pc = .ok (.i2f, 1)) (h2 : decode M.2.1 (pc + 1) = .ok (.aload_n 0, 1)) (hl : ls[0]? = some (some (.inr k))) (hk : qtab[k]? = some (false, ci, n, rs)) (hc : vwCl[ci]? = some q) (hj : j < n) (hnq : q.2.2 = n) (hf : (q.2.1 j).1 = q.1) (hrs : rs.lookup j = none)
    (hw : Jvm.Cond.fieldLink M.1.cls idx q.1 (q.2.1 j).2.1 (q.2.1 j).2.2.1 ∈ qgw) (h3 : decode M.2.1 (pc + 2) = .ok (.getfield idx, 3)) (h4 : decode M.2.1 (pc + 5) = .ok (.i2f, 1)) (h5 : decode M.2.1 (pc + 6) = .ok (.fdiv, 1)) (he : qend M (pc + 7)) (hn : vf_n32 (FP.fdiv (FP.i2f x) (FP.i2f (σ k j)))) (h : Q (FP.fdiv (FP.i2f x) (FP.i2f (σ k j))).toInt32 σ) : qV g M d bu pc ls [.inl x] σ Q T := by
  intro p e s m args below meth c H locs cells slots la F N L
  obtain ⟨F1, F2, F3, F4, F5, F6, F7, F8, F9, F10, F11, F12⟩ := id F
  refine lv_i2f F1 F2 h1 ?_
  refine lv_aload_n (k := 0) F1 F2 h2 rfl (L.2.2 0 (.inr k) hl) ?_
  refine va_get (D := g.2.2.1) (ci := ci) (v := qfv g.2.2.2.1 σ k rs j) (C := q.1) (T := q.2.1) (N := q.2.2) F1 F2 F6 (qcl_ok ci q hc).1 F5 F9 N.1 k (qW_obj hk) hc j (by rw [hnq]; exact hj) (F6 _ hw) (fun x hx => by rw [← hf]; exact hx) ?_ h3 ?_
  · rw [List.getElem?_map, List.getElem?_range hj]
    rfl
  · have e1 : qfv g.2.2.2.1 σ k rs j = .int (σ k j) := by unfold qfv; rw [hrs]
    rw [e1]
    refine lv_i2f F1 F2 h4 ?_
    exact lv_fdiv F1 F2 h5 hn (qF_end F N hr he h)
theorem qV_callF {idx k ci n : Nat} {rs : List (Nat × Nat)} {q : vw_C} (hk : qtab[k]? = some (false, ci, n, rs)) (hc : vwCl[ci]? = some q) (hq : q.1 = M'.1.cls) (hM : (M'.1.cls ≠ "java/lang/invoke/MethodHandle" ∧ M'.1.cls ≠ "java/lang/invoke/VarHandle") ∧ (parseMethodDescriptor M'.1.desc).map (fun d => d.parameters.length) = some M'.2.2.2.2.1 ∧ M'.2.2.1 ≤ 40) (hf' : M'.2.2.2.1 = some .float) (hf : M.2.2.2.1 = some .float) (hw : ∀ w ∈ qcw M', w ∈ qgw) (hl : Jvm.Cond.methodLink M.1.cls idx M'.1 ∈ qgw) (hi : Jvm.Cond.instanceMethod M'.1 ∈ qgw) (hs : Jvm.Cond.selects M'.1.cls M'.1 M'.1 ∈ qgw)
    (hn : as.length = M'.2.2.2.2.1) (hb : qMd_b M' ≤ bu) (hd : decode M.2.1 pc = .ok (.invokevirtual idx, 3)) (hd2 : decode M.2.1 (pc + 3) = .ok (.freturn, 1))
    (h : qC g d M' (.inr k :: as) σ Q T) : qV g M (d + 1) bu pc ls (as.reverse ++ [.inr k]) σ Q T := by
  intro p e s m args below meth c H locs cells slots la F N L
  obtain ⟨F1, F2, F3, F4, F5, F6, F7, F8, F9, F10, F11, F12⟩ := id F
  obtain ⟨N1, N2, N3, N4⟩ := id N
  have hpre := qpre_of F N
  have hcd := hw _ (List.mem_cons_of_mem _ List.mem_cons_self)
  have hB : CallB (qrm M (d + 1)) s args M.1.cls idx M'.1 M'.2.1 M'.2.2.1 M'.2.2.2.1 (qws M') (qrm M' d) (qMd_b M') (6 * qMd_b M') M'.2.2.2.2.1 := by
    refine ⟨rfl, rfl, ?_, ?_, fun w hw' a' U hW => ?_, List.mem_cons_self, F6 _ hcd, F6 _ (hw _ List.mem_cons_self), hM.1, ?_, F6 _ hl⟩
    · show d + 12 + 1 ≤ d + 1 + 12
      omega
    · have h40 := hM.2.2
      show 8 + (M'.2.2.1 + 11) + (60 * d + 300) ≤ 60 * (d + 1) + 300
      omega
    · have hin : w ∈ qgw := by
        rcases List.mem_cons.mp hw' with rfl | h
        · exact hcd
        · exact h
      exact word_at hW (qgw_good hin) (F6 _ hin)
    · intro sig h9
      have h2 := hM.2.1
      rw [h9] at h2
      exact (Option.some.inj h2).symm
  have hr := vx_runV (meth := meth) (R := qrm M (d + 1)) (e := e) (below := below) (locs := locs) (cells := cells) (slots := slots) (g := F0 m pc la ((as.reverse ++ [Sum.inr k] : List qP).map (qv g.2.2.2.1))) (rest := []) (C := M'.1.cls) (b := g.2.2.2.1 k) (As := as.map (qv g.2.2.2.1)) ⟨F1, F2, F4, F5, F6⟩ h ⟨hB, F6 _ hi, F6 _ hs⟩ ⟨qblind, by have hr := va_recv F9 N.1 hc (qW_obj hk); rw [hq] at hr; exact hr, fun U hU hW => ⟨rfl, hpre U hU hW⟩⟩ rfl (by rw [List.length_map]; exact hn) L.1 (by
    show (as.reverse ++ [Sum.inr k] : List qP).map (qv g.2.2.2.1) = (as.map (qv g.2.2.2.1)).reverse ++ .ref (g.2.2.2.1 k) :: []
    rw [List.map_append, List.map_reverse]
    rfl) (lv_room (Nat.zero_le _)) hd ⟨by show cells + qMd_b M' ≤ qMd_b M; omega, by show slots + 6 * qMd_b M' ≤ 6 * qMd_b M; omega⟩
  rw [qQc_f hf'] at hr
  have kx : ∀ (E : String) (ce : Cell) (q9 : Addr) (u : qS) (t : State) (H1 : Heap) (locs1 : List Loc), t.heap = H1 → s.vm.Alike t.vm → True → (T E u ∧ qPost g u t) → H.size ≤ H1.size → (∀ q : Nat, q < H.size → ¬ g.2.1 q → H1[q]? = H[q]?) → va_S g.2.1 s.heap H1 locs1 → H1[q9]? = some ce → ce.vm = .none → s.vm.findClass E = some ce.cls → vx_W p g.1 e (qrm M (d + 1)) s m args below meth c H1 locs1 (cells + qMd_b M') (slots + 6 * qMd_b M') (vx_MQ below (qQc g M Q) (qXc g T) args s (qMd_b M) (6 * qMd_b M) g.2.1) (F0 m pc la []) q9 := by
    intro E ce q9 u t H1 locs1 ht hvm _ hB hz1 hk1 hS1 hce hcv hcl
    refine vx_out (E := E) (fun x hx => (F8 x hx).elim) F7 hce hcv hcl (fun t2 ht2 hv2 => ⟨u, trivial, ⟨hB.1, ?_⟩, hS1.F ht2⟩) hS1.2.2 (by omega) (by omega)
    have h2 := hB.2
    unfold qPost at h2 ⊢
    rw [ht2]
    rw [ht] at h2
    exact h2
  refine vx_callf hr N2 (fun q _ h => h) (fun q h => h) (fun q _ h => h) kx (fun r u t H1 locs1 ht hvm hpost hB hz1 hk1 hS1 => ?_)
  unfold qPost at hB
  rw [ht] at hB
  exact qF_ret (bu := bu - qMd_b M') F ⟨hB, hS1, by omega, by omega⟩ hf hd2 hpost
end QF
