/-! ===== the rules of calls ===== -/
def qpush (M : qMd) (r : Int32) (st : List qP) : List qP := match M.2.2.2.1 with
  | none => st
  | some _ => .inl r :: st
/-- what a call of M by the entry idx of own's pool needs: the words but the link -/
def qcw (M : qMd) : List Cond := [.initialized M.1.cls, .code M.1 M.2.1 M.2.2.1 M.2.2.2.1]
def qMok (M : qMd) : Prop := (M.1.cls ≠ "java/lang/invoke/MethodHandle" ∧ M.1.cls ≠ "java/lang/invoke/VarHandle") ∧ (parseMethodDescriptor M.1.desc).map (fun d => d.parameters.length) = some M.2.2.2.2.1 ∧ M.2.2.1 ≤ 40 ∧ M.2.2.2.1 ≠ some .float
theorem qlen {M : qMd} (h : qMok M) : ∀ sig, parseMethodDescriptor M.1.desc = some sig → M.2.2.2.2.1 = sig.parameters.length := by
  intro sig hs
  have h2 := h.2.1
  rw [hs] at h2
  exact (Option.some.inj h2).symm
theorem qblind {g : qG} {as : List Value} {σ : qS} : FrameBlind (va_Pc as (qPre g σ)) := by
  intro a U f mk q
  obtain ⟨q0, qP, qK1, qK2, qA⟩ := q
  exact ⟨q0, qP, va_K.moved (u := U) (U := U.calling f mk a) (Vm.Alike.refl U.vm) qK1, qK_same (U := U.calling f mk a) qK2 rfl rfl, qA⟩
section QC
variable {g : qG} {M M' : qMd} {d bu pc : Nat} {ls : List (Option qP)} {st as : List qP} {σ : qS} {Q : Int32 → qS → Prop} {T : String → qS → Prop}
theorem qpre_of {p : Program} {s : State} {m : MethodId} {args : Array Value} {meth : Method} {c : Code} {H : Heap} {locs : List Loc} {cells slots : Nat} (F : qFix g M p s m args meth c) (N : qNow g M bu s σ H locs cells slots) :
    ∀ U : State, U.heap = H → s.WarmedH U.vm → qPre g σ U := by
  intro U hU hW
  obtain ⟨F1, F2, F3, F4, F5, F6, F7, F8, F9, F10, F11, F12⟩ := id F
  exact ⟨by rw [hU]; exact N.1, va_K.moved hW.alike F9, qK_warm F10 hW (fun a h1 h2 => by rw [hU]; exact N.2.1.2.1 a h1 h2), fun q hq => F11 q (by rw [hU] at hq; exact Nat.le_trans N.2.1.1 hq)⟩
/-- what follows a call, of either kind -/
theorem qV_after {p : Program} {e : Env} {s : State} {m : MethodId} {args : Array Value} {below : List Frame} {meth : Method} {c : Code} {H : Heap} {locs : List Loc} {cells slots : Nat} {la : Array Slot} {st0 : List Value} {a : Array Value}
    (F : qFix g M p s m args meth c) (N : qNow g M bu s σ H locs cells slots) (L : qL g.2.2.2.1 M.2.2.1 la ls) (hnf : M'.2.2.2.1 ≠ some .float) (hb : qMd_b M' ≤ bu)
    (hr : vx_Run p g.1 e (qrm M (d + 1)) s m args below meth c H locs cells slots (qMd_b M') (6 * qMd_b M') (F0 m pc la st0) (st.map (qv g.2.2.2.1)) (qQc g M' (fun r σ' => qV g M (d + 1) (bu - qMd_b M') (pc + 3) ls (qpush M' r st) σ' Q T) a) (qXc g T) g.2.1) :
    W p g.1 e (qrm M (d + 1)) s m args below meth c H locs cells slots (vx_MQ below (qQc g M Q) (qXc g T) args s (qMd_b M) (6 * qMd_b M) g.2.1) (F0 m pc la st0) := by
  obtain ⟨F1, F2, F3, F4, F5, F6, F7, F8, F9, F10, F11, F12⟩ := id F
  obtain ⟨N1, N2, N3, N4⟩ := id N
  have kx : ∀ (E : String) (ce : Cell) (q9 : Addr) (u : qS) (t : State) (H1 : Heap) (locs1 : List Loc), t.heap = H1 → s.vm.Alike t.vm → True → (T E u ∧ qPost g u t) → H.size ≤ H1.size → (∀ q : Nat, q < H.size → ¬ g.2.1 q → H1[q]? = H[q]?) → va_S g.2.1 s.heap H1 locs1 → H1[q9]? = some ce → ce.vm = .none → s.vm.findClass E = some ce.cls → vx_W p g.1 e (qrm M (d + 1)) s m args below meth c H1 locs1 (cells + qMd_b M') (slots + 6 * qMd_b M') (vx_MQ below (qQc g M Q) (qXc g T) args s (qMd_b M) (6 * qMd_b M) g.2.1) (F0 m pc la (st.map (qv g.2.2.2.1))) q9 := by
    intro E ce q9 u t H1 locs1 ht hvm _ hB hz1 hk1 hS1 hce hcv hcl
    refine vx_out (E := E) (fun x hx => (F8 x hx).elim) F7 hce hcv hcl (fun t2 ht2 hv2 => ⟨u, trivial, ⟨hB.1, ?_⟩, hS1.F ht2⟩) hS1.2.2 (by omega) (by omega)
    have h2 := hB.2
    unfold qPost at h2 ⊢
    rw [ht2]
    rw [ht] at h2
    exact h2
  cases hM : M'.2.2.2.1 with
  | none =>
    have hp : ∀ r : Int32, qpush M' r st = st := fun r => by unfold qpush; rw [hM]
    rw [qQc_v hM] at hr
    refine vx_callv hr N2 (fun q _ h => h) (fun q h => h) (fun q _ h => h) kx (fun u t H1 locs1 ht hvm hpost hB hz1 hk1 hS1 => ?_)
    have hpost : qV g M (d + 1) (bu - qMd_b M') (pc + 3) ls (qpush M' 0 st) u Q T := hpost
    rw [hp] at hpost
    unfold qPost at hB
    rw [ht] at hB
    exact hpost p e s m args below meth c H1 locs1 _ _ la F ⟨hB, hS1, by omega, by omega⟩ L
  | some ty =>
    have hp : ∀ r : Int32, qpush M' r st = .inl r :: st := fun r => by unfold qpush; rw [hM]
    rw [qQc_i hM (fun e9 => hnf (by rw [hM, e9]))] at hr
    refine vx_calli hr N2 (fun q _ h => h) (fun q h => h) (fun q _ h => h) kx (fun r u t H1 locs1 ht hvm hpost hB hz1 hk1 hS1 => ?_)
    rw [hp] at hpost
    unfold qPost at hB
    rw [ht] at hB
    exact hpost p e s m args below meth c H1 locs1 _ _ la F ⟨hB, hS1, by omega, by omega⟩ L
theorem qcallB {idx : Nat} {p : Program} {s : State} {m : MethodId} {args : Array Value} {meth : Method} {c : Code} (F : qFix g M p s m args meth c) (hM : qMok M') (hw : ∀ w ∈ qcw M', w ∈ qgw) (hl : Jvm.Cond.methodLink M.1.cls idx M'.1 ∈ qgw) :
    CallB (qrm M (d + 1)) s args M.1.cls idx M'.1 M'.2.1 M'.2.2.1 M'.2.2.2.1 (qws M') (qrm M' d) (qMd_b M') (6 * qMd_b M') M'.2.2.2.2.1 := by
  obtain ⟨F1, F2, F3, F4, F5, F6, F7, F8, F9, F10, F11, F12⟩ := id F
  have hcd := hw _ (List.mem_cons_of_mem _ List.mem_cons_self)
  refine ⟨rfl, rfl, ?_, ?_, fun w hw' a' U hW => ?_, List.mem_cons_self, F6 _ hcd, F6 _ (hw _ List.mem_cons_self), hM.1, qlen hM, F6 _ hl⟩
  · show d + 12 + 1 ≤ d + 1 + 12
    omega
  · have h40 := hM.2.2.1
    show 8 + (M'.2.2.1 + 11) + (60 * d + 300) ≤ 60 * (d + 1) + 300
    omega
  · have hin : w ∈ qgw := by
      rcases List.mem_cons.mp hw' with rfl | h
      · exact hcd
      · exact h
    exact word_at hW (qgw_good hin) (F6 _ hin)
theorem qV_callV {idx k ci n : Nat} {rs : List (Nat × Nat)} {q : vw_C} (hk : qtab[k]? = some (false, ci, n, rs)) (hc : vwCl[ci]? = some q) (hq : q.1 = M'.1.cls) (hM : qMok M') (hw : ∀ w ∈ qcw M', w ∈ qgw) (hl : Jvm.Cond.methodLink M.1.cls idx M'.1 ∈ qgw) (hi : Jvm.Cond.instanceMethod M'.1 ∈ qgw) (hs : Jvm.Cond.selects M'.1.cls M'.1 M'.1 ∈ qgw)
    (hn : as.length = M'.2.2.2.2.1) (h8 : st.length ≤ 8) (hb : qMd_b M' ≤ bu) (hd : decode M.2.1 pc = .ok (.invokevirtual idx, 3))
    (h : qC g d M' (.inr k :: as) σ (fun r σ' => qV g M (d + 1) (bu - qMd_b M') (pc + 3) ls (qpush M' r st) σ' Q T) T) : qV g M (d + 1) bu pc ls (as.reverse ++ .inr k :: st) σ Q T := by
  intro p e s m args below meth c H locs cells slots la F N L
  obtain ⟨F1, F2, F3, F4, F5, F6, F7, F8, F9, F10, F11, F12⟩ := id F
  refine qV_after (M' := M') (st := st) (a := ((Sum.inr k :: as).map (qv g.2.2.2.1)).toArray) F N L hM.2.2.2 hb ?_
  have hpre := qpre_of F N
  refine vx_runV (C := M'.1.cls) (b := g.2.2.2.1 k) (As := as.map (qv g.2.2.2.1)) ⟨F1, F2, F4, F5, F6⟩ h ⟨qcallB F hM hw hl, F6 _ hi, F6 _ hs⟩ ⟨qblind, ?_, fun U hU hW => ⟨rfl, hpre U hU hW⟩⟩ rfl (by rw [List.length_map]; exact hn) L.1 ?_ (lv_room (by rw [qsum]; exact h8)) hd ?_
  · have hr := va_recv F9 N.1 hc (qW_obj hk)
    rw [hq] at hr
    exact hr
  · show (as.reverse ++ .inr k :: st).map (qv g.2.2.2.1) = (as.map (qv g.2.2.2.1)).reverse ++ .ref (g.2.2.2.1 k) :: st.map (qv g.2.2.2.1)
    rw [List.map_append, List.map_reverse]
    rfl
  · obtain ⟨N1, N2, N3, N4⟩ := id N
    exact ⟨by show cells + qMd_b M' ≤ qMd_b M; omega, by show slots + 6 * qMd_b M' ≤ 6 * qMd_b M; omega⟩
theorem qV_callS {idx : Nat} (hM : qMok M') (hw : ∀ w ∈ qcw M', w ∈ qgw) (hl : Jvm.Cond.methodLink M.1.cls idx M'.1 ∈ qgw) (hi : Jvm.Cond.static M'.1 ∈ qgw)
    (hn : as.length = M'.2.2.2.2.1) (h8 : st.length ≤ 8) (hb : qMd_b M' ≤ bu) (hd : decode M.2.1 pc = .ok (.invokestatic idx, 3))
    (h : qC g d M' as σ (fun r σ' => qV g M (d + 1) (bu - qMd_b M') (pc + 3) ls (qpush M' r st) σ' Q T) T) : qV g M (d + 1) bu pc ls (as.reverse ++ st) σ Q T := by
  intro p e s m args below meth c H locs cells slots la F N L
  obtain ⟨F1, F2, F3, F4, F5, F6, F7, F8, F9, F10, F11, F12⟩ := id F
  refine qV_after (M' := M') (st := st) (a := (as.map (qv g.2.2.2.1)).toArray) F N L hM.2.2.2 hb ?_
  have hpre := qpre_of F N
  refine vx_runS (As := as.map (qv g.2.2.2.1)) ⟨F1, F2, F4, F5, F6⟩ h ⟨qcallB F hM hw hl, F6 _ hi⟩ ⟨qblind, fun U hU hW => ⟨rfl, hpre U hU hW⟩⟩ rfl (by rw [List.length_map]; exact hn) L.1 ?_ (lv_room (by rw [qsum]; exact h8)) hd ?_
  · show (as.reverse ++ st).map (qv g.2.2.2.1) = (as.map (qv g.2.2.2.1)).reverse ++ st.map (qv g.2.2.2.1)
    rw [List.map_append, List.map_reverse]
  · obtain ⟨N1, N2, N3, N4⟩ := id N
    exact ⟨by show cells + qMd_b M' ≤ qMd_b M; omega, by show slots + 6 * qMd_b M' ≤ 6 * qMd_b M; omega⟩
/-- a contract says less -/
theorem qC_mono {Q' : Int32 → qS → Prop} {T' : String → qS → Prop} (h : qC g d M as σ Q T) (hQ : ∀ r u, Q r u → Q' r u) (hT : ∀ E u, T E u → T' E u) : qC g d M as σ Q' T' := by
  unfold qC at h ⊢
  intro p e ha hc hk s m args below hf happ hP hK
  obtain ⟨t, o, h1, h2, h3, h4⟩ := h p e ha hc hk s m args below hf happ hP hK
  refine ⟨t, o, h1, h2, h3, ?_⟩
  rcases h4 with ⟨h5, h6⟩ | ⟨q, h5, E, ce, L, ⟨u, h6, h7, h8⟩, h9⟩
  · refine Or.inl ⟨?_, h6⟩
    cases hM : M.2.2.2.1 with
    | none =>
      rw [qQc_v hM] at h5 ⊢
      obtain ⟨⟨u, e1, e2, e3⟩, e4⟩ := h5
      exact ⟨⟨u, e1, hQ _ _ e2, e3⟩, e4⟩
    | some ty =>
      by_cases hf : ty = .float
      · subst hf
        rw [qQc_f hM] at h5 ⊢
        obtain ⟨⟨r, u, e1, e2, e3⟩, e4⟩ := h5
        exact ⟨⟨r, u, e1, hQ _ _ e2, e3⟩, e4⟩
      · rw [qQc_i hM hf] at h5 ⊢
        obtain ⟨⟨r, u, e1, e2, e3⟩, e4⟩ := h5
        exact ⟨⟨r, u, e1, hQ _ _ e2, e3⟩, e4⟩
  · exact Or.inr ⟨q, h5, E, ce, L, ⟨u, h6, ⟨hT _ _ h7.1, h7.2⟩, h8⟩, h9⟩
end QC
