/-! ===== clear, in a world that is still growing: printed by wip/whole/gen25.py ===== -/
theorem katA {ws L : va_W} {j : Nat} : (ws ++ L)[ws.length + j]? = L[j]? := by
  rw [List.getElem?_append_right (by omega)]
  congr 1
  omega
theorem ksetA {ws L : va_W} {j : Nat} {y : Nat × va_E} : (ws ++ L).set (ws.length + j) y = ws ++ L.set j y := by
  rw [List.set_append_right _ _ (by omega)]
  congr 2
  omega
def kfl (f : Nat → Int32) (i : Nat) (v : Int32) : Nat → Int32 := fun j => if j < i then v else f j
theorem kfl_0 (f : Nat → Int32) (v : Int32) : kfl f 0 v = f := by
  funext j
  unfold kfl
  rw [if_neg (by omega)]
theorem kfl_s (f : Nat → Int32) (i : Nat) (v : Int32) : upd (kfl f i v) i v = kfl f (i + 1) v := by
  funext j
  unfold upd kfl
  by_cases h : j = i
  · simp [h]
  · by_cases h2 : j < i
    · simp [h, h2, Nat.lt_succ_of_lt h2]
    · have : ¬ j < i + 1 := by omega
      simp [h, h2, this]
theorem kse {ws : va_W} {k : Nat} {x : Nat × va_E} (h : k < ws.length) : (ws.set k x)[k]? = some x := by rw [List.getElem?_set, if_pos rfl, if_pos h]
theorem ksn {ws : va_W} {k i : Nat} {x y : Nat × va_E} (hne : i ≠ k) (h : ws[k]? = some y) : (ws.set i x)[k]? = some y := by rw [List.getElem?_set_ne hne]; exact h
theorem kne {ws : va_W} {i k h0 h1 : Nat} {x : ClassId × vp_A} {y : Nat × List Value} (h : ws[i]? = some (h0, .inl x)) (h' : ws[k]? = some (h1, .inr y)) : i ≠ k := by
  intro e
  subst e
  rw [h] at h'
  cases h'

section KD
variable {l : Launch} {A : Nat → Prop} {D : va_G} {cs : Nat → ClassId}
theorem kw5f : ∀ w ∈ ([.fieldLink RX5 9 RX5 "cells" "[I"] : List Jvm.Cond), w ∈ qgw := qgw_of [168] (by decide +kernel) (by decide +kernel)
set_option maxHeartbeats 1000000 in
theorem kf_loop {p : Program} {e : Env} {R : Room} {s : State} {m : MethodId} {args : Array Value} {below : List Frame} {meth : Method} {c : Code} {Q : State → Prop} {cells slots : Nat} (hx : p.tables.exec = Jvm.exec) (hb : c.code = cX5_fillWith) (hts : ∀ w ∈ qgw, w.before args s = true) (hown : s.vm.findClass RX5 = some m.cls) (hK : va_K D vwCl (qtys cs) s) {ws : va_W} {k kc h0 hc n : Nat} {v : Int32} {f : Nat → Int32} (hn : n ≤ 2000) (hk : ws[k]? = some (h0, .inr (5, [.ref hc]))) (hkc : kc < ws.length) (hne : kc ≠ k)
    (kk : ∀ H locs la, va_P D vwCl (ws.set kc (hc, .inl (cs 0, n, .inl (kfl f n v)))) H → va_D A (ws.set kc (hc, .inl (cs 0, n, .inl (kfl f n v)))) → va_S A s.heap H locs → W p l e R s m args below meth c H locs cells slots Q (F0 m 24 la [])) :
    ∀ (r i : Nat), i + r = n → ∀ H locs la, lv_has la 3 [(2, .int (nI i)), (0, .ref h0), (1, .int v)] → va_P D vwCl (ws.set kc (hc, .inl (cs 0, n, .inl (kfl f i v)))) H → va_D A (ws.set kc (hc, .inl (cs 0, n, .inl (kfl f i v)))) → va_S A s.heap H locs → W p l e R s m args below meth c H locs cells slots Q (F0 m 2 la []) := by
  intro r
  induction r with
  | zero =>
    intro i hi H locs la hl hP hD hS
    have ei : n = i := by omega
    subst ei
    refine lv_iload_n (k := 2) hx hb (by decide +kernel : decode cX5_fillWith 2 = .ok (.iload_n 2, 1)) rfl (lv_at hl 0 rfl) ?_
    refine lv_aload_n (k := 0) hx hb (by decide +kernel : decode cX5_fillWith 3 = .ok (.aload_n 0, 1)) rfl (lv_at hl 1 rfl) ?_
    refine va_get (D := D) (ci := 5) (v := .ref hc) (C := RX5) (T := TX5) (N := 1) hx hb hts qin5 hown hK hP k (ksn hne hk) rfl 0 (by decide) (hts _ (kw5f _ List.mem_cons_self)) (fun _ h9 => h9) rfl (by decide +kernel : decode cX5_fillWith 4 = .ok (.getfield 9, 3)) ?_
    refine va_alen (v := nI n) hx hb hK hP kc 0 (kse hkc) rfl rfl (by decide +kernel : decode cX5_fillWith 7 = .ok (.arraylength, 1)) ?_
    refine lv_icmp_ge (tgt := 24) hx hb (by decide +kernel : decode cX5_fillWith 8 = .ok (.if_icmp .ge 16, 3)) rfl (fun _ => ?_) (fun h1 => (h1 (nI_le (by omega) (by omega))).elim)
    exact kk H locs la hP hD hS
  | succ r ih =>
    intro i hi H locs la hl hP hD hS
    refine lv_iload_n (k := 2) hx hb (by decide +kernel : decode cX5_fillWith 2 = .ok (.iload_n 2, 1)) rfl (lv_at hl 0 rfl) ?_
    refine lv_aload_n (k := 0) hx hb (by decide +kernel : decode cX5_fillWith 3 = .ok (.aload_n 0, 1)) rfl (lv_at hl 1 rfl) ?_
    refine va_get (D := D) (ci := 5) (v := .ref hc) (C := RX5) (T := TX5) (N := 1) hx hb hts qin5 hown hK hP k (ksn hne hk) rfl 0 (by decide) (hts _ (kw5f _ List.mem_cons_self)) (fun _ h9 => h9) rfl (by decide +kernel : decode cX5_fillWith 4 = .ok (.getfield 9, 3)) ?_
    refine va_alen (v := nI n) hx hb hK hP kc 0 (kse hkc) rfl rfl (by decide +kernel : decode cX5_fillWith 7 = .ok (.arraylength, 1)) ?_
    refine lv_icmp_ge (tgt := 24) hx hb (by decide +kernel : decode cX5_fillWith 8 = .ok (.if_icmp .ge 16, 3)) rfl (fun h1 => (nI_ge (by omega : i < n) (by omega) h1).elim) (fun _ => ?_)
    refine lv_aload_n (k := 0) hx hb (by decide +kernel : decode cX5_fillWith 11 = .ok (.aload_n 0, 1)) rfl (lv_at hl 1 rfl) ?_
    refine va_get (D := D) (ci := 5) (v := .ref hc) (C := RX5) (T := TX5) (N := 1) hx hb hts qin5 hown hK hP k (ksn hne hk) rfl 0 (by decide) (hts _ (kw5f _ List.mem_cons_self)) (fun _ h9 => h9) rfl (by decide +kernel : decode cX5_fillWith 12 = .ok (.getfield 9, 3)) ?_
    refine lv_iload_n (k := 2) hx hb (by decide +kernel : decode cX5_fillWith 15 = .ok (.iload_n 2, 1)) rfl (lv_at hl 0 rfl) ?_
    refine lv_iload_n (k := 1) hx hb (by decide +kernel : decode cX5_fillWith 16 = .ok (.iload_n 1, 1)) rfl (lv_at hl 2 rfl) ?_
    refine va_iast hx hb hK hP hD hS kc 0 (kse hkc) rfl (vp_in_nI (by omega) (by omega)) (by decide +kernel : decode cX5_fillWith 17 = .ok (.iastore, 1)) (fun H1 locs1 hP1 hD1 hS1 => ?_)
    rw [List.set_set, nI_clamp (by omega), kfl_s] at hP1 hD1
    refine lv_iinc (k := 0) (v := nI (i + 1)) (lv' := [(2, .int (nI (i + 1))), (0, .ref h0), (1, .int v)]) hx hb (by decide +kernel : decode cX5_fillWith 18 = .ok (.iinc 2 1, 3)) hl rfl (nI_succ i).symm (by decide) rfl (fun la1 hl1 => ?_)
    refine lv_goto (tgt := 2) hx hb (by decide +kernel : decode cX5_fillWith 21 = .ok (.goto (-19), 3)) rfl ?_
    exact ih (i + 1) (by omega) H1 locs1 la1 hl1 hP1 hD1 hS1
set_option maxHeartbeats 1000000 in
theorem kc_fill {ws : va_W} {k kc h0 hc n : Nat} {v : Int32} {f : Nat → Int32} (hk : ws[k]? = some (h0, .inr (5, [.ref hc]))) (hkc : ws[kc]? = some (hc, .inl (cs 0, n, .inl f))) (hn : n ≤ 2000) : Met l yX5_fillWith (.code yX5_fillWith cX5_fillWith 3 none :: qgw) (krm 0 0 0) (va_Pc [.ref h0, .int v] (kPre A D cs ws)) (va_Qv (fun _ : Unit => True) (fun _ t => kPost A D (ws.set kc (hc, .inl (cs 0, n, .inl (kfl f n v)))) t) A) 0 0 A := by
  refine Met.ofW (cc := cX5_fillWith) (maxL := 3) (ret := none) (by decide) rfl ?_
  intro p e s m args below meth c s₁ B hml hv
  obtain ⟨rfl, hP, hD, hK, hA, hN⟩ := hv
  have hx := B.exec
  have hb := B.bytes
  have hr := B.returns
  have hts0 := atoms_spec (ws := .code yX5_fillWith cX5_fillWith 3 none :: qgw) B.pre
  have hts : ∀ w ∈ qgw, w.before _ s = true := fun w hw => hts0 w (List.mem_cons_of_mem _ hw)
  have hown : s.vm.findClass RX5 = some m.cls := findClass_of_methodNamed B.named
  have hlocks := B.notSynchronized
  have hS : va_S A s.heap s.heap [] := va_S.rf
  have hl := lv_entry ([.ref h0, .int v]) (n := 3) (Nat.le_of_ble_eq_true rfl)
  rw [lg_entry_eq]
  generalize (lg_sl ([.ref h0, .int v]) ++ List.replicate (3 - (lg_sl ([.ref h0, .int v])).length) Slot.unset).toArray = ls at hl ⊢
  have hl : lv_has ls 3 [(0, .ref h0), (1, .int v)] := hl
  have hl0 : kc < ws.length := (List.getElem?_eq_some_iff.mp hkc).1
  have e0 := kset hkc
  have hP : va_P D vwCl (ws.set kc (hc, .inl (cs 0, n, .inl (kfl f 0 v)))) s.heap := by rw [kfl_0, e0]; exact hP
  have hD : va_D A (ws.set kc (hc, .inl (cs 0, n, .inl (kfl f 0 v)))) := by rw [kfl_0, e0]; exact hD
  refine lv_iconst (v := nI 0) hx hb (by decide +kernel : decode cX5_fillWith 0 = .ok (.iconst 0, 1)) (by decide) ?_
  refine lv_istore_n (k := 2) (i := 2) (lv' := [(2, .int (nI 0)), (0, .ref h0), (1, .int v)]) hx hb (by decide +kernel : decode cX5_fillWith 1 = .ok (.istore_n 2, 1)) rfl hl (by decide) rfl (fun la1 hl1 => ?_)
  exact kf_loop (l := l) (A := A) (D := D) (cs := cs) hx hb hts hown hK hn hk hl0 (kne hkc hk) (fun H locs la hP hD hS => W.vret hx hb hr (fun t ht hW => ⟨⟨(), rfl, trivial, by rw [ht]; exact hP, hD⟩, hS.F ht⟩) hS.2.2 (by decide +kernel : decode cX5_fillWith 24 = .ok (.return_, 1)) hlocks) n 0 (by omega) _ _ la1 hl1 hP hD hS
set_option maxHeartbeats 1000000 in
theorem kc_put {ws : va_W} {k kc h0 hc n i : Nat} {v : Int32} {f : Nat → Int32} (hk : ws[k]? = some (h0, .inr (5, [.ref hc]))) (hkc : ws[kc]? = some (hc, .inl (cs 0, n, .inl f))) (hn : n ≤ 2000) (hi : i < n) : Met l yX5_put (.code yX5_put cX5_put 3 none :: qgw) (krm 0 0 0) (va_Pc [.ref h0, .int (nI i), .int v] (kPre A D cs ws)) (va_Qv (fun _ : Unit => True) (fun _ t => kPost A D (ws.set kc (hc, .inl (cs 0, n, .inl (upd f i v)))) t) A) 0 0 A := by
  refine Met.ofW (cc := cX5_put) (maxL := 3) (ret := none) (by decide) rfl ?_
  intro p e s m args below meth c s₁ B hml hv
  obtain ⟨rfl, hP, hD, hK, hA, hN⟩ := hv
  have hx := B.exec
  have hb := B.bytes
  have hr := B.returns
  have hts0 := atoms_spec (ws := .code yX5_put cX5_put 3 none :: qgw) B.pre
  have hts : ∀ w ∈ qgw, w.before _ s = true := fun w hw => hts0 w (List.mem_cons_of_mem _ hw)
  have hown : s.vm.findClass RX5 = some m.cls := findClass_of_methodNamed B.named
  have hlocks := B.notSynchronized
  have hS : va_S A s.heap s.heap [] := va_S.rf
  have hl := lv_entry ([.ref h0, .int (nI i), .int v]) (n := 3) (Nat.le_of_ble_eq_true rfl)
  rw [lg_entry_eq]
  generalize (lg_sl ([.ref h0, .int (nI i), .int v]) ++ List.replicate (3 - (lg_sl ([.ref h0, .int (nI i), .int v])).length) Slot.unset).toArray = ls at hl ⊢
  have hl : lv_has ls 3 [(0, .ref h0), (1, .int (nI i)), (2, .int v)] := hl
  refine lv_iload_n (k := 1) hx hb (by decide +kernel : decode cX5_put 0 = .ok (.iload_n 1, 1)) rfl (lv_at hl 1 rfl) ?_
  refine lv_if_lt (tgt := 20) hx hb (by decide +kernel : decode cX5_put 1 = .ok (.ifCond .lt 19, 3)) rfl (fun h1 => (nI_pos (by omega : i < 2147483648) h1).elim) (fun _ => ?_)
  refine lv_iload_n (k := 1) hx hb (by decide +kernel : decode cX5_put 4 = .ok (.iload_n 1, 1)) rfl (lv_at hl 1 rfl) ?_
  refine lv_aload_n (k := 0) hx hb (by decide +kernel : decode cX5_put 5 = .ok (.aload_n 0, 1)) rfl (lv_at hl 0 rfl) ?_
  refine va_get (D := D) (ci := 5) (v := .ref hc) (C := RX5) (T := TX5) (N := 1) hx hb hts qin5 hown hK hP k hk rfl 0 (by decide) (hts _ (kw5f _ List.mem_cons_self)) (fun _ h9 => h9) rfl (by decide +kernel : decode cX5_put 6 = .ok (.getfield 9, 3)) ?_
  refine va_alen (v := nI n) hx hb hK hP kc 0 hkc rfl rfl (by decide +kernel : decode cX5_put 9 = .ok (.arraylength, 1)) ?_
  refine lv_icmp_ge (tgt := 20) hx hb (by decide +kernel : decode cX5_put 10 = .ok (.if_icmp .ge 10, 3)) rfl (fun h1 => (nI_ge hi (by omega) h1).elim) (fun _ => ?_)
  refine lv_aload_n (k := 0) hx hb (by decide +kernel : decode cX5_put 13 = .ok (.aload_n 0, 1)) rfl (lv_at hl 0 rfl) ?_
  refine va_get (D := D) (ci := 5) (v := .ref hc) (C := RX5) (T := TX5) (N := 1) hx hb hts qin5 hown hK hP k hk rfl 0 (by decide) (hts _ (kw5f _ List.mem_cons_self)) (fun _ h9 => h9) rfl (by decide +kernel : decode cX5_put 14 = .ok (.getfield 9, 3)) ?_
  refine lv_iload_n (k := 1) hx hb (by decide +kernel : decode cX5_put 17 = .ok (.iload_n 1, 1)) rfl (lv_at hl 1 rfl) ?_
  refine lv_iload_n (k := 2) hx hb (by decide +kernel : decode cX5_put 18 = .ok (.iload_n 2, 1)) rfl (lv_at hl 2 rfl) ?_
  refine va_iast hx hb hK hP hD hS kc 0 hkc rfl (vp_in_nI hi (by omega)) (by decide +kernel : decode cX5_put 19 = .ok (.iastore, 1)) (fun H1 locs1 hP1 hD1 hS1 => ?_)
  rw [nI_clamp (by omega)] at hP1 hD1
  exact W.vret hx hb hr (fun t ht hW => ⟨⟨(), rfl, trivial, by rw [ht]; exact hP1, hD1⟩, hS1.F ht⟩) hS1.2.2 (by decide +kernel : decode cX5_put 20 = .ok (.return_, 1)) hlocks
def kL0 (cs : Nat → ClassId) (v : Nat → Nat) : va_W := [(v 0, .inr (2, [.ref (v 1), .ref (v 20), .ref (v 25), .ref (v 38), .ref (v 43), .ref (v 48), .ref (v 53), .ref (v 55), .ref (v 57), .ref (v 59), .int 0, .int 0, .int 0, .int 0])), (v 1, .inr (4, [.ref (v 2), .ref (v 4), .ref (v 6), .ref (v 8), .ref (v 10), .ref (v 12), .ref (v 14), .ref (v 16), .ref (v 18), .int 0, .int 0])), (v 2, .inr (5, [.ref (v 3)])), (v 3, .inl (cs 0, 400, .inl (fun _ => 0))), (v 4, .inr (5, [.ref (v 5)])), (v 5, .inl (cs 0, 400, .inl (fun _ => 0))), (v 6, .inr (5, [.ref (v 7)])), (v 7, .inl (cs 0, 400, .inl (fun _ => 0))), (v 8, .inr (5, [.ref (v 9)])), (v 9, .inl (cs 0, 400, .inl (fun _ => 0))), (v 10, .inr (5, [.ref (v 11)])), (v 11, .inl (cs 0, 400, .inl (fun _ => 0))), (v 12, .inr (5, [.ref (v 13)])), (v 13, .inl (cs 0, 400, .inl (fun _ => 0))), (v 14, .inr (5, [.ref (v 15)])), (v 15, .inl (cs 0, 400, .inl (fun _ => 0))), (v 16, .inr (5, [.ref (v 17)])), (v 17, .inl (cs 0, 400, .inl (fun _ => 0))), (v 18, .inr (5, [.ref (v 19)])), (v 19, .inl (cs 0, 400, .inl (fun _ => 0))), (v 20, .inr (7, [.ref (v 21), .ref (v 23), .int 0, .int 0, .int 0, .int 0, .int 0])), (v 21, .inr (5, [.ref (v 22)])), (v 22, .inl (cs 0, 401, .inl (fun _ => 0))), (v 23, .inr (5, [.ref (v 24)])), (v 24, .inl (cs 0, 401, .inl (fun _ => 0))), (v 25, .inr (0, [.ref (v 26), .ref (v 28), .ref (v 30), .ref (v 32), .ref (v 34), .ref (v 36), .int 0])), (v 26, .inr (5, [.ref (v 27)])), (v 27, .inl (cs 0, 1600, .inl (fun _ => 0))), (v 28, .inr (5, [.ref (v 29)])), (v 29, .inl (cs 0, 4, .inl (fun _ => 0))), (v 30, .inr (5, [.ref (v 31)])), (v 31, .inl (cs 0, 6, .inl (fun _ => 0))), (v 32, .inr (5, [.ref (v 33)])), (v 33, .inl (cs 0, 6, .inl (fun _ => 0))), (v 34, .inr (5, [.ref (v 35)])), (v 35, .inl (cs 0, 6, .inl (fun _ => 0))), (v 36, .inr (5, [.ref (v 37)])), (v 37, .inl (cs 0, 6, .inl (fun _ => 0))), (v 38, .inr (1, [.ref (v 39), .ref (v 41)])), (v 39, .inr (5, [.ref (v 40)])), (v 40, .inl (cs 0, 8, .inl (fun _ => 0))), (v 41, .inr (5, [.ref (v 42)])), (v 42, .inl (cs 0, 32, .inl (fun _ => 0))), (v 43, .inr (1, [.ref (v 44), .ref (v 46)])), (v 44, .inr (5, [.ref (v 45)])), (v 45, .inl (cs 0, 8, .inl (fun _ => 0))), (v 46, .inr (5, [.ref (v 47)])), (v 47, .inl (cs 0, 32, .inl (fun _ => 0))), (v 48, .inr (1, [.ref (v 49), .ref (v 51)])), (v 49, .inr (5, [.ref (v 50)])), (v 50, .inl (cs 0, 8, .inl (fun _ => 0))), (v 51, .inr (5, [.ref (v 52)])), (v 52, .inl (cs 0, 32, .inl (fun _ => 0))), (v 53, .inr (5, [.ref (v 54)])), (v 54, .inl (cs 0, 4, .inl (fun _ => 0))), (v 55, .inr (5, [.ref (v 56)])), (v 56, .inl (cs 0, 4, .inl (fun _ => 0))), (v 57, .inr (5, [.ref (v 58)])), (v 58, .inl (cs 0, 400, .inl (fun _ => 0))), (v 59, .inr (5, [.ref (v 60)])), (v 60, .inl (cs 0, 50, .inl (fun _ => 0))), (v 61, .inr (6, [.ref (v 62), .int 0, .int 0, .int (-1)])), (v 62, .inr (3, [.ref (v 63), .ref (v 70), .ref (v 72), .ref (v 74), .ref (v 76), .ref (v 78), .ref (v 80), .ref (v 82), .int 0, .int 0, .int 0, .int (-1)])), (v 63, .inr (8, [.ref (v 64), .ref (v 66), .ref (v 68), .int 0])), (v 64, .inr (5, [.ref (v 65)])), (v 65, .inl (cs 0, 901, .inl (fun _ => 0))), (v 66, .inr (5, [.ref (v 67)])), (v 67, .inl (cs 0, 901, .inl (fun _ => 0))), (v 68, .inr (5, [.ref (v 69)])), (v 69, .inl (cs 0, 901, .inl (fun _ => 0))), (v 70, .inr (5, [.ref (v 71)])), (v 71, .inl (cs 0, 60, .inl (fun _ => 0))), (v 72, .inr (5, [.ref (v 73)])), (v 73, .inl (cs 0, 60, .inl (fun _ => 0))), (v 74, .inr (5, [.ref (v 75)])), (v 75, .inl (cs 0, 60, .inl (fun _ => 0))), (v 76, .inr (5, [.ref (v 77)])), (v 77, .inl (cs 0, 60, .inl (fun _ => 0))), (v 78, .inr (5, [.ref (v 79)])), (v 79, .inl (cs 0, 60, .inl (fun _ => 0))), (v 80, .inr (5, [.ref (v 81)])), (v 81, .inl (cs 0, 60, .inl (fun _ => 0))), (v 82, .inr (5, [.ref (v 83)])), (v 83, .inl (cs 0, 60, .inl (fun _ => 0))), (v 84, .inl (cs 1, 900, .inl (fun _ => 0)))]
def kL1 (cs : Nat → ClassId) (v : Nat → Nat) : va_W := (kL0 cs v).set 1 (v 1, .inr (4, [.ref (v 2), .ref (v 4), .ref (v 6), .ref (v 8), .ref (v 10), .ref (v 12), .ref (v 14), .ref (v 16), .ref (v 18), .int 0, .int 0]))
def kL2 (cs : Nat → ClassId) (v : Nat → Nat) : va_W := (kL1 cs v).set 1 (v 1, .inr (4, [.ref (v 2), .ref (v 4), .ref (v 6), .ref (v 8), .ref (v 10), .ref (v 12), .ref (v 14), .ref (v 16), .ref (v 18), .int 0, .int 0]))
theorem kc_4_clear_1_w : ∀ w ∈ ([.fieldLink RX4 44 RX4 "next" "I", .fieldLink RX4 48 RX4 "durable" "I"] : List Jvm.Cond), w ∈ qgw := qgw_of [195, 200] (by decide +kernel) (by decide +kernel)
set_option maxRecDepth 100000 in
set_option maxHeartbeats 4000000 in
theorem kc_4_clear_1 {ws : va_W} {v : Nat → Nat} : Met l yX4_clear (.code yX4_clear cX4_clear 1 none :: qgw) (krm 0 0 0) (va_Pc [.ref (v 1)] (kPre A D cs (ws ++ kL0 cs v))) (va_Qv (fun _ : Unit => True) (fun _ t => kPost A D (ws ++ kL2 cs v) t) A) 0 0 A := by
  refine Met.ofW (cc := cX4_clear) (maxL := 1) (ret := none) (by decide) rfl ?_
  intro p e s m args below meth c s₁ B hml hv
  obtain ⟨rfl, hP, hD, hK, hA, hN⟩ := hv
  have hx := B.exec
  have hb := B.bytes
  have hr := B.returns
  have hts0 := atoms_spec (ws := .code yX4_clear cX4_clear 1 none :: qgw) B.pre
  have hts : ∀ w ∈ qgw, w.before _ s = true := fun w hw => hts0 w (List.mem_cons_of_mem _ hw)
  have hown : s.vm.findClass RX4 = some m.cls := findClass_of_methodNamed B.named
  have hlocks := B.notSynchronized
  have hS : va_S A s.heap s.heap [] := va_S.rf
  have hl := lv_entry ([.ref (v 1)]) (n := 1) (Nat.le_of_ble_eq_true rfl)
  rw [lg_entry_eq]
  generalize (lg_sl ([.ref (v 1)]) ++ List.replicate (1 - (lg_sl ([.ref (v 1)])).length) Slot.unset).toArray = ls at hl ⊢
  have hl : lv_has ls 1 [(0, .ref (v 1))] := hl
  refine lv_aload_n (k := 0) hx hb (by decide +kernel : decode cX4_clear 0 = .ok (.aload_n 0, 1)) rfl (lv_at hl 0 rfl) ?_
  refine lv_iconst (v := 0) hx hb (by decide +kernel : decode cX4_clear 1 = .ok (.iconst 0, 1)) (by decide) ?_
  refine va_put (D := D) (ci := 4) (v := .int 0) (ty := .int) (C := RX4) (T := TX4) (N := 11) hx hb hts qin4 tyX4 tyX4_ok nmX4 hown hK hP hD hS (ws.length + 1) (by rw [katA]; rfl) rfl 9 (by decide) (hts _ (kc_4_clear_1_w _ (List.mem_of_getElem? (i := 0) rfl))) (fun _ h9 => h9) rfl (by decide +kernel) rfl rfl (Nat.le_of_ble_eq_true rfl) (by decide +kernel : decode cX4_clear 2 = .ok (.putfield 44, 3)) (fun H2 locs2 hP hD hS => ?_)
  rw [ksetA] at hP hD
  have hP : va_P D vwCl (ws ++ kL1 cs v) H2 := hP
  have hD : va_D A (ws ++ kL1 cs v) := hD
  refine lv_aload_n (k := 0) hx hb (by decide +kernel : decode cX4_clear 5 = .ok (.aload_n 0, 1)) rfl (lv_at hl 0 rfl) ?_
  refine lv_iconst (v := 0) hx hb (by decide +kernel : decode cX4_clear 6 = .ok (.iconst 0, 1)) (by decide) ?_
  refine va_put (D := D) (ci := 4) (v := .int 0) (ty := .int) (C := RX4) (T := TX4) (N := 11) hx hb hts qin4 tyX4 tyX4_ok nmX4 hown hK hP hD hS (ws.length + 1) (by rw [katA]; rfl) rfl 10 (by decide) (hts _ (kc_4_clear_1_w _ (List.mem_of_getElem? (i := 1) rfl))) (fun _ h9 => h9) rfl (by decide +kernel) rfl rfl (Nat.le_of_ble_eq_true rfl) (by decide +kernel : decode cX4_clear 7 = .ok (.putfield 48, 3)) (fun H7 locs7 hP hD hS => ?_)
  rw [ksetA] at hP hD
  have hP : va_P D vwCl (ws ++ kL2 cs v) H7 := hP
  have hD : va_D A (ws ++ kL2 cs v) := hD
  exact W.vret hx hb hr (fun t ht hW => ⟨⟨(), rfl, trivial, by rw [ht]; exact hP, hD⟩, hS.F ht⟩) hS.2.2 (by decide +kernel : decode cX4_clear 10 = .ok (.return_, 1)) hlocks
def kL3 (cs : Nat → ClassId) (v : Nat → Nat) : va_W := (kL2 cs v).set 20 (v 20, .inr (7, [.ref (v 21), .ref (v 23), .int 0, .int 0, .int 0, .int 0, .int 0]))
def kL4 (cs : Nat → ClassId) (v : Nat → Nat) : va_W := (kL3 cs v).set 20 (v 20, .inr (7, [.ref (v 21), .ref (v 23), .int 0, .int 0, .int 0, .int 0, .int 0]))
def kL5 (cs : Nat → ClassId) (v : Nat → Nat) : va_W := (kL4 cs v).set 20 (v 20, .inr (7, [.ref (v 21), .ref (v 23), .int 0, .int 0, .int 100, .int 0, .int 0]))
def kL6 (cs : Nat → ClassId) (v : Nat → Nat) : va_W := (kL5 cs v).set 20 (v 20, .inr (7, [.ref (v 21), .ref (v 23), .int 0, .int 0, .int 100, .int 0, .int 0]))
def kL7 (cs : Nat → ClassId) (v : Nat → Nat) : va_W := (kL6 cs v).set 20 (v 20, .inr (7, [.ref (v 21), .ref (v 23), .int 0, .int 0, .int 100, .int 0, .int 0]))
def kL8 (cs : Nat → ClassId) (v : Nat → Nat) : va_W := (kL7 cs v).set 22 (v 22, .inl (cs 0, 401, .inl (upd (fun _ => 0) 0 0)))
def kL9 (cs : Nat → ClassId) (v : Nat → Nat) : va_W := (kL8 cs v).set 24 (v 24, .inl (cs 0, 401, .inl (upd (fun _ => 0) 0 0)))
theorem kc_7_clear_20_w : ∀ w ∈ ([.fieldLink RX7 23 RX7 "head" "I", .fieldLink RX7 27 RX7 "tail" "I", .fieldLink RX7 30 RX7 "capacity" "I", .fieldLink RX7 33 RX7 "total" "I", .fieldLink RX7 36 RX7 "trimmed" "I", .fieldLink RX7 14 RX7 "first" "LSharedLog$Row;", .methodLink RX7 39 yX5_put, .instanceMethod yX5_put, .selects RX5 yX5_put yX5_put, .code yX5_put cX5_put 3 none, .initialized RX5, .fieldLink RX7 20 RX7 "bytes" "LSharedLog$Row;"] : List Jvm.Cond), w ∈ qgw := qgw_of [238, 240, 241, 242, 245, 235, 482, 483, 484, 485, 122, 237] (by decide +kernel) (by decide +kernel)
set_option maxRecDepth 100000 in
set_option maxHeartbeats 4000000 in
theorem kc_7_clear_20 {ws : va_W} {v : Nat → Nat} : Met l yX7_clear (.code yX7_clear cX7_clear 2 none :: qgw) (krm 0 0 1) (va_Pc [.ref (v 20), .int 100] (kPre A D cs (ws ++ kL2 cs v))) (va_Qv (fun _ : Unit => True) (fun _ t => kPost A D (ws ++ kL9 cs v) t) A) 0 0 A := by
  refine Met.ofW (cc := cX7_clear) (maxL := 2) (ret := none) (by decide) rfl ?_
  intro p e s m args below meth c s₁ B hml hv
  obtain ⟨rfl, hP, hD, hK, hA, hN⟩ := hv
  have hx := B.exec
  have hb := B.bytes
  have hr := B.returns
  have hts0 := atoms_spec (ws := .code yX7_clear cX7_clear 2 none :: qgw) B.pre
  have hts : ∀ w ∈ qgw, w.before _ s = true := fun w hw => hts0 w (List.mem_cons_of_mem _ hw)
  have hown : s.vm.findClass RX7 = some m.cls := findClass_of_methodNamed B.named
  have hlocks := B.notSynchronized
  have hS : va_S A s.heap s.heap [] := va_S.rf
  have hl := lv_entry ([.ref (v 20), .int 100]) (n := 2) (Nat.le_of_ble_eq_true rfl)
  rw [lg_entry_eq]
  generalize (lg_sl ([.ref (v 20), .int 100]) ++ List.replicate (2 - (lg_sl ([.ref (v 20), .int 100])).length) Slot.unset).toArray = ls at hl ⊢
  have hl : lv_has ls 2 [(0, .ref (v 20)), (1, .int 100)] := hl
  refine lv_aload_n (k := 0) hx hb (by decide +kernel : decode cX7_clear 0 = .ok (.aload_n 0, 1)) rfl (lv_at hl 0 rfl) ?_
  refine lv_iconst (v := 0) hx hb (by decide +kernel : decode cX7_clear 1 = .ok (.iconst 0, 1)) (by decide) ?_
  refine va_put (D := D) (ci := 7) (v := .int 0) (ty := .int) (C := RX7) (T := TX7) (N := 7) hx hb hts qin7 tyX7 tyX7_ok nmX7 hown hK hP hD hS (ws.length + 20) (by rw [katA]; rfl) rfl 2 (by decide) (hts _ (kc_7_clear_20_w _ (List.mem_of_getElem? (i := 0) rfl))) (fun _ h9 => h9) rfl (by decide +kernel) rfl rfl (Nat.le_of_ble_eq_true rfl) (by decide +kernel : decode cX7_clear 2 = .ok (.putfield 23, 3)) (fun H2 locs2 hP hD hS => ?_)
  rw [ksetA] at hP hD
  have hP : va_P D vwCl (ws ++ kL3 cs v) H2 := hP
  have hD : va_D A (ws ++ kL3 cs v) := hD
  refine lv_aload_n (k := 0) hx hb (by decide +kernel : decode cX7_clear 5 = .ok (.aload_n 0, 1)) rfl (lv_at hl 0 rfl) ?_
  refine lv_iconst (v := 0) hx hb (by decide +kernel : decode cX7_clear 6 = .ok (.iconst 0, 1)) (by decide) ?_
  refine va_put (D := D) (ci := 7) (v := .int 0) (ty := .int) (C := RX7) (T := TX7) (N := 7) hx hb hts qin7 tyX7 tyX7_ok nmX7 hown hK hP hD hS (ws.length + 20) (by rw [katA]; rfl) rfl 3 (by decide) (hts _ (kc_7_clear_20_w _ (List.mem_of_getElem? (i := 1) rfl))) (fun _ h9 => h9) rfl (by decide +kernel) rfl rfl (Nat.le_of_ble_eq_true rfl) (by decide +kernel : decode cX7_clear 7 = .ok (.putfield 27, 3)) (fun H7 locs7 hP hD hS => ?_)
  rw [ksetA] at hP hD
  have hP : va_P D vwCl (ws ++ kL4 cs v) H7 := hP
  have hD : va_D A (ws ++ kL4 cs v) := hD
  refine lv_aload_n (k := 0) hx hb (by decide +kernel : decode cX7_clear 10 = .ok (.aload_n 0, 1)) rfl (lv_at hl 0 rfl) ?_
  refine lv_iload_n (k := 1) hx hb (by decide +kernel : decode cX7_clear 11 = .ok (.iload_n 1, 1)) rfl (lv_at hl 1 rfl) ?_
  refine va_put (D := D) (ci := 7) (v := .int 100) (ty := .int) (C := RX7) (T := TX7) (N := 7) hx hb hts qin7 tyX7 tyX7_ok nmX7 hown hK hP hD hS (ws.length + 20) (by rw [katA]; rfl) rfl 4 (by decide) (hts _ (kc_7_clear_20_w _ (List.mem_of_getElem? (i := 2) rfl))) (fun _ h9 => h9) rfl (by decide +kernel) rfl rfl (Nat.le_of_ble_eq_true rfl) (by decide +kernel : decode cX7_clear 12 = .ok (.putfield 30, 3)) (fun H12 locs12 hP hD hS => ?_)
  rw [ksetA] at hP hD
  have hP : va_P D vwCl (ws ++ kL5 cs v) H12 := hP
  have hD : va_D A (ws ++ kL5 cs v) := hD
  refine lv_aload_n (k := 0) hx hb (by decide +kernel : decode cX7_clear 15 = .ok (.aload_n 0, 1)) rfl (lv_at hl 0 rfl) ?_
  refine lv_iconst (v := 0) hx hb (by decide +kernel : decode cX7_clear 16 = .ok (.iconst 0, 1)) (by decide) ?_
  refine va_put (D := D) (ci := 7) (v := .int 0) (ty := .int) (C := RX7) (T := TX7) (N := 7) hx hb hts qin7 tyX7 tyX7_ok nmX7 hown hK hP hD hS (ws.length + 20) (by rw [katA]; rfl) rfl 5 (by decide) (hts _ (kc_7_clear_20_w _ (List.mem_of_getElem? (i := 3) rfl))) (fun _ h9 => h9) rfl (by decide +kernel) rfl rfl (Nat.le_of_ble_eq_true rfl) (by decide +kernel : decode cX7_clear 17 = .ok (.putfield 33, 3)) (fun H17 locs17 hP hD hS => ?_)
  rw [ksetA] at hP hD
  have hP : va_P D vwCl (ws ++ kL6 cs v) H17 := hP
  have hD : va_D A (ws ++ kL6 cs v) := hD
  refine lv_aload_n (k := 0) hx hb (by decide +kernel : decode cX7_clear 20 = .ok (.aload_n 0, 1)) rfl (lv_at hl 0 rfl) ?_
  refine lv_iconst (v := 0) hx hb (by decide +kernel : decode cX7_clear 21 = .ok (.iconst 0, 1)) (by decide) ?_
  refine va_put (D := D) (ci := 7) (v := .int 0) (ty := .int) (C := RX7) (T := TX7) (N := 7) hx hb hts qin7 tyX7 tyX7_ok nmX7 hown hK hP hD hS (ws.length + 20) (by rw [katA]; rfl) rfl 6 (by decide) (hts _ (kc_7_clear_20_w _ (List.mem_of_getElem? (i := 4) rfl))) (fun _ h9 => h9) rfl (by decide +kernel) rfl rfl (Nat.le_of_ble_eq_true rfl) (by decide +kernel : decode cX7_clear 22 = .ok (.putfield 36, 3)) (fun H22 locs22 hP hD hS => ?_)
  rw [ksetA] at hP hD
  have hP : va_P D vwCl (ws ++ kL7 cs v) H22 := hP
  have hD : va_D A (ws ++ kL7 cs v) := hD
  refine lv_aload_n (k := 0) hx hb (by decide +kernel : decode cX7_clear 25 = .ok (.aload_n 0, 1)) rfl (lv_at hl 0 rfl) ?_
  refine va_get (D := D) (ci := 7) (v := .ref (v 21)) (C := RX7) (T := TX7) (N := 7) hx hb hts qin7 hown hK hP (ws.length + 20) (by rw [katA]; rfl) rfl 0 (by decide) (hts _ (kc_7_clear_20_w _ (List.mem_of_getElem? (i := 5) rfl))) (fun _ h9 => h9) rfl (by decide +kernel : decode cX7_clear 26 = .ok (.getfield 14, 3)) ?_
  refine lv_iconst (v := 0) hx hb (by decide +kernel : decode cX7_clear 29 = .ok (.iconst 0, 1)) (by decide) ?_
  refine lv_iconst (v := 0) hx hb (by decide +kernel : decode cX7_clear 30 = .ok (.iconst 0, 1)) (by decide) ?_
  refine va_callv (va_runV (C := RX5) (b := v 21) (As := [.int (nI 0), .int 0]) (rest := []) ⟨hx, hb, hml, hown, hts⟩ (kc_put (l := l) (A := A) (D := D) (cs := cs) (ws := ws ++ kL7 cs v) (k := ws.length + 21) (kc := ws.length + 22) (h0 := v 21) (hc := v 22) (n := 401) (i := 0) (v := 0) (f := (fun _ => 0)) (by rw [katA]; rfl) (by rw [katA]; rfl) (by decide) (by decide)) ⟨⟨rfl, rfl, Nat.le_of_ble_eq_true rfl, Nat.le_of_ble_eq_true rfl, kws hts (kc_7_clear_20_w _ (List.mem_of_getElem? (i := 9) rfl)), List.mem_cons_self, (hts _ (kc_7_clear_20_w _ (List.mem_of_getElem? (i := 9) rfl))), (hts _ (kc_7_clear_20_w _ (List.mem_of_getElem? (i := 10) rfl))), by decide, klen (by decide +kernel), (hts _ (kc_7_clear_20_w _ (List.mem_of_getElem? (i := 6) rfl)))⟩, (hts _ (kc_7_clear_20_w _ (List.mem_of_getElem? (i := 7) rfl))), (hts _ (kc_7_clear_20_w _ (List.mem_of_getElem? (i := 8) rfl)))⟩ ⟨kblind, va_recv (ci := 5) (q := (RX5, TX5, 1)) hK hP rfl (q0 := ws.length + 21) (by rw [katA]; rfl), fun U hU hW => ⟨rfl, by rw [hU]; exact hP, hD, va_K.moved hW.alike hK, fun q9 h9 => hA q9 (by rw [hU] at h9; exact Nat.le_trans hS.1 h9), knest hN hW⟩⟩ rfl rfl hl.1 rfl (lv_room (Nat.le_of_ble_eq_true rfl)) (by decide +kernel : decode cX7_clear 31 = .ok (.invokevirtual 39, 3)) ⟨Nat.le_of_ble_eq_true rfl, Nat.le_of_ble_eq_true rfl⟩) hS (fun q9 _ h9 => h9) (fun q9 h9 => h9) (fun u31 t H31 locs31 ht hvm _ hB hz1 hk1 hS => ?_)
  obtain ⟨hP, hD⟩ := hB
  rw [ht] at hP
  rw [ksetA] at hP hD
  have hP : va_P D vwCl (ws ++ kL8 cs v) H31 := hP
  have hD : va_D A (ws ++ kL8 cs v) := hD
  refine lv_aload_n (k := 0) hx hb (by decide +kernel : decode cX7_clear 34 = .ok (.aload_n 0, 1)) rfl (lv_at hl 0 rfl) ?_
  refine va_get (D := D) (ci := 7) (v := .ref (v 23)) (C := RX7) (T := TX7) (N := 7) hx hb hts qin7 hown hK hP (ws.length + 20) (by rw [katA]; rfl) rfl 1 (by decide) (hts _ (kc_7_clear_20_w _ (List.mem_of_getElem? (i := 11) rfl))) (fun _ h9 => h9) rfl (by decide +kernel : decode cX7_clear 35 = .ok (.getfield 20, 3)) ?_
  refine lv_iconst (v := 0) hx hb (by decide +kernel : decode cX7_clear 38 = .ok (.iconst 0, 1)) (by decide) ?_
  refine lv_iconst (v := 0) hx hb (by decide +kernel : decode cX7_clear 39 = .ok (.iconst 0, 1)) (by decide) ?_
  refine va_callv (va_runV (C := RX5) (b := v 23) (As := [.int (nI 0), .int 0]) (rest := []) ⟨hx, hb, hml, hown, hts⟩ (kc_put (l := l) (A := A) (D := D) (cs := cs) (ws := ws ++ kL8 cs v) (k := ws.length + 23) (kc := ws.length + 24) (h0 := v 23) (hc := v 24) (n := 401) (i := 0) (v := 0) (f := (fun _ => 0)) (by rw [katA]; rfl) (by rw [katA]; rfl) (by decide) (by decide)) ⟨⟨rfl, rfl, Nat.le_of_ble_eq_true rfl, Nat.le_of_ble_eq_true rfl, kws hts (kc_7_clear_20_w _ (List.mem_of_getElem? (i := 9) rfl)), List.mem_cons_self, (hts _ (kc_7_clear_20_w _ (List.mem_of_getElem? (i := 9) rfl))), (hts _ (kc_7_clear_20_w _ (List.mem_of_getElem? (i := 10) rfl))), by decide, klen (by decide +kernel), (hts _ (kc_7_clear_20_w _ (List.mem_of_getElem? (i := 6) rfl)))⟩, (hts _ (kc_7_clear_20_w _ (List.mem_of_getElem? (i := 7) rfl))), (hts _ (kc_7_clear_20_w _ (List.mem_of_getElem? (i := 8) rfl)))⟩ ⟨kblind, va_recv (ci := 5) (q := (RX5, TX5, 1)) hK hP rfl (q0 := ws.length + 23) (by rw [katA]; rfl), fun U hU hW => ⟨rfl, by rw [hU]; exact hP, hD, va_K.moved hW.alike hK, fun q9 h9 => hA q9 (by rw [hU] at h9; exact Nat.le_trans hS.1 h9), knest hN hW⟩⟩ rfl rfl hl.1 rfl (lv_room (Nat.le_of_ble_eq_true rfl)) (by decide +kernel : decode cX7_clear 40 = .ok (.invokevirtual 39, 3)) ⟨Nat.le_of_ble_eq_true rfl, Nat.le_of_ble_eq_true rfl⟩) hS (fun q9 _ h9 => h9) (fun q9 h9 => h9) (fun u40 t H40 locs40 ht hvm _ hB hz1 hk1 hS => ?_)
  obtain ⟨hP, hD⟩ := hB
  rw [ht] at hP
  rw [ksetA] at hP hD
  have hP : va_P D vwCl (ws ++ kL9 cs v) H40 := hP
  have hD : va_D A (ws ++ kL9 cs v) := hD
  exact W.vret hx hb hr (fun t ht hW => ⟨⟨(), rfl, trivial, by rw [ht]; exact hP, hD⟩, hS.F ht⟩) hS.2.2 (by decide +kernel : decode cX7_clear 43 = .ok (.return_, 1)) hlocks
def kL10 (cs : Nat → ClassId) (v : Nat → Nat) : va_W := (kL9 cs v).set 29 (v 29, .inl (cs 0, 4, .inl (kfl (fun _ => 0) 4 0)))
def kL11 (cs : Nat → ClassId) (v : Nat → Nat) : va_W := (kL10 cs v).set 37 (v 37, .inl (cs 0, 6, .inl (kfl (fun _ => 0) 6 (-1))))
def kL12 (cs : Nat → ClassId) (v : Nat → Nat) : va_W := (kL11 cs v).set 25 (v 25, .inr (0, [.ref (v 26), .ref (v 28), .ref (v 30), .ref (v 32), .ref (v 34), .ref (v 36), .int 0]))
theorem kc_0_clear_25_w : ∀ w ∈ ([.fieldLink RX0 20 RX0 "shownCount" "LSharedLog$Row;", .methodLink RX0 35 yX5_fillWith, .instanceMethod yX5_fillWith, .selects RX5 yX5_fillWith yX5_fillWith, .code yX5_fillWith cX5_fillWith 3 none, .initialized RX5, .fieldLink RX0 32 RX0 "kept" "LSharedLog$Row;", .fieldLink RX0 38 RX0 "consumers" "I"] : List Jvm.Cond), w ∈ qgw := qgw_of [271, 490, 491, 492, 493, 122, 277, 279] (by decide +kernel) (by decide +kernel)
set_option maxRecDepth 100000 in
set_option maxHeartbeats 4000000 in
theorem kc_0_clear_25 {ws : va_W} {v : Nat → Nat} : Met l yX0_clear (.code yX0_clear cX0_clear 1 none :: qgw) (krm 0 0 1) (va_Pc [.ref (v 25)] (kPre A D cs (ws ++ kL9 cs v))) (va_Qv (fun _ : Unit => True) (fun _ t => kPost A D (ws ++ kL12 cs v) t) A) 0 0 A := by
  refine Met.ofW (cc := cX0_clear) (maxL := 1) (ret := none) (by decide) rfl ?_
  intro p e s m args below meth c s₁ B hml hv
  obtain ⟨rfl, hP, hD, hK, hA, hN⟩ := hv
  have hx := B.exec
  have hb := B.bytes
  have hr := B.returns
  have hts0 := atoms_spec (ws := .code yX0_clear cX0_clear 1 none :: qgw) B.pre
  have hts : ∀ w ∈ qgw, w.before _ s = true := fun w hw => hts0 w (List.mem_cons_of_mem _ hw)
  have hown : s.vm.findClass RX0 = some m.cls := findClass_of_methodNamed B.named
  have hlocks := B.notSynchronized
  have hS : va_S A s.heap s.heap [] := va_S.rf
  have hl := lv_entry ([.ref (v 25)]) (n := 1) (Nat.le_of_ble_eq_true rfl)
  rw [lg_entry_eq]
  generalize (lg_sl ([.ref (v 25)]) ++ List.replicate (1 - (lg_sl ([.ref (v 25)])).length) Slot.unset).toArray = ls at hl ⊢
  have hl : lv_has ls 1 [(0, .ref (v 25))] := hl
  refine lv_aload_n (k := 0) hx hb (by decide +kernel : decode cX0_clear 0 = .ok (.aload_n 0, 1)) rfl (lv_at hl 0 rfl) ?_
  refine va_get (D := D) (ci := 0) (v := .ref (v 28)) (C := RX0) (T := TX0) (N := 7) hx hb hts qin0 hown hK hP (ws.length + 25) (by rw [katA]; rfl) rfl 1 (by decide) (hts _ (kc_0_clear_25_w _ (List.mem_of_getElem? (i := 0) rfl))) (fun _ h9 => h9) rfl (by decide +kernel : decode cX0_clear 1 = .ok (.getfield 20, 3)) ?_
  refine lv_iconst (v := 0) hx hb (by decide +kernel : decode cX0_clear 4 = .ok (.iconst 0, 1)) (by decide) ?_
  refine va_callv (va_runV (C := RX5) (b := v 28) (As := [.int 0]) (rest := []) ⟨hx, hb, hml, hown, hts⟩ (kc_fill (l := l) (A := A) (D := D) (cs := cs) (ws := ws ++ kL9 cs v) (k := ws.length + 28) (kc := ws.length + 29) (h0 := v 28) (hc := v 29) (n := 4) (v := 0) (f := (fun _ => 0)) (by rw [katA]; rfl) (by rw [katA]; rfl) (by decide)) ⟨⟨rfl, rfl, Nat.le_of_ble_eq_true rfl, Nat.le_of_ble_eq_true rfl, kws hts (kc_0_clear_25_w _ (List.mem_of_getElem? (i := 4) rfl)), List.mem_cons_self, (hts _ (kc_0_clear_25_w _ (List.mem_of_getElem? (i := 4) rfl))), (hts _ (kc_0_clear_25_w _ (List.mem_of_getElem? (i := 5) rfl))), by decide, klen (by decide +kernel), (hts _ (kc_0_clear_25_w _ (List.mem_of_getElem? (i := 1) rfl)))⟩, (hts _ (kc_0_clear_25_w _ (List.mem_of_getElem? (i := 2) rfl))), (hts _ (kc_0_clear_25_w _ (List.mem_of_getElem? (i := 3) rfl)))⟩ ⟨kblind, va_recv (ci := 5) (q := (RX5, TX5, 1)) hK hP rfl (q0 := ws.length + 28) (by rw [katA]; rfl), fun U hU hW => ⟨rfl, by rw [hU]; exact hP, hD, va_K.moved hW.alike hK, fun q9 h9 => hA q9 (by rw [hU] at h9; exact Nat.le_trans hS.1 h9), knest hN hW⟩⟩ rfl rfl hl.1 rfl (lv_room (Nat.le_of_ble_eq_true rfl)) (by decide +kernel : decode cX0_clear 5 = .ok (.invokevirtual 35, 3)) ⟨Nat.le_of_ble_eq_true rfl, Nat.le_of_ble_eq_true rfl⟩) hS (fun q9 _ h9 => h9) (fun q9 h9 => h9) (fun u5 t H5 locs5 ht hvm _ hB hz1 hk1 hS => ?_)
  obtain ⟨hP, hD⟩ := hB
  rw [ht] at hP
  rw [ksetA] at hP hD
  have hP : va_P D vwCl (ws ++ kL10 cs v) H5 := hP
  have hD : va_D A (ws ++ kL10 cs v) := hD
  refine lv_aload_n (k := 0) hx hb (by decide +kernel : decode cX0_clear 8 = .ok (.aload_n 0, 1)) rfl (lv_at hl 0 rfl) ?_
  refine va_get (D := D) (ci := 0) (v := .ref (v 36)) (C := RX0) (T := TX0) (N := 7) hx hb hts qin0 hown hK hP (ws.length + 25) (by rw [katA]; rfl) rfl 5 (by decide) (hts _ (kc_0_clear_25_w _ (List.mem_of_getElem? (i := 6) rfl))) (fun _ h9 => h9) rfl (by decide +kernel : decode cX0_clear 9 = .ok (.getfield 32, 3)) ?_
  refine lv_iconst (v := (-1)) hx hb (by decide +kernel : decode cX0_clear 12 = .ok (.iconst (-1), 1)) (by decide) ?_
  refine va_callv (va_runV (C := RX5) (b := v 36) (As := [.int (-1)]) (rest := []) ⟨hx, hb, hml, hown, hts⟩ (kc_fill (l := l) (A := A) (D := D) (cs := cs) (ws := ws ++ kL10 cs v) (k := ws.length + 36) (kc := ws.length + 37) (h0 := v 36) (hc := v 37) (n := 6) (v := (-1)) (f := (fun _ => 0)) (by rw [katA]; rfl) (by rw [katA]; rfl) (by decide)) ⟨⟨rfl, rfl, Nat.le_of_ble_eq_true rfl, Nat.le_of_ble_eq_true rfl, kws hts (kc_0_clear_25_w _ (List.mem_of_getElem? (i := 4) rfl)), List.mem_cons_self, (hts _ (kc_0_clear_25_w _ (List.mem_of_getElem? (i := 4) rfl))), (hts _ (kc_0_clear_25_w _ (List.mem_of_getElem? (i := 5) rfl))), by decide, klen (by decide +kernel), (hts _ (kc_0_clear_25_w _ (List.mem_of_getElem? (i := 1) rfl)))⟩, (hts _ (kc_0_clear_25_w _ (List.mem_of_getElem? (i := 2) rfl))), (hts _ (kc_0_clear_25_w _ (List.mem_of_getElem? (i := 3) rfl)))⟩ ⟨kblind, va_recv (ci := 5) (q := (RX5, TX5, 1)) hK hP rfl (q0 := ws.length + 36) (by rw [katA]; rfl), fun U hU hW => ⟨rfl, by rw [hU]; exact hP, hD, va_K.moved hW.alike hK, fun q9 h9 => hA q9 (by rw [hU] at h9; exact Nat.le_trans hS.1 h9), knest hN hW⟩⟩ rfl rfl hl.1 rfl (lv_room (Nat.le_of_ble_eq_true rfl)) (by decide +kernel : decode cX0_clear 13 = .ok (.invokevirtual 35, 3)) ⟨Nat.le_of_ble_eq_true rfl, Nat.le_of_ble_eq_true rfl⟩) hS (fun q9 _ h9 => h9) (fun q9 h9 => h9) (fun u13 t H13 locs13 ht hvm _ hB hz1 hk1 hS => ?_)
  obtain ⟨hP, hD⟩ := hB
  rw [ht] at hP
  rw [ksetA] at hP hD
  have hP : va_P D vwCl (ws ++ kL11 cs v) H13 := hP
  have hD : va_D A (ws ++ kL11 cs v) := hD
  refine lv_aload_n (k := 0) hx hb (by decide +kernel : decode cX0_clear 16 = .ok (.aload_n 0, 1)) rfl (lv_at hl 0 rfl) ?_
  refine lv_iconst (v := 0) hx hb (by decide +kernel : decode cX0_clear 17 = .ok (.iconst 0, 1)) (by decide) ?_
  refine va_put (D := D) (ci := 0) (v := .int 0) (ty := .int) (C := RX0) (T := TX0) (N := 7) hx hb hts qin0 tyX0 tyX0_ok nmX0 hown hK hP hD hS (ws.length + 25) (by rw [katA]; rfl) rfl 6 (by decide) (hts _ (kc_0_clear_25_w _ (List.mem_of_getElem? (i := 7) rfl))) (fun _ h9 => h9) rfl (by decide +kernel) rfl rfl (Nat.le_of_ble_eq_true rfl) (by decide +kernel : decode cX0_clear 18 = .ok (.putfield 38, 3)) (fun H18 locs18 hP hD hS => ?_)
  rw [ksetA] at hP hD
  have hP : va_P D vwCl (ws ++ kL12 cs v) H18 := hP
  have hD : va_D A (ws ++ kL12 cs v) := hD
  exact W.vret hx hb hr (fun t ht hW => ⟨⟨(), rfl, trivial, by rw [ht]; exact hP, hD⟩, hS.F ht⟩) hS.2.2 (by decide +kernel : decode cX0_clear 21 = .ok (.return_, 1)) hlocks
def kL13 (cs : Nat → ClassId) (v : Nat → Nat) : va_W := (kL12 cs v).set 40 (v 40, .inl (cs 0, 8, .inl (kfl (fun _ => 0) 8 0)))
theorem kc_1_clear_38_w : ∀ w ∈ ([.fieldLink RX1 14 RX1 "exists" "LSharedLog$Row;", .methodLink RX1 23 yX5_fillWith, .instanceMethod yX5_fillWith, .selects RX5 yX5_fillWith yX5_fillWith, .code yX5_fillWith cX5_fillWith 3 none, .initialized RX5] : List Jvm.Cond), w ∈ qgw := qgw_of [304, 498, 491, 492, 493, 122] (by decide +kernel) (by decide +kernel)
set_option maxRecDepth 100000 in
set_option maxHeartbeats 4000000 in
theorem kc_1_clear_38 {ws : va_W} {v : Nat → Nat} : Met l yX1_clear (.code yX1_clear cX1_clear 1 none :: qgw) (krm 0 0 1) (va_Pc [.ref (v 38)] (kPre A D cs (ws ++ kL12 cs v))) (va_Qv (fun _ : Unit => True) (fun _ t => kPost A D (ws ++ kL13 cs v) t) A) 0 0 A := by
  refine Met.ofW (cc := cX1_clear) (maxL := 1) (ret := none) (by decide) rfl ?_
  intro p e s m args below meth c s₁ B hml hv
  obtain ⟨rfl, hP, hD, hK, hA, hN⟩ := hv
  have hx := B.exec
  have hb := B.bytes
  have hr := B.returns
  have hts0 := atoms_spec (ws := .code yX1_clear cX1_clear 1 none :: qgw) B.pre
  have hts : ∀ w ∈ qgw, w.before _ s = true := fun w hw => hts0 w (List.mem_cons_of_mem _ hw)
  have hown : s.vm.findClass RX1 = some m.cls := findClass_of_methodNamed B.named
  have hlocks := B.notSynchronized
  have hS : va_S A s.heap s.heap [] := va_S.rf
  have hl := lv_entry ([.ref (v 38)]) (n := 1) (Nat.le_of_ble_eq_true rfl)
  rw [lg_entry_eq]
  generalize (lg_sl ([.ref (v 38)]) ++ List.replicate (1 - (lg_sl ([.ref (v 38)])).length) Slot.unset).toArray = ls at hl ⊢
  have hl : lv_has ls 1 [(0, .ref (v 38))] := hl
  refine lv_aload_n (k := 0) hx hb (by decide +kernel : decode cX1_clear 0 = .ok (.aload_n 0, 1)) rfl (lv_at hl 0 rfl) ?_
  refine va_get (D := D) (ci := 1) (v := .ref (v 39)) (C := RX1) (T := TX1) (N := 2) hx hb hts qin1 hown hK hP (ws.length + 38) (by rw [katA]; rfl) rfl 0 (by decide) (hts _ (kc_1_clear_38_w _ (List.mem_of_getElem? (i := 0) rfl))) (fun _ h9 => h9) rfl (by decide +kernel : decode cX1_clear 1 = .ok (.getfield 14, 3)) ?_
  refine lv_iconst (v := 0) hx hb (by decide +kernel : decode cX1_clear 4 = .ok (.iconst 0, 1)) (by decide) ?_
  refine va_callv (va_runV (C := RX5) (b := v 39) (As := [.int 0]) (rest := []) ⟨hx, hb, hml, hown, hts⟩ (kc_fill (l := l) (A := A) (D := D) (cs := cs) (ws := ws ++ kL12 cs v) (k := ws.length + 39) (kc := ws.length + 40) (h0 := v 39) (hc := v 40) (n := 8) (v := 0) (f := (fun _ => 0)) (by rw [katA]; rfl) (by rw [katA]; rfl) (by decide)) ⟨⟨rfl, rfl, Nat.le_of_ble_eq_true rfl, Nat.le_of_ble_eq_true rfl, kws hts (kc_1_clear_38_w _ (List.mem_of_getElem? (i := 4) rfl)), List.mem_cons_self, (hts _ (kc_1_clear_38_w _ (List.mem_of_getElem? (i := 4) rfl))), (hts _ (kc_1_clear_38_w _ (List.mem_of_getElem? (i := 5) rfl))), by decide, klen (by decide +kernel), (hts _ (kc_1_clear_38_w _ (List.mem_of_getElem? (i := 1) rfl)))⟩, (hts _ (kc_1_clear_38_w _ (List.mem_of_getElem? (i := 2) rfl))), (hts _ (kc_1_clear_38_w _ (List.mem_of_getElem? (i := 3) rfl)))⟩ ⟨kblind, va_recv (ci := 5) (q := (RX5, TX5, 1)) hK hP rfl (q0 := ws.length + 39) (by rw [katA]; rfl), fun U hU hW => ⟨rfl, by rw [hU]; exact hP, hD, va_K.moved hW.alike hK, fun q9 h9 => hA q9 (by rw [hU] at h9; exact Nat.le_trans hS.1 h9), knest hN hW⟩⟩ rfl rfl hl.1 rfl (lv_room (Nat.le_of_ble_eq_true rfl)) (by decide +kernel : decode cX1_clear 5 = .ok (.invokevirtual 23, 3)) ⟨Nat.le_of_ble_eq_true rfl, Nat.le_of_ble_eq_true rfl⟩) hS (fun q9 _ h9 => h9) (fun q9 h9 => h9) (fun u5 t H5 locs5 ht hvm _ hB hz1 hk1 hS => ?_)
  obtain ⟨hP, hD⟩ := hB
  rw [ht] at hP
  rw [ksetA] at hP hD
  have hP : va_P D vwCl (ws ++ kL13 cs v) H5 := hP
  have hD : va_D A (ws ++ kL13 cs v) := hD
  exact W.vret hx hb hr (fun t ht hW => ⟨⟨(), rfl, trivial, by rw [ht]; exact hP, hD⟩, hS.F ht⟩) hS.2.2 (by decide +kernel : decode cX1_clear 8 = .ok (.return_, 1)) hlocks
def kL14 (cs : Nat → ClassId) (v : Nat → Nat) : va_W := (kL13 cs v).set 45 (v 45, .inl (cs 0, 8, .inl (kfl (fun _ => 0) 8 0)))
theorem kc_1_clear_43_w : ∀ w ∈ ([.fieldLink RX1 14 RX1 "exists" "LSharedLog$Row;", .methodLink RX1 23 yX5_fillWith, .instanceMethod yX5_fillWith, .selects RX5 yX5_fillWith yX5_fillWith, .code yX5_fillWith cX5_fillWith 3 none, .initialized RX5] : List Jvm.Cond), w ∈ qgw := qgw_of [304, 498, 491, 492, 493, 122] (by decide +kernel) (by decide +kernel)
set_option maxRecDepth 100000 in
set_option maxHeartbeats 4000000 in
theorem kc_1_clear_43 {ws : va_W} {v : Nat → Nat} : Met l yX1_clear (.code yX1_clear cX1_clear 1 none :: qgw) (krm 0 0 1) (va_Pc [.ref (v 43)] (kPre A D cs (ws ++ kL13 cs v))) (va_Qv (fun _ : Unit => True) (fun _ t => kPost A D (ws ++ kL14 cs v) t) A) 0 0 A := by
  refine Met.ofW (cc := cX1_clear) (maxL := 1) (ret := none) (by decide) rfl ?_
  intro p e s m args below meth c s₁ B hml hv
  obtain ⟨rfl, hP, hD, hK, hA, hN⟩ := hv
  have hx := B.exec
  have hb := B.bytes
  have hr := B.returns
  have hts0 := atoms_spec (ws := .code yX1_clear cX1_clear 1 none :: qgw) B.pre
  have hts : ∀ w ∈ qgw, w.before _ s = true := fun w hw => hts0 w (List.mem_cons_of_mem _ hw)
  have hown : s.vm.findClass RX1 = some m.cls := findClass_of_methodNamed B.named
  have hlocks := B.notSynchronized
  have hS : va_S A s.heap s.heap [] := va_S.rf
  have hl := lv_entry ([.ref (v 43)]) (n := 1) (Nat.le_of_ble_eq_true rfl)
  rw [lg_entry_eq]
  generalize (lg_sl ([.ref (v 43)]) ++ List.replicate (1 - (lg_sl ([.ref (v 43)])).length) Slot.unset).toArray = ls at hl ⊢
  have hl : lv_has ls 1 [(0, .ref (v 43))] := hl
  refine lv_aload_n (k := 0) hx hb (by decide +kernel : decode cX1_clear 0 = .ok (.aload_n 0, 1)) rfl (lv_at hl 0 rfl) ?_
  refine va_get (D := D) (ci := 1) (v := .ref (v 44)) (C := RX1) (T := TX1) (N := 2) hx hb hts qin1 hown hK hP (ws.length + 43) (by rw [katA]; rfl) rfl 0 (by decide) (hts _ (kc_1_clear_43_w _ (List.mem_of_getElem? (i := 0) rfl))) (fun _ h9 => h9) rfl (by decide +kernel : decode cX1_clear 1 = .ok (.getfield 14, 3)) ?_
  refine lv_iconst (v := 0) hx hb (by decide +kernel : decode cX1_clear 4 = .ok (.iconst 0, 1)) (by decide) ?_
  refine va_callv (va_runV (C := RX5) (b := v 44) (As := [.int 0]) (rest := []) ⟨hx, hb, hml, hown, hts⟩ (kc_fill (l := l) (A := A) (D := D) (cs := cs) (ws := ws ++ kL13 cs v) (k := ws.length + 44) (kc := ws.length + 45) (h0 := v 44) (hc := v 45) (n := 8) (v := 0) (f := (fun _ => 0)) (by rw [katA]; rfl) (by rw [katA]; rfl) (by decide)) ⟨⟨rfl, rfl, Nat.le_of_ble_eq_true rfl, Nat.le_of_ble_eq_true rfl, kws hts (kc_1_clear_43_w _ (List.mem_of_getElem? (i := 4) rfl)), List.mem_cons_self, (hts _ (kc_1_clear_43_w _ (List.mem_of_getElem? (i := 4) rfl))), (hts _ (kc_1_clear_43_w _ (List.mem_of_getElem? (i := 5) rfl))), by decide, klen (by decide +kernel), (hts _ (kc_1_clear_43_w _ (List.mem_of_getElem? (i := 1) rfl)))⟩, (hts _ (kc_1_clear_43_w _ (List.mem_of_getElem? (i := 2) rfl))), (hts _ (kc_1_clear_43_w _ (List.mem_of_getElem? (i := 3) rfl)))⟩ ⟨kblind, va_recv (ci := 5) (q := (RX5, TX5, 1)) hK hP rfl (q0 := ws.length + 44) (by rw [katA]; rfl), fun U hU hW => ⟨rfl, by rw [hU]; exact hP, hD, va_K.moved hW.alike hK, fun q9 h9 => hA q9 (by rw [hU] at h9; exact Nat.le_trans hS.1 h9), knest hN hW⟩⟩ rfl rfl hl.1 rfl (lv_room (Nat.le_of_ble_eq_true rfl)) (by decide +kernel : decode cX1_clear 5 = .ok (.invokevirtual 23, 3)) ⟨Nat.le_of_ble_eq_true rfl, Nat.le_of_ble_eq_true rfl⟩) hS (fun q9 _ h9 => h9) (fun q9 h9 => h9) (fun u5 t H5 locs5 ht hvm _ hB hz1 hk1 hS => ?_)
  obtain ⟨hP, hD⟩ := hB
  rw [ht] at hP
  rw [ksetA] at hP hD
  have hP : va_P D vwCl (ws ++ kL14 cs v) H5 := hP
  have hD : va_D A (ws ++ kL14 cs v) := hD
  exact W.vret hx hb hr (fun t ht hW => ⟨⟨(), rfl, trivial, by rw [ht]; exact hP, hD⟩, hS.F ht⟩) hS.2.2 (by decide +kernel : decode cX1_clear 8 = .ok (.return_, 1)) hlocks
def kL15 (cs : Nat → ClassId) (v : Nat → Nat) : va_W := (kL14 cs v).set 54 (v 54, .inl (cs 0, 4, .inl (kfl (fun _ => 0) 4 (-1))))
def kL16 (cs : Nat → ClassId) (v : Nat → Nat) : va_W := (kL15 cs v).set 0 (v 0, .inr (2, [.ref (v 1), .ref (v 20), .ref (v 25), .ref (v 38), .ref (v 43), .ref (v 48), .ref (v 53), .ref (v 55), .ref (v 57), .ref (v 59), .int 0, .int 0, .int 0, .int 0]))
def kL17 (cs : Nat → ClassId) (v : Nat → Nat) : va_W := (kL16 cs v).set 0 (v 0, .inr (2, [.ref (v 1), .ref (v 20), .ref (v 25), .ref (v 38), .ref (v 43), .ref (v 48), .ref (v 53), .ref (v 55), .ref (v 57), .ref (v 59), .int 0, .int 0, .int 0, .int 0]))
def kL18 (cs : Nat → ClassId) (v : Nat → Nat) : va_W := (kL17 cs v).set 0 (v 0, .inr (2, [.ref (v 1), .ref (v 20), .ref (v 25), .ref (v 38), .ref (v 43), .ref (v 48), .ref (v 53), .ref (v 55), .ref (v 57), .ref (v 59), .int 0, .int 0, .int 300, .int 0]))
def kL19 (cs : Nat → ClassId) (v : Nat → Nat) : va_W := (kL18 cs v).set 0 (v 0, .inr (2, [.ref (v 1), .ref (v 20), .ref (v 25), .ref (v 38), .ref (v 43), .ref (v 48), .ref (v 53), .ref (v 55), .ref (v 57), .ref (v 59), .int 0, .int 0, .int 300, .int 20]))
theorem kc_2_clear_0_w : ∀ w ∈ ([.fieldLink RX2 12 RX2 "records" "LSharedLog$Records;", .methodLink RX2 63 yX4_clear, .instanceMethod yX4_clear, .selects RX4 yX4_clear yX4_clear, .code yX4_clear cX4_clear 1 none, .initialized RX4, .fieldLink RX2 21 RX2 "segments" "LSharedLog$Segments;", .methodLink RX2 66 yX7_clear, .instanceMethod yX7_clear, .selects RX7 yX7_clear yX7_clear, .code yX7_clear cX7_clear 2 none, .initialized RX7, .fieldLink RX2 28 RX2 "broker" "LSharedLog$Broker;", .methodLink RX2 68 yX0_clear, .instanceMethod yX0_clear, .selects RX0 yX0_clear yX0_clear, .code yX0_clear cX0_clear 1 none, .initialized RX0, .fieldLink RX2 35 RX2 "now" "LSharedLog$Files;", .methodLink RX2 69 yX1_clear, .instanceMethod yX1_clear, .selects RX1 yX1_clear yX1_clear, .code yX1_clear cX1_clear 1 none, .initialized RX1, .fieldLink RX2 39 RX2 "kept" "LSharedLog$Files;", .fieldLink RX2 50 RX2 "begins" "LSharedLog$Row;", .methodLink RX2 70 yX5_fillWith, .instanceMethod yX5_fillWith, .selects RX5 yX5_fillWith yX5_fillWith, .code yX5_fillWith cX5_fillWith 3 none, .initialized RX5, .fieldLink RX2 73 RX2 "takenCount" "I", .fieldLink RX2 77 RX2 "mark" "I", .fieldLink RX2 80 RX2 "limit" "I", .fieldLink RX2 83 RX2 "room" "I"] : List Jvm.Cond), w ∈ qgw := qgw_of [313, 474, 475, 476, 477, 121, 316, 478, 479, 480, 481, 123, 319, 486, 487, 488, 489, 124, 322, 494, 495, 496, 497, 125, 324, 327, 499, 491, 492, 493, 122, 331, 333, 334, 335] (by decide +kernel) (by decide +kernel)
set_option maxRecDepth 100000 in
set_option maxHeartbeats 4000000 in
theorem kc_2_clear_0 {ws : va_W} {v : Nat → Nat} : Met l yX2_clear (.code yX2_clear cX2_clear 4 none :: qgw) (krm 0 0 2) (va_Pc [.ref (v 0), .int 100, .int 300, .int 20] (kPre A D cs (ws ++ kL0 cs v))) (va_Qv (fun _ : Unit => True) (fun _ t => kPost A D (ws ++ kL19 cs v) t) A) 0 0 A := by
  refine Met.ofW (cc := cX2_clear) (maxL := 4) (ret := none) (by decide) rfl ?_
  intro p e s m args below meth c s₁ B hml hv
  obtain ⟨rfl, hP, hD, hK, hA, hN⟩ := hv
  have hx := B.exec
  have hb := B.bytes
  have hr := B.returns
  have hts0 := atoms_spec (ws := .code yX2_clear cX2_clear 4 none :: qgw) B.pre
  have hts : ∀ w ∈ qgw, w.before _ s = true := fun w hw => hts0 w (List.mem_cons_of_mem _ hw)
  have hown : s.vm.findClass RX2 = some m.cls := findClass_of_methodNamed B.named
  have hlocks := B.notSynchronized
  have hS : va_S A s.heap s.heap [] := va_S.rf
  have hl := lv_entry ([.ref (v 0), .int 100, .int 300, .int 20]) (n := 4) (Nat.le_of_ble_eq_true rfl)
  rw [lg_entry_eq]
  generalize (lg_sl ([.ref (v 0), .int 100, .int 300, .int 20]) ++ List.replicate (4 - (lg_sl ([.ref (v 0), .int 100, .int 300, .int 20])).length) Slot.unset).toArray = ls at hl ⊢
  have hl : lv_has ls 4 [(0, .ref (v 0)), (1, .int 100), (2, .int 300), (3, .int 20)] := hl
  refine lv_aload_n (k := 0) hx hb (by decide +kernel : decode cX2_clear 0 = .ok (.aload_n 0, 1)) rfl (lv_at hl 0 rfl) ?_
  refine va_get (D := D) (ci := 2) (v := .ref (v 1)) (C := RX2) (T := TX2) (N := 14) hx hb hts qin2 hown hK hP (ws.length + 0) (by rw [katA]; rfl) rfl 0 (by decide) (hts _ (kc_2_clear_0_w _ (List.mem_of_getElem? (i := 0) rfl))) (fun _ h9 => h9) rfl (by decide +kernel : decode cX2_clear 1 = .ok (.getfield 12, 3)) ?_
  refine va_callv (va_runV (C := RX4) (b := v 1) (As := []) (rest := []) ⟨hx, hb, hml, hown, hts⟩ (kc_4_clear_1 (l := l) (A := A) (D := D) (cs := cs) (ws := ws) (v := v)) ⟨⟨rfl, rfl, Nat.le_of_ble_eq_true rfl, Nat.le_of_ble_eq_true rfl, kws hts (kc_2_clear_0_w _ (List.mem_of_getElem? (i := 4) rfl)), List.mem_cons_self, (hts _ (kc_2_clear_0_w _ (List.mem_of_getElem? (i := 4) rfl))), (hts _ (kc_2_clear_0_w _ (List.mem_of_getElem? (i := 5) rfl))), by decide, klen (by decide +kernel), (hts _ (kc_2_clear_0_w _ (List.mem_of_getElem? (i := 1) rfl)))⟩, (hts _ (kc_2_clear_0_w _ (List.mem_of_getElem? (i := 2) rfl))), (hts _ (kc_2_clear_0_w _ (List.mem_of_getElem? (i := 3) rfl)))⟩ ⟨kblind, va_recv (ci := 4) (q := (RX4, TX4, 11)) hK hP rfl (q0 := ws.length + 1) (by rw [katA]; rfl), fun U hU hW => ⟨rfl, by rw [hU]; exact hP, hD, va_K.moved hW.alike hK, fun q9 h9 => hA q9 (by rw [hU] at h9; exact Nat.le_trans hS.1 h9), knest hN hW⟩⟩ rfl rfl hl.1 rfl (lv_room (Nat.le_of_ble_eq_true rfl)) (by decide +kernel : decode cX2_clear 4 = .ok (.invokevirtual 63, 3)) ⟨Nat.le_of_ble_eq_true rfl, Nat.le_of_ble_eq_true rfl⟩) hS (fun q9 _ h9 => h9) (fun q9 h9 => h9) (fun u4 t H4 locs4 ht hvm _ hB hz1 hk1 hS => ?_)
  obtain ⟨hP, hD⟩ := hB
  rw [ht] at hP
  have hP : va_P D vwCl (ws ++ kL2 cs v) H4 := hP
  have hD : va_D A (ws ++ kL2 cs v) := hD
  refine lv_aload_n (k := 0) hx hb (by decide +kernel : decode cX2_clear 7 = .ok (.aload_n 0, 1)) rfl (lv_at hl 0 rfl) ?_
  refine va_get (D := D) (ci := 2) (v := .ref (v 20)) (C := RX2) (T := TX2) (N := 14) hx hb hts qin2 hown hK hP (ws.length + 0) (by rw [katA]; rfl) rfl 1 (by decide) (hts _ (kc_2_clear_0_w _ (List.mem_of_getElem? (i := 6) rfl))) (fun _ h9 => h9) rfl (by decide +kernel : decode cX2_clear 8 = .ok (.getfield 21, 3)) ?_
  refine lv_iload_n (k := 1) hx hb (by decide +kernel : decode cX2_clear 11 = .ok (.iload_n 1, 1)) rfl (lv_at hl 1 rfl) ?_
  refine va_callv (va_runV (C := RX7) (b := v 20) (As := [.int 100]) (rest := []) ⟨hx, hb, hml, hown, hts⟩ (kc_7_clear_20 (l := l) (A := A) (D := D) (cs := cs) (ws := ws) (v := v)) ⟨⟨rfl, rfl, Nat.le_of_ble_eq_true rfl, Nat.le_of_ble_eq_true rfl, kws hts (kc_2_clear_0_w _ (List.mem_of_getElem? (i := 10) rfl)), List.mem_cons_self, (hts _ (kc_2_clear_0_w _ (List.mem_of_getElem? (i := 10) rfl))), (hts _ (kc_2_clear_0_w _ (List.mem_of_getElem? (i := 11) rfl))), by decide, klen (by decide +kernel), (hts _ (kc_2_clear_0_w _ (List.mem_of_getElem? (i := 7) rfl)))⟩, (hts _ (kc_2_clear_0_w _ (List.mem_of_getElem? (i := 8) rfl))), (hts _ (kc_2_clear_0_w _ (List.mem_of_getElem? (i := 9) rfl)))⟩ ⟨kblind, va_recv (ci := 7) (q := (RX7, TX7, 7)) hK hP rfl (q0 := ws.length + 20) (by rw [katA]; rfl), fun U hU hW => ⟨rfl, by rw [hU]; exact hP, hD, va_K.moved hW.alike hK, fun q9 h9 => hA q9 (by rw [hU] at h9; exact Nat.le_trans hS.1 h9), knest hN hW⟩⟩ rfl rfl hl.1 rfl (lv_room (Nat.le_of_ble_eq_true rfl)) (by decide +kernel : decode cX2_clear 12 = .ok (.invokevirtual 66, 3)) ⟨Nat.le_of_ble_eq_true rfl, Nat.le_of_ble_eq_true rfl⟩) hS (fun q9 _ h9 => h9) (fun q9 h9 => h9) (fun u12 t H12 locs12 ht hvm _ hB hz1 hk1 hS => ?_)
  obtain ⟨hP, hD⟩ := hB
  rw [ht] at hP
  have hP : va_P D vwCl (ws ++ kL9 cs v) H12 := hP
  have hD : va_D A (ws ++ kL9 cs v) := hD
  refine lv_aload_n (k := 0) hx hb (by decide +kernel : decode cX2_clear 15 = .ok (.aload_n 0, 1)) rfl (lv_at hl 0 rfl) ?_
  refine va_get (D := D) (ci := 2) (v := .ref (v 25)) (C := RX2) (T := TX2) (N := 14) hx hb hts qin2 hown hK hP (ws.length + 0) (by rw [katA]; rfl) rfl 2 (by decide) (hts _ (kc_2_clear_0_w _ (List.mem_of_getElem? (i := 12) rfl))) (fun _ h9 => h9) rfl (by decide +kernel : decode cX2_clear 16 = .ok (.getfield 28, 3)) ?_
  refine va_callv (va_runV (C := RX0) (b := v 25) (As := []) (rest := []) ⟨hx, hb, hml, hown, hts⟩ (kc_0_clear_25 (l := l) (A := A) (D := D) (cs := cs) (ws := ws) (v := v)) ⟨⟨rfl, rfl, Nat.le_of_ble_eq_true rfl, Nat.le_of_ble_eq_true rfl, kws hts (kc_2_clear_0_w _ (List.mem_of_getElem? (i := 16) rfl)), List.mem_cons_self, (hts _ (kc_2_clear_0_w _ (List.mem_of_getElem? (i := 16) rfl))), (hts _ (kc_2_clear_0_w _ (List.mem_of_getElem? (i := 17) rfl))), by decide, klen (by decide +kernel), (hts _ (kc_2_clear_0_w _ (List.mem_of_getElem? (i := 13) rfl)))⟩, (hts _ (kc_2_clear_0_w _ (List.mem_of_getElem? (i := 14) rfl))), (hts _ (kc_2_clear_0_w _ (List.mem_of_getElem? (i := 15) rfl)))⟩ ⟨kblind, va_recv (ci := 0) (q := (RX0, TX0, 7)) hK hP rfl (q0 := ws.length + 25) (by rw [katA]; rfl), fun U hU hW => ⟨rfl, by rw [hU]; exact hP, hD, va_K.moved hW.alike hK, fun q9 h9 => hA q9 (by rw [hU] at h9; exact Nat.le_trans hS.1 h9), knest hN hW⟩⟩ rfl rfl hl.1 rfl (lv_room (Nat.le_of_ble_eq_true rfl)) (by decide +kernel : decode cX2_clear 19 = .ok (.invokevirtual 68, 3)) ⟨Nat.le_of_ble_eq_true rfl, Nat.le_of_ble_eq_true rfl⟩) hS (fun q9 _ h9 => h9) (fun q9 h9 => h9) (fun u19 t H19 locs19 ht hvm _ hB hz1 hk1 hS => ?_)
  obtain ⟨hP, hD⟩ := hB
  rw [ht] at hP
  have hP : va_P D vwCl (ws ++ kL12 cs v) H19 := hP
  have hD : va_D A (ws ++ kL12 cs v) := hD
  refine lv_aload_n (k := 0) hx hb (by decide +kernel : decode cX2_clear 22 = .ok (.aload_n 0, 1)) rfl (lv_at hl 0 rfl) ?_
  refine va_get (D := D) (ci := 2) (v := .ref (v 38)) (C := RX2) (T := TX2) (N := 14) hx hb hts qin2 hown hK hP (ws.length + 0) (by rw [katA]; rfl) rfl 3 (by decide) (hts _ (kc_2_clear_0_w _ (List.mem_of_getElem? (i := 18) rfl))) (fun _ h9 => h9) rfl (by decide +kernel : decode cX2_clear 23 = .ok (.getfield 35, 3)) ?_
  refine va_callv (va_runV (C := RX1) (b := v 38) (As := []) (rest := []) ⟨hx, hb, hml, hown, hts⟩ (kc_1_clear_38 (l := l) (A := A) (D := D) (cs := cs) (ws := ws) (v := v)) ⟨⟨rfl, rfl, Nat.le_of_ble_eq_true rfl, Nat.le_of_ble_eq_true rfl, kws hts (kc_2_clear_0_w _ (List.mem_of_getElem? (i := 22) rfl)), List.mem_cons_self, (hts _ (kc_2_clear_0_w _ (List.mem_of_getElem? (i := 22) rfl))), (hts _ (kc_2_clear_0_w _ (List.mem_of_getElem? (i := 23) rfl))), by decide, klen (by decide +kernel), (hts _ (kc_2_clear_0_w _ (List.mem_of_getElem? (i := 19) rfl)))⟩, (hts _ (kc_2_clear_0_w _ (List.mem_of_getElem? (i := 20) rfl))), (hts _ (kc_2_clear_0_w _ (List.mem_of_getElem? (i := 21) rfl)))⟩ ⟨kblind, va_recv (ci := 1) (q := (RX1, TX1, 2)) hK hP rfl (q0 := ws.length + 38) (by rw [katA]; rfl), fun U hU hW => ⟨rfl, by rw [hU]; exact hP, hD, va_K.moved hW.alike hK, fun q9 h9 => hA q9 (by rw [hU] at h9; exact Nat.le_trans hS.1 h9), knest hN hW⟩⟩ rfl rfl hl.1 rfl (lv_room (Nat.le_of_ble_eq_true rfl)) (by decide +kernel : decode cX2_clear 26 = .ok (.invokevirtual 69, 3)) ⟨Nat.le_of_ble_eq_true rfl, Nat.le_of_ble_eq_true rfl⟩) hS (fun q9 _ h9 => h9) (fun q9 h9 => h9) (fun u26 t H26 locs26 ht hvm _ hB hz1 hk1 hS => ?_)
  obtain ⟨hP, hD⟩ := hB
  rw [ht] at hP
  have hP : va_P D vwCl (ws ++ kL13 cs v) H26 := hP
  have hD : va_D A (ws ++ kL13 cs v) := hD
  refine lv_aload_n (k := 0) hx hb (by decide +kernel : decode cX2_clear 29 = .ok (.aload_n 0, 1)) rfl (lv_at hl 0 rfl) ?_
  refine va_get (D := D) (ci := 2) (v := .ref (v 43)) (C := RX2) (T := TX2) (N := 14) hx hb hts qin2 hown hK hP (ws.length + 0) (by rw [katA]; rfl) rfl 4 (by decide) (hts _ (kc_2_clear_0_w _ (List.mem_of_getElem? (i := 24) rfl))) (fun _ h9 => h9) rfl (by decide +kernel : decode cX2_clear 30 = .ok (.getfield 39, 3)) ?_
  refine va_callv (va_runV (C := RX1) (b := v 43) (As := []) (rest := []) ⟨hx, hb, hml, hown, hts⟩ (kc_1_clear_43 (l := l) (A := A) (D := D) (cs := cs) (ws := ws) (v := v)) ⟨⟨rfl, rfl, Nat.le_of_ble_eq_true rfl, Nat.le_of_ble_eq_true rfl, kws hts (kc_2_clear_0_w _ (List.mem_of_getElem? (i := 22) rfl)), List.mem_cons_self, (hts _ (kc_2_clear_0_w _ (List.mem_of_getElem? (i := 22) rfl))), (hts _ (kc_2_clear_0_w _ (List.mem_of_getElem? (i := 23) rfl))), by decide, klen (by decide +kernel), (hts _ (kc_2_clear_0_w _ (List.mem_of_getElem? (i := 19) rfl)))⟩, (hts _ (kc_2_clear_0_w _ (List.mem_of_getElem? (i := 20) rfl))), (hts _ (kc_2_clear_0_w _ (List.mem_of_getElem? (i := 21) rfl)))⟩ ⟨kblind, va_recv (ci := 1) (q := (RX1, TX1, 2)) hK hP rfl (q0 := ws.length + 43) (by rw [katA]; rfl), fun U hU hW => ⟨rfl, by rw [hU]; exact hP, hD, va_K.moved hW.alike hK, fun q9 h9 => hA q9 (by rw [hU] at h9; exact Nat.le_trans hS.1 h9), knest hN hW⟩⟩ rfl rfl hl.1 rfl (lv_room (Nat.le_of_ble_eq_true rfl)) (by decide +kernel : decode cX2_clear 33 = .ok (.invokevirtual 69, 3)) ⟨Nat.le_of_ble_eq_true rfl, Nat.le_of_ble_eq_true rfl⟩) hS (fun q9 _ h9 => h9) (fun q9 h9 => h9) (fun u33 t H33 locs33 ht hvm _ hB hz1 hk1 hS => ?_)
  obtain ⟨hP, hD⟩ := hB
  rw [ht] at hP
  have hP : va_P D vwCl (ws ++ kL14 cs v) H33 := hP
  have hD : va_D A (ws ++ kL14 cs v) := hD
  refine lv_aload_n (k := 0) hx hb (by decide +kernel : decode cX2_clear 36 = .ok (.aload_n 0, 1)) rfl (lv_at hl 0 rfl) ?_
  refine va_get (D := D) (ci := 2) (v := .ref (v 53)) (C := RX2) (T := TX2) (N := 14) hx hb hts qin2 hown hK hP (ws.length + 0) (by rw [katA]; rfl) rfl 6 (by decide) (hts _ (kc_2_clear_0_w _ (List.mem_of_getElem? (i := 25) rfl))) (fun _ h9 => h9) rfl (by decide +kernel : decode cX2_clear 37 = .ok (.getfield 50, 3)) ?_
  refine lv_iconst (v := (-1)) hx hb (by decide +kernel : decode cX2_clear 40 = .ok (.iconst (-1), 1)) (by decide) ?_
  refine va_callv (va_runV (C := RX5) (b := v 53) (As := [.int (-1)]) (rest := []) ⟨hx, hb, hml, hown, hts⟩ (kc_fill (l := l) (A := A) (D := D) (cs := cs) (ws := ws ++ kL14 cs v) (k := ws.length + 53) (kc := ws.length + 54) (h0 := v 53) (hc := v 54) (n := 4) (v := (-1)) (f := (fun _ => 0)) (by rw [katA]; rfl) (by rw [katA]; rfl) (by decide)) ⟨⟨rfl, rfl, Nat.le_of_ble_eq_true rfl, Nat.le_of_ble_eq_true rfl, kws hts (kc_2_clear_0_w _ (List.mem_of_getElem? (i := 29) rfl)), List.mem_cons_self, (hts _ (kc_2_clear_0_w _ (List.mem_of_getElem? (i := 29) rfl))), (hts _ (kc_2_clear_0_w _ (List.mem_of_getElem? (i := 30) rfl))), by decide, klen (by decide +kernel), (hts _ (kc_2_clear_0_w _ (List.mem_of_getElem? (i := 26) rfl)))⟩, (hts _ (kc_2_clear_0_w _ (List.mem_of_getElem? (i := 27) rfl))), (hts _ (kc_2_clear_0_w _ (List.mem_of_getElem? (i := 28) rfl)))⟩ ⟨kblind, va_recv (ci := 5) (q := (RX5, TX5, 1)) hK hP rfl (q0 := ws.length + 53) (by rw [katA]; rfl), fun U hU hW => ⟨rfl, by rw [hU]; exact hP, hD, va_K.moved hW.alike hK, fun q9 h9 => hA q9 (by rw [hU] at h9; exact Nat.le_trans hS.1 h9), knest hN hW⟩⟩ rfl rfl hl.1 rfl (lv_room (Nat.le_of_ble_eq_true rfl)) (by decide +kernel : decode cX2_clear 41 = .ok (.invokevirtual 70, 3)) ⟨Nat.le_of_ble_eq_true rfl, Nat.le_of_ble_eq_true rfl⟩) hS (fun q9 _ h9 => h9) (fun q9 h9 => h9) (fun u41 t H41 locs41 ht hvm _ hB hz1 hk1 hS => ?_)
  obtain ⟨hP, hD⟩ := hB
  rw [ht] at hP
  rw [ksetA] at hP hD
  have hP : va_P D vwCl (ws ++ kL15 cs v) H41 := hP
  have hD : va_D A (ws ++ kL15 cs v) := hD
  refine lv_aload_n (k := 0) hx hb (by decide +kernel : decode cX2_clear 44 = .ok (.aload_n 0, 1)) rfl (lv_at hl 0 rfl) ?_
  refine lv_iconst (v := 0) hx hb (by decide +kernel : decode cX2_clear 45 = .ok (.iconst 0, 1)) (by decide) ?_
  refine va_put (D := D) (ci := 2) (v := .int 0) (ty := .int) (C := RX2) (T := TX2) (N := 14) hx hb hts qin2 tyX2 tyX2_ok nmX2 hown hK hP hD hS (ws.length + 0) (by rw [katA]; rfl) rfl 10 (by decide) (hts _ (kc_2_clear_0_w _ (List.mem_of_getElem? (i := 31) rfl))) (fun _ h9 => h9) rfl (by decide +kernel) rfl rfl (Nat.le_of_ble_eq_true rfl) (by decide +kernel : decode cX2_clear 46 = .ok (.putfield 73, 3)) (fun H46 locs46 hP hD hS => ?_)
  rw [ksetA] at hP hD
  have hP : va_P D vwCl (ws ++ kL16 cs v) H46 := hP
  have hD : va_D A (ws ++ kL16 cs v) := hD
  refine lv_aload_n (k := 0) hx hb (by decide +kernel : decode cX2_clear 49 = .ok (.aload_n 0, 1)) rfl (lv_at hl 0 rfl) ?_
  refine lv_iconst (v := 0) hx hb (by decide +kernel : decode cX2_clear 50 = .ok (.iconst 0, 1)) (by decide) ?_
  refine va_put (D := D) (ci := 2) (v := .int 0) (ty := .int) (C := RX2) (T := TX2) (N := 14) hx hb hts qin2 tyX2 tyX2_ok nmX2 hown hK hP hD hS (ws.length + 0) (by rw [katA]; rfl) rfl 11 (by decide) (hts _ (kc_2_clear_0_w _ (List.mem_of_getElem? (i := 32) rfl))) (fun _ h9 => h9) rfl (by decide +kernel) rfl rfl (Nat.le_of_ble_eq_true rfl) (by decide +kernel : decode cX2_clear 51 = .ok (.putfield 77, 3)) (fun H51 locs51 hP hD hS => ?_)
  rw [ksetA] at hP hD
  have hP : va_P D vwCl (ws ++ kL17 cs v) H51 := hP
  have hD : va_D A (ws ++ kL17 cs v) := hD
  refine lv_aload_n (k := 0) hx hb (by decide +kernel : decode cX2_clear 54 = .ok (.aload_n 0, 1)) rfl (lv_at hl 0 rfl) ?_
  refine lv_iload_n (k := 2) hx hb (by decide +kernel : decode cX2_clear 55 = .ok (.iload_n 2, 1)) rfl (lv_at hl 2 rfl) ?_
  refine va_put (D := D) (ci := 2) (v := .int 300) (ty := .int) (C := RX2) (T := TX2) (N := 14) hx hb hts qin2 tyX2 tyX2_ok nmX2 hown hK hP hD hS (ws.length + 0) (by rw [katA]; rfl) rfl 12 (by decide) (hts _ (kc_2_clear_0_w _ (List.mem_of_getElem? (i := 33) rfl))) (fun _ h9 => h9) rfl (by decide +kernel) rfl rfl (Nat.le_of_ble_eq_true rfl) (by decide +kernel : decode cX2_clear 56 = .ok (.putfield 80, 3)) (fun H56 locs56 hP hD hS => ?_)
  rw [ksetA] at hP hD
  have hP : va_P D vwCl (ws ++ kL18 cs v) H56 := hP
  have hD : va_D A (ws ++ kL18 cs v) := hD
  refine lv_aload_n (k := 0) hx hb (by decide +kernel : decode cX2_clear 59 = .ok (.aload_n 0, 1)) rfl (lv_at hl 0 rfl) ?_
  refine lv_iload_n (k := 3) hx hb (by decide +kernel : decode cX2_clear 60 = .ok (.iload_n 3, 1)) rfl (lv_at hl 3 rfl) ?_
  refine va_put (D := D) (ci := 2) (v := .int 20) (ty := .int) (C := RX2) (T := TX2) (N := 14) hx hb hts qin2 tyX2 tyX2_ok nmX2 hown hK hP hD hS (ws.length + 0) (by rw [katA]; rfl) rfl 13 (by decide) (hts _ (kc_2_clear_0_w _ (List.mem_of_getElem? (i := 34) rfl))) (fun _ h9 => h9) rfl (by decide +kernel) rfl rfl (Nat.le_of_ble_eq_true rfl) (by decide +kernel : decode cX2_clear 61 = .ok (.putfield 83, 3)) (fun H61 locs61 hP hD hS => ?_)
  rw [ksetA] at hP hD
  have hP : va_P D vwCl (ws ++ kL19 cs v) H61 := hP
  have hD : va_D A (ws ++ kL19 cs v) := hD
  exact W.vret hx hb hr (fun t ht hW => ⟨⟨(), rfl, trivial, by rw [ht]; exact hP, hD⟩, hS.F ht⟩) hS.2.2 (by decide +kernel : decode cX2_clear 64 = .ok (.return_, 1)) hlocks
end KD
