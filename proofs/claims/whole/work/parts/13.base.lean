/-! ===== the rows of numbers, and three small functions: total, so the evaluator takes them as functions ===== -/
def qat (f : Nat → Int32) (n : Nat) (i : Int32) : Int32 := if i < 0 ∨ nI n ≤ i then -1 else f i.toNatClampNeg
def qpt (σ : qS) (a n : Nat) (i v : Int32) : qS := if i < 0 ∨ nI n ≤ i then σ else qup σ a i.toNatClampNeg v
def qfl (σ : qS) (a n : Nat) (v : Int32) : qS := fun k j => if k = a ∧ j < n then v else σ k j
def qrow (k : Nat) : Option (Nat × Nat) := match qtab[k]? with
  | some (false, 5, 1, [(0, a)]) => match qtab[a]? with
    | some (true, 0, n, []) => some (a, n)
    | _ => none
  | _ => none
def qwi (x lo hi : Int32) : Int32 := if lo ≤ x ∧ x ≤ hi then 1 else 0
def f_at : qFn := fun as σ => match as with
  | [.inr k, .inl i] => match qrow k with
    | some (a, n) => some (qat (σ a) n i, σ)
    | none => none
  | _ => none
def f_put : qFn := fun as σ => match as with
  | [.inr k, .inl i, .inl v] => match qrow k with
    | some (a, n) => some (0, qpt σ a n i v)
    | none => none
  | _ => none
def f_fill : qFn := fun as σ => match as with
  | [.inr k, .inl v] => match qrow k with
    | some (a, n) => some (0, qfl σ a n v)
    | none => none
  | _ => none
def f_within : qFn := fun as σ => match as with
  | [.inl x, .inl lo, .inl hi] => some (qwi x lo hi, σ)
  | _ => none
def f_lesser : qFn := fun as σ => match as with
  | [.inl a, .inl b] => some (if a < b then a else b, σ)
  | _ => none
theorem qrow_ok {k a n : Nat} (h : qrow k = some (a, n)) : qtab[k]? = some (false, 5, 1, [(0, a)]) ∧ qtab[a]? = some (true, 0, n, []) := by
  unfold qrow at h
  split at h
  · rename_i a' hk
    split at h
    · rename_i n' ha
      cases h
      exact ⟨hk, ha⟩
    · cases h
  · cases h
theorem qrow_lt : ∀ k < 124, ∀ x ∈ qrow k, x.2 < 2000 := by decide +kernel
theorem qtab_len : qtab.length = 124 := by decide +kernel
theorem qrow_n {k a n : Nat} (h : qrow k = some (a, n)) : n < 2000 := by
  have h1 := qt_lt (qrow_ok h).1
  rw [qtab_len] at h1
  exact qrow_lt k h1 (a, n) h
theorem qrw9 : ∀ w ∈ [Jvm.Cond.fieldLink RX5 9 RX5 "cells" "[I"], w ∈ qgw := qgw_of [168] (by decide +kernel) (by decide +kernel)
theorem pl5 : plainName RX5 = true := by decide +kernel
theorem pl9 : plainName RX9 = true := by decide +kernel
theorem pl10 : plainName RX10 = true := by decide +kernel
section QBase
variable {g : qG}
theorem c_at (hw : qWF g) : qFnOk g mX5_at f_at := by
  intro d as σ r σ' Q T hf hQ
  match as, hf with
  | [.inr k, .inl i], hf =>
    unfold f_at at hf
    dsimp only at hf
    split at hf
    · rename_i a n hr
      cases hf
      obtain ⟨hk, ha⟩ := qrow_ok hr
      have hn := qrow_n hr
      refine qC_of (Nat.le_of_ble_eq_true rfl) pl5 hw ?_
      refine qV_iload_n (k := 1) (v := i) (by decide +kernel) rfl ?_
      refine qV_if (cd := .lt) (off := 21) (tgt := 22) (by decide +kernel) rfl (fun h0 => ?_) (fun h0 => ?_)
      · refine qV_iconst (n := -1) (by decide +kernel) ?_
        refine qV_ret (ty := .int) rfl (by decide) rfl (by decide +kernel) ?_
        unfold qat at hQ
        rw [if_pos (Or.inl (show i < 0 from h0))] at hQ
        exact hQ
      · refine qV_iload_n (k := 1) (v := i) (by decide +kernel) rfl ?_
        refine qV_aload_n (k := 0) (v := k) (by decide +kernel) rfl ?_
        refine qV_get (idx := 9) (j := 0) (q := (RX5, TX5, 1)) hk (by decide) rfl (by decide) rfl (qrw9 _ List.mem_cons_self) (by decide +kernel) ?_
        refine qV_alen (by decide) ha (by decide +kernel) ?_
        refine qV_icmp (cd := .ge) (off := 12) (tgt := 22) (by decide +kernel) rfl (fun h1 => ?_) (fun h1 => ?_)
        · refine qV_iconst (n := -1) (by decide +kernel) ?_
          refine qV_ret (ty := .int) rfl (by decide) rfl (by decide +kernel) ?_
          unfold qat at hQ
          rw [if_pos (Or.inr (show nI n ≤ i from h1))] at hQ
          exact hQ
        · refine qV_aload_n (k := 0) (v := k) (by decide +kernel) rfl ?_
          refine qV_get (idx := 9) (j := 0) (q := (RX5, TX5, 1)) hk (by decide) rfl (by decide) rfl (qrw9 _ List.mem_cons_self) (by decide +kernel) ?_
          refine qV_iload_n (k := 1) (v := i) (by decide +kernel) rfl ?_
          refine qV_iald ha (by obtain ⟨j, hj, e, -⟩ := pk_mu h0 h1 (by omega); rw [e]; exact vp_in_nI hj (by omega)) (by decide +kernel) ?_
          refine qV_goto (off := 4) (tgt := 23) (by decide +kernel) rfl ?_
          refine qV_ret (ty := .int) rfl (by decide) rfl (by decide +kernel) ?_
          unfold qat at hQ
          rw [if_neg (fun h => h.elim h0 h1)] at hQ
          exact hQ
    · cases hf
theorem c_put (hw : qWF g) : qFnOk g mX5_put f_put := by
  intro d as σ r σ' Q T hf hQ
  match as, hf with
  | [.inr k, .inl i, .inl v], hf =>
    unfold f_put at hf
    dsimp only at hf
    split at hf
    · rename_i a n hr
      cases hf
      obtain ⟨hk, ha⟩ := qrow_ok hr
      have hn := qrow_n hr
      refine qC_of (Nat.le_of_ble_eq_true rfl) pl5 hw ?_
      refine qV_iload_n (k := 1) (v := i) (by decide +kernel) rfl ?_
      refine qV_if (cd := .lt) (off := 19) (tgt := 20) (by decide +kernel) rfl (fun h0 => ?_) (fun h0 => ?_)
      · refine qV_retv rfl (by decide +kernel) ?_
        unfold qpt at hQ
        rw [if_pos (Or.inl (show i < 0 from h0))] at hQ
        exact hQ
      · refine qV_iload_n (k := 1) (v := i) (by decide +kernel) rfl ?_
        refine qV_aload_n (k := 0) (v := k) (by decide +kernel) rfl ?_
        refine qV_get (idx := 9) (j := 0) (q := (RX5, TX5, 1)) hk (by decide) rfl (by decide) rfl (qrw9 _ List.mem_cons_self) (by decide +kernel) ?_
        refine qV_alen (by decide) ha (by decide +kernel) ?_
        refine qV_icmp (cd := .ge) (off := 10) (tgt := 20) (by decide +kernel) rfl (fun h1 => ?_) (fun h1 => ?_)
        · refine qV_retv rfl (by decide +kernel) ?_
          unfold qpt at hQ
          rw [if_pos (Or.inr (show nI n ≤ i from h1))] at hQ
          exact hQ
        · refine qV_aload_n (k := 0) (v := k) (by decide +kernel) rfl ?_
          refine qV_get (idx := 9) (j := 0) (q := (RX5, TX5, 1)) hk (by decide) rfl (by decide) rfl (qrw9 _ List.mem_cons_self) (by decide +kernel) ?_
          refine qV_iload_n (k := 1) (v := i) (by decide +kernel) rfl ?_
          refine qV_iload_n (k := 2) (v := v) (by decide +kernel) rfl ?_
          refine qV_iast ha (by obtain ⟨j, hj, e, -⟩ := pk_mu h0 h1 (by omega); rw [e]; exact vp_in_nI hj (by omega)) (by decide +kernel) ?_
          refine qV_retv rfl (by decide +kernel) ?_
          unfold qpt at hQ
          rw [if_neg (fun h => h.elim h0 h1)] at hQ
          exact hQ
    · cases hf
/-- the loop of fillWith: the first c places are filled -/
theorem c_fill_loop (hw : qWF g) {k a n d : Nat} {σ : qS} {v : Int32} {Q : Int32 → qS → Prop} {T : String → qS → Prop} (hr : qrow k = some (a, n)) (hQ : Q 0 (qfl σ a n v)) : ∀ (m c : Nat), c + m = n → qV g mX5_fillWith d 0 2 [some (.inr k), some (.inl v), some (.inl (nI c))] [] (qfl σ a c v) Q T := by
  obtain ⟨hk, ha⟩ := qrow_ok hr
  have hn := qrow_n hr
  intro m
  induction m with
  | zero =>
    intro c hc
    refine qV_iload_n (k := 2) (v := nI c) (by decide +kernel) rfl ?_
    refine qV_aload_n (k := 0) (v := k) (by decide +kernel) rfl ?_
    refine qV_get (idx := 9) (j := 0) (q := (RX5, TX5, 1)) hk (by decide) rfl (by decide) rfl (qrw9 _ List.mem_cons_self) (by decide +kernel) ?_
    refine qV_alen (by decide) ha (by decide +kernel) ?_
    refine qV_icmp (cd := .ge) (off := 16) (tgt := 24) (by decide +kernel) rfl (fun h1 => ?_) (fun h1 => ?_)
    · refine qV_retv rfl (by decide +kernel) ?_
      have : c = n := by omega
      rw [this]
      exact hQ
    · exact (h1 (nI_le (by omega) (by omega))).elim
  | succ m ih =>
    intro c hc
    refine qV_iload_n (k := 2) (v := nI c) (by decide +kernel) rfl ?_
    refine qV_aload_n (k := 0) (v := k) (by decide +kernel) rfl ?_
    refine qV_get (idx := 9) (j := 0) (q := (RX5, TX5, 1)) hk (by decide) rfl (by decide) rfl (qrw9 _ List.mem_cons_self) (by decide +kernel) ?_
    refine qV_alen (by decide) ha (by decide +kernel) ?_
    refine qV_icmp (cd := .ge) (off := 16) (tgt := 24) (by decide +kernel) rfl (fun h1 => (nI_ge (by omega : c < n) (by omega) h1).elim) (fun h1 => ?_)
    refine qV_aload_n (k := 0) (v := k) (by decide +kernel) rfl ?_
    refine qV_get (idx := 9) (j := 0) (q := (RX5, TX5, 1)) hk (by decide) rfl (by decide) rfl (qrw9 _ List.mem_cons_self) (by decide +kernel) ?_
    refine qV_iload_n (k := 2) (v := nI c) (by decide +kernel) rfl ?_
    refine qV_iload_n (k := 1) (v := v) (by decide +kernel) rfl ?_
    refine qV_iast ha (vp_in_nI (by omega) (by omega)) (by decide +kernel) ?_
    refine qV_iinc (k := 2) (n := 1) (v := nI c) (by decide +kernel) rfl (by decide) ?_
    refine qV_goto (off := -19) (tgt := 2) (by decide +kernel) rfl ?_
    have e : qup (qfl σ a c v) a (nI c).toNatClampNeg v = qfl σ a (c + 1) v := by
      rw [nI_clamp (by omega)]
      funext x y
      unfold qup qfl
      by_cases hx : x = a
      · by_cases hy : y = c
        · subst hx; subst hy; simp
        · subst hx
          by_cases hy2 : y < c
          · simp [hy, hy2, Nat.lt_succ_of_lt hy2]
          · have : ¬ y < c + 1 := by omega
            simp [hy, hy2, this]
      · simp [hx]
    rw [e]
    have e2 : nI c + Int32.ofInt 1 = nI (c + 1) := (nI_succ c).symm
    have := ih (c + 1) (by omega)
    rw [← e2] at this
    exact this
theorem c_fill (hw : qWF g) : qFnOk g mX5_fillWith f_fill := by
  intro d as σ r σ' Q T hf hQ
  match as, hf with
  | [.inr k, .inl v], hf =>
    unfold f_fill at hf
    dsimp only at hf
    split at hf
    · rename_i a n hr
      cases hf
      refine qC_of (Nat.le_of_ble_eq_true rfl) pl5 hw ?_
      refine qV_iconst (n := 0) (by decide +kernel) ?_
      refine qV_istore_n (k := 2) (by decide +kernel) (by decide) ?_
      have h0 : qfl σ a 0 v = σ := by
        funext x y
        unfold qfl
        simp
      have := c_fill_loop (d := d) (T := T) hw hr hQ n 0 (by omega)
      rw [h0] at this
      exact this
    · cases hf
theorem c_within (hw : qWF g) : qFnOk g mX9_within f_within := by
  intro d as σ r σ' Q T hf hQ
  match as, hf with
  | [.inl x, .inl lo, .inl hi], hf =>
    cases hf
    refine qC_of (Nat.le_of_ble_eq_true rfl) pl9 hw ?_
    refine qV_iload_n (k := 0) (v := x) (by decide +kernel) rfl ?_
    refine qV_iload_n (k := 1) (v := lo) (by decide +kernel) rfl ?_
    have hz : ¬ (lo ≤ x ∧ x ≤ hi) → qV g mX9_within d 0 14 [some (.inl x), some (.inl lo), some (.inl hi)] [] σ Q T := fun hn => by
      refine qV_iconst (n := 0) (by decide +kernel) ?_
      refine qV_ret (ty := .boolean) rfl (by decide) rfl (by decide +kernel) ?_
      unfold qwi at hQ
      rw [if_neg hn] at hQ
      exact hQ
    refine qV_icmp (cd := .lt) (off := 12) (tgt := 14) (by decide +kernel) rfl (fun h0 => ?_) (fun h0 => ?_)
    · exact hz (fun h => by have h1 := h.1; have h0 : x < lo := h0; rw [Int32.lt_iff_toInt_lt] at h0; rw [Int32.le_iff_toInt_le] at h1; omega)
    · refine qV_iload_n (k := 0) (v := x) (by decide +kernel) rfl ?_
      refine qV_iload_n (k := 2) (v := hi) (by decide +kernel) rfl ?_
      refine qV_icmp (cd := .gt) (off := 7) (tgt := 14) (by decide +kernel) rfl (fun h1 => ?_) (fun h1 => ?_)
      · exact hz (fun h => by have h2 := h.2; have h1 : hi < x := h1; rw [Int32.lt_iff_toInt_lt] at h1; rw [Int32.le_iff_toInt_le] at h2; omega)
      · refine qV_iconst (n := 1) (by decide +kernel) ?_
        refine qV_goto (off := 4) (tgt := 15) (by decide +kernel) rfl ?_
        refine qV_ret (ty := .boolean) rfl (by decide) rfl (by decide +kernel) ?_
        unfold qwi at hQ
        rw [if_pos ⟨by have h0 : ¬ x < lo := h0; rw [Int32.lt_iff_toInt_lt] at h0; rw [Int32.le_iff_toInt_le]; omega, by have h1 : ¬ hi < x := h1; rw [Int32.lt_iff_toInt_lt] at h1; rw [Int32.le_iff_toInt_le]; omega⟩] at hQ
        exact hQ
theorem c_inRange (hw : qWF g) : qFnOk g mX10_inRange f_within := by
  intro d as σ r σ' Q T hf hQ
  match as, hf with
  | [.inl x, .inl lo, .inl hi], hf =>
    cases hf
    refine qC_of (Nat.le_of_ble_eq_true rfl) pl10 hw ?_
    refine qV_iload_n (k := 0) (v := x) (by decide +kernel) rfl ?_
    refine qV_iload_n (k := 1) (v := lo) (by decide +kernel) rfl ?_
    have hz : ¬ (lo ≤ x ∧ x ≤ hi) → qV g mX10_inRange d 0 14 [some (.inl x), some (.inl lo), some (.inl hi)] [] σ Q T := fun hn => by
      refine qV_iconst (n := 0) (by decide +kernel) ?_
      refine qV_ret (ty := .boolean) rfl (by decide) rfl (by decide +kernel) ?_
      unfold qwi at hQ
      rw [if_neg hn] at hQ
      exact hQ
    refine qV_icmp (cd := .lt) (off := 12) (tgt := 14) (by decide +kernel) rfl (fun h0 => ?_) (fun h0 => ?_)
    · exact hz (fun h => by have h1 := h.1; have h0 : x < lo := h0; rw [Int32.lt_iff_toInt_lt] at h0; rw [Int32.le_iff_toInt_le] at h1; omega)
    · refine qV_iload_n (k := 0) (v := x) (by decide +kernel) rfl ?_
      refine qV_iload_n (k := 2) (v := hi) (by decide +kernel) rfl ?_
      refine qV_icmp (cd := .gt) (off := 7) (tgt := 14) (by decide +kernel) rfl (fun h1 => ?_) (fun h1 => ?_)
      · exact hz (fun h => by have h2 := h.2; have h1 : hi < x := h1; rw [Int32.lt_iff_toInt_lt] at h1; rw [Int32.le_iff_toInt_le] at h2; omega)
      · refine qV_iconst (n := 1) (by decide +kernel) ?_
        refine qV_goto (off := 4) (tgt := 15) (by decide +kernel) rfl ?_
        refine qV_ret (ty := .boolean) rfl (by decide) rfl (by decide +kernel) ?_
        unfold qwi at hQ
        rw [if_pos ⟨by have h0 : ¬ x < lo := h0; rw [Int32.lt_iff_toInt_lt] at h0; rw [Int32.le_iff_toInt_le]; omega, by have h1 : ¬ hi < x := h1; rw [Int32.lt_iff_toInt_lt] at h1; rw [Int32.le_iff_toInt_le]; omega⟩] at hQ
        exact hQ
theorem c_lesser (hw : qWF g) : qFnOk g mX10_lesser f_lesser := by
  intro d as σ r σ' Q T hf hQ
  match as, hf with
  | [.inl a, .inl b], hf =>
    cases hf
    refine qC_of (Nat.le_of_ble_eq_true rfl) pl10 hw ?_
    refine qV_iload_n (k := 0) (v := a) (by decide +kernel) rfl ?_
    refine qV_iload_n (k := 1) (v := b) (by decide +kernel) rfl ?_
    refine qV_icmp (cd := .ge) (off := 7) (tgt := 9) (by decide +kernel) rfl (fun h0 => ?_) (fun h0 => ?_)
    · refine qV_iload_n (k := 1) (v := b) (by decide +kernel) rfl ?_
      refine qV_ret (ty := .int) rfl (by decide) rfl (by decide +kernel) ?_
      rw [if_neg (fun h => by have h0 : b ≤ a := h0; rw [Int32.lt_iff_toInt_lt] at h; rw [Int32.le_iff_toInt_le] at h0; omega)] at hQ
      exact hQ
    · refine qV_iload_n (k := 0) (v := a) (by decide +kernel) rfl ?_
      refine qV_goto (off := 4) (tgt := 10) (by decide +kernel) rfl ?_
      refine qV_ret (ty := .int) rfl (by decide) rfl (by decide +kernel) ?_
      rw [if_pos (by have h0 : ¬ b ≤ a := h0; rw [Int32.lt_iff_toInt_lt]; rw [Int32.le_iff_toInt_le] at h0; omega)] at hQ
      exact hQ
end QBase
