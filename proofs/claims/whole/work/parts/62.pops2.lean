/-! ===== pairs: operations ===== -/
section PO
variable {g : qG}
theorem pr_8 (hw : qWF g) : ∀ (σ : qS), lR σ → lPair g 20 lR mX9_begin mX10_begin [] ["java/lang/IllegalStateException"] σ := by
  rintro σ ⟨m, rfl, hJ, hr⟩
  have K := fun (Q : Int32 → qS → Prop) (T : String → qS → Prop) => k_oper (d := 12) (Q := Q) (T := T) (wd := 256) (a := 0) (b := 0) (c := 0) (tx := -1) hw hJ (by unfold wdR; omega) (by unfold i32; omega) (by unfold i32; omega) (by unfold i32; omega) (by unfold i32; omega)
  by_cases hI : bI m 256 (0) (0) (-1)
  · exact absurd hI (by unfold bI; omega)
  by_cases hA : bA 256 (0) (0) (0)
  · exact absurd hA (by unfold bA; omega)
  by_cases hS : bS m 256 (0) (-1)
  · refine pair_of (o := .inr 0) (a' := m) (k_thr rfl fun Q T hT => wX9_begin hw (K Q T (fun h => (hI h).elim) (fun _ h => (hA h).elim) (fun _ _ _ => hT) (fun _ _ h => (h hS).elim))) (mw_256t (d := 11) hw hJ hS) hr hJ (fun _ _ => rfl) (es_n1 _)
  · have J := (p_all (c := 0) (b := 0) hw hJ (wd := 256) (by unfold wdR; omega) hI hA hS).1
    exact pair_of (o := .inl (opA m 256 (0) (0) (0) (-1))) (a' := stS (opS m 256 (0) (0) (0) (-1))) (k_ret fun Q T hQ => wX9_begin hw (K Q T (fun h => (hI h).elim) (fun _ h => (hA h).elim) (fun _ _ h => (hS h).elim) (fun _ _ _ => hQ))) (mw_256r (d := 11) hw hJ hS) hr (j_stS J) (fun k hk => sto m _ _ _ _ _ (Or.inr (by omega))) (es_n1 _)
theorem pr_9 (hw : qWF g) : ∀ (σ : qS) (a1 : Int32), lR σ → lPair g 20 lR mX9_commit mX10_commit [.inl a1] ["java/lang/IndexOutOfBoundsException", "java/lang/IllegalStateException"] σ := by
  rintro σ x1 ⟨m, rfl, hJ, hr⟩
  obtain ⟨a, ia, rfl⟩ := z_of x1
  have K := fun (Q : Int32 → qS → Prop) (T : String → qS → Prop) => k_oper (d := 12) (Q := Q) (T := T) (wd := 257) (a := a) (b := 0) (c := 0) (tx := -1) hw hJ (by unfold wdR; omega) ia (by unfold i32; omega) (by unfold i32; omega) (by unfold i32; omega)
  by_cases hI : bI m 257 (a) (0) (-1)
  · refine pair_of (o := .inr 0) (a' := m) (k_thr rfl fun Q T hT => wX9_commit hw (K Q T (fun _ => hT) (fun h => (h hI).elim) (fun h => (h hI).elim) (fun h => (h hI).elim))) (mw_257i (d := 10) hw hJ ia hI) hr hJ (fun _ _ => rfl) (es_n2 (by decide))
  by_cases hA : bA 257 (a) (0) (0)
  · exact absurd hA (by unfold bA; omega)
  by_cases hS : bS m 257 (a) (-1)
  · refine pair_of (o := .inr 1) (a' := m) (k_thr rfl fun Q T hT => wX9_commit hw (K Q T (fun h => (hI h).elim) (fun _ h => (hA h).elim) (fun _ _ _ => hT) (fun _ _ h => (h hS).elim))) (mw_257s (d := 10) hw hJ ia hI hS) hr hJ (fun _ _ => rfl) (es_n2 (by decide))
  · have J := (p_all (c := 0) (b := 0) hw hJ (wd := 257) (by unfold wdR; omega) hI hA hS).1
    exact pair_of (o := .inl (opA m 257 (a) (0) (0) (-1))) (a' := stS (opS m 257 (a) (0) (0) (-1))) (k_ret fun Q T hQ => wX9_commit hw (K Q T (fun h => (hI h).elim) (fun _ h => (hA h).elim) (fun _ _ h => (hS h).elim) (fun _ _ _ => hQ))) (mw_257r (d := 10) hw hJ hI hS) hr (j_stS J) (fun k hk => sto m _ _ _ _ _ (Or.inr (by omega))) (es_n2 (by decide))
theorem pr_10 (hw : qWF g) : ∀ (σ : qS) (a1 : Int32), lR σ → lPair g 20 lR mX9_abort mX10_abort [.inl a1] ["java/lang/IndexOutOfBoundsException", "java/lang/IllegalStateException"] σ := by
  rintro σ x1 ⟨m, rfl, hJ, hr⟩
  obtain ⟨a, ia, rfl⟩ := z_of x1
  have K := fun (Q : Int32 → qS → Prop) (T : String → qS → Prop) => k_oper (d := 12) (Q := Q) (T := T) (wd := 258) (a := a) (b := 0) (c := 0) (tx := -1) hw hJ (by unfold wdR; omega) ia (by unfold i32; omega) (by unfold i32; omega) (by unfold i32; omega)
  by_cases hI : bI m 258 (a) (0) (-1)
  · refine pair_of (o := .inr 0) (a' := m) (k_thr rfl fun Q T hT => wX9_abort hw (K Q T (fun _ => hT) (fun h => (h hI).elim) (fun h => (h hI).elim) (fun h => (h hI).elim))) (mw_258i (d := 10) hw hJ ia hI) hr hJ (fun _ _ => rfl) (es_n2 (by decide))
  by_cases hA : bA 258 (a) (0) (0)
  · exact absurd hA (by unfold bA; omega)
  by_cases hS : bS m 258 (a) (-1)
  · refine pair_of (o := .inr 1) (a' := m) (k_thr rfl fun Q T hT => wX9_abort hw (K Q T (fun h => (hI h).elim) (fun _ h => (hA h).elim) (fun _ _ _ => hT) (fun _ _ h => (h hS).elim))) (mw_258s (d := 10) hw hJ ia hI hS) hr hJ (fun _ _ => rfl) (es_n2 (by decide))
  · have J := (p_all (c := 0) (b := 0) hw hJ (wd := 258) (by unfold wdR; omega) hI hA hS).1
    exact pair_of (o := .inl (opA m 258 (a) (0) (0) (-1))) (a' := stS (opS m 258 (a) (0) (0) (-1))) (k_ret fun Q T hQ => wX9_abort hw (K Q T (fun h => (hI h).elim) (fun _ h => (hA h).elim) (fun _ _ h => (hS h).elim) (fun _ _ _ => hQ))) (mw_258r (d := 10) hw hJ hI hS) hr (j_stS J) (fun k hk => sto m _ _ _ _ _ (Or.inr (by omega))) (es_n2 (by decide))
theorem pr_11 (hw : qWF g) : ∀ (σ : qS) (a1 a2 a3 a4 : Int32), lR σ → lPair g 20 lR mX9_write mX10_write [.inl a1, .inl a2, .inl a3, .inl a4] ["java/lang/IndexOutOfBoundsException", "java/lang/IllegalArgumentException", "java/lang/IllegalStateException"] σ := by
  rintro σ x1 x2 x3 x4 ⟨m, rfl, hJ, hr⟩
  obtain ⟨a, ia, rfl⟩ := z_of x1
  obtain ⟨b, ib, rfl⟩ := z_of x2
  obtain ⟨c, ic, rfl⟩ := z_of x3
  obtain ⟨tx, itx, rfl⟩ := z_of x4
  have K := fun (Q : Int32 → qS → Prop) (T : String → qS → Prop) => k_oper (d := 12) (Q := Q) (T := T) (wd := 259) (a := a) (b := b) (c := c) (tx := tx) hw hJ (by unfold wdR; omega) ia ib ic itx
  by_cases hI : bI m 259 (a) (b) (tx)
  · refine pair_of (o := .inr 0) (a' := m) (k_thr rfl fun Q T hT => wX9_write hw (K Q T (fun _ => hT) (fun h => (h hI).elim) (fun h => (h hI).elim) (fun h => (h hI).elim))) (mw_259i (d := 10) hw hJ ia ib ic itx hI) hr hJ (fun _ _ => rfl) (es_n3 (by decide) (by decide) (by decide))
  by_cases hA : bA 259 (a) (b) (c)
  · refine pair_of (o := .inr 1) (a' := m) (k_thr rfl fun Q T hT => wX9_write hw (K Q T (fun h => (hI h).elim) (fun _ _ => hT) (fun _ h => (h hA).elim) (fun _ h => (h hA).elim))) (mw_259a (d := 10) hw hJ ia ib ic itx hI hA) hr hJ (fun _ _ => rfl) (es_n3 (by decide) (by decide) (by decide))
  by_cases hS : bS m 259 (a) (tx)
  · refine pair_of (o := .inr 2) (a' := m) (k_thr rfl fun Q T hT => wX9_write hw (K Q T (fun h => (hI h).elim) (fun _ h => (hA h).elim) (fun _ _ _ => hT) (fun _ _ h => (h hS).elim))) (mw_259s (d := 10) hw hJ ia ib ic itx hI hA hS) hr hJ (fun _ _ => rfl) (es_n3 (by decide) (by decide) (by decide))
  · have J := (p_all (c := c) (b := b) hw hJ (wd := 259) (by unfold wdR; omega) hI hA hS).1
    exact pair_of (o := .inl (opA m 259 (a) (b) (c) (tx))) (a' := stS (opS m 259 (a) (b) (c) (tx))) (k_ret fun Q T hQ => wX9_write hw (K Q T (fun h => (hI h).elim) (fun _ h => (hA h).elim) (fun _ _ h => (hS h).elim) (fun _ _ _ => hQ))) (mw_259r (d := 10) hw hJ ia ib ic itx hI hA hS) hr (j_stS J) (fun k hk => sto m _ _ _ _ _ (Or.inr (by omega))) (es_n3 (by decide) (by decide) (by decide))
theorem pr_12 (hw : qWF g) : ∀ (σ : qS) (a1 a2 : Int32), lR σ → lPair g 20 lR mX9_remove mX10_remove [.inl a1, .inl a2] ["java/lang/IndexOutOfBoundsException", "java/lang/IllegalStateException"] σ := by
  rintro σ x1 x2 ⟨m, rfl, hJ, hr⟩
  obtain ⟨a, ia, rfl⟩ := z_of x1
  obtain ⟨tx, itx, rfl⟩ := z_of x2
  have K := fun (Q : Int32 → qS → Prop) (T : String → qS → Prop) => k_oper (d := 12) (Q := Q) (T := T) (wd := 260) (a := a) (b := 0) (c := 0) (tx := tx) hw hJ (by unfold wdR; omega) ia (by unfold i32; omega) (by unfold i32; omega) itx
  by_cases hI : bI m 260 (a) (0) (tx)
  · refine pair_of (o := .inr 0) (a' := m) (k_thr rfl fun Q T hT => wX9_remove hw (K Q T (fun _ => hT) (fun h => (h hI).elim) (fun h => (h hI).elim) (fun h => (h hI).elim))) (mw_260i (d := 10) (c := 0) hw hJ ia (by unfold i32; omega) (by unfold i32; omega) itx hI) hr hJ (fun _ _ => rfl) (es_n2 (by decide))
  by_cases hA : bA 260 (a) (0) (0)
  · exact absurd hA (by unfold bA; omega)
  by_cases hS : bS m 260 (a) (tx)
  · refine pair_of (o := .inr 1) (a' := m) (k_thr rfl fun Q T hT => wX9_remove hw (K Q T (fun h => (hI h).elim) (fun _ h => (hA h).elim) (fun _ _ _ => hT) (fun _ _ h => (h hS).elim))) (mw_260s (d := 10) (c := 0) hw hJ ia (by unfold i32; omega) (by unfold i32; omega) itx hI hS) hr hJ (fun _ _ => rfl) (es_n2 (by decide))
  · have J := (p_all (c := 0) (b := 0) hw hJ (wd := 260) (by unfold wdR; omega) hI hA hS).1
    exact pair_of (o := .inl (opA m 260 (a) (0) (0) (tx))) (a' := stS (opS m 260 (a) (0) (0) (tx))) (k_ret fun Q T hQ => wX9_remove hw (K Q T (fun h => (hI h).elim) (fun _ h => (hA h).elim) (fun _ _ h => (hS h).elim) (fun _ _ _ => hQ))) (mw_260r (d := 10) hw hJ ia (by unfold i32; omega) (by unfold i32; omega) itx hI hA hS) hr (j_stS J) (fun k hk => sto m _ _ _ _ _ (Or.inr (by omega))) (es_n2 (by decide))
theorem pr_13 (hw : qWF g) : ∀ (σ : qS) (a1 a2 a3 : Int32), lR σ → lPair g 20 lR mX9_copy mX10_copy [.inl a1, .inl a2, .inl a3] ["java/lang/IndexOutOfBoundsException", "java/lang/IllegalArgumentException", "java/lang/IllegalStateException"] σ := by
  rintro σ x1 x2 x3 ⟨m, rfl, hJ, hr⟩
  obtain ⟨a, ia, rfl⟩ := z_of x1
  obtain ⟨b, ib, rfl⟩ := z_of x2
  obtain ⟨tx, itx, rfl⟩ := z_of x3
  have K := fun (Q : Int32 → qS → Prop) (T : String → qS → Prop) => k_oper (d := 12) (Q := Q) (T := T) (wd := 261) (a := a) (b := b) (c := 0) (tx := tx) hw hJ (by unfold wdR; omega) ia ib (by unfold i32; omega) itx
  by_cases hI : bI m 261 (a) (b) (tx)
  · refine pair_of (o := .inr 0) (a' := m) (k_thr rfl fun Q T hT => wX9_copy hw (K Q T (fun _ => hT) (fun h => (h hI).elim) (fun h => (h hI).elim) (fun h => (h hI).elim))) (mw_261i (d := 10) (c := 0) hw hJ ia ib (by unfold i32; omega) itx hI) hr hJ (fun _ _ => rfl) (es_n3 (by decide) (by decide) (by decide))
  by_cases hA : bA 261 (a) (b) (0)
  · refine pair_of (o := .inr 1) (a' := m) (k_thr rfl fun Q T hT => wX9_copy hw (K Q T (fun h => (hI h).elim) (fun _ _ => hT) (fun _ h => (h hA).elim) (fun _ h => (h hA).elim))) (mw_261a (d := 10) hw hJ ia ib (by unfold i32; omega) itx hI hA) hr hJ (fun _ _ => rfl) (es_n3 (by decide) (by decide) (by decide))
  by_cases hS : bS m 261 (a) (tx)
  · refine pair_of (o := .inr 2) (a' := m) (k_thr rfl fun Q T hT => wX9_copy hw (K Q T (fun h => (hI h).elim) (fun _ h => (hA h).elim) (fun _ _ _ => hT) (fun _ _ h => (h hS).elim))) (mw_261s (d := 10) hw hJ ia ib (by unfold i32; omega) itx hI hA hS) hr hJ (fun _ _ => rfl) (es_n3 (by decide) (by decide) (by decide))
  · have J := (p_all (c := 0) (b := b) hw hJ (wd := 261) (by unfold wdR; omega) hI hA hS).1
    exact pair_of (o := .inl (opA m 261 (a) (b) (0) (tx))) (a' := stS (opS m 261 (a) (b) (0) (tx))) (k_ret fun Q T hQ => wX9_copy hw (K Q T (fun h => (hI h).elim) (fun _ h => (hA h).elim) (fun _ _ h => (hS h).elim) (fun _ _ _ => hQ))) (mw_261r (d := 10) hw hJ ia ib (by unfold i32; omega) itx hI hA hS) hr (j_stS J) (fun k hk => sto m _ _ _ _ _ (Or.inr (by omega))) (es_n3 (by decide) (by decide) (by decide))
theorem pr_14 (hw : qWF g) : ∀ (σ : qS) (a1 a2 a3 a4 : Int32), lR σ → lPair g 20 lR mX9_send mX10_send [.inl a1, .inl a2, .inl a3, .inl a4] ["java/lang/IndexOutOfBoundsException", "java/lang/IllegalArgumentException", "java/lang/IllegalStateException"] σ := by
  rintro σ x1 x2 x3 x4 ⟨m, rfl, hJ, hr⟩
  obtain ⟨a, ia, rfl⟩ := z_of x1
  obtain ⟨b, ib, rfl⟩ := z_of x2
  obtain ⟨c, ic, rfl⟩ := z_of x3
  obtain ⟨tx, itx, rfl⟩ := z_of x4
  have K := fun (Q : Int32 → qS → Prop) (T : String → qS → Prop) => k_oper (d := 12) (Q := Q) (T := T) (wd := 262) (a := a) (b := b) (c := c) (tx := tx) hw hJ (by unfold wdR; omega) ia ib ic itx
  by_cases hI : bI m 262 (a) (b) (tx)
  · refine pair_of (o := .inr 0) (a' := m) (k_thr rfl fun Q T hT => wX9_send hw (K Q T (fun _ => hT) (fun h => (h hI).elim) (fun h => (h hI).elim) (fun h => (h hI).elim))) (mw_262i (d := 10) hw hJ ia ib ic itx hI) hr hJ (fun _ _ => rfl) (es_n3 (by decide) (by decide) (by decide))
  by_cases hA : bA 262 (a) (b) (c)
  · refine pair_of (o := .inr 1) (a' := m) (k_thr rfl fun Q T hT => wX9_send hw (K Q T (fun h => (hI h).elim) (fun _ _ => hT) (fun _ h => (h hA).elim) (fun _ h => (h hA).elim))) (mw_262a (d := 10) hw hJ ia ib ic itx hI hA) hr hJ (fun _ _ => rfl) (es_n3 (by decide) (by decide) (by decide))
  by_cases hS : bS m 262 (a) (tx)
  · refine pair_of (o := .inr 2) (a' := m) (k_thr rfl fun Q T hT => wX9_send hw (K Q T (fun h => (hI h).elim) (fun _ h => (hA h).elim) (fun _ _ _ => hT) (fun _ _ h => (h hS).elim))) (mw_262s (d := 10) hw hJ ia ib ic itx hI hA hS) hr hJ (fun _ _ => rfl) (es_n3 (by decide) (by decide) (by decide))
  · have J := (p_all (c := c) (b := b) hw hJ (wd := 262) (by unfold wdR; omega) hI hA hS).1
    exact pair_of (o := .inl (opA m 262 (a) (b) (c) (tx))) (a' := stS (opS m 262 (a) (b) (c) (tx))) (k_ret fun Q T hQ => wX9_send hw (K Q T (fun h => (hI h).elim) (fun _ h => (hA h).elim) (fun _ _ h => (hS h).elim) (fun _ _ _ => hQ))) (mw_262r (d := 10) hw hJ ia ib ic itx hI hA hS) hr (j_stS J) (fun k hk => sto m _ _ _ _ _ (Or.inr (by omega))) (es_n3 (by decide) (by decide) (by decide))
theorem pr_15 (hw : qWF g) : ∀ (σ : qS) (a1 : Int32), lR σ → lPair g 20 lR mX9_join mX10_join [.inl a1] ["java/lang/IndexOutOfBoundsException", "java/lang/IllegalStateException"] σ := by
  rintro σ x1 ⟨m, rfl, hJ, hr⟩
  obtain ⟨a, ia, rfl⟩ := z_of x1
  have K := fun (Q : Int32 → qS → Prop) (T : String → qS → Prop) => k_oper (d := 12) (Q := Q) (T := T) (wd := 263) (a := a) (b := 0) (c := 0) (tx := -1) hw hJ (by unfold wdR; omega) ia (by unfold i32; omega) (by unfold i32; omega) (by unfold i32; omega)
  by_cases hI : bI m 263 (a) (0) (-1)
  · refine pair_of (o := .inr 0) (a' := m) (k_thr rfl fun Q T hT => wX9_join hw (K Q T (fun _ => hT) (fun h => (h hI).elim) (fun h => (h hI).elim) (fun h => (h hI).elim))) (mw_263i (d := 10) hw hJ ia hI) hr hJ (fun _ _ => rfl) (es_n2 (by decide))
  by_cases hA : bA 263 (a) (0) (0)
  · exact absurd hA (by unfold bA; omega)
  by_cases hS : bS m 263 (a) (-1)
  · refine pair_of (o := .inr 1) (a' := m) (k_thr rfl fun Q T hT => wX9_join hw (K Q T (fun h => (hI h).elim) (fun _ h => (hA h).elim) (fun _ _ _ => hT) (fun _ _ h => (h hS).elim))) (mw_263s (d := 10) hw hJ hI hS) hr hJ (fun _ _ => rfl) (es_n2 (by decide))
  · have J := (p_all (c := 0) (b := 0) hw hJ (wd := 263) (by unfold wdR; omega) hI hA hS).1
    exact pair_of (o := .inl (opA m 263 (a) (0) (0) (-1))) (a' := stS (opS m 263 (a) (0) (0) (-1))) (k_ret fun Q T hQ => wX9_join hw (K Q T (fun h => (hI h).elim) (fun _ h => (hA h).elim) (fun _ _ h => (hS h).elim) (fun _ _ _ => hQ))) (mw_263r (d := 10) hw hJ hI hS) hr (j_stS J) (fun k hk => sto m _ _ _ _ _ (Or.inr (by omega))) (es_n2 (by decide))
end PO
