/-! ===== the reference's runner: calls, exceptions, blocks ===== -/
def fM (m b : aS) : Prop := (∀ k : Nat, k < 86 ∨ 111 ≤ k → b k = m k) ∧ (∀ i, 38 ≤ i → b 86 i = m 86 i)
def xo (wd th : Int) : Int := if wd = 256 ∨ wd = 266 then 3 else if wd = 257 ∨ wd = 258 ∨ wd = 260 ∨ wd = 263 then (if th = 1 then 1 else 3) else th
theorem mP_use {g : qG} {D : Nat} {M : qMd} {as : List qP} {s s' m : aS} {o : Int ⊕ Nat} {Q : Int32 → qS → Prop} {T : String → qS → Prop} (h : mP g D M as s s' o) (hr : rJ s m) (hQ : ∀ b, rJ s' b → fM m b → (∀ v, o = .inl v → b 86 0 = 0) → (∀ j : Nat, o = .inr j → b 86 0 = j + 1) → ∀ r, Q r (qi b)) : qC g D M (.inr 86 :: as) (qi m) Q T :=
  qC_mono (h m Q hr (fun b r h1 h2 h3 h4 h5 => hQ b h1 ⟨h2, h3⟩ h4 h5 (iI r))) (fun _ _ h => h) (fun _ _ h => h.elim)
section MZ
variable {g : qG} {d : Nat} {Q : Int32 → qS → Prop} {T : String → qS → Prop} {s m v : aS} {c K : Int} {J E : Int → Int}
theorem m_call256 (hw : qWF g) (hJ : jJ s) (hr : rJ s m) {k a b c tx : Int} (k0 : 0 ≤ k) (k1 : k < 60) (ia : i32 a) (ib : i32 b) (ic : i32 c) (it : i32 tx) (e112 : m 112 k = 0)
    (hf : ∀ (y : aS) (f th : Int), ((bI s 256 a b (-1) ∧ f = 1) ∨ (¬ bI s 256 a b (-1) ∧ bA 256 a b c ∧ f = 2) ∨ (¬ bI s 256 a b (-1) ∧ ¬ bA 256 a b c ∧ bS s 256 a (-1) ∧ f = 3)) → rJ s y → fM m y → y 86 0 = th → 1 ≤ th → th ≤ 3 → xo 256 th = f → Q (iI 0) (qi y))
    (h0 : ∀ y : aS, (¬ bI s 256 a b (-1) ∧ ¬ bA 256 a b c ∧ ¬ bS s 256 a (-1)) → rJ (stS (opS s 256 a b c (-1))) y → fM m y → y 86 0 = 0 → Q (iI 0) (qi y)) : qC g (d + 11) mX10_call [.inr 86, .inl (iI k)] (qi m) Q T := by
  have fin : qC g (d + 10) mX10_begin [.inr 86] (qi m) (fun _ s20 => Q (iI 0) s20) T → qC g (d + 11) mX10_call [.inr 86, .inl (iI k)] (qi m) Q T := fun q => by
    clear hf h0
    refine wX10_call hw ?_
    simp (disch := omega) only [z_app, z_rd, z_cl, z_add, z_sub, z_mul, z_neg, z_lit, z_leT, z_leF, z_ltT, z_ltF, z_eqT, z_eqF, i_leT, i_leF, i_ltT, i_ltF, i_eqT, i_eqF, z_le, z_lt, z_eq, z_ite, z_at, z_pt, z_up, z_wr, z_wi1, z_wi0, z_wi, z_inS, z_toInt, z_nb0, z_nb1, Int.cast_ofNat_Int, true_and, and_true, not_true_eq_false, not_false_eq_true, false_imp_iff, true_imp_iff, aup_o, aup_k, ite_true, ite_false, z_fa000, z_fa001, z_fa010, z_fa011, z_fa100, z_fa101, z_fa110, z_fa111, if_true, if_false, e112]
    exact q
  have hI : ¬ bI s 256 a b (-1) := by unfold bI; omega
  have hA : ¬ bA 256 a b c := by unfold bA; omega
  by_cases hS : bS s 256 a (-1)
  · exact fin (mP_use (mx_256t (d := d + 1) (a := a) hw hJ hS) hr (fun y y1 y2 y3 y4 r => hf y 3 1 (Or.inr (Or.inr ⟨hI, hA, hS, rfl⟩)) y1 y2 (by have z := y4 0 rfl; omega) (by decide) (by decide) (by decide)))
  exact fin (mP_use (mx_256r (d := d + 1) (a := a) (b := b) (c := c) hw hJ hS) hr (fun y y1 y2 y3 y4 r => h0 y ⟨hI, hA, hS⟩ y1 y2 (y3 _ rfl)))
theorem m_call257 (hw : qWF g) (hJ : jJ s) (hr : rJ s m) {k a b c tx : Int} (k0 : 0 ≤ k) (k1 : k < 60) (ia : i32 a) (ib : i32 b) (ic : i32 c) (it : i32 tx) (e112 : m 112 k = 1) (ea : iI (m 114 (4 * k)) = iI a)
    (hf : ∀ (y : aS) (f th : Int), ((bI s 257 a b (-1) ∧ f = 1) ∨ (¬ bI s 257 a b (-1) ∧ bA 257 a b c ∧ f = 2) ∨ (¬ bI s 257 a b (-1) ∧ ¬ bA 257 a b c ∧ bS s 257 a (-1) ∧ f = 3)) → rJ s y → fM m y → y 86 0 = th → 1 ≤ th → th ≤ 3 → xo 257 th = f → Q (iI 0) (qi y))
    (h0 : ∀ y : aS, (¬ bI s 257 a b (-1) ∧ ¬ bA 257 a b c ∧ ¬ bS s 257 a (-1)) → rJ (stS (opS s 257 a b c (-1))) y → fM m y → y 86 0 = 0 → Q (iI 0) (qi y)) : qC g (d + 11) mX10_call [.inr 86, .inl (iI k)] (qi m) Q T := by
  have fin : qC g (d + 10) mX10_commit [.inr 86, .inl (iI a)] (qi m) (fun _ s20 => Q (iI 0) s20) T → qC g (d + 11) mX10_call [.inr 86, .inl (iI k)] (qi m) Q T := fun q => by
    clear hf h0
    refine wX10_call hw ?_
    simp (disch := omega) only [z_app, z_rd, z_cl, z_add, z_sub, z_mul, z_neg, z_lit, z_leT, z_leF, z_ltT, z_ltF, z_eqT, z_eqF, i_leT, i_leF, i_ltT, i_ltF, i_eqT, i_eqF, z_le, z_lt, z_eq, z_ite, z_at, z_pt, z_up, z_wr, z_wi1, z_wi0, z_wi, z_inS, z_toInt, z_nb0, z_nb1, Int.cast_ofNat_Int, true_and, and_true, not_true_eq_false, not_false_eq_true, false_imp_iff, true_imp_iff, aup_o, aup_k, ite_true, ite_false, z_fa000, z_fa001, z_fa010, z_fa011, z_fa100, z_fa101, z_fa110, z_fa111, if_true, if_false, e112, ea]
    exact q
  by_cases hI : bI s 257 a b (-1)
  · exact fin (mP_use (mx_257i (b := b) hw hJ ia hI) hr (fun y y1 y2 y3 y4 r => hf y 1 1 (Or.inl ⟨hI, rfl⟩) y1 y2 (by have z := y4 0 rfl; omega) (by decide) (by decide) (by decide)))
  have hA : ¬ bA 257 a b c := by unfold bA; omega
  by_cases hS : bS s 257 a (-1)
  · exact fin (mP_use (mx_257s (b := b) hw hJ ia hI hS) hr (fun y y1 y2 y3 y4 r => hf y 3 2 (Or.inr (Or.inr ⟨hI, hA, hS, rfl⟩)) y1 y2 (by have z := y4 1 rfl; omega) (by decide) (by decide) (by decide)))
  exact fin (mP_use (mx_257r (b := b) (c := c) hw hJ hI hS) hr (fun y y1 y2 y3 y4 r => h0 y ⟨hI, hA, hS⟩ y1 y2 (y3 _ rfl)))
theorem m_call258 (hw : qWF g) (hJ : jJ s) (hr : rJ s m) {k a b c tx : Int} (k0 : 0 ≤ k) (k1 : k < 60) (ia : i32 a) (ib : i32 b) (ic : i32 c) (it : i32 tx) (e112 : m 112 k = 2) (ea : iI (m 114 (4 * k)) = iI a)
    (hf : ∀ (y : aS) (f th : Int), ((bI s 258 a b (-1) ∧ f = 1) ∨ (¬ bI s 258 a b (-1) ∧ bA 258 a b c ∧ f = 2) ∨ (¬ bI s 258 a b (-1) ∧ ¬ bA 258 a b c ∧ bS s 258 a (-1) ∧ f = 3)) → rJ s y → fM m y → y 86 0 = th → 1 ≤ th → th ≤ 3 → xo 258 th = f → Q (iI 0) (qi y))
    (h0 : ∀ y : aS, (¬ bI s 258 a b (-1) ∧ ¬ bA 258 a b c ∧ ¬ bS s 258 a (-1)) → rJ (stS (opS s 258 a b c (-1))) y → fM m y → y 86 0 = 0 → Q (iI 0) (qi y)) : qC g (d + 11) mX10_call [.inr 86, .inl (iI k)] (qi m) Q T := by
  have fin : qC g (d + 10) mX10_abort [.inr 86, .inl (iI a)] (qi m) (fun _ s20 => Q (iI 0) s20) T → qC g (d + 11) mX10_call [.inr 86, .inl (iI k)] (qi m) Q T := fun q => by
    clear hf h0
    refine wX10_call hw ?_
    simp (disch := omega) only [z_app, z_rd, z_cl, z_add, z_sub, z_mul, z_neg, z_lit, z_leT, z_leF, z_ltT, z_ltF, z_eqT, z_eqF, i_leT, i_leF, i_ltT, i_ltF, i_eqT, i_eqF, z_le, z_lt, z_eq, z_ite, z_at, z_pt, z_up, z_wr, z_wi1, z_wi0, z_wi, z_inS, z_toInt, z_nb0, z_nb1, Int.cast_ofNat_Int, true_and, and_true, not_true_eq_false, not_false_eq_true, false_imp_iff, true_imp_iff, aup_o, aup_k, ite_true, ite_false, z_fa000, z_fa001, z_fa010, z_fa011, z_fa100, z_fa101, z_fa110, z_fa111, if_true, if_false, e112, ea]
    exact q
  by_cases hI : bI s 258 a b (-1)
  · exact fin (mP_use (mx_258i (b := b) hw hJ ia hI) hr (fun y y1 y2 y3 y4 r => hf y 1 1 (Or.inl ⟨hI, rfl⟩) y1 y2 (by have z := y4 0 rfl; omega) (by decide) (by decide) (by decide)))
  have hA : ¬ bA 258 a b c := by unfold bA; omega
  by_cases hS : bS s 258 a (-1)
  · exact fin (mP_use (mx_258s (b := b) hw hJ ia hI hS) hr (fun y y1 y2 y3 y4 r => hf y 3 2 (Or.inr (Or.inr ⟨hI, hA, hS, rfl⟩)) y1 y2 (by have z := y4 1 rfl; omega) (by decide) (by decide) (by decide)))
  exact fin (mP_use (mx_258r (b := b) (c := c) hw hJ hI hS) hr (fun y y1 y2 y3 y4 r => h0 y ⟨hI, hA, hS⟩ y1 y2 (y3 _ rfl)))
theorem m_call259 (hw : qWF g) (hJ : jJ s) (hr : rJ s m) {k a b c tx : Int} (k0 : 0 ≤ k) (k1 : k < 60) (ia : i32 a) (ib : i32 b) (ic : i32 c) (it : i32 tx) (e112 : m 112 k = 3) (ea : iI (m 114 (4 * k)) = iI a) (eb : iI (m 114 (4 * k + 1)) = iI b) (ec : iI (m 114 (4 * k + 2)) = iI c) (et : iI (m 114 (4 * k + 3)) = iI tx)
    (hf : ∀ (y : aS) (f th : Int), ((bI s 259 a b tx ∧ f = 1) ∨ (¬ bI s 259 a b tx ∧ bA 259 a b c ∧ f = 2) ∨ (¬ bI s 259 a b tx ∧ ¬ bA 259 a b c ∧ bS s 259 a tx ∧ f = 3)) → rJ s y → fM m y → y 86 0 = th → 1 ≤ th → th ≤ 3 → xo 259 th = f → Q (iI 0) (qi y))
    (h0 : ∀ y : aS, (¬ bI s 259 a b tx ∧ ¬ bA 259 a b c ∧ ¬ bS s 259 a tx) → rJ (stS (opS s 259 a b c tx)) y → fM m y → y 86 0 = 0 → Q (iI 0) (qi y)) : qC g (d + 11) mX10_call [.inr 86, .inl (iI k)] (qi m) Q T := by
  have fin : qC g (d + 10) mX10_write [.inr 86, .inl (iI a), .inl (iI b), .inl (iI c), .inl (iI tx)] (qi m) (fun _ s20 => Q (iI 0) s20) T → qC g (d + 11) mX10_call [.inr 86, .inl (iI k)] (qi m) Q T := fun q => by
    clear hf h0
    refine wX10_call hw ?_
    simp (disch := omega) only [z_app, z_rd, z_cl, z_add, z_sub, z_mul, z_neg, z_lit, z_leT, z_leF, z_ltT, z_ltF, z_eqT, z_eqF, i_leT, i_leF, i_ltT, i_ltF, i_eqT, i_eqF, z_le, z_lt, z_eq, z_ite, z_at, z_pt, z_up, z_wr, z_wi1, z_wi0, z_wi, z_inS, z_toInt, z_nb0, z_nb1, Int.cast_ofNat_Int, true_and, and_true, not_true_eq_false, not_false_eq_true, false_imp_iff, true_imp_iff, aup_o, aup_k, ite_true, ite_false, z_fa000, z_fa001, z_fa010, z_fa011, z_fa100, z_fa101, z_fa110, z_fa111, if_true, if_false, e112, ea, eb, ec, et]
    exact q
  by_cases hI : bI s 259 a b tx
  · exact fin (mP_use (mx_259i hw hJ ia ib ic it hI) hr (fun y y1 y2 y3 y4 r => hf y 1 1 (Or.inl ⟨hI, rfl⟩) y1 y2 (by have z := y4 0 rfl; omega) (by decide) (by decide) (by decide)))
  by_cases hA : bA 259 a b c
  · exact fin (mP_use (mx_259a hw hJ ia ib ic it hI hA) hr (fun y y1 y2 y3 y4 r => hf y 2 2 (Or.inr (Or.inl ⟨hI, hA, rfl⟩)) y1 y2 (by have z := y4 1 rfl; omega) (by decide) (by decide) (by decide)))
  by_cases hS : bS s 259 a tx
  · exact fin (mP_use (mx_259s hw hJ ia ib ic it hI hA hS) hr (fun y y1 y2 y3 y4 r => hf y 3 3 (Or.inr (Or.inr ⟨hI, hA, hS, rfl⟩)) y1 y2 (by have z := y4 2 rfl; omega) (by decide) (by decide) (by decide)))
  exact fin (mP_use (mx_259r hw hJ ia ib ic it hI hA hS) hr (fun y y1 y2 y3 y4 r => h0 y ⟨hI, hA, hS⟩ y1 y2 (y3 _ rfl)))
theorem m_call260 (hw : qWF g) (hJ : jJ s) (hr : rJ s m) {k a b c tx : Int} (k0 : 0 ≤ k) (k1 : k < 60) (ia : i32 a) (ib : i32 b) (ic : i32 c) (it : i32 tx) (e112 : m 112 k = 4) (ea : iI (m 114 (4 * k)) = iI a) (et : iI (m 114 (4 * k + 3)) = iI tx)
    (hf : ∀ (y : aS) (f th : Int), ((bI s 260 a b tx ∧ f = 1) ∨ (¬ bI s 260 a b tx ∧ bA 260 a b c ∧ f = 2) ∨ (¬ bI s 260 a b tx ∧ ¬ bA 260 a b c ∧ bS s 260 a tx ∧ f = 3)) → rJ s y → fM m y → y 86 0 = th → 1 ≤ th → th ≤ 3 → xo 260 th = f → Q (iI 0) (qi y))
    (h0 : ∀ y : aS, (¬ bI s 260 a b tx ∧ ¬ bA 260 a b c ∧ ¬ bS s 260 a tx) → rJ (stS (opS s 260 a b c tx)) y → fM m y → y 86 0 = 0 → Q (iI 0) (qi y)) : qC g (d + 11) mX10_call [.inr 86, .inl (iI k)] (qi m) Q T := by
  have fin : qC g (d + 10) mX10_remove [.inr 86, .inl (iI a), .inl (iI tx)] (qi m) (fun _ s20 => Q (iI 0) s20) T → qC g (d + 11) mX10_call [.inr 86, .inl (iI k)] (qi m) Q T := fun q => by
    clear hf h0
    refine wX10_call hw ?_
    simp (disch := omega) only [z_app, z_rd, z_cl, z_add, z_sub, z_mul, z_neg, z_lit, z_leT, z_leF, z_ltT, z_ltF, z_eqT, z_eqF, i_leT, i_leF, i_ltT, i_ltF, i_eqT, i_eqF, z_le, z_lt, z_eq, z_ite, z_at, z_pt, z_up, z_wr, z_wi1, z_wi0, z_wi, z_inS, z_toInt, z_nb0, z_nb1, Int.cast_ofNat_Int, true_and, and_true, not_true_eq_false, not_false_eq_true, false_imp_iff, true_imp_iff, aup_o, aup_k, ite_true, ite_false, z_fa000, z_fa001, z_fa010, z_fa011, z_fa100, z_fa101, z_fa110, z_fa111, if_true, if_false, e112, ea, et]
    exact q
  by_cases hI : bI s 260 a b tx
  · exact fin (mP_use (mx_260i hw hJ ia ib ic it hI) hr (fun y y1 y2 y3 y4 r => hf y 1 1 (Or.inl ⟨hI, rfl⟩) y1 y2 (by have z := y4 0 rfl; omega) (by decide) (by decide) (by decide)))
  have hA : ¬ bA 260 a b c := by unfold bA; omega
  by_cases hS : bS s 260 a tx
  · exact fin (mP_use (mx_260s hw hJ ia ib ic it hI hS) hr (fun y y1 y2 y3 y4 r => hf y 3 2 (Or.inr (Or.inr ⟨hI, hA, hS, rfl⟩)) y1 y2 (by have z := y4 1 rfl; omega) (by decide) (by decide) (by decide)))
  exact fin (mP_use (mx_260r (b := b) (c := c) hw hJ ia ib ic it hI hA hS) hr (fun y y1 y2 y3 y4 r => h0 y ⟨hI, hA, hS⟩ y1 y2 (y3 _ rfl)))
theorem m_call261 (hw : qWF g) (hJ : jJ s) (hr : rJ s m) {k a b c tx : Int} (k0 : 0 ≤ k) (k1 : k < 60) (ia : i32 a) (ib : i32 b) (ic : i32 c) (it : i32 tx) (e112 : m 112 k = 5) (ea : iI (m 114 (4 * k)) = iI a) (eb : iI (m 114 (4 * k + 1)) = iI b) (et : iI (m 114 (4 * k + 3)) = iI tx)
    (hf : ∀ (y : aS) (f th : Int), ((bI s 261 a b tx ∧ f = 1) ∨ (¬ bI s 261 a b tx ∧ bA 261 a b c ∧ f = 2) ∨ (¬ bI s 261 a b tx ∧ ¬ bA 261 a b c ∧ bS s 261 a tx ∧ f = 3)) → rJ s y → fM m y → y 86 0 = th → 1 ≤ th → th ≤ 3 → xo 261 th = f → Q (iI 0) (qi y))
    (h0 : ∀ y : aS, (¬ bI s 261 a b tx ∧ ¬ bA 261 a b c ∧ ¬ bS s 261 a tx) → rJ (stS (opS s 261 a b c tx)) y → fM m y → y 86 0 = 0 → Q (iI 0) (qi y)) : qC g (d + 11) mX10_call [.inr 86, .inl (iI k)] (qi m) Q T := by
  have fin : qC g (d + 10) mX10_copy [.inr 86, .inl (iI a), .inl (iI b), .inl (iI tx)] (qi m) (fun _ s20 => Q (iI 0) s20) T → qC g (d + 11) mX10_call [.inr 86, .inl (iI k)] (qi m) Q T := fun q => by
    clear hf h0
    refine wX10_call hw ?_
    simp (disch := omega) only [z_app, z_rd, z_cl, z_add, z_sub, z_mul, z_neg, z_lit, z_leT, z_leF, z_ltT, z_ltF, z_eqT, z_eqF, i_leT, i_leF, i_ltT, i_ltF, i_eqT, i_eqF, z_le, z_lt, z_eq, z_ite, z_at, z_pt, z_up, z_wr, z_wi1, z_wi0, z_wi, z_inS, z_toInt, z_nb0, z_nb1, Int.cast_ofNat_Int, true_and, and_true, not_true_eq_false, not_false_eq_true, false_imp_iff, true_imp_iff, aup_o, aup_k, ite_true, ite_false, z_fa000, z_fa001, z_fa010, z_fa011, z_fa100, z_fa101, z_fa110, z_fa111, if_true, if_false, e112, ea, eb, et]
    exact q
  by_cases hI : bI s 261 a b tx
  · exact fin (mP_use (mx_261i hw hJ ia ib ic it hI) hr (fun y y1 y2 y3 y4 r => hf y 1 1 (Or.inl ⟨hI, rfl⟩) y1 y2 (by have z := y4 0 rfl; omega) (by decide) (by decide) (by decide)))
  by_cases hA : bA 261 a b c
  · exact fin (mP_use (mx_261a hw hJ ia ib ic it hI hA) hr (fun y y1 y2 y3 y4 r => hf y 2 2 (Or.inr (Or.inl ⟨hI, hA, rfl⟩)) y1 y2 (by have z := y4 1 rfl; omega) (by decide) (by decide) (by decide)))
  by_cases hS : bS s 261 a tx
  · exact fin (mP_use (mx_261s hw hJ ia ib ic it hI hA hS) hr (fun y y1 y2 y3 y4 r => hf y 3 3 (Or.inr (Or.inr ⟨hI, hA, hS, rfl⟩)) y1 y2 (by have z := y4 2 rfl; omega) (by decide) (by decide) (by decide)))
  exact fin (mP_use (mx_261r (c := c) hw hJ ia ib ic it hI hA hS) hr (fun y y1 y2 y3 y4 r => h0 y ⟨hI, hA, hS⟩ y1 y2 (y3 _ rfl)))
theorem m_call262 (hw : qWF g) (hJ : jJ s) (hr : rJ s m) {k a b c tx : Int} (k0 : 0 ≤ k) (k1 : k < 60) (ia : i32 a) (ib : i32 b) (ic : i32 c) (it : i32 tx) (e112 : m 112 k = 6) (ea : iI (m 114 (4 * k)) = iI a) (eb : iI (m 114 (4 * k + 1)) = iI b) (ec : iI (m 114 (4 * k + 2)) = iI c) (et : iI (m 114 (4 * k + 3)) = iI tx)
    (hf : ∀ (y : aS) (f th : Int), ((bI s 262 a b tx ∧ f = 1) ∨ (¬ bI s 262 a b tx ∧ bA 262 a b c ∧ f = 2) ∨ (¬ bI s 262 a b tx ∧ ¬ bA 262 a b c ∧ bS s 262 a tx ∧ f = 3)) → rJ s y → fM m y → y 86 0 = th → 1 ≤ th → th ≤ 3 → xo 262 th = f → Q (iI 0) (qi y))
    (h0 : ∀ y : aS, (¬ bI s 262 a b tx ∧ ¬ bA 262 a b c ∧ ¬ bS s 262 a tx) → rJ (stS (opS s 262 a b c tx)) y → fM m y → y 86 0 = 0 → Q (iI 0) (qi y)) : qC g (d + 11) mX10_call [.inr 86, .inl (iI k)] (qi m) Q T := by
  have fin : qC g (d + 10) mX10_send [.inr 86, .inl (iI a), .inl (iI b), .inl (iI c), .inl (iI tx)] (qi m) (fun _ s20 => Q (iI 0) s20) T → qC g (d + 11) mX10_call [.inr 86, .inl (iI k)] (qi m) Q T := fun q => by
    clear hf h0
    refine wX10_call hw ?_
    simp (disch := omega) only [z_app, z_rd, z_cl, z_add, z_sub, z_mul, z_neg, z_lit, z_leT, z_leF, z_ltT, z_ltF, z_eqT, z_eqF, i_leT, i_leF, i_ltT, i_ltF, i_eqT, i_eqF, z_le, z_lt, z_eq, z_ite, z_at, z_pt, z_up, z_wr, z_wi1, z_wi0, z_wi, z_inS, z_toInt, z_nb0, z_nb1, Int.cast_ofNat_Int, true_and, and_true, not_true_eq_false, not_false_eq_true, false_imp_iff, true_imp_iff, aup_o, aup_k, ite_true, ite_false, z_fa000, z_fa001, z_fa010, z_fa011, z_fa100, z_fa101, z_fa110, z_fa111, if_true, if_false, e112, ea, eb, ec, et]
    exact q
  by_cases hI : bI s 262 a b tx
  · exact fin (mP_use (mx_262i hw hJ ia ib ic it hI) hr (fun y y1 y2 y3 y4 r => hf y 1 1 (Or.inl ⟨hI, rfl⟩) y1 y2 (by have z := y4 0 rfl; omega) (by decide) (by decide) (by decide)))
  by_cases hA : bA 262 a b c
  · exact fin (mP_use (mx_262a hw hJ ia ib ic it hI hA) hr (fun y y1 y2 y3 y4 r => hf y 2 2 (Or.inr (Or.inl ⟨hI, hA, rfl⟩)) y1 y2 (by have z := y4 1 rfl; omega) (by decide) (by decide) (by decide)))
  by_cases hS : bS s 262 a tx
  · exact fin (mP_use (mx_262s hw hJ ia ib ic it hI hA hS) hr (fun y y1 y2 y3 y4 r => hf y 3 3 (Or.inr (Or.inr ⟨hI, hA, hS, rfl⟩)) y1 y2 (by have z := y4 2 rfl; omega) (by decide) (by decide) (by decide)))
  exact fin (mP_use (mx_262r hw hJ ia ib ic it hI hA hS) hr (fun y y1 y2 y3 y4 r => h0 y ⟨hI, hA, hS⟩ y1 y2 (y3 _ rfl)))
theorem m_call263 (hw : qWF g) (hJ : jJ s) (hr : rJ s m) {k a b c tx : Int} (k0 : 0 ≤ k) (k1 : k < 60) (ia : i32 a) (ib : i32 b) (ic : i32 c) (it : i32 tx) (e112 : m 112 k = 7) (ea : iI (m 114 (4 * k)) = iI a)
    (hf : ∀ (y : aS) (f th : Int), ((bI s 263 a b (-1) ∧ f = 1) ∨ (¬ bI s 263 a b (-1) ∧ bA 263 a b c ∧ f = 2) ∨ (¬ bI s 263 a b (-1) ∧ ¬ bA 263 a b c ∧ bS s 263 a (-1) ∧ f = 3)) → rJ s y → fM m y → y 86 0 = th → 1 ≤ th → th ≤ 3 → xo 263 th = f → Q (iI 0) (qi y))
    (h0 : ∀ y : aS, (¬ bI s 263 a b (-1) ∧ ¬ bA 263 a b c ∧ ¬ bS s 263 a (-1)) → rJ (stS (opS s 263 a b c (-1))) y → fM m y → y 86 0 = 0 → Q (iI 0) (qi y)) : qC g (d + 11) mX10_call [.inr 86, .inl (iI k)] (qi m) Q T := by
  have fin : qC g (d + 10) mX10_join [.inr 86, .inl (iI a)] (qi m) (fun _ s20 => Q (iI 0) s20) T → qC g (d + 11) mX10_call [.inr 86, .inl (iI k)] (qi m) Q T := fun q => by
    clear hf h0
    refine wX10_call hw ?_
    simp (disch := omega) only [z_app, z_rd, z_cl, z_add, z_sub, z_mul, z_neg, z_lit, z_leT, z_leF, z_ltT, z_ltF, z_eqT, z_eqF, i_leT, i_leF, i_ltT, i_ltF, i_eqT, i_eqF, z_le, z_lt, z_eq, z_ite, z_at, z_pt, z_up, z_wr, z_wi1, z_wi0, z_wi, z_inS, z_toInt, z_nb0, z_nb1, Int.cast_ofNat_Int, true_and, and_true, not_true_eq_false, not_false_eq_true, false_imp_iff, true_imp_iff, aup_o, aup_k, ite_true, ite_false, z_fa000, z_fa001, z_fa010, z_fa011, z_fa100, z_fa101, z_fa110, z_fa111, if_true, if_false, e112, ea]
    exact q
  by_cases hI : bI s 263 a b (-1)
  · exact fin (mP_use (mx_263i (b := b) hw hJ ia hI) hr (fun y y1 y2 y3 y4 r => hf y 1 1 (Or.inl ⟨hI, rfl⟩) y1 y2 (by have z := y4 0 rfl; omega) (by decide) (by decide) (by decide)))
  have hA : ¬ bA 263 a b c := by unfold bA; omega
  by_cases hS : bS s 263 a (-1)
  · exact fin (mP_use (mx_263s (b := b) hw hJ hI hS) hr (fun y y1 y2 y3 y4 r => hf y 3 2 (Or.inr (Or.inr ⟨hI, hA, hS, rfl⟩)) y1 y2 (by have z := y4 1 rfl; omega) (by decide) (by decide) (by decide)))
  exact fin (mP_use (mx_263r (b := b) (c := c) hw hJ hI hS) hr (fun y y1 y2 y3 y4 r => h0 y ⟨hI, hA, hS⟩ y1 y2 (y3 _ rfl)))
theorem m_call264 (hw : qWF g) (hJ : jJ s) (hr : rJ s m) {k a b c tx : Int} (k0 : 0 ≤ k) (k1 : k < 60) (ia : i32 a) (ib : i32 b) (ic : i32 c) (it : i32 tx) (e112 : m 112 k = 8) (ea : iI (m 114 (4 * k)) = iI a) (eb : iI (m 114 (4 * k + 1)) = iI b)
    (hf : ∀ (y : aS) (f th : Int), ((bI s 264 a b (-1) ∧ f = 1) ∨ (¬ bI s 264 a b (-1) ∧ bA 264 a b c ∧ f = 2) ∨ (¬ bI s 264 a b (-1) ∧ ¬ bA 264 a b c ∧ bS s 264 a (-1) ∧ f = 3)) → rJ s y → fM m y → y 86 0 = th → 1 ≤ th → th ≤ 3 → xo 264 th = f → Q (iI 0) (qi y))
    (h0 : ∀ y : aS, (¬ bI s 264 a b (-1) ∧ ¬ bA 264 a b c ∧ ¬ bS s 264 a (-1)) → rJ (stS (opS s 264 a b c (-1))) y → fM m y → y 86 0 = 0 → Q (iI 0) (qi y)) : qC g (d + 11) mX10_call [.inr 86, .inl (iI k)] (qi m) Q T := by
  have fin : qC g (d + 10) mX10_read [.inr 86, .inl (iI a), .inl (iI b)] (qi m) (fun _ s20 => Q (iI 0) s20) T → qC g (d + 11) mX10_call [.inr 86, .inl (iI k)] (qi m) Q T := fun q => by
    clear hf h0
    refine wX10_call hw ?_
    simp (disch := omega) only [z_app, z_rd, z_cl, z_add, z_sub, z_mul, z_neg, z_lit, z_leT, z_leF, z_ltT, z_ltF, z_eqT, z_eqF, i_leT, i_leF, i_ltT, i_ltF, i_eqT, i_eqF, z_le, z_lt, z_eq, z_ite, z_at, z_pt, z_up, z_wr, z_wi1, z_wi0, z_wi, z_inS, z_toInt, z_nb0, z_nb1, Int.cast_ofNat_Int, true_and, and_true, not_true_eq_false, not_false_eq_true, false_imp_iff, true_imp_iff, aup_o, aup_k, ite_true, ite_false, z_fa000, z_fa001, z_fa010, z_fa011, z_fa100, z_fa101, z_fa110, z_fa111, if_true, if_false, e112, ea, eb]
    exact q
  by_cases hI : bI s 264 a b (-1)
  · exact fin (mP_use (mx_264i hw hJ ia ib hI) hr (fun y y1 y2 y3 y4 r => hf y 1 1 (Or.inl ⟨hI, rfl⟩) y1 y2 (by have z := y4 0 rfl; omega) (by decide) (by decide) (by decide)))
  by_cases hA : bA 264 a b c
  · exact fin (mP_use (mx_264a hw hJ ib hI hA) hr (fun y y1 y2 y3 y4 r => hf y 2 2 (Or.inr (Or.inl ⟨hI, hA, rfl⟩)) y1 y2 (by have z := y4 1 rfl; omega) (by decide) (by decide) (by decide)))
  by_cases hS : bS s 264 a (-1)
  · exact fin (mP_use (mx_264s hw hJ hI hA hS) hr (fun y y1 y2 y3 y4 r => hf y 3 3 (Or.inr (Or.inr ⟨hI, hA, hS, rfl⟩)) y1 y2 (by have z := y4 2 rfl; omega) (by decide) (by decide) (by decide)))
  exact fin (mP_use (mx_264r (c := c) hw hJ hI hA hS) hr (fun y y1 y2 y3 y4 r => h0 y ⟨hI, hA, hS⟩ y1 y2 (y3 _ rfl)))
theorem m_call265 (hw : qWF g) (hJ : jJ s) (hr : rJ s m) {k a b c tx : Int} (k0 : 0 ≤ k) (k1 : k < 60) (ia : i32 a) (ib : i32 b) (ic : i32 c) (it : i32 tx) (e112 : m 112 k = 9)
    (hf : ∀ (y : aS) (f th : Int), ((bI s 265 a b (-1) ∧ f = 1) ∨ (¬ bI s 265 a b (-1) ∧ bA 265 a b c ∧ f = 2) ∨ (¬ bI s 265 a b (-1) ∧ ¬ bA 265 a b c ∧ bS s 265 a (-1) ∧ f = 3)) → rJ s y → fM m y → y 86 0 = th → 1 ≤ th → th ≤ 3 → xo 265 th = f → Q (iI 0) (qi y))
    (h0 : ∀ y : aS, (¬ bI s 265 a b (-1) ∧ ¬ bA 265 a b c ∧ ¬ bS s 265 a (-1)) → rJ (stS (opS s 265 a b c (-1))) y → fM m y → y 86 0 = 0 → Q (iI 0) (qi y)) : qC g (d + 11) mX10_call [.inr 86, .inl (iI k)] (qi m) Q T := by
  have fin : qC g (d + 10) mX10_flush [.inr 86] (qi m) (fun _ s20 => Q (iI 0) s20) T → qC g (d + 11) mX10_call [.inr 86, .inl (iI k)] (qi m) Q T := fun q => by
    clear hf h0
    refine wX10_call hw ?_
    simp (disch := omega) only [z_app, z_rd, z_cl, z_add, z_sub, z_mul, z_neg, z_lit, z_leT, z_leF, z_ltT, z_ltF, z_eqT, z_eqF, i_leT, i_leF, i_ltT, i_ltF, i_eqT, i_eqF, z_le, z_lt, z_eq, z_ite, z_at, z_pt, z_up, z_wr, z_wi1, z_wi0, z_wi, z_inS, z_toInt, z_nb0, z_nb1, Int.cast_ofNat_Int, true_and, and_true, not_true_eq_false, not_false_eq_true, false_imp_iff, true_imp_iff, aup_o, aup_k, ite_true, ite_false, z_fa000, z_fa001, z_fa010, z_fa011, z_fa100, z_fa101, z_fa110, z_fa111, if_true, if_false, e112]
    exact q
  have hI : ¬ bI s 265 a b (-1) := by unfold bI; omega
  have hA : ¬ bA 265 a b c := by unfold bA; omega
  have hS : ¬ bS s 265 a (-1) := fun h => absurd rfl h.1
  exact fin (mP_use (mx_265r (a := a) (b := b) (c := c) (tx := -1) hw hJ) hr (fun y y1 y2 y3 y4 r => h0 y ⟨hI, hA, hS⟩ y1 y2 (y3 _ rfl)))
theorem m_call266 (hw : qWF g) (hJ : jJ s) (hr : rJ s m) {k a b c tx : Int} (k0 : 0 ≤ k) (k1 : k < 60) (ia : i32 a) (ib : i32 b) (ic : i32 c) (it : i32 tx) (e112 : m 112 k = 10)
    (hf : ∀ (y : aS) (f th : Int), ((bI s 266 a b (-1) ∧ f = 1) ∨ (¬ bI s 266 a b (-1) ∧ bA 266 a b c ∧ f = 2) ∨ (¬ bI s 266 a b (-1) ∧ ¬ bA 266 a b c ∧ bS s 266 a (-1) ∧ f = 3)) → rJ s y → fM m y → y 86 0 = th → 1 ≤ th → th ≤ 3 → xo 266 th = f → Q (iI 0) (qi y))
    (h0 : ∀ y : aS, (¬ bI s 266 a b (-1) ∧ ¬ bA 266 a b c ∧ ¬ bS s 266 a (-1)) → rJ (stS (opS s 266 a b c (-1))) y → fM m y → y 86 0 = 0 → Q (iI 0) (qi y)) : qC g (d + 11) mX10_call [.inr 86, .inl (iI k)] (qi m) Q T := by
  have fin : qC g (d + 10) mX10_checkpoint [.inr 86] (qi m) (fun _ s20 => Q (iI 0) s20) T → qC g (d + 11) mX10_call [.inr 86, .inl (iI k)] (qi m) Q T := fun q => by
    clear hf h0
    refine wX10_call hw ?_
    simp (disch := omega) only [z_app, z_rd, z_cl, z_add, z_sub, z_mul, z_neg, z_lit, z_leT, z_leF, z_ltT, z_ltF, z_eqT, z_eqF, i_leT, i_leF, i_ltT, i_ltF, i_eqT, i_eqF, z_le, z_lt, z_eq, z_ite, z_at, z_pt, z_up, z_wr, z_wi1, z_wi0, z_wi, z_inS, z_toInt, z_nb0, z_nb1, Int.cast_ofNat_Int, true_and, and_true, not_true_eq_false, not_false_eq_true, false_imp_iff, true_imp_iff, aup_o, aup_k, ite_true, ite_false, z_fa000, z_fa001, z_fa010, z_fa011, z_fa100, z_fa101, z_fa110, z_fa111, if_true, if_false, e112]
    exact q
  have hI : ¬ bI s 266 a b (-1) := by unfold bI; omega
  have hA : ¬ bA 266 a b c := by unfold bA; omega
  by_cases hS : bS s 266 a (-1)
  · exact fin (mP_use (mx_266s (a := a) hw hJ hS) hr (fun y y1 y2 y3 y4 r => hf y 3 1 (Or.inr (Or.inr ⟨hI, hA, hS, rfl⟩)) y1 y2 (by have z := y4 0 rfl; omega) (by decide) (by decide) (by decide)))
  exact fin (mP_use (mx_266r (a := a) (b := b) (c := c) hw hJ hS) hr (fun y y1 y2 y3 y4 r => h0 y ⟨hI, hA, hS⟩ y1 y2 (y3 _ rfl)))
theorem m_exc0 (hw : qWF g) {z : Int32} (h0 : m 86 0 = 0) (hQ : Q (iI 0) (qi m)) : qC g (d + 1) mX10_exceptionOf [.inr 86, .inl z] (qi m) Q T := by
  refine wX10_exceptionOf hw ?_
  simp (disch := omega) only [z_app, z_rd, z_cl, z_add, z_sub, z_mul, z_neg, z_lit, z_leT, z_leF, z_ltT, z_ltF, z_eqT, z_eqF, i_leT, i_leF, i_ltT, i_ltF, i_eqT, i_eqF, z_le, z_lt, z_eq, z_ite, z_at, z_pt, z_up, z_wr, z_wi1, z_wi0, z_wi, z_inS, z_toInt, z_nb0, z_nb1, Int.cast_ofNat_Int, true_and, and_true, not_true_eq_false, not_false_eq_true, false_imp_iff, true_imp_iff, aup_o, aup_k, ite_true, ite_false, z_fa000, z_fa001, z_fa010, z_fa011, z_fa100, z_fa101, z_fa110, z_fa111, if_true, if_false, h0]
  exact hQ
theorem m_exc (hw : qWF g) {wd th : Int} (w0 : 256 ≤ wd) (w1 : wd < 267) (h0 : m 86 0 = th) (t0 : 1 ≤ th) (t3 : th ≤ 3) (hQ : Q (iI (xo wd th)) (qi m)) : qC g (d + 1) mX10_exceptionOf [.inr 86, .inl (iI (wd - 256))] (qi m) Q T := by
  refine wX10_exceptionOf hw ?_
  unfold xo at hQ
  rcases wd_c ⟨w0, by omega⟩ with h | h | h | h | h | h | h | h | h | h | h <;> subst h
  · rw [if_pos (by decide)] at hQ
    simp (disch := omega) only [z_app, z_rd, z_cl, z_add, z_sub, z_mul, z_neg, z_lit, z_leT, z_leF, z_ltT, z_ltF, z_eqT, z_eqF, i_leT, i_leF, i_ltT, i_ltF, i_eqT, i_eqF, z_le, z_lt, z_eq, z_ite, z_at, z_pt, z_up, z_wr, z_wi1, z_wi0, z_wi, z_inS, z_toInt, z_nb0, z_nb1, Int.cast_ofNat_Int, true_and, and_true, not_true_eq_false, not_false_eq_true, false_imp_iff, true_imp_iff, aup_o, aup_k, ite_true, ite_false, z_fa000, z_fa001, z_fa010, z_fa011, z_fa100, z_fa101, z_fa110, z_fa111, if_true, if_false, h0]
    exact hQ
  · rw [if_neg (by decide), if_pos (by decide)] at hQ
    by_cases t1 : th = 1
    · rw [if_pos t1] at hQ
      simp (disch := omega) only [z_app, z_rd, z_cl, z_add, z_sub, z_mul, z_neg, z_lit, z_leT, z_leF, z_ltT, z_ltF, z_eqT, z_eqF, i_leT, i_leF, i_ltT, i_ltF, i_eqT, i_eqF, z_le, z_lt, z_eq, z_ite, z_at, z_pt, z_up, z_wr, z_wi1, z_wi0, z_wi, z_inS, z_toInt, z_nb0, z_nb1, Int.cast_ofNat_Int, true_and, and_true, not_true_eq_false, not_false_eq_true, false_imp_iff, true_imp_iff, aup_o, aup_k, ite_true, ite_false, z_fa000, z_fa001, z_fa010, z_fa011, z_fa100, z_fa101, z_fa110, z_fa111, if_true, if_false, h0]
      exact hQ
    · rw [if_neg t1] at hQ
      simp (disch := omega) only [z_app, z_rd, z_cl, z_add, z_sub, z_mul, z_neg, z_lit, z_leT, z_leF, z_ltT, z_ltF, z_eqT, z_eqF, i_leT, i_leF, i_ltT, i_ltF, i_eqT, i_eqF, z_le, z_lt, z_eq, z_ite, z_at, z_pt, z_up, z_wr, z_wi1, z_wi0, z_wi, z_inS, z_toInt, z_nb0, z_nb1, Int.cast_ofNat_Int, true_and, and_true, not_true_eq_false, not_false_eq_true, false_imp_iff, true_imp_iff, aup_o, aup_k, ite_true, ite_false, z_fa000, z_fa001, z_fa010, z_fa011, z_fa100, z_fa101, z_fa110, z_fa111, if_true, if_false, h0]
      exact hQ
  · rw [if_neg (by decide), if_pos (by decide)] at hQ
    by_cases t1 : th = 1
    · rw [if_pos t1] at hQ
      simp (disch := omega) only [z_app, z_rd, z_cl, z_add, z_sub, z_mul, z_neg, z_lit, z_leT, z_leF, z_ltT, z_ltF, z_eqT, z_eqF, i_leT, i_leF, i_ltT, i_ltF, i_eqT, i_eqF, z_le, z_lt, z_eq, z_ite, z_at, z_pt, z_up, z_wr, z_wi1, z_wi0, z_wi, z_inS, z_toInt, z_nb0, z_nb1, Int.cast_ofNat_Int, true_and, and_true, not_true_eq_false, not_false_eq_true, false_imp_iff, true_imp_iff, aup_o, aup_k, ite_true, ite_false, z_fa000, z_fa001, z_fa010, z_fa011, z_fa100, z_fa101, z_fa110, z_fa111, if_true, if_false, h0]
      exact hQ
    · rw [if_neg t1] at hQ
      simp (disch := omega) only [z_app, z_rd, z_cl, z_add, z_sub, z_mul, z_neg, z_lit, z_leT, z_leF, z_ltT, z_ltF, z_eqT, z_eqF, i_leT, i_leF, i_ltT, i_ltF, i_eqT, i_eqF, z_le, z_lt, z_eq, z_ite, z_at, z_pt, z_up, z_wr, z_wi1, z_wi0, z_wi, z_inS, z_toInt, z_nb0, z_nb1, Int.cast_ofNat_Int, true_and, and_true, not_true_eq_false, not_false_eq_true, false_imp_iff, true_imp_iff, aup_o, aup_k, ite_true, ite_false, z_fa000, z_fa001, z_fa010, z_fa011, z_fa100, z_fa101, z_fa110, z_fa111, if_true, if_false, h0]
      exact hQ
  · rw [if_neg (by decide), if_neg (by decide)] at hQ
    simp (disch := omega) only [z_app, z_rd, z_cl, z_add, z_sub, z_mul, z_neg, z_lit, z_leT, z_leF, z_ltT, z_ltF, z_eqT, z_eqF, i_leT, i_leF, i_ltT, i_ltF, i_eqT, i_eqF, z_le, z_lt, z_eq, z_ite, z_at, z_pt, z_up, z_wr, z_wi1, z_wi0, z_wi, z_inS, z_toInt, z_nb0, z_nb1, Int.cast_ofNat_Int, true_and, and_true, not_true_eq_false, not_false_eq_true, false_imp_iff, true_imp_iff, aup_o, aup_k, ite_true, ite_false, z_fa000, z_fa001, z_fa010, z_fa011, z_fa100, z_fa101, z_fa110, z_fa111, if_true, if_false, h0]
    exact hQ
  · rw [if_neg (by decide), if_pos (by decide)] at hQ
    by_cases t1 : th = 1
    · rw [if_pos t1] at hQ
      simp (disch := omega) only [z_app, z_rd, z_cl, z_add, z_sub, z_mul, z_neg, z_lit, z_leT, z_leF, z_ltT, z_ltF, z_eqT, z_eqF, i_leT, i_leF, i_ltT, i_ltF, i_eqT, i_eqF, z_le, z_lt, z_eq, z_ite, z_at, z_pt, z_up, z_wr, z_wi1, z_wi0, z_wi, z_inS, z_toInt, z_nb0, z_nb1, Int.cast_ofNat_Int, true_and, and_true, not_true_eq_false, not_false_eq_true, false_imp_iff, true_imp_iff, aup_o, aup_k, ite_true, ite_false, z_fa000, z_fa001, z_fa010, z_fa011, z_fa100, z_fa101, z_fa110, z_fa111, if_true, if_false, h0]
      exact hQ
    · rw [if_neg t1] at hQ
      simp (disch := omega) only [z_app, z_rd, z_cl, z_add, z_sub, z_mul, z_neg, z_lit, z_leT, z_leF, z_ltT, z_ltF, z_eqT, z_eqF, i_leT, i_leF, i_ltT, i_ltF, i_eqT, i_eqF, z_le, z_lt, z_eq, z_ite, z_at, z_pt, z_up, z_wr, z_wi1, z_wi0, z_wi, z_inS, z_toInt, z_nb0, z_nb1, Int.cast_ofNat_Int, true_and, and_true, not_true_eq_false, not_false_eq_true, false_imp_iff, true_imp_iff, aup_o, aup_k, ite_true, ite_false, z_fa000, z_fa001, z_fa010, z_fa011, z_fa100, z_fa101, z_fa110, z_fa111, if_true, if_false, h0]
      exact hQ
  · rw [if_neg (by decide), if_neg (by decide)] at hQ
    simp (disch := omega) only [z_app, z_rd, z_cl, z_add, z_sub, z_mul, z_neg, z_lit, z_leT, z_leF, z_ltT, z_ltF, z_eqT, z_eqF, i_leT, i_leF, i_ltT, i_ltF, i_eqT, i_eqF, z_le, z_lt, z_eq, z_ite, z_at, z_pt, z_up, z_wr, z_wi1, z_wi0, z_wi, z_inS, z_toInt, z_nb0, z_nb1, Int.cast_ofNat_Int, true_and, and_true, not_true_eq_false, not_false_eq_true, false_imp_iff, true_imp_iff, aup_o, aup_k, ite_true, ite_false, z_fa000, z_fa001, z_fa010, z_fa011, z_fa100, z_fa101, z_fa110, z_fa111, if_true, if_false, h0]
    exact hQ
  · rw [if_neg (by decide), if_neg (by decide)] at hQ
    simp (disch := omega) only [z_app, z_rd, z_cl, z_add, z_sub, z_mul, z_neg, z_lit, z_leT, z_leF, z_ltT, z_ltF, z_eqT, z_eqF, i_leT, i_leF, i_ltT, i_ltF, i_eqT, i_eqF, z_le, z_lt, z_eq, z_ite, z_at, z_pt, z_up, z_wr, z_wi1, z_wi0, z_wi, z_inS, z_toInt, z_nb0, z_nb1, Int.cast_ofNat_Int, true_and, and_true, not_true_eq_false, not_false_eq_true, false_imp_iff, true_imp_iff, aup_o, aup_k, ite_true, ite_false, z_fa000, z_fa001, z_fa010, z_fa011, z_fa100, z_fa101, z_fa110, z_fa111, if_true, if_false, h0]
    exact hQ
  · rw [if_neg (by decide), if_pos (by decide)] at hQ
    by_cases t1 : th = 1
    · rw [if_pos t1] at hQ
      simp (disch := omega) only [z_app, z_rd, z_cl, z_add, z_sub, z_mul, z_neg, z_lit, z_leT, z_leF, z_ltT, z_ltF, z_eqT, z_eqF, i_leT, i_leF, i_ltT, i_ltF, i_eqT, i_eqF, z_le, z_lt, z_eq, z_ite, z_at, z_pt, z_up, z_wr, z_wi1, z_wi0, z_wi, z_inS, z_toInt, z_nb0, z_nb1, Int.cast_ofNat_Int, true_and, and_true, not_true_eq_false, not_false_eq_true, false_imp_iff, true_imp_iff, aup_o, aup_k, ite_true, ite_false, z_fa000, z_fa001, z_fa010, z_fa011, z_fa100, z_fa101, z_fa110, z_fa111, if_true, if_false, h0]
      exact hQ
    · rw [if_neg t1] at hQ
      simp (disch := omega) only [z_app, z_rd, z_cl, z_add, z_sub, z_mul, z_neg, z_lit, z_leT, z_leF, z_ltT, z_ltF, z_eqT, z_eqF, i_leT, i_leF, i_ltT, i_ltF, i_eqT, i_eqF, z_le, z_lt, z_eq, z_ite, z_at, z_pt, z_up, z_wr, z_wi1, z_wi0, z_wi, z_inS, z_toInt, z_nb0, z_nb1, Int.cast_ofNat_Int, true_and, and_true, not_true_eq_false, not_false_eq_true, false_imp_iff, true_imp_iff, aup_o, aup_k, ite_true, ite_false, z_fa000, z_fa001, z_fa010, z_fa011, z_fa100, z_fa101, z_fa110, z_fa111, if_true, if_false, h0]
      exact hQ
  · rw [if_neg (by decide), if_neg (by decide)] at hQ
    simp (disch := omega) only [z_app, z_rd, z_cl, z_add, z_sub, z_mul, z_neg, z_lit, z_leT, z_leF, z_ltT, z_ltF, z_eqT, z_eqF, i_leT, i_leF, i_ltT, i_ltF, i_eqT, i_eqF, z_le, z_lt, z_eq, z_ite, z_at, z_pt, z_up, z_wr, z_wi1, z_wi0, z_wi, z_inS, z_toInt, z_nb0, z_nb1, Int.cast_ofNat_Int, true_and, and_true, not_true_eq_false, not_false_eq_true, false_imp_iff, true_imp_iff, aup_o, aup_k, ite_true, ite_false, z_fa000, z_fa001, z_fa010, z_fa011, z_fa100, z_fa101, z_fa110, z_fa111, if_true, if_false, h0]
    exact hQ
  · rw [if_neg (by decide), if_neg (by decide)] at hQ
    simp (disch := omega) only [z_app, z_rd, z_cl, z_add, z_sub, z_mul, z_neg, z_lit, z_leT, z_leF, z_ltT, z_ltF, z_eqT, z_eqF, i_leT, i_leF, i_ltT, i_ltF, i_eqT, i_eqF, z_le, z_lt, z_eq, z_ite, z_at, z_pt, z_up, z_wr, z_wi1, z_wi0, z_wi, z_inS, z_toInt, z_nb0, z_nb1, Int.cast_ofNat_Int, true_and, and_true, not_true_eq_false, not_false_eq_true, false_imp_iff, true_imp_iff, aup_o, aup_k, ite_true, ite_false, z_fa000, z_fa001, z_fa010, z_fa011, z_fa100, z_fa101, z_fa110, z_fa111, if_true, if_false, h0]
    exact hQ
  · rw [if_pos (by decide)] at hQ
    simp (disch := omega) only [z_app, z_rd, z_cl, z_add, z_sub, z_mul, z_neg, z_lit, z_leT, z_leF, z_ltT, z_ltF, z_eqT, z_eqF, i_leT, i_leF, i_ltT, i_ltF, i_eqT, i_eqF, z_le, z_lt, z_eq, z_ite, z_at, z_pt, z_up, z_wr, z_wi1, z_wi0, z_wi, z_inS, z_toInt, z_nb0, z_nb1, Int.cast_ofNat_Int, true_and, and_true, not_true_eq_false, not_false_eq_true, false_imp_iff, true_imp_iff, aup_o, aup_k, ite_true, ite_false, z_fa000, z_fa001, z_fa010, z_fa011, z_fa100, z_fa101, z_fa110, z_fa111, if_true, if_false, h0]
    exact hQ
/-- the stack of blocks -/
def stM (m : aS) : rSt → Prop
  | [] => True
  | (o, r) :: t => (m 120 (t.length : Nat) = o ∧ m 121 (t.length : Nat) = r) ∧ stM m t
def stE (K : Int) (l : rSt) : Prop := ∀ p ∈ l, (0 ≤ p.1 ∧ p.1 < K) ∧ 1 ≤ p.2 ∧ p.2 ≤ 50
theorem stM_c {m b : aS} : ∀ (l : rSt), (∀ i : Int, i < (l.length : Nat) → b 120 i = m 120 i ∧ b 121 i = m 121 i) → stM m l → stM b l := by
  intro l
  induction l with
  | nil => intro _ _; trivial
  | cons p t ih =>
    intro hh h
    obtain ⟨o, r⟩ := p
    rw [List.length_cons] at hh
    obtain ⟨h1, h2⟩ := hh (t.length : Nat) (by omega)
    refine ⟨?_, ih (fun i hi => hh i (by omega)) h.2⟩
    rw [h1, h2]
    exact h.1
def lvR (m b : aS) (l : rSt) : Prop := (∀ x : Nat, x ≠ 86 → x ≠ 121 → b x = m x) ∧ (∀ i, i ≠ 60 → b 86 i = m 86 i) ∧ b 86 60 = (l.length : Nat) ∧ stM b l
theorem m_leave_l (hw : qWF g) (K6 : K ≤ 60) (hE : ∀ a, 0 ≤ a → a < K → a < E a ∧ E a ≤ K) {l1 : Int32} {k : Int} (k0 : 0 ≤ k) (k1 : k ≤ 60) : ∀ (l : rSt) (m : aS), m 86 60 = (l.length : Nat) → l.length ≤ 4 → stM m l → stE K l → (∀ a, 0 ≤ a → a < K → m 115 a = E a) →
    (∀ b, lvR m b (lv E k l).2 → Q (iI (lv E k l).1) (qi b)) → qV g mX10_leave (d + 1) 0 2 [some (.inr 86), some (.inl l1), some (.inl (iI k))] [] (qi m) Q T := by
  intro l
  induction l with
  | nil =>
    intro m h60 _ _ _ _ hQ
    have h60 : m 86 60 = 0 := h60
    have q : Q (iI k) (qi m) := hQ m ⟨fun _ _ _ => rfl, fun _ _ => rfl, h60, trivial⟩
    clear hQ
    refine wX10_leave_2 hw ?_
    simp (disch := omega) only [z_app, z_rd, z_cl, z_add, z_sub, z_mul, z_neg, z_lit, z_leT, z_leF, z_ltT, z_ltF, z_eqT, z_eqF, i_leT, i_leF, i_ltT, i_ltF, i_eqT, i_eqF, z_le, z_lt, z_eq, z_ite, z_at, z_pt, z_up, z_wr, z_wi1, z_wi0, z_wi, z_inS, z_toInt, z_nb0, z_nb1, Int.cast_ofNat_Int, true_and, and_true, not_true_eq_false, not_false_eq_true, false_imp_iff, true_imp_iff, aup_o, aup_k, ite_true, ite_false, z_fa000, z_fa001, z_fa010, z_fa011, z_fa100, z_fa101, z_fa110, z_fa111, if_true, if_false, h60]
    exact q
  | cons p t ih =>
    intro m h60 hl hS hE2 h115 hQ
    obtain ⟨o, r⟩ := p
    rw [List.length_cons] at h60 hl
    obtain ⟨n, hn⟩ : ∃ n : Int, n = (t.length : Nat) := ⟨_, rfl⟩
    have h60 : m 86 60 = n + 1 := by omega
    have n0 : 0 ≤ n := by omega
    have n4 : n ≤ 3 := by omega
    obtain ⟨⟨o0, o1⟩, r1, r5⟩ := hE2 (o, r) (List.mem_cons_self ..)
    have o0 : 0 ≤ o := o0
    have o1 : o < K := o1
    have r1 : 1 ≤ r := r1
    have r5 : r ≤ 50 := r5
    obtain ⟨⟨e0, e1⟩, hS2⟩ := hS
    rw [← hn] at e0 e1
    have e5 := h115 o o0 o1
    have eb := hE o o0 o1
    have nn : n + 1 - 1 = n := by omega
    refine wX10_leave_2 hw ?_
    by_cases hk : k = E o
    · by_cases hr : 0 < r - 1
      · have el : lv E k ((o, r) :: t) = (o + 1, (o, r - 1) :: t) := by rw [hk]; exact lv_1 hr
        rw [el] at hQ
        have q := hQ (aup m 121 n (r - 1)) ⟨fun x _ x2 => aup_o x2, fun i _ => by rw [aup_o (by decide)], by rw [aup_o (by decide), h60, List.length_cons]; omega, ⟨by rw [aup_o (by decide), ← hn]; exact e0, by rw [← hn, aup_s]⟩, stM_c t (fun i hi => ⟨by rw [aup_o (by decide)], aup_i (by omega)⟩) hS2⟩
        clear hQ ih el
        simp (disch := omega) only [z_app, z_rd, z_cl, z_add, z_sub, z_mul, z_neg, z_lit, z_leT, z_leF, z_ltT, z_ltF, z_eqT, z_eqF, i_leT, i_leF, i_ltT, i_ltF, i_eqT, i_eqF, z_le, z_lt, z_eq, z_ite, z_at, z_pt, z_up, z_wr, z_wi1, z_wi0, z_wi, z_inS, z_toInt, z_nb0, z_nb1, Int.cast_ofNat_Int, true_and, and_true, not_true_eq_false, not_false_eq_true, false_imp_iff, true_imp_iff, aup_o, aup_k, ite_true, ite_false, z_fa000, z_fa001, z_fa010, z_fa011, z_fa100, z_fa101, z_fa110, z_fa111, if_true, if_false, h60, nn, e0, e1, e5]
        exact q
      · have el : lv E k ((o, r) :: t) = lv E k t := by rw [hk]; exact lv_0 hr
        rw [el] at hQ
        have q := ih (aup (aup m 121 n (r - 1)) 86 60 n) (by rw [aup_s]; exact hn) (by omega) (stM_c t (fun i hi => ⟨by rw [aup_o (by decide), aup_o (by decide)], by rw [aup_o (by decide), aup_i (by omega)]⟩) hS2) (fun p hp => hE2 p (List.mem_cons_of_mem _ hp)) (fun a a0 a1 => by rw [aup_o (by decide), aup_o (by decide)]; exact h115 a a0 a1) (fun b hb => hQ b ⟨fun x x1 x2 => by rw [hb.1 x x1 x2, aup_o x1, aup_o x2], fun i hi => by rw [hb.2.1 i hi, aup_i hi, aup_o (by decide)], hb.2.2⟩)
        clear hQ ih el
        simp (disch := omega) only [z_app, z_rd, z_cl, z_add, z_sub, z_mul, z_neg, z_lit, z_leT, z_leF, z_ltT, z_ltF, z_eqT, z_eqF, i_leT, i_leF, i_ltT, i_ltF, i_eqT, i_eqF, z_le, z_lt, z_eq, z_ite, z_at, z_pt, z_up, z_wr, z_wi1, z_wi0, z_wi, z_inS, z_toInt, z_nb0, z_nb1, Int.cast_ofNat_Int, true_and, and_true, not_true_eq_false, not_false_eq_true, false_imp_iff, true_imp_iff, aup_o, aup_k, ite_true, ite_false, z_fa000, z_fa001, z_fa010, z_fa011, z_fa100, z_fa101, z_fa110, z_fa111, if_true, if_false, h60, nn, e0, e1, e5]
        exact q
    · have el : lv E k ((o, r) :: t) = (k, (o, r) :: t) := lv_ne hk
      rw [el] at hQ
      have q := hQ m ⟨fun _ _ _ => rfl, fun _ _ => rfl, by rw [h60, List.length_cons]; omega, ⟨⟨by rw [← hn]; exact e0, by rw [← hn]; exact e1⟩, hS2⟩⟩
      clear hQ ih el
      simp (disch := omega) only [z_app, z_rd, z_cl, z_add, z_sub, z_mul, z_neg, z_lit, z_leT, z_leF, z_ltT, z_ltF, z_eqT, z_eqF, i_leT, i_leF, i_ltT, i_ltF, i_eqT, i_eqF, z_le, z_lt, z_eq, z_ite, z_at, z_pt, z_up, z_wr, z_wi1, z_wi0, z_wi, z_inS, z_toInt, z_nb0, z_nb1, Int.cast_ofNat_Int, true_and, and_true, not_true_eq_false, not_false_eq_true, false_imp_iff, true_imp_iff, aup_o, aup_k, ite_true, ite_false, z_fa000, z_fa001, z_fa010, z_fa011, z_fa100, z_fa101, z_fa110, z_fa111, if_true, if_false, h60, nn, e0, e1, e5]
      exact q
theorem lv_ok (hE : ∀ a, 0 ≤ a → a < K → a < E a ∧ E a ≤ K) {k : Int} (k0 : 0 ≤ k) (k1 : k ≤ K) : ∀ l : rSt, stE K l → l.length ≤ 4 → stE K (lv E k l).2 ∧ (lv E k l).2.length ≤ 4 ∧ 0 ≤ (lv E k l).1 ∧ (lv E k l).1 ≤ K := by
  intro l
  induction l with
  | nil => intro h hl; exact ⟨h, hl, k0, k1⟩
  | cons p t ih =>
    intro h hl
    obtain ⟨o, r⟩ := p
    obtain ⟨⟨o0, o1⟩, r1, r5⟩ := h (o, r) (List.mem_cons_self ..)
    have o0 : 0 ≤ o := o0
    have o1 : o < K := o1
    have r1 : 1 ≤ r := r1
    have r5 : r ≤ 50 := r5
    have ht : stE K t := fun p hp => h p (List.mem_cons_of_mem _ hp)
    by_cases hk : k = E o
    · by_cases hr : 0 < r - 1
      · have el : lv E k ((o, r) :: t) = (o + 1, (o, r - 1) :: t) := by rw [hk]; exact lv_1 hr
        rw [el]
        refine ⟨fun p hp => ?_, hl, by show 0 ≤ o + 1; omega, by show o + 1 ≤ K; omega⟩
        rcases List.mem_cons.mp hp with hp | hp
        · rw [hp]; exact ⟨⟨o0, o1⟩, by show 1 ≤ r - 1; omega, by show r - 1 ≤ 50; omega⟩
        · exact ht p hp
      · have el : lv E k ((o, r) :: t) = lv E k t := by rw [hk]; exact lv_0 hr
        rw [el]
        rw [List.length_cons] at hl
        exact ih ht (by omega)
    · have el : lv E k ((o, r) :: t) = (k, (o, r) :: t) := lv_ne hk
      rw [el]
      exact ⟨h, hl, k0, k1⟩
end MZ
