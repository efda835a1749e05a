/-! ===== the reference's operations: changes ===== -/
section MO4
variable {g : qG} {s : aS} {d : Nat} {a b c tx : Int}
theorem m_eff259 (hw : qWF g) {m : aS} {Q : Int32 → qS → Prop} {T : String → qS → Prop} (hJ : jJ s) (hr : rL s m) (hI : ¬ bI s 259 a b tx) (hA : ¬ bA 259 a b c) (hS : ¬ bS s 259 a tx) (hQ : ∀ b', rL (stS (opS s 259 a b c tx)) b' → mF m b' → Q (iI (s 2 9)) (qi b')) : qC g (d + 7) mX10_effective [.inr 86, .inl (iI 3), .inl (iI tx), .inl (iI a), .inl (iI b), .inl (iI c)] (qi m) (fun r s4 => qC g (d + 7) mX10_settle [.inr 86] s4 (fun _ s6 => Q r s6) T) T := by
  have J1 := (p_259 hw hJ hI hA hS).1
  have a0 : 0 ≤ a ∧ a < 8 := by unfold bI at hI; omega
  have b0 : 0 ≤ b ∧ b < 4 := by unfold bI at hI; unfold bA at hA; omega
  have c0 : 0 ≤ c ∧ c ≤ 9999 := by unfold bA at hA; omega
  have n1 : s 2 9 < 400 := by unfold bS at hS; omega
  by_cases ht : tx = -1
  · subst ht
    have ho : okR s 3 (-1) a b c := okR_n hJ (by omega) (by omega) (by omega) (by omega) (by omega) (by omega) (by omega) (by omega) (by omega)
    rw [op_259n] at J1 hQ
    exact m_effective0 hw hJ hr n1 ho (by omega) (fun b1 h1 f1 => m_settle hw J1 h1 (fun b2 h2 f2 => hQ b2 h2 (mF_tr f1 f2)))
  · have t0 : 0 ≤ tx ∧ tx < 4 := by unfold bI at hI; omega
    have hf : s 55 tx ≠ -1 := by unfold bS at hS; omega
    have ho : okR s 3 (s 55 tx) a b c := okR_c hJ t0.1 t0.2 hf (by omega) (by omega) (by omega) (by omega) (by omega) (by omega) (by omega) (by omega) (by omega)
    rw [op_259t ht] at J1 hQ
    exact m_effective1 hw hJ hr n1 t0.1 t0.2 hf ho (by omega) (fun b1 h1 f1 => m_settle hw J1 h1 (fun b2 h2 f2 => hQ b2 h2 (mF_tr f1 f2)))
theorem mw_259i (hw : qWF g) (hJ : jJ s) (ia : i32 a) (ib : i32 b) (ic : i32 c) (it : i32 tx) (hI : bI s 259 a b tx) : mO g (d + 10) mX10_write [.inl (iI a), .inl (iI b), .inl (iI c), .inl (iI tx)] s s (.inr 0) := by
  have hx : ¬ ((0 ≤ a ∧ a ≤ 7) ∧ (0 ≤ b ∧ b ≤ 3) ∧ (-1 ≤ tx ∧ tx ≤ 3)) := by unfold bI at hI; omega
  clear hI
  have it0 := it
  unfold i32 at ia ib ic it
  refine m_thr fun m Q hrJ hQ => wX10_write hw (wX10_isFile hw ?_)
  have hr := hrJ.1
  have key : ∀ (o5 o6 : Option qP), qV g mX10_write (d + 10) 0 30 [some (.inr 86), some (.inl (iI a)), some (.inl (iI b)), some (.inl (iI c)), some (.inl (iI tx)), o5, o6] [.inl (iI 0)] (qi m) Q (fun _ _ => False) := by
    intro o5 o6
    refine wX10_write_30 hw ?_
    by_cases hc : 0 ≤ c ∧ c ≤ 9999
    · simp (disch := omega) only [z_app, z_lit, z_neg, z_wi1, z_wi0, z_leT, z_leF, z_ltT, z_ltF, z_eqT, z_eqF, Int.cast_ofNat_Int, true_and, and_true, not_true_eq_false, not_false_eq_true, false_imp_iff, true_imp_iff, ite_true, ite_false, if_true, if_false]
      refine wX10_write_59 hw (m_cannot hw hJ hr it0 (fun h9 => ?_) (fun h9 => ?_))
      · clear h9; simp (disch := omega) only [z_app, z_rd, z_cl, z_add, z_sub, z_mul, z_neg, z_lit, z_leT, z_leF, z_ltT, z_ltF, z_eqT, z_eqF, i_leT, i_leF, i_ltT, i_ltF, i_eqT, i_eqF, z_le, z_lt, z_eq, z_ite, z_at, z_pt, z_up, z_wr, z_wi1, z_wi0, z_wi, z_inS, z_toInt, z_nb0, z_nb1, Int.cast_ofNat_Int, true_and, and_true, not_true_eq_false, not_false_eq_true, false_imp_iff, true_imp_iff, aup_o, aup_k, ite_true, ite_false, z_fa000, z_fa001, z_fa010, z_fa011, z_fa100, z_fa101, z_fa110, z_fa111, if_true, if_false]; exact hQ 0
      · clear h9; simp (disch := omega) only [z_app, z_rd, z_cl, z_add, z_sub, z_mul, z_neg, z_lit, z_leT, z_leF, z_ltT, z_ltF, z_eqT, z_eqF, i_leT, i_leF, i_ltT, i_ltF, i_eqT, i_eqF, z_le, z_lt, z_eq, z_ite, z_at, z_pt, z_up, z_wr, z_wi1, z_wi0, z_wi, z_inS, z_toInt, z_nb0, z_nb1, Int.cast_ofNat_Int, true_and, and_true, not_true_eq_false, not_false_eq_true, false_imp_iff, true_imp_iff, aup_o, aup_k, ite_true, ite_false, z_fa000, z_fa001, z_fa010, z_fa011, z_fa100, z_fa101, z_fa110, z_fa111, if_true, if_false]; exact hQ 0
    · simp (disch := omega) only [z_app, z_lit, z_neg, z_wi1, z_wi0, z_leT, z_leF, z_ltT, z_ltF, z_eqT, z_eqF, Int.cast_ofNat_Int, true_and, and_true, not_true_eq_false, not_false_eq_true, false_imp_iff, true_imp_iff, ite_true, ite_false, if_true, if_false]
      refine wX10_write_59 hw (m_cannot hw hJ hr it0 (fun h9 => ?_) (fun h9 => ?_))
      · clear h9; simp (disch := omega) only [z_app, z_rd, z_cl, z_add, z_sub, z_mul, z_neg, z_lit, z_leT, z_leF, z_ltT, z_ltF, z_eqT, z_eqF, i_leT, i_leF, i_ltT, i_ltF, i_eqT, i_eqF, z_le, z_lt, z_eq, z_ite, z_at, z_pt, z_up, z_wr, z_wi1, z_wi0, z_wi, z_inS, z_toInt, z_nb0, z_nb1, Int.cast_ofNat_Int, true_and, and_true, not_true_eq_false, not_false_eq_true, false_imp_iff, true_imp_iff, aup_o, aup_k, ite_true, ite_false, z_fa000, z_fa001, z_fa010, z_fa011, z_fa100, z_fa101, z_fa110, z_fa111, if_true, if_false]; exact hQ 0
      · clear h9; simp (disch := omega) only [z_app, z_rd, z_cl, z_add, z_sub, z_mul, z_neg, z_lit, z_leT, z_leF, z_ltT, z_ltF, z_eqT, z_eqF, i_leT, i_leF, i_ltT, i_ltF, i_eqT, i_eqF, z_le, z_lt, z_eq, z_ite, z_at, z_pt, z_up, z_wr, z_wi1, z_wi0, z_wi, z_inS, z_toInt, z_nb0, z_nb1, Int.cast_ofNat_Int, true_and, and_true, not_true_eq_false, not_false_eq_true, false_imp_iff, true_imp_iff, aup_o, aup_k, ite_true, ite_false, z_fa000, z_fa001, z_fa010, z_fa011, z_fa100, z_fa101, z_fa110, z_fa111, if_true, if_false]; exact hQ 0
  by_cases ha : 0 ≤ a ∧ a ≤ 7
  · by_cases hb : 0 ≤ b ∧ b ≤ 3
    · simp (disch := omega) only [z_app, z_lit, z_neg, z_wi1, z_wi0, z_leT, z_leF, z_ltT, z_ltF, z_eqT, z_eqF, Int.cast_ofNat_Int, true_and, and_true, not_true_eq_false, not_false_eq_true, false_imp_iff, true_imp_iff, ite_true, ite_false, if_true, if_false]
      refine ⟨Or.inr trivial, wX10_isTx hw ?_⟩
      have ht : tx < -1 ∨ 3 < tx := by omega
      simp (disch := omega) only [z_app, z_lit, z_neg, z_wi1, z_wi0, z_leT, z_leF, z_ltT, z_ltF, z_eqT, z_eqF, Int.cast_ofNat_Int, true_and, and_true, not_true_eq_false, not_false_eq_true, false_imp_iff, true_imp_iff, ite_true, ite_false, if_true, if_false]
      exact ⟨Or.inl trivial, key _ _⟩
    · simp (disch := omega) only [z_app, z_lit, z_neg, z_wi1, z_wi0, z_leT, z_leF, z_ltT, z_ltF, z_eqT, z_eqF, Int.cast_ofNat_Int, true_and, and_true, not_true_eq_false, not_false_eq_true, false_imp_iff, true_imp_iff, ite_true, ite_false, if_true, if_false]
      exact ⟨Or.inr trivial, key _ _⟩
  · simp (disch := omega) only [z_app, z_lit, z_neg, z_wi1, z_wi0, z_leT, z_leF, z_ltT, z_ltF, z_eqT, z_eqF, Int.cast_ofNat_Int, true_and, and_true, not_true_eq_false, not_false_eq_true, false_imp_iff, true_imp_iff, ite_true, ite_false, if_true, if_false]
    exact ⟨Or.inl trivial, key _ _⟩
theorem m_write_in (hw : qWF g) {m : aS} {Q : Int32 → qS → Prop} (ha : 0 ≤ a ∧ a ≤ 7) (hb : 0 ≤ b ∧ b ≤ 3) (ht : -1 ≤ tx ∧ tx ≤ 3) (h : ∀ (o5 o6 : Option qP), qV g mX10_write (d + 2) 0 30 [some (.inr 86), some (.inl (iI a)), some (.inl (iI b)), some (.inl (iI c)), some (.inl (iI tx)), o5, o6] [.inl (iI 1)] (qi m) Q (fun _ _ => False)) : qC g (d + 2) mX10_write [.inr 86, .inl (iI a), .inl (iI b), .inl (iI c), .inl (iI tx)] (qi m) Q (fun _ _ => False) := by
  refine wX10_write hw (wX10_isFile hw ?_)
  simp (disch := omega) only [z_app, z_lit, z_neg, z_wi1, z_wi0, z_leT, z_leF, z_ltT, z_ltF, z_eqT, z_eqF, Int.cast_ofNat_Int, true_and, and_true, not_true_eq_false, not_false_eq_true, false_imp_iff, true_imp_iff, ite_true, ite_false, if_true, if_false]
  refine ⟨Or.inr trivial, wX10_isTx hw ?_⟩
  simp (disch := omega) only [z_app, z_lit, z_neg, z_wi1, z_wi0, z_leT, z_leF, z_ltT, z_ltF, z_eqT, z_eqF, Int.cast_ofNat_Int, true_and, and_true, not_true_eq_false, not_false_eq_true, false_imp_iff, true_imp_iff, ite_true, ite_false, if_true, if_false]
  exact ⟨Or.inr trivial, h _ _⟩
theorem mw_259a (hw : qWF g) (hJ : jJ s) (ia : i32 a) (ib : i32 b) (ic : i32 c) (it : i32 tx) (hI : ¬ bI s 259 a b tx) (hA : bA 259 a b c) : mO g (d + 10) mX10_write [.inl (iI a), .inl (iI b), .inl (iI c), .inl (iI tx)] s s (.inr 1) := by
  have hx : (0 ≤ a ∧ a ≤ 7) ∧ (0 ≤ b ∧ b ≤ 3) ∧ (-1 ≤ tx ∧ tx ≤ 3) := by unfold bI at hI; omega
  have hc : ¬ (0 ≤ c ∧ c ≤ 9999) := by unfold bA at hA; omega
  clear hI hA
  have it0 := it
  unfold i32 at ia ib ic it
  refine m_thr fun m Q hrJ hQ => m_write_in hw hx.1 hx.2.1 hx.2.2 (fun o5 o6 => wX10_write_30 hw ?_)
  have hr := hrJ.1
  simp (disch := omega) only [z_app, z_lit, z_neg, z_wi1, z_wi0, z_leT, z_leF, z_ltT, z_ltF, z_eqT, z_eqF, Int.cast_ofNat_Int, true_and, and_true, not_true_eq_false, not_false_eq_true, false_imp_iff, true_imp_iff, ite_true, ite_false, if_true, if_false]
  refine wX10_write_59 hw (m_cannot hw hJ hr it0 (fun h9 => ?_) (fun h9 => ?_))
  · clear h9; simp (disch := omega) only [z_app, z_rd, z_cl, z_add, z_sub, z_mul, z_neg, z_lit, z_leT, z_leF, z_ltT, z_ltF, z_eqT, z_eqF, i_leT, i_leF, i_ltT, i_ltF, i_eqT, i_eqF, z_le, z_lt, z_eq, z_ite, z_at, z_pt, z_up, z_wr, z_wi1, z_wi0, z_wi, z_inS, z_toInt, z_nb0, z_nb1, Int.cast_ofNat_Int, true_and, and_true, not_true_eq_false, not_false_eq_true, false_imp_iff, true_imp_iff, aup_o, aup_k, ite_true, ite_false, z_fa000, z_fa001, z_fa010, z_fa011, z_fa100, z_fa101, z_fa110, z_fa111, if_true, if_false]; exact hQ 0
  · clear h9; simp (disch := omega) only [z_app, z_rd, z_cl, z_add, z_sub, z_mul, z_neg, z_lit, z_leT, z_leF, z_ltT, z_ltF, z_eqT, z_eqF, i_leT, i_leF, i_ltT, i_ltF, i_eqT, i_eqF, z_le, z_lt, z_eq, z_ite, z_at, z_pt, z_up, z_wr, z_wi1, z_wi0, z_wi, z_inS, z_toInt, z_nb0, z_nb1, Int.cast_ofNat_Int, true_and, and_true, not_true_eq_false, not_false_eq_true, false_imp_iff, true_imp_iff, aup_o, aup_k, ite_true, ite_false, z_fa000, z_fa001, z_fa010, z_fa011, z_fa100, z_fa101, z_fa110, z_fa111, if_true, if_false]; exact hQ 0
theorem mw_259s (hw : qWF g) (hJ : jJ s) (ia : i32 a) (ib : i32 b) (ic : i32 c) (it : i32 tx) (hI : ¬ bI s 259 a b tx) (hA : ¬ bA 259 a b c) (hS : bS s 259 a tx) : mO g (d + 10) mX10_write [.inl (iI a), .inl (iI b), .inl (iI c), .inl (iI tx)] s s (.inr 2) := by
  have hx : (0 ≤ a ∧ a ≤ 7) ∧ (0 ≤ b ∧ b ≤ 3) ∧ (-1 ≤ tx ∧ tx ≤ 3) := by unfold bI at hI; omega
  have hc : 0 ≤ c ∧ c ≤ 9999 := by unfold bA at hA; omega
  have hs : 400 ≤ s 2 9 ∨ (0 ≤ tx ∧ tx ≤ 3 ∧ s 55 tx = -1) := by unfold bS at hS; omega
  clear hI hA hS
  have it0 := it
  unfold i32 at ia ib ic it
  refine m_thr fun m Q hrJ hQ => m_write_in hw hx.1 hx.2.1 hx.2.2 (fun o5 o6 => wX10_write_30 hw ?_)
  have hr := hrJ.1
  simp (disch := omega) only [z_app, z_lit, z_neg, z_wi1, z_wi0, z_leT, z_leF, z_ltT, z_ltF, z_eqT, z_eqF, Int.cast_ofNat_Int, true_and, and_true, not_true_eq_false, not_false_eq_true, false_imp_iff, true_imp_iff, ite_true, ite_false, if_true, if_false]
  refine wX10_write_59 hw (m_cannot hw hJ hr it0 (fun h9 => ?_) (fun h9 => (h9 hs).elim))
  clear h9 hs; simp (disch := omega) only [z_app, z_rd, z_cl, z_add, z_sub, z_mul, z_neg, z_lit, z_leT, z_leF, z_ltT, z_ltF, z_eqT, z_eqF, i_leT, i_leF, i_ltT, i_ltF, i_eqT, i_eqF, z_le, z_lt, z_eq, z_ite, z_at, z_pt, z_up, z_wr, z_wi1, z_wi0, z_wi, z_inS, z_toInt, z_nb0, z_nb1, Int.cast_ofNat_Int, true_and, and_true, not_true_eq_false, not_false_eq_true, false_imp_iff, true_imp_iff, aup_o, aup_k, ite_true, ite_false, z_fa000, z_fa001, z_fa010, z_fa011, z_fa100, z_fa101, z_fa110, z_fa111, if_true, if_false]; exact hQ 0
theorem mw_259r (hw : qWF g) (hJ : jJ s) (ia : i32 a) (ib : i32 b) (ic : i32 c) (it : i32 tx) (hI : ¬ bI s 259 a b tx) (hA : ¬ bA 259 a b c) (hS : ¬ bS s 259 a tx) : mO g (d + 10) mX10_write [.inl (iI a), .inl (iI b), .inl (iI c), .inl (iI tx)] s (stS (opS s 259 a b c tx)) (.inl (opA s 259 a b c tx)) := by
  have hx : (0 ≤ a ∧ a ≤ 7) ∧ (0 ≤ b ∧ b ≤ 3) ∧ (-1 ≤ tx ∧ tx ≤ 3) := by unfold bI at hI; omega
  have hc : 0 ≤ c ∧ c ≤ 9999 := by unfold bA at hA; omega
  have hs : ¬ (400 ≤ s 2 9 ∨ (0 ≤ tx ∧ tx ≤ 3 ∧ s 55 tx = -1)) := by unfold bS at hS; unfold bI at hI; omega
  have E := fun (m : aS) (Q : Int32 → qS → Prop) (hr0 : rL s (aup m 86 0 0)) hQ => m_eff259 (d := d + 2) (T := fun _ _ => False) (Q := Q) hw hJ hr0 hI hA hS hQ
  clear hI hA hS
  have it0 := it
  unfold i32 at ia ib ic it
  refine m_op_ret (fun x hx => sto s _ _ _ _ _ hx) fun m Q hr0 hQ hr => m_write_in hw hx.1 hx.2.1 hx.2.2 (fun o5 o6 => wX10_write_30 hw ?_)
  simp (disch := omega) only [z_app, z_lit, z_neg, z_wi1, z_wi0, z_leT, z_leF, z_ltT, z_ltF, z_eqT, z_eqF, Int.cast_ofNat_Int, true_and, and_true, not_true_eq_false, not_false_eq_true, false_imp_iff, true_imp_iff, ite_true, ite_false, if_true, if_false]
  refine wX10_write_59 hw (m_cannot hw hJ hr it0 (fun h9 => (hs h9).elim) (fun h9 => ?_))
  clear h9 hs
  simp (disch := omega) only [z_app, z_rd, z_cl, z_add, z_sub, z_mul, z_neg, z_lit, z_leT, z_leF, z_ltT, z_ltF, z_eqT, z_eqF, i_leT, i_leF, i_ltT, i_ltF, i_eqT, i_eqF, z_le, z_lt, z_eq, z_ite, z_at, z_pt, z_up, z_wr, z_wi1, z_wi0, z_wi, z_inS, z_toInt, z_nb0, z_nb1, Int.cast_ofNat_Int, true_and, and_true, not_true_eq_false, not_false_eq_true, false_imp_iff, true_imp_iff, aup_o, aup_k, ite_true, ite_false, z_fa000, z_fa001, z_fa010, z_fa011, z_fa100, z_fa101, z_fa110, z_fa111, if_true, if_false]
  exact E m Q hr0 hQ
theorem m_eff260 (hw : qWF g) {m : aS} {Q : Int32 → qS → Prop} {T : String → qS → Prop} (hJ : jJ s) (hr : rL s m) (hI : ¬ bI s 260 a b tx) (hA : ¬ bA 260 a b c) (hS : ¬ bS s 260 a tx) (hQ : ∀ b', rL (stS (opS s 260 a b c tx)) b' → mF m b' → Q (iI (s 2 9)) (qi b')) : qC g (d + 7) mX10_effective [.inr 86, .inl (iI 4), .inl (iI tx), .inl (iI a), .inl (iI 0), .inl (iI 0)] (qi m) (fun r s4 => qC g (d + 7) mX10_settle [.inr 86] s4 (fun _ s6 => Q r s6) T) T := by
  have J1 := (p_260 hw hJ hI hA hS).1
  have a0 : 0 ≤ a ∧ a < 8 := by unfold bI at hI; omega
  have n1 : s 2 9 < 400 := by unfold bS at hS; omega
  by_cases ht : tx = -1
  · subst ht
    have ho : okR s 4 (-1) a 0 0 := okR_n hJ (by omega) (by omega) (by omega) (by omega) (by omega) (by omega) (by omega) (by omega) (by omega)
    rw [op_260n] at J1 hQ
    exact m_effective0 hw hJ hr n1 ho (by omega) (fun b1 h1 f1 => m_settle hw J1 h1 (fun b2 h2 f2 => hQ b2 h2 (mF_tr f1 f2)))
  · have t0 : 0 ≤ tx ∧ tx < 4 := by unfold bI at hI; omega
    have hf : s 55 tx ≠ -1 := by unfold bS at hS; omega
    have ho : okR s 4 (s 55 tx) a 0 0 := okR_c hJ t0.1 t0.2 hf (by omega) (by omega) (by omega) (by omega) (by omega) (by omega) (by omega) (by omega) (by omega)
    rw [op_260t ht] at J1 hQ
    exact m_effective1 hw hJ hr n1 t0.1 t0.2 hf ho (by omega) (fun b1 h1 f1 => m_settle hw J1 h1 (fun b2 h2 f2 => hQ b2 h2 (mF_tr f1 f2)))
theorem mw_260i (hw : qWF g) (hJ : jJ s) (ia : i32 a) (ib : i32 b) (ic : i32 c) (it : i32 tx) (hI : bI s 260 a b tx) : mO g (d + 10) mX10_remove [.inl (iI a), .inl (iI tx)] s s (.inr 0) := by
  have hx : ¬ ((0 ≤ a ∧ a ≤ 7) ∧ (-1 ≤ tx ∧ tx ≤ 3)) := by unfold bI at hI; omega
  clear hI
  have it0 := it
  unfold i32 at ia ib ic it
  refine m_thr fun m Q hrJ hQ => wX10_remove hw (wX10_isFile hw ?_)
  have hr := hrJ.1
  by_cases ha : 0 ≤ a ∧ a ≤ 7
  · have ht : tx < -1 ∨ 3 < tx := by omega
    simp (disch := omega) only [z_app, z_lit, z_neg, z_wi1, z_wi0, z_leT, z_leF, z_ltT, z_ltF, z_eqT, z_eqF, Int.cast_ofNat_Int, true_and, and_true, not_true_eq_false, not_false_eq_true, false_imp_iff, true_imp_iff, ite_true, ite_false, if_true, if_false]
    refine ⟨Or.inr trivial, wX10_isTx hw ?_⟩
    simp (disch := omega) only [z_app, z_lit, z_neg, z_wi1, z_wi0, z_leT, z_leF, z_ltT, z_ltF, z_eqT, z_eqF, Int.cast_ofNat_Int, true_and, and_true, not_true_eq_false, not_false_eq_true, false_imp_iff, true_imp_iff, ite_true, ite_false, if_true, if_false]
    refine ⟨Or.inl trivial, m_cannot hw hJ hr it0 (fun h9 => ?_) (fun h9 => ?_)⟩
    · clear h9; simp (disch := omega) only [z_app, z_rd, z_cl, z_add, z_sub, z_mul, z_neg, z_lit, z_leT, z_leF, z_ltT, z_ltF, z_eqT, z_eqF, i_leT, i_leF, i_ltT, i_ltF, i_eqT, i_eqF, z_le, z_lt, z_eq, z_ite, z_at, z_pt, z_up, z_wr, z_wi1, z_wi0, z_wi, z_inS, z_toInt, z_nb0, z_nb1, Int.cast_ofNat_Int, true_and, and_true, not_true_eq_false, not_false_eq_true, false_imp_iff, true_imp_iff, aup_o, aup_k, ite_true, ite_false, z_fa000, z_fa001, z_fa010, z_fa011, z_fa100, z_fa101, z_fa110, z_fa111, if_true, if_false]; exact hQ 0
    · clear h9; simp (disch := omega) only [z_app, z_rd, z_cl, z_add, z_sub, z_mul, z_neg, z_lit, z_leT, z_leF, z_ltT, z_ltF, z_eqT, z_eqF, i_leT, i_leF, i_ltT, i_ltF, i_eqT, i_eqF, z_le, z_lt, z_eq, z_ite, z_at, z_pt, z_up, z_wr, z_wi1, z_wi0, z_wi, z_inS, z_toInt, z_nb0, z_nb1, Int.cast_ofNat_Int, true_and, and_true, not_true_eq_false, not_false_eq_true, false_imp_iff, true_imp_iff, aup_o, aup_k, ite_true, ite_false, z_fa000, z_fa001, z_fa010, z_fa011, z_fa100, z_fa101, z_fa110, z_fa111, if_true, if_false]; exact hQ 0
  · simp (disch := omega) only [z_app, z_lit, z_neg, z_wi1, z_wi0, z_leT, z_leF, z_ltT, z_ltF, z_eqT, z_eqF, Int.cast_ofNat_Int, true_and, and_true, not_true_eq_false, not_false_eq_true, false_imp_iff, true_imp_iff, ite_true, ite_false, if_true, if_false]
    refine ⟨Or.inl trivial, m_cannot hw hJ hr it0 (fun h9 => ?_) (fun h9 => ?_)⟩
    · clear h9; simp (disch := omega) only [z_app, z_rd, z_cl, z_add, z_sub, z_mul, z_neg, z_lit, z_leT, z_leF, z_ltT, z_ltF, z_eqT, z_eqF, i_leT, i_leF, i_ltT, i_ltF, i_eqT, i_eqF, z_le, z_lt, z_eq, z_ite, z_at, z_pt, z_up, z_wr, z_wi1, z_wi0, z_wi, z_inS, z_toInt, z_nb0, z_nb1, Int.cast_ofNat_Int, true_and, and_true, not_true_eq_false, not_false_eq_true, false_imp_iff, true_imp_iff, aup_o, aup_k, ite_true, ite_false, z_fa000, z_fa001, z_fa010, z_fa011, z_fa100, z_fa101, z_fa110, z_fa111, if_true, if_false]; exact hQ 0
    · clear h9; simp (disch := omega) only [z_app, z_rd, z_cl, z_add, z_sub, z_mul, z_neg, z_lit, z_leT, z_leF, z_ltT, z_ltF, z_eqT, z_eqF, i_leT, i_leF, i_ltT, i_ltF, i_eqT, i_eqF, z_le, z_lt, z_eq, z_ite, z_at, z_pt, z_up, z_wr, z_wi1, z_wi0, z_wi, z_inS, z_toInt, z_nb0, z_nb1, Int.cast_ofNat_Int, true_and, and_true, not_true_eq_false, not_false_eq_true, false_imp_iff, true_imp_iff, aup_o, aup_k, ite_true, ite_false, z_fa000, z_fa001, z_fa010, z_fa011, z_fa100, z_fa101, z_fa110, z_fa111, if_true, if_false]; exact hQ 0
theorem mw_260s (hw : qWF g) (hJ : jJ s) (ia : i32 a) (ib : i32 b) (ic : i32 c) (it : i32 tx) (hI : ¬ bI s 260 a b tx) (hS : bS s 260 a tx) : mO g (d + 10) mX10_remove [.inl (iI a), .inl (iI tx)] s s (.inr 1) := by
  have hx : (0 ≤ a ∧ a ≤ 7) ∧ (-1 ≤ tx ∧ tx ≤ 3) := by unfold bI at hI; omega
  have hs : 400 ≤ s 2 9 ∨ (0 ≤ tx ∧ tx ≤ 3 ∧ s 55 tx = -1) := by unfold bS at hS; omega
  clear hI hS
  have it0 := it
  unfold i32 at ia ib ic it
  refine m_thr fun m Q hrJ hQ => wX10_remove hw (wX10_isFile hw ?_)
  have hr := hrJ.1
  have K := m_cannot (d := d + 7) (T := fun _ _ => False) hw hJ hr it0 (Q := fun r11 s12 => (((if qfa 0 r11 0 ≤ 0 then (0 : Int32) else 1) = 0 → qC g (d + 9) mX10_effective [.inr 86, .inl 4, .inl (iI tx), .inl (iI a), .inl 0, .inl 0] (qup s12 86 0 (qfa 0 r11 0)) (fun r13 s14 => qC g (d + 9) mX10_settle [.inr 86] s14 (fun _ s16 => Q r13 s16) (fun _ _ => False)) (fun _ _ => False)) ∧ (¬ (if qfa 0 r11 0 ≤ 0 then (0 : Int32) else 1) = 0 → Q 0 (qup s12 86 0 (qfa 0 r11 0))))) (fun h9 => by clear h9 hs; simp (disch := omega) only [z_app, z_rd, z_cl, z_add, z_sub, z_mul, z_neg, z_lit, z_leT, z_leF, z_ltT, z_ltF, z_eqT, z_eqF, i_leT, i_leF, i_ltT, i_ltF, i_eqT, i_eqF, z_le, z_lt, z_eq, z_ite, z_at, z_pt, z_up, z_wr, z_wi1, z_wi0, z_wi, z_inS, z_toInt, z_nb0, z_nb1, Int.cast_ofNat_Int, true_and, and_true, not_true_eq_false, not_false_eq_true, false_imp_iff, true_imp_iff, aup_o, aup_k, ite_true, ite_false, z_fa000, z_fa001, z_fa010, z_fa011, z_fa100, z_fa101, z_fa110, z_fa111, if_true, if_false]; exact hQ 0) (fun h9 => (h9 hs).elim)
  clear hs
  simp (disch := omega) only [z_app, z_lit, z_neg, z_wi1, z_wi0, z_leT, z_leF, z_ltT, z_ltF, z_eqT, z_eqF, Int.cast_ofNat_Int, true_and, and_true, not_true_eq_false, not_false_eq_true, false_imp_iff, true_imp_iff, ite_true, ite_false, if_true, if_false]
  refine ⟨Or.inr trivial, wX10_isTx hw ?_⟩
  simp (disch := omega) only [z_app, z_lit, z_neg, z_wi1, z_wi0, z_leT, z_leF, z_ltT, z_ltF, z_eqT, z_eqF, Int.cast_ofNat_Int, true_and, and_true, not_true_eq_false, not_false_eq_true, false_imp_iff, true_imp_iff, ite_true, ite_false, if_true, if_false]
  exact ⟨Or.inr trivial, K⟩
theorem mw_260r (hw : qWF g) (hJ : jJ s) (ia : i32 a) (ib : i32 b) (ic : i32 c) (it : i32 tx) (hI : ¬ bI s 260 a b tx) (hA : ¬ bA 260 a b c) (hS : ¬ bS s 260 a tx) : mO g (d + 10) mX10_remove [.inl (iI a), .inl (iI tx)] s (stS (opS s 260 a b c tx)) (.inl (opA s 260 a b c tx)) := by
  have hx : (0 ≤ a ∧ a ≤ 7) ∧ (-1 ≤ tx ∧ tx ≤ 3) := by unfold bI at hI; omega
  have hs : ¬ (400 ≤ s 2 9 ∨ (0 ≤ tx ∧ tx ≤ 3 ∧ s 55 tx = -1)) := by unfold bS at hS; unfold bI at hI; omega
  have E := fun (m : aS) (Q : Int32 → qS → Prop) (hr0 : rL s (aup m 86 0 0)) hQ => m_eff260 (d := d + 2) (T := fun _ _ => False) (Q := Q) hw hJ hr0 hI hA hS hQ
  clear hI hA hS
  have it0 := it
  unfold i32 at ia ib ic it
  refine m_op_ret (fun x hx => sto s _ _ _ _ _ hx) fun m Q hr0 hQ hr => wX10_remove hw (wX10_isFile hw ?_)
  have K := m_cannot (d := d + 7) (T := fun _ _ => False) hw hJ hr it0 (Q := fun r11 s12 => (((if qfa 0 r11 0 ≤ 0 then (0 : Int32) else 1) = 0 → qC g (d + 9) mX10_effective [.inr 86, .inl 4, .inl (iI tx), .inl (iI a), .inl 0, .inl 0] (qup s12 86 0 (qfa 0 r11 0)) (fun r13 s14 => qC g (d + 9) mX10_settle [.inr 86] s14 (fun _ s16 => Q r13 s16) (fun _ _ => False)) (fun _ _ => False)) ∧ (¬ (if qfa 0 r11 0 ≤ 0 then (0 : Int32) else 1) = 0 → Q 0 (qup s12 86 0 (qfa 0 r11 0))))) (fun h9 => (hs h9).elim) (fun h9 => by clear h9 hs; simp (disch := omega) only [z_app, z_rd, z_cl, z_add, z_sub, z_mul, z_neg, z_lit, z_leT, z_leF, z_ltT, z_ltF, z_eqT, z_eqF, i_leT, i_leF, i_ltT, i_ltF, i_eqT, i_eqF, z_le, z_lt, z_eq, z_ite, z_at, z_pt, z_up, z_wr, z_wi1, z_wi0, z_wi, z_inS, z_toInt, z_nb0, z_nb1, Int.cast_ofNat_Int, true_and, and_true, not_true_eq_false, not_false_eq_true, false_imp_iff, true_imp_iff, aup_o, aup_k, ite_true, ite_false, z_fa000, z_fa001, z_fa010, z_fa011, z_fa100, z_fa101, z_fa110, z_fa111, if_true, if_false]; exact E m Q hr0 hQ)
  clear hs
  simp (disch := omega) only [z_app, z_lit, z_neg, z_wi1, z_wi0, z_leT, z_leF, z_ltT, z_ltF, z_eqT, z_eqF, Int.cast_ofNat_Int, true_and, and_true, not_true_eq_false, not_false_eq_true, false_imp_iff, true_imp_iff, ite_true, ite_false, if_true, if_false]
  refine ⟨Or.inr trivial, wX10_isTx hw ?_⟩
  simp (disch := omega) only [z_app, z_lit, z_neg, z_wi1, z_wi0, z_leT, z_leF, z_ltT, z_ltF, z_eqT, z_eqF, Int.cast_ofNat_Int, true_and, and_true, not_true_eq_false, not_false_eq_true, false_imp_iff, true_imp_iff, ite_true, ite_false, if_true, if_false]
  exact ⟨Or.inr trivial, K⟩
theorem m_eff261 (hw : qWF g) {m : aS} {Q : Int32 → qS → Prop} {T : String → qS → Prop} (hJ : jJ s) (hr : rL s m) (hI : ¬ bI s 261 a b tx) (hA : ¬ bA 261 a b c) (hS : ¬ bS s 261 a tx) (hQ : ∀ b', rL (stS (opS s 261 a b c tx)) b' → mF m b' → Q (iI (s 2 9)) (qi b')) : qC g (d + 7) mX10_effective [.inr 86, .inl (iI 5), .inl (iI tx), .inl (iI a), .inl (iI b), .inl (iI 0)] (qi m) (fun r s4 => qC g (d + 7) mX10_settle [.inr 86] s4 (fun _ s6 => Q r s6) T) T := by
  have J1 := (p_261 hw hJ hI hA hS).1
  have a0 : 0 ≤ a ∧ a < 8 := by unfold bI at hI; omega
  have b0 : 0 ≤ b ∧ b < 8 := by unfold bI at hI; unfold bA at hA; omega
  have n1 : s 2 9 < 400 := by unfold bS at hS; omega
  by_cases ht : tx = -1
  · subst ht
    have ho : okR s 5 (-1) a b 0 := okR_n hJ (by omega) (by omega) (by omega) (by omega) (by omega) (by omega) (by omega) (by omega) (by omega)
    rw [op_261n] at J1 hQ
    exact m_effective0 hw hJ hr n1 ho (by omega) (fun b1 h1 f1 => m_settle hw J1 h1 (fun b2 h2 f2 => hQ b2 h2 (mF_tr f1 f2)))
  · have t0 : 0 ≤ tx ∧ tx < 4 := by unfold bI at hI; omega
    have hf : s 55 tx ≠ -1 := by unfold bS at hS; omega
    have ho : okR s 5 (s 55 tx) a b 0 := okR_c hJ t0.1 t0.2 hf (by omega) (by omega) (by omega) (by omega) (by omega) (by omega) (by omega) (by omega) (by omega)
    rw [op_261t ht] at J1 hQ
    exact m_effective1 hw hJ hr n1 t0.1 t0.2 hf ho (by omega) (fun b1 h1 f1 => m_settle hw J1 h1 (fun b2 h2 f2 => hQ b2 h2 (mF_tr f1 f2)))
theorem m_eff262 (hw : qWF g) {m : aS} {Q : Int32 → qS → Prop} {T : String → qS → Prop} (hJ : jJ s) (hr : rL s m) (hI : ¬ bI s 262 a b tx) (hA : ¬ bA 262 a b c) (hS : ¬ bS s 262 a tx) (hQ : ∀ b', rL (stS (opS s 262 a b c tx)) b' → mF m b' → Q (iI (s 2 9)) (qi b')) : qC g (d + 7) mX10_effective [.inr 86, .inl (iI 6), .inl (iI tx), .inl (iI a), .inl (iI b), .inl (iI c)] (qi m) (fun r s4 => qC g (d + 7) mX10_settle [.inr 86] s4 (fun _ s6 => Q r s6) T) T := by
  have J1 := (p_262 hw hJ hI hA hS).1
  have a0 : 0 ≤ a ∧ a < 4 := by unfold bI at hI; omega
  have b0 : 0 ≤ b ∧ b ≤ 9999 := by unfold bI at hI; unfold bA at hA; omega
  have c0 : 0 ≤ c ∧ c ≤ 20 := by unfold bA at hA; omega
  have n1 : s 2 9 < 400 := by unfold bS at hS; omega
  by_cases ht : tx = -1
  · subst ht
    have ho : okR s 6 (-1) a b c := okR_n hJ (by omega) (by omega) (by omega) (by omega) (by omega) (by omega) (by omega) (by omega) (by omega)
    rw [op_262n] at J1 hQ
    exact m_effective0 hw hJ hr n1 ho (by omega) (fun b1 h1 f1 => m_settle hw J1 h1 (fun b2 h2 f2 => hQ b2 h2 (mF_tr f1 f2)))
  · have t0 : 0 ≤ tx ∧ tx < 4 := by unfold bI at hI; omega
    have hf : s 55 tx ≠ -1 := by unfold bS at hS; omega
    have ho : okR s 6 (s 55 tx) a b c := okR_c hJ t0.1 t0.2 hf (by omega) (by omega) (by omega) (by omega) (by omega) (by omega) (by omega) (by omega) (by omega)
    rw [op_262t ht] at J1 hQ
    exact m_effective1 hw hJ hr n1 t0.1 t0.2 hf ho (by omega) (fun b1 h1 f1 => m_settle hw J1 h1 (fun b2 h2 f2 => hQ b2 h2 (mF_tr f1 f2)))
end MO4
