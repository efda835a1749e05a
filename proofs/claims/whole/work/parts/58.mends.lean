/-! ===== the reference's operations: ends and changes, with their pairs ===== -/
section MO3
variable {g : qG} {s : aS} {d : Nat} {a b c tx : Int}
theorem m_cannot (hw : qWF g) {m : aS} {Q : Int32 → qS → Prop} {T : String → qS → Prop} (hJ : jJ s) (hr : rL s m) (it : i32 tx) (h1 : (400 ≤ s 2 9 ∨ (0 ≤ tx ∧ tx ≤ 3 ∧ s 55 tx = -1)) → Q (iI 1) (qi m)) (h0 : ¬ (400 ≤ s 2 9 ∨ (0 ≤ tx ∧ tx ≤ 3 ∧ s 55 tx = -1)) → Q (iI 0) (qi m)) : qC g (d + 2) mX10_cannot [.inr 86, .inl (iI tx)] (qi m) Q T := by
  have B : 0 ≤ s 2 9 ∧ s 2 9 ≤ 400 := by have := jb hJ; omega
  have e15 := rs_15 hr
  unfold i32 at it
  refine wX10_cannot hw ?_
  by_cases hf : s 2 9 < 400
  · by_cases ht : 0 ≤ tx ∧ tx ≤ 3
    · simp (disch := omega) only [z_app, z_rd, z_cl, z_add, z_sub, z_mul, z_neg, z_lit, z_leT, z_leF, z_ltT, z_ltF, z_eqT, z_eqF, i_leT, i_leF, i_ltT, i_ltF, i_eqT, i_eqF, z_le, z_lt, z_eq, z_ite, z_at, z_pt, z_up, z_wr, z_wi1, z_wi0, z_wi, z_inS, z_toInt, z_nb0, z_nb1, Int.cast_ofNat_Int, true_and, and_true, not_true_eq_false, not_false_eq_true, false_imp_iff, true_imp_iff, aup_o, aup_k, ite_true, ite_false, z_fa000, z_fa001, z_fa010, z_fa011, z_fa100, z_fa101, z_fa110, z_fa111, if_true, if_false, e15]
      by_cases hb : s 55 tx = -1
      · refine m_isOpen0 hw hr ht.1 (by omega) hb ?_
        simp (disch := omega) only [z_app, z_rd, z_cl, z_add, z_sub, z_mul, z_neg, z_lit, z_leT, z_leF, z_ltT, z_ltF, z_eqT, z_eqF, i_leT, i_leF, i_ltT, i_ltF, i_eqT, i_eqF, z_le, z_lt, z_eq, z_ite, z_at, z_pt, z_up, z_wr, z_wi1, z_wi0, z_wi, z_inS, z_toInt, z_nb0, z_nb1, Int.cast_ofNat_Int, true_and, and_true, not_true_eq_false, not_false_eq_true, false_imp_iff, true_imp_iff, aup_o, aup_k, ite_true, ite_false, z_fa000, z_fa001, z_fa010, z_fa011, z_fa100, z_fa101, z_fa110, z_fa111, if_true, if_false]
        exact ⟨Or.inr trivial, h1 (Or.inr ⟨ht.1, ht.2, hb⟩)⟩
      · refine m_isOpen1 hw hJ hr ht.1 (by omega) hb ?_
        simp (disch := omega) only [z_app, z_rd, z_cl, z_add, z_sub, z_mul, z_neg, z_lit, z_leT, z_leF, z_ltT, z_ltF, z_eqT, z_eqF, i_leT, i_leF, i_ltT, i_ltF, i_eqT, i_eqF, z_le, z_lt, z_eq, z_ite, z_at, z_pt, z_up, z_wr, z_wi1, z_wi0, z_wi, z_inS, z_toInt, z_nb0, z_nb1, Int.cast_ofNat_Int, true_and, and_true, not_true_eq_false, not_false_eq_true, false_imp_iff, true_imp_iff, aup_o, aup_k, ite_true, ite_false, z_fa000, z_fa001, z_fa010, z_fa011, z_fa100, z_fa101, z_fa110, z_fa111, if_true, if_false]
        exact ⟨Or.inl trivial, h0 (fun x => by rcases x with x | x; omega; exact hb x.2.2)⟩
    · simp (disch := omega) only [z_app, z_rd, z_cl, z_add, z_sub, z_mul, z_neg, z_lit, z_leT, z_leF, z_ltT, z_ltF, z_eqT, z_eqF, i_leT, i_leF, i_ltT, i_ltF, i_eqT, i_eqF, z_le, z_lt, z_eq, z_ite, z_at, z_pt, z_up, z_wr, z_wi1, z_wi0, z_wi, z_inS, z_toInt, z_nb0, z_nb1, Int.cast_ofNat_Int, true_and, and_true, not_true_eq_false, not_false_eq_true, false_imp_iff, true_imp_iff, aup_o, aup_k, ite_true, ite_false, z_fa000, z_fa001, z_fa010, z_fa011, z_fa100, z_fa101, z_fa110, z_fa111, if_true, if_false, e15]
      exact ⟨Or.inl trivial, h0 (fun x => by rcases x with x | x; omega; exact ht ⟨x.1, x.2.1⟩)⟩
  · simp (disch := omega) only [z_app, z_rd, z_cl, z_add, z_sub, z_mul, z_neg, z_lit, z_leT, z_leF, z_ltT, z_ltF, z_eqT, z_eqF, i_leT, i_leF, i_ltT, i_ltF, i_eqT, i_eqF, z_le, z_lt, z_eq, z_ite, z_at, z_pt, z_up, z_wr, z_wi1, z_wi0, z_wi, z_inS, z_toInt, z_nb0, z_nb1, Int.cast_ofNat_Int, true_and, and_true, not_true_eq_false, not_false_eq_true, false_imp_iff, true_imp_iff, aup_o, aup_k, ite_true, ite_false, z_fa000, z_fa001, z_fa010, z_fa011, z_fa100, z_fa101, z_fa110, z_fa111, if_true, if_false, e15]
    exact ⟨Or.inr trivial, h1 (Or.inl (by omega))⟩
theorem lnk2 (s : aS) (b : Int) : lnk s 2 b = [] := by unfold lnk; rw [if_neg (by decide), if_neg (by omega)]
theorem mw_257i (hw : qWF g) (hJ : jJ s) (ia : i32 a) (hI : bI s 257 a b (-1)) : mO g (d + 10) mX10_commit [.inl (iI a)] s s (.inr 0) := by
  have ha : a < 0 ∨ 3 < a := by unfold bI at hI; omega
  unfold i32 at ia
  refine m_thr fun m Q hr hQ => wX10_commit hw (wX10_endTx hw ?_)
  simp (disch := omega) only [z_app, z_rd, z_cl, z_add, z_sub, z_mul, z_neg, z_lit, z_leT, z_leF, z_ltT, z_ltF, z_eqT, z_eqF, i_leT, i_leF, i_ltT, i_ltF, i_eqT, i_eqF, z_le, z_lt, z_eq, z_ite, z_at, z_pt, z_up, z_wr, z_wi1, z_wi0, z_wi, z_inS, z_toInt, z_nb0, z_nb1, Int.cast_ofNat_Int, true_and, and_true, not_true_eq_false, not_false_eq_true, false_imp_iff, true_imp_iff, aup_o, aup_k, ite_true, ite_false, z_fa000, z_fa001, z_fa010, z_fa011, z_fa100, z_fa101, z_fa110, z_fa111, if_true, if_false]
  refine wX10_endTx_41 hw ?_
  simp (disch := omega) only [z_app, z_rd, z_cl, z_add, z_sub, z_mul, z_neg, z_lit, z_leT, z_leF, z_ltT, z_ltF, z_eqT, z_eqF, i_leT, i_leF, i_ltT, i_ltF, i_eqT, i_eqF, z_le, z_lt, z_eq, z_ite, z_at, z_pt, z_up, z_wr, z_wi1, z_wi0, z_wi, z_inS, z_toInt, z_nb0, z_nb1, Int.cast_ofNat_Int, true_and, and_true, not_true_eq_false, not_false_eq_true, false_imp_iff, true_imp_iff, aup_o, aup_k, ite_true, ite_false, z_fa000, z_fa001, z_fa010, z_fa011, z_fa100, z_fa101, z_fa110, z_fa111, if_true, if_false]
  exact hQ 0
theorem mw_257s (hw : qWF g) (hJ : jJ s) (ia : i32 a) (hI : ¬ bI s 257 a b (-1)) (hS : bS s 257 a (-1)) : mO g (d + 10) mX10_commit [.inl (iI a)] s s (.inr 1) := by
  have ha : 0 ≤ a ∧ a ≤ 3 := by unfold bI at hI; omega
  have B : 0 ≤ s 2 9 ∧ s 2 9 ≤ 400 := by have := jb hJ; omega
  have hs : 400 ≤ s 2 9 ∨ s 55 a = -1 := by unfold bS at hS; omega
  unfold i32 at ia
  refine m_thr fun m Q hr hQ => wX10_commit hw (wX10_endTx hw ?_)
  have e15 := rs_15 hr.1
  simp (disch := omega) only [z_app, z_rd, z_cl, z_add, z_sub, z_mul, z_neg, z_lit, z_leT, z_leF, z_ltT, z_ltF, z_eqT, z_eqF, i_leT, i_leF, i_ltT, i_ltF, i_eqT, i_eqF, z_le, z_lt, z_eq, z_ite, z_at, z_pt, z_up, z_wr, z_wi1, z_wi0, z_wi, z_inS, z_toInt, z_nb0, z_nb1, Int.cast_ofNat_Int, true_and, and_true, not_true_eq_false, not_false_eq_true, false_imp_iff, true_imp_iff, aup_o, aup_k, ite_true, ite_false, z_fa000, z_fa001, z_fa010, z_fa011, z_fa100, z_fa101, z_fa110, z_fa111, if_true, if_false]
  by_cases ho : s 55 a = -1
  · refine m_isOpen0 hw hr.1 ha.1 (by omega) ho ?_
    simp (disch := omega) only [z_app, z_rd, z_cl, z_add, z_sub, z_mul, z_neg, z_lit, z_leT, z_leF, z_ltT, z_ltF, z_eqT, z_eqF, i_leT, i_leF, i_ltT, i_ltF, i_eqT, i_eqF, z_le, z_lt, z_eq, z_ite, z_at, z_pt, z_up, z_wr, z_wi1, z_wi0, z_wi, z_inS, z_toInt, z_nb0, z_nb1, Int.cast_ofNat_Int, true_and, and_true, not_true_eq_false, not_false_eq_true, false_imp_iff, true_imp_iff, aup_o, aup_k, ite_true, ite_false, z_fa000, z_fa001, z_fa010, z_fa011, z_fa100, z_fa101, z_fa110, z_fa111, if_true, if_false]
    refine wX10_endTx_41 hw ?_
    simp (disch := omega) only [z_app, z_rd, z_cl, z_add, z_sub, z_mul, z_neg, z_lit, z_leT, z_leF, z_ltT, z_ltF, z_eqT, z_eqF, i_leT, i_leF, i_ltT, i_ltF, i_eqT, i_eqF, z_le, z_lt, z_eq, z_ite, z_at, z_pt, z_up, z_wr, z_wi1, z_wi0, z_wi, z_inS, z_toInt, z_nb0, z_nb1, Int.cast_ofNat_Int, true_and, and_true, not_true_eq_false, not_false_eq_true, false_imp_iff, true_imp_iff, aup_o, aup_k, ite_true, ite_false, z_fa000, z_fa001, z_fa010, z_fa011, z_fa100, z_fa101, z_fa110, z_fa111, if_true, if_false]
    exact hQ 0
  · have hf : 400 ≤ s 2 9 := by omega
    refine m_isOpen1 hw hJ hr.1 ha.1 (by omega) ho ?_
    simp (disch := omega) only [z_app, z_rd, z_cl, z_add, z_sub, z_mul, z_neg, z_lit, z_leT, z_leF, z_ltT, z_ltF, z_eqT, z_eqF, i_leT, i_leF, i_ltT, i_ltF, i_eqT, i_eqF, z_le, z_lt, z_eq, z_ite, z_at, z_pt, z_up, z_wr, z_wi1, z_wi0, z_wi, z_inS, z_toInt, z_nb0, z_nb1, Int.cast_ofNat_Int, true_and, and_true, not_true_eq_false, not_false_eq_true, false_imp_iff, true_imp_iff, aup_o, aup_k, ite_true, ite_false, z_fa000, z_fa001, z_fa010, z_fa011, z_fa100, z_fa101, z_fa110, z_fa111, if_true, if_false, e15]
    refine wX10_endTx_41 hw ?_
    simp (disch := omega) only [z_app, z_rd, z_cl, z_add, z_sub, z_mul, z_neg, z_lit, z_leT, z_leF, z_ltT, z_ltF, z_eqT, z_eqF, i_leT, i_leF, i_ltT, i_ltF, i_eqT, i_eqF, z_le, z_lt, z_eq, z_ite, z_at, z_pt, z_up, z_wr, z_wi1, z_wi0, z_wi, z_inS, z_toInt, z_nb0, z_nb1, Int.cast_ofNat_Int, true_and, and_true, not_true_eq_false, not_false_eq_true, false_imp_iff, true_imp_iff, aup_o, aup_k, ite_true, ite_false, z_fa000, z_fa001, z_fa010, z_fa011, z_fa100, z_fa101, z_fa110, z_fa111, if_true, if_false]
    exact hQ 0
theorem mw_257r (hw : qWF g) (hJ : jJ s) (hI : ¬ bI s 257 a b (-1)) (hS : ¬ bS s 257 a (-1)) : mO g (d + 10) mX10_commit [.inl (iI a)] s (stS (opS s 257 a b c (-1))) (.inl (opA s 257 a b c (-1))) := by
  have B := jb hJ
  have ha : 0 ≤ a ∧ a ≤ 3 := by unfold bI at hI; omega
  have hn : s 2 9 < 400 := by unfold bS at hS; omega
  have hf : s 55 a ≠ -1 := by unfold bS at hS; omega
  have q := j_lt hJ ha.1 (by omega) hf
  have J1 := (p_257 (c := c) hw hJ hI hS).1
  have ok := okR_cl hJ (kd := 1) ha.1 (by omega) hf (by omega)
  refine m_op_ret (fun x hx => sto s _ _ _ _ _ hx) fun m Q hr0 hQ hr => wX10_commit hw (wX10_endTx hw ?_)
  rw [op_257] at J1 hQ
  clear hI hS
  have e15 := rs_15 hr
  simp (disch := omega) only [z_app, z_rd, z_cl, z_add, z_sub, z_mul, z_neg, z_lit, z_leT, z_leF, z_ltT, z_ltF, z_eqT, z_eqF, i_leT, i_leF, i_ltT, i_ltF, i_eqT, i_eqF, z_le, z_lt, z_eq, z_ite, z_at, z_pt, z_up, z_wr, z_wi1, z_wi0, z_wi, z_inS, z_toInt, z_nb0, z_nb1, Int.cast_ofNat_Int, true_and, and_true, not_true_eq_false, not_false_eq_true, false_imp_iff, true_imp_iff, aup_o, aup_k, ite_true, ite_false, z_fa000, z_fa001, z_fa010, z_fa011, z_fa100, z_fa101, z_fa110, z_fa111, if_true, if_false]
  refine m_isOpen1 hw hJ hr ha.1 (by omega) hf ?_
  simp (disch := omega) only [z_app, z_rd, z_cl, z_add, z_sub, z_mul, z_neg, z_lit, z_leT, z_leF, z_ltT, z_ltF, z_eqT, z_eqF, i_leT, i_leF, i_ltT, i_ltF, i_eqT, i_eqF, z_le, z_lt, z_eq, z_ite, z_at, z_pt, z_up, z_wr, z_wi1, z_wi0, z_wi, z_inS, z_toInt, z_nb0, z_nb1, Int.cast_ofNat_Int, true_and, and_true, not_true_eq_false, not_false_eq_true, false_imp_iff, true_imp_iff, aup_o, aup_k, ite_true, ite_false, z_fa000, z_fa001, z_fa010, z_fa011, z_fa100, z_fa101, z_fa110, z_fa111, if_true, if_false, e15]
  refine wX10_endTx_41 hw ?_
  have e99 : aup m 86 0 0 99 a = s 55 a := rt_99 hr0 ha.1 (by omega)
  have e99' : m 99 a = s 55 a := rt_99 hr ha.1 (by omega)
  simp (disch := omega) only [z_app, z_rd, z_cl, z_add, z_sub, z_mul, z_neg, z_lit, z_leT, z_leF, z_ltT, z_ltF, z_eqT, z_eqF, i_leT, i_leF, i_ltT, i_ltF, i_eqT, i_eqF, z_le, z_lt, z_eq, z_ite, z_at, z_pt, z_up, z_wr, z_wi1, z_wi0, z_wi, z_inS, z_toInt, z_nb0, z_nb1, Int.cast_ofNat_Int, true_and, and_true, not_true_eq_false, not_false_eq_true, false_imp_iff, true_imp_iff, aup_o, aup_k, ite_true, ite_false, z_fa000, z_fa001, z_fa010, z_fa011, z_fa100, z_fa101, z_fa110, z_fa111, if_true, if_false, e99']
  refine m_recordsOf hw hJ hr0 ha.1 (by omega) hf ?_
  obtain ⟨r1, r2, r3, r4, r5, r6, r7, r8, r9⟩ := id hr0
  refine m_record0 (s := s) (k := 1) (ow := s 55 a) (x := a) (y := 0) (w := 0) hw hJ r1.1 r1.2.2.2.1 r1.2.2.2.2.2.1 r3 r2 hn (by omega) (by omega) (by omega) (Or.inl (by omega)) ?_
  have hrl := rL_ad (x := a) (y := 0) (w := 0) (ow' := s 55 a) (ow := s 55 a) (k := 1) (j_hy hJ) hr0 (by rw [if_neg (by decide)])
  have hFad := mF_ad s (aup m 86 0 0) 1 (s 55 a) a 0 0
  obtain ⟨x1, x2, x3, x4, x5, x6, x7, x8, x9⟩ := id hrl
  have hG := fi_gV hJ hn ok bs_cl
  have hl : lnk s 1 (s 55 a) = lI (fun j => decide (s 6 j = s 55 a)) (s 55 a + 1) (s 2 9) := if_pos rfl
  have mx0 : mx (s 55 a) (s 55 a + 1) = s 55 a + 1 := by unfold mx; rw [if_neg (by omega)]
  refine m_endTx_l hw hJ hn ha.1 (by omega) hf J1 hrl (fun b2 h2 f2 => hQ b2 h2 (mF_tr hFad f2)) (s 55 a) _ (Int.le_refl _) (by omega) (mF_rf _) (fun _ _ => rfl) ?_ ?_ ?_
  · rw [lI_e (by omega)]
    exact rR_59 x2
  · rw [lI_e (by omega)]
    exact rV_59 x5
  · rw [lI_e (lo := s 55 a + 1) (hi := s 55 a) (by omega), mx0, ← hl]
    exact hG
theorem mw_258i (hw : qWF g) (hJ : jJ s) (ia : i32 a) (hI : bI s 258 a b (-1)) : mO g (d + 10) mX10_abort [.inl (iI a)] s s (.inr 0) := by
  have ha : a < 0 ∨ 3 < a := by unfold bI at hI; omega
  unfold i32 at ia
  refine m_thr fun m Q hr hQ => wX10_abort hw (wX10_endTx hw ?_)
  simp (disch := omega) only [z_app, z_rd, z_cl, z_add, z_sub, z_mul, z_neg, z_lit, z_leT, z_leF, z_ltT, z_ltF, z_eqT, z_eqF, i_leT, i_leF, i_ltT, i_ltF, i_eqT, i_eqF, z_le, z_lt, z_eq, z_ite, z_at, z_pt, z_up, z_wr, z_wi1, z_wi0, z_wi, z_inS, z_toInt, z_nb0, z_nb1, Int.cast_ofNat_Int, true_and, and_true, not_true_eq_false, not_false_eq_true, false_imp_iff, true_imp_iff, aup_o, aup_k, ite_true, ite_false, z_fa000, z_fa001, z_fa010, z_fa011, z_fa100, z_fa101, z_fa110, z_fa111, if_true, if_false]
  refine wX10_endTx_41 hw ?_
  simp (disch := omega) only [z_app, z_rd, z_cl, z_add, z_sub, z_mul, z_neg, z_lit, z_leT, z_leF, z_ltT, z_ltF, z_eqT, z_eqF, i_leT, i_leF, i_ltT, i_ltF, i_eqT, i_eqF, z_le, z_lt, z_eq, z_ite, z_at, z_pt, z_up, z_wr, z_wi1, z_wi0, z_wi, z_inS, z_toInt, z_nb0, z_nb1, Int.cast_ofNat_Int, true_and, and_true, not_true_eq_false, not_false_eq_true, false_imp_iff, true_imp_iff, aup_o, aup_k, ite_true, ite_false, z_fa000, z_fa001, z_fa010, z_fa011, z_fa100, z_fa101, z_fa110, z_fa111, if_true, if_false]
  exact hQ 0
theorem mw_258s (hw : qWF g) (hJ : jJ s) (ia : i32 a) (hI : ¬ bI s 258 a b (-1)) (hS : bS s 258 a (-1)) : mO g (d + 10) mX10_abort [.inl (iI a)] s s (.inr 1) := by
  have ha : 0 ≤ a ∧ a ≤ 3 := by unfold bI at hI; omega
  have B : 0 ≤ s 2 9 ∧ s 2 9 ≤ 400 := by have := jb hJ; omega
  have hs : 400 ≤ s 2 9 ∨ s 55 a = -1 := by unfold bS at hS; omega
  unfold i32 at ia
  refine m_thr fun m Q hr hQ => wX10_abort hw (wX10_endTx hw ?_)
  have e15 := rs_15 hr.1
  simp (disch := omega) only [z_app, z_rd, z_cl, z_add, z_sub, z_mul, z_neg, z_lit, z_leT, z_leF, z_ltT, z_ltF, z_eqT, z_eqF, i_leT, i_leF, i_ltT, i_ltF, i_eqT, i_eqF, z_le, z_lt, z_eq, z_ite, z_at, z_pt, z_up, z_wr, z_wi1, z_wi0, z_wi, z_inS, z_toInt, z_nb0, z_nb1, Int.cast_ofNat_Int, true_and, and_true, not_true_eq_false, not_false_eq_true, false_imp_iff, true_imp_iff, aup_o, aup_k, ite_true, ite_false, z_fa000, z_fa001, z_fa010, z_fa011, z_fa100, z_fa101, z_fa110, z_fa111, if_true, if_false]
  by_cases ho : s 55 a = -1
  · refine m_isOpen0 hw hr.1 ha.1 (by omega) ho ?_
    simp (disch := omega) only [z_app, z_rd, z_cl, z_add, z_sub, z_mul, z_neg, z_lit, z_leT, z_leF, z_ltT, z_ltF, z_eqT, z_eqF, i_leT, i_leF, i_ltT, i_ltF, i_eqT, i_eqF, z_le, z_lt, z_eq, z_ite, z_at, z_pt, z_up, z_wr, z_wi1, z_wi0, z_wi, z_inS, z_toInt, z_nb0, z_nb1, Int.cast_ofNat_Int, true_and, and_true, not_true_eq_false, not_false_eq_true, false_imp_iff, true_imp_iff, aup_o, aup_k, ite_true, ite_false, z_fa000, z_fa001, z_fa010, z_fa011, z_fa100, z_fa101, z_fa110, z_fa111, if_true, if_false]
    refine wX10_endTx_41 hw ?_
    simp (disch := omega) only [z_app, z_rd, z_cl, z_add, z_sub, z_mul, z_neg, z_lit, z_leT, z_leF, z_ltT, z_ltF, z_eqT, z_eqF, i_leT, i_leF, i_ltT, i_ltF, i_eqT, i_eqF, z_le, z_lt, z_eq, z_ite, z_at, z_pt, z_up, z_wr, z_wi1, z_wi0, z_wi, z_inS, z_toInt, z_nb0, z_nb1, Int.cast_ofNat_Int, true_and, and_true, not_true_eq_false, not_false_eq_true, false_imp_iff, true_imp_iff, aup_o, aup_k, ite_true, ite_false, z_fa000, z_fa001, z_fa010, z_fa011, z_fa100, z_fa101, z_fa110, z_fa111, if_true, if_false]
    exact hQ 0
  · have hf : 400 ≤ s 2 9 := by omega
    refine m_isOpen1 hw hJ hr.1 ha.1 (by omega) ho ?_
    simp (disch := omega) only [z_app, z_rd, z_cl, z_add, z_sub, z_mul, z_neg, z_lit, z_leT, z_leF, z_ltT, z_ltF, z_eqT, z_eqF, i_leT, i_leF, i_ltT, i_ltF, i_eqT, i_eqF, z_le, z_lt, z_eq, z_ite, z_at, z_pt, z_up, z_wr, z_wi1, z_wi0, z_wi, z_inS, z_toInt, z_nb0, z_nb1, Int.cast_ofNat_Int, true_and, and_true, not_true_eq_false, not_false_eq_true, false_imp_iff, true_imp_iff, aup_o, aup_k, ite_true, ite_false, z_fa000, z_fa001, z_fa010, z_fa011, z_fa100, z_fa101, z_fa110, z_fa111, if_true, if_false, e15]
    refine wX10_endTx_41 hw ?_
    simp (disch := omega) only [z_app, z_rd, z_cl, z_add, z_sub, z_mul, z_neg, z_lit, z_leT, z_leF, z_ltT, z_ltF, z_eqT, z_eqF, i_leT, i_leF, i_ltT, i_ltF, i_eqT, i_eqF, z_le, z_lt, z_eq, z_ite, z_at, z_pt, z_up, z_wr, z_wi1, z_wi0, z_wi, z_inS, z_toInt, z_nb0, z_nb1, Int.cast_ofNat_Int, true_and, and_true, not_true_eq_false, not_false_eq_true, false_imp_iff, true_imp_iff, aup_o, aup_k, ite_true, ite_false, z_fa000, z_fa001, z_fa010, z_fa011, z_fa100, z_fa101, z_fa110, z_fa111, if_true, if_false]
    exact hQ 0
theorem mw_258r (hw : qWF g) (hJ : jJ s) (hI : ¬ bI s 258 a b (-1)) (hS : ¬ bS s 258 a (-1)) : mO g (d + 10) mX10_abort [.inl (iI a)] s (stS (opS s 258 a b c (-1))) (.inl (opA s 258 a b c (-1))) := by
  have B := jb hJ
  have ha : 0 ≤ a ∧ a ≤ 3 := by unfold bI at hI; omega
  have hn : s 2 9 < 400 := by unfold bS at hS; omega
  have hf : s 55 a ≠ -1 := by unfold bS at hS; omega
  have q := j_lt hJ ha.1 (by omega) hf
  have J1 := (p_258 (c := c) hw hJ hI hS).1
  have ok := okR_cl hJ (kd := 2) ha.1 (by omega) hf (by omega)
  refine m_op_ret (fun x hx => sto s _ _ _ _ _ hx) fun m Q hr0 hQ hr => wX10_abort hw (wX10_endTx hw ?_)
  rw [op_258] at J1 hQ
  clear hI hS
  have e15 := rs_15 hr
  simp (disch := omega) only [z_app, z_rd, z_cl, z_add, z_sub, z_mul, z_neg, z_lit, z_leT, z_leF, z_ltT, z_ltF, z_eqT, z_eqF, i_leT, i_leF, i_ltT, i_ltF, i_eqT, i_eqF, z_le, z_lt, z_eq, z_ite, z_at, z_pt, z_up, z_wr, z_wi1, z_wi0, z_wi, z_inS, z_toInt, z_nb0, z_nb1, Int.cast_ofNat_Int, true_and, and_true, not_true_eq_false, not_false_eq_true, false_imp_iff, true_imp_iff, aup_o, aup_k, ite_true, ite_false, z_fa000, z_fa001, z_fa010, z_fa011, z_fa100, z_fa101, z_fa110, z_fa111, if_true, if_false]
  refine m_isOpen1 hw hJ hr ha.1 (by omega) hf ?_
  simp (disch := omega) only [z_app, z_rd, z_cl, z_add, z_sub, z_mul, z_neg, z_lit, z_leT, z_leF, z_ltT, z_ltF, z_eqT, z_eqF, i_leT, i_leF, i_ltT, i_ltF, i_eqT, i_eqF, z_le, z_lt, z_eq, z_ite, z_at, z_pt, z_up, z_wr, z_wi1, z_wi0, z_wi, z_inS, z_toInt, z_nb0, z_nb1, Int.cast_ofNat_Int, true_and, and_true, not_true_eq_false, not_false_eq_true, false_imp_iff, true_imp_iff, aup_o, aup_k, ite_true, ite_false, z_fa000, z_fa001, z_fa010, z_fa011, z_fa100, z_fa101, z_fa110, z_fa111, if_true, if_false, e15]
  refine wX10_endTx_41 hw ?_
  have e99 : aup m 86 0 0 99 a = s 55 a := rt_99 hr0 ha.1 (by omega)
  have e99' : m 99 a = s 55 a := rt_99 hr ha.1 (by omega)
  simp (disch := omega) only [z_app, z_rd, z_cl, z_add, z_sub, z_mul, z_neg, z_lit, z_leT, z_leF, z_ltT, z_ltF, z_eqT, z_eqF, i_leT, i_leF, i_ltT, i_ltF, i_eqT, i_eqF, z_le, z_lt, z_eq, z_ite, z_at, z_pt, z_up, z_wr, z_wi1, z_wi0, z_wi, z_inS, z_toInt, z_nb0, z_nb1, Int.cast_ofNat_Int, true_and, and_true, not_true_eq_false, not_false_eq_true, false_imp_iff, true_imp_iff, aup_o, aup_k, ite_true, ite_false, z_fa000, z_fa001, z_fa010, z_fa011, z_fa100, z_fa101, z_fa110, z_fa111, if_true, if_false, e99']
  refine m_recordsOf hw hJ hr0 ha.1 (by omega) hf ?_
  obtain ⟨r1, r2, r3, r4, r5, r6, r7, r8, r9⟩ := id hr0
  refine m_record0 (s := s) (k := 2) (ow := s 55 a) (x := a) (y := 0) (w := 0) hw hJ r1.1 r1.2.2.2.1 r1.2.2.2.2.2.1 r3 r2 hn (by omega) (by omega) (by omega) (Or.inl (by omega)) ?_
  have hrl := rL_ad (x := a) (y := 0) (w := 0) (ow' := s 55 a) (ow := s 55 a) (k := 2) (j_hy hJ) hr0 (by rw [if_neg (by decide)])
  have hFad := mF_ad s (aup m 86 0 0) 2 (s 55 a) a 0 0
  refine wX10_endTx_81 hw ?_
  simp (disch := omega) only [z_app, z_rd, z_cl, z_add, z_sub, z_mul, z_neg, z_lit, z_leT, z_leF, z_ltT, z_ltF, z_eqT, z_eqF, i_leT, i_leF, i_ltT, i_ltF, i_eqT, i_eqF, z_le, z_lt, z_eq, z_ite, z_at, z_pt, z_up, z_wr, z_wi1, z_wi0, z_wi, z_inS, z_toInt, z_nb0, z_nb1, Int.cast_ofNat_Int, true_and, and_true, not_true_eq_false, not_false_eq_true, false_imp_iff, true_imp_iff, aup_o, aup_k, ite_true, ite_false, z_fa000, z_fa001, z_fa010, z_fa011, z_fa100, z_fa101, z_fa110, z_fa111, if_true, if_false]
  have hb1 : rL (clS s a 2) (aup (adM s (aup m 86 0 0) 2 (s 55 a) a 0 0) 99 a (-1)) := by
    have := rL_tx (t := a) (v := -1) (w := adS s 2 (s 55 a) a 0 0 57 a) hrl
    have e57 : aup (aup (adS s 2 (s 55 a) a 0 0) 55 a (-1)) 57 a (adS s 2 (s 55 a) a 0 0 57 a) = aup (adS s 2 (s 55 a) a 0 0) 55 a (-1) := by
      have h := aup_id (aup (adS s 2 (s 55 a) a 0 0) 55 a (-1)) 57 a
      rw [aup_o (k' := 57) (by decide)] at h
      exact h
    rw [e57] at this
    exact this
  have hfin := rL_ef hJ hn ok bs_cl hb1
  rw [lnk2] at hfin J1 hQ
  exact m_settle hw J1 hfin (fun b2 h2 f2 => hQ b2 h2 (mF_tr hFad (mF_tr (mF_up (by decide) (by decide)) f2)))
end MO3
