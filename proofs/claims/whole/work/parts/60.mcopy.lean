/-! ===== the reference's operations: copy and send ===== -/
section MO5
variable {g : qG} {s : aS} {d : Nat} {a b c tx : Int}
theorem mw_261i (hw : qWF g) (hJ : jJ s) (ia : i32 a) (ib : i32 b) (ic : i32 c) (it : i32 tx) (hI : bI s 261 a b tx) : mO g (d + 10) mX10_copy [.inl (iI a), .inl (iI b), .inl (iI tx)] s s (.inr 0) := by
  have hx : ¬ ((0 ≤ a ∧ a ≤ 7) ∧ (0 ≤ b ∧ b ≤ 7) ∧ (-1 ≤ tx ∧ tx ≤ 3)) := by unfold bI at hI; omega
  clear hI
  have it0 := it
  unfold i32 at ia ib ic it
  refine m_thr fun m Q hrJ hQ => wX10_copy hw (wX10_isFile hw ?_)
  have hr := hrJ.1
  by_cases hab : a = b
  · by_cases ha : 0 ≤ a ∧ a ≤ 7
    · have ht : tx < -1 ∨ 3 < tx := by omega
      simp (disch := omega) only [z_app, z_lit, z_neg, z_wi1, z_wi0, z_leT, z_leF, z_ltT, z_ltF, z_eqT, z_eqF, Int.cast_ofNat_Int, true_and, and_true, not_true_eq_false, not_false_eq_true, false_imp_iff, true_imp_iff, ite_true, ite_false, if_true, if_false]
      refine ⟨Or.inr trivial, wX10_isFile hw ?_⟩
      simp (disch := omega) only [z_app, z_lit, z_neg, z_wi1, z_wi0, z_leT, z_leF, z_ltT, z_ltF, z_eqT, z_eqF, Int.cast_ofNat_Int, true_and, and_true, not_true_eq_false, not_false_eq_true, false_imp_iff, true_imp_iff, ite_true, ite_false, if_true, if_false]
      refine ⟨Or.inr trivial, wX10_isTx hw ?_⟩
      simp (disch := omega) only [z_app, z_lit, z_neg, z_wi1, z_wi0, z_leT, z_leF, z_ltT, z_ltF, z_eqT, z_eqF, Int.cast_ofNat_Int, true_and, and_true, not_true_eq_false, not_false_eq_true, false_imp_iff, true_imp_iff, ite_true, ite_false, if_true, if_false]
      refine ⟨Or.inl trivial, m_cannot hw hJ hr it0 (fun h9 => ?_) (fun h9 => ?_)⟩
      · clear h9; simp (disch := omega) only [z_app, z_rd, z_cl, z_add, z_sub, z_mul, z_neg, z_lit, z_leT, z_leF, z_ltT, z_ltF, z_eqT, z_eqF, i_leT, i_leF, i_ltT, i_ltF, i_eqT, i_eqF, z_le, z_lt, z_eq, z_ite, z_at, z_pt, z_up, z_wr, z_wi1, z_wi0, z_wi, z_inS, z_toInt, z_nb0, z_nb1, Int.cast_ofNat_Int, true_and, and_true, not_true_eq_false, not_false_eq_true, false_imp_iff, true_imp_iff, aup_o, aup_k, ite_true, ite_false, z_fa000, z_fa001, z_fa010, z_fa011, z_fa100, z_fa101, z_fa110, z_fa111, if_true, if_false]; exact hQ 0
      · clear h9; simp (disch := omega) only [z_app, z_rd, z_cl, z_add, z_sub, z_mul, z_neg, z_lit, z_leT, z_leF, z_ltT, z_ltF, z_eqT, z_eqF, i_leT, i_leF, i_ltT, i_ltF, i_eqT, i_eqF, z_le, z_lt, z_eq, z_ite, z_at, z_pt, z_up, z_wr, z_wi1, z_wi0, z_wi, z_inS, z_toInt, z_nb0, z_nb1, Int.cast_ofNat_Int, true_and, and_true, not_true_eq_false, not_false_eq_true, false_imp_iff, true_imp_iff, aup_o, aup_k, ite_true, ite_false, z_fa000, z_fa001, z_fa010, z_fa011, z_fa100, z_fa101, z_fa110, z_fa111, if_true, if_false]; exact hQ 0
    · simp (disch := omega) only [z_app, z_lit, z_neg, z_wi1, z_wi0, z_leT, z_leF, z_ltT, z_ltF, z_eqT, z_eqF, Int.cast_ofNat_Int, true_and, and_true, not_true_eq_false, not_false_eq_true, false_imp_iff, true_imp_iff, ite_true, ite_false, if_true, if_false]
      refine ⟨Or.inl trivial, m_cannot hw hJ hr it0 (fun h9 => ?_) (fun h9 => ?_)⟩
      · clear h9; simp (disch := omega) only [z_app, z_rd, z_cl, z_add, z_sub, z_mul, z_neg, z_lit, z_leT, z_leF, z_ltT, z_ltF, z_eqT, z_eqF, i_leT, i_leF, i_ltT, i_ltF, i_eqT, i_eqF, z_le, z_lt, z_eq, z_ite, z_at, z_pt, z_up, z_wr, z_wi1, z_wi0, z_wi, z_inS, z_toInt, z_nb0, z_nb1, Int.cast_ofNat_Int, true_and, and_true, not_true_eq_false, not_false_eq_true, false_imp_iff, true_imp_iff, aup_o, aup_k, ite_true, ite_false, z_fa000, z_fa001, z_fa010, z_fa011, z_fa100, z_fa101, z_fa110, z_fa111, if_true, if_false]; exact hQ 0
      · clear h9; simp (disch := omega) only [z_app, z_rd, z_cl, z_add, z_sub, z_mul, z_neg, z_lit, z_leT, z_leF, z_ltT, z_ltF, z_eqT, z_eqF, i_leT, i_leF, i_ltT, i_ltF, i_eqT, i_eqF, z_le, z_lt, z_eq, z_ite, z_at, z_pt, z_up, z_wr, z_wi1, z_wi0, z_wi, z_inS, z_toInt, z_nb0, z_nb1, Int.cast_ofNat_Int, true_and, and_true, not_true_eq_false, not_false_eq_true, false_imp_iff, true_imp_iff, aup_o, aup_k, ite_true, ite_false, z_fa000, z_fa001, z_fa010, z_fa011, z_fa100, z_fa101, z_fa110, z_fa111, if_true, if_false]; exact hQ 0
  · by_cases ha : 0 ≤ a ∧ a ≤ 7
    · by_cases hb : 0 ≤ b ∧ b ≤ 7
      · have ht : tx < -1 ∨ 3 < tx := by omega
        simp (disch := omega) only [z_app, z_lit, z_neg, z_wi1, z_wi0, z_leT, z_leF, z_ltT, z_ltF, z_eqT, z_eqF, Int.cast_ofNat_Int, true_and, and_true, not_true_eq_false, not_false_eq_true, false_imp_iff, true_imp_iff, ite_true, ite_false, if_true, if_false]
        refine ⟨Or.inr trivial, wX10_isFile hw ?_⟩
        simp (disch := omega) only [z_app, z_lit, z_neg, z_wi1, z_wi0, z_leT, z_leF, z_ltT, z_ltF, z_eqT, z_eqF, Int.cast_ofNat_Int, true_and, and_true, not_true_eq_false, not_false_eq_true, false_imp_iff, true_imp_iff, ite_true, ite_false, if_true, if_false]
        refine ⟨Or.inr trivial, wX10_isTx hw ?_⟩
        simp (disch := omega) only [z_app, z_lit, z_neg, z_wi1, z_wi0, z_leT, z_leF, z_ltT, z_ltF, z_eqT, z_eqF, Int.cast_ofNat_Int, true_and, and_true, not_true_eq_false, not_false_eq_true, false_imp_iff, true_imp_iff, ite_true, ite_false, if_true, if_false]
        refine ⟨Or.inl trivial, m_cannot hw hJ hr it0 (fun h9 => ?_) (fun h9 => ?_)⟩
        · clear h9; simp (disch := omega) only [z_app, z_rd, z_cl, z_add, z_sub, z_mul, z_neg, z_lit, z_leT, z_leF, z_ltT, z_ltF, z_eqT, z_eqF, i_leT, i_leF, i_ltT, i_ltF, i_eqT, i_eqF, z_le, z_lt, z_eq, z_ite, z_at, z_pt, z_up, z_wr, z_wi1, z_wi0, z_wi, z_inS, z_toInt, z_nb0, z_nb1, Int.cast_ofNat_Int, true_and, and_true, not_true_eq_false, not_false_eq_true, false_imp_iff, true_imp_iff, aup_o, aup_k, ite_true, ite_false, z_fa000, z_fa001, z_fa010, z_fa011, z_fa100, z_fa101, z_fa110, z_fa111, if_true, if_false]; exact hQ 0
        · clear h9; simp (disch := omega) only [z_app, z_rd, z_cl, z_add, z_sub, z_mul, z_neg, z_lit, z_leT, z_leF, z_ltT, z_ltF, z_eqT, z_eqF, i_leT, i_leF, i_ltT, i_ltF, i_eqT, i_eqF, z_le, z_lt, z_eq, z_ite, z_at, z_pt, z_up, z_wr, z_wi1, z_wi0, z_wi, z_inS, z_toInt, z_nb0, z_nb1, Int.cast_ofNat_Int, true_and, and_true, not_true_eq_false, not_false_eq_true, false_imp_iff, true_imp_iff, aup_o, aup_k, ite_true, ite_false, z_fa000, z_fa001, z_fa010, z_fa011, z_fa100, z_fa101, z_fa110, z_fa111, if_true, if_false]; exact hQ 0
      · simp (disch := omega) only [z_app, z_lit, z_neg, z_wi1, z_wi0, z_leT, z_leF, z_ltT, z_ltF, z_eqT, z_eqF, Int.cast_ofNat_Int, true_and, and_true, not_true_eq_false, not_false_eq_true, false_imp_iff, true_imp_iff, ite_true, ite_false, if_true, if_false]
        refine ⟨Or.inr trivial, wX10_isFile hw ?_⟩
        simp (disch := omega) only [z_app, z_lit, z_neg, z_wi1, z_wi0, z_leT, z_leF, z_ltT, z_ltF, z_eqT, z_eqF, Int.cast_ofNat_Int, true_and, and_true, not_true_eq_false, not_false_eq_true, false_imp_iff, true_imp_iff, ite_true, ite_false, if_true, if_false]
        refine ⟨Or.inl trivial, m_cannot hw hJ hr it0 (fun h9 => ?_) (fun h9 => ?_)⟩
        · clear h9; simp (disch := omega) only [z_app, z_rd, z_cl, z_add, z_sub, z_mul, z_neg, z_lit, z_leT, z_leF, z_ltT, z_ltF, z_eqT, z_eqF, i_leT, i_leF, i_ltT, i_ltF, i_eqT, i_eqF, z_le, z_lt, z_eq, z_ite, z_at, z_pt, z_up, z_wr, z_wi1, z_wi0, z_wi, z_inS, z_toInt, z_nb0, z_nb1, Int.cast_ofNat_Int, true_and, and_true, not_true_eq_false, not_false_eq_true, false_imp_iff, true_imp_iff, aup_o, aup_k, ite_true, ite_false, z_fa000, z_fa001, z_fa010, z_fa011, z_fa100, z_fa101, z_fa110, z_fa111, if_true, if_false]; exact hQ 0
        · clear h9; simp (disch := omega) only [z_app, z_rd, z_cl, z_add, z_sub, z_mul, z_neg, z_lit, z_leT, z_leF, z_ltT, z_ltF, z_eqT, z_eqF, i_leT, i_leF, i_ltT, i_ltF, i_eqT, i_eqF, z_le, z_lt, z_eq, z_ite, z_at, z_pt, z_up, z_wr, z_wi1, z_wi0, z_wi, z_inS, z_toInt, z_nb0, z_nb1, Int.cast_ofNat_Int, true_and, and_true, not_true_eq_false, not_false_eq_true, false_imp_iff, true_imp_iff, aup_o, aup_k, ite_true, ite_false, z_fa000, z_fa001, z_fa010, z_fa011, z_fa100, z_fa101, z_fa110, z_fa111, if_true, if_false]; exact hQ 0
    · simp (disch := omega) only [z_app, z_lit, z_neg, z_wi1, z_wi0, z_leT, z_leF, z_ltT, z_ltF, z_eqT, z_eqF, Int.cast_ofNat_Int, true_and, and_true, not_true_eq_false, not_false_eq_true, false_imp_iff, true_imp_iff, ite_true, ite_false, if_true, if_false]
      refine ⟨Or.inl trivial, m_cannot hw hJ hr it0 (fun h9 => ?_) (fun h9 => ?_)⟩
      · clear h9; simp (disch := omega) only [z_app, z_rd, z_cl, z_add, z_sub, z_mul, z_neg, z_lit, z_leT, z_leF, z_ltT, z_ltF, z_eqT, z_eqF, i_leT, i_leF, i_ltT, i_ltF, i_eqT, i_eqF, z_le, z_lt, z_eq, z_ite, z_at, z_pt, z_up, z_wr, z_wi1, z_wi0, z_wi, z_inS, z_toInt, z_nb0, z_nb1, Int.cast_ofNat_Int, true_and, and_true, not_true_eq_false, not_false_eq_true, false_imp_iff, true_imp_iff, aup_o, aup_k, ite_true, ite_false, z_fa000, z_fa001, z_fa010, z_fa011, z_fa100, z_fa101, z_fa110, z_fa111, if_true, if_false]; exact hQ 0
      · clear h9; simp (disch := omega) only [z_app, z_rd, z_cl, z_add, z_sub, z_mul, z_neg, z_lit, z_leT, z_leF, z_ltT, z_ltF, z_eqT, z_eqF, i_leT, i_leF, i_ltT, i_ltF, i_eqT, i_eqF, z_le, z_lt, z_eq, z_ite, z_at, z_pt, z_up, z_wr, z_wi1, z_wi0, z_wi, z_inS, z_toInt, z_nb0, z_nb1, Int.cast_ofNat_Int, true_and, and_true, not_true_eq_false, not_false_eq_true, false_imp_iff, true_imp_iff, aup_o, aup_k, ite_true, ite_false, z_fa000, z_fa001, z_fa010, z_fa011, z_fa100, z_fa101, z_fa110, z_fa111, if_true, if_false]; exact hQ 0
theorem mw_261a (hw : qWF g) (hJ : jJ s) (ia : i32 a) (ib : i32 b) (ic : i32 c) (it : i32 tx) (hI : ¬ bI s 261 a b tx) (hA : bA 261 a b c) : mO g (d + 10) mX10_copy [.inl (iI a), .inl (iI b), .inl (iI tx)] s s (.inr 1) := by
  have hx : (0 ≤ a ∧ a ≤ 7) ∧ (0 ≤ b ∧ b ≤ 7) ∧ (-1 ≤ tx ∧ tx ≤ 3) := by unfold bI at hI; omega
  have hab : a = b := by unfold bA at hA; omega
  clear hI hA
  have it0 := it
  unfold i32 at ia ib ic it
  refine m_thr fun m Q hrJ hQ => wX10_copy hw (wX10_isFile hw ?_)
  have hr := hrJ.1
  simp (disch := omega) only [z_app, z_lit, z_neg, z_wi1, z_wi0, z_leT, z_leF, z_ltT, z_ltF, z_eqT, z_eqF, Int.cast_ofNat_Int, true_and, and_true, not_true_eq_false, not_false_eq_true, false_imp_iff, true_imp_iff, ite_true, ite_false, if_true, if_false]
  refine ⟨Or.inr trivial, wX10_isFile hw ?_⟩
  simp (disch := omega) only [z_app, z_lit, z_neg, z_wi1, z_wi0, z_leT, z_leF, z_ltT, z_ltF, z_eqT, z_eqF, Int.cast_ofNat_Int, true_and, and_true, not_true_eq_false, not_false_eq_true, false_imp_iff, true_imp_iff, ite_true, ite_false, if_true, if_false]
  refine ⟨Or.inr trivial, wX10_isTx hw ?_⟩
  simp (disch := omega) only [z_app, z_lit, z_neg, z_wi1, z_wi0, z_leT, z_leF, z_ltT, z_ltF, z_eqT, z_eqF, Int.cast_ofNat_Int, true_and, and_true, not_true_eq_false, not_false_eq_true, false_imp_iff, true_imp_iff, ite_true, ite_false, if_true, if_false]
  refine ⟨Or.inr trivial, m_cannot hw hJ hr it0 (fun h9 => ?_) (fun h9 => ?_)⟩
  · clear h9; simp (disch := omega) only [z_app, z_rd, z_cl, z_add, z_sub, z_mul, z_neg, z_lit, z_leT, z_leF, z_ltT, z_ltF, z_eqT, z_eqF, i_leT, i_leF, i_ltT, i_ltF, i_eqT, i_eqF, z_le, z_lt, z_eq, z_ite, z_at, z_pt, z_up, z_wr, z_wi1, z_wi0, z_wi, z_inS, z_toInt, z_nb0, z_nb1, Int.cast_ofNat_Int, true_and, and_true, not_true_eq_false, not_false_eq_true, false_imp_iff, true_imp_iff, aup_o, aup_k, ite_true, ite_false, z_fa000, z_fa001, z_fa010, z_fa011, z_fa100, z_fa101, z_fa110, z_fa111, if_true, if_false]; exact hQ 0
  · clear h9; simp (disch := omega) only [z_app, z_rd, z_cl, z_add, z_sub, z_mul, z_neg, z_lit, z_leT, z_leF, z_ltT, z_ltF, z_eqT, z_eqF, i_leT, i_leF, i_ltT, i_ltF, i_eqT, i_eqF, z_le, z_lt, z_eq, z_ite, z_at, z_pt, z_up, z_wr, z_wi1, z_wi0, z_wi, z_inS, z_toInt, z_nb0, z_nb1, Int.cast_ofNat_Int, true_and, and_true, not_true_eq_false, not_false_eq_true, false_imp_iff, true_imp_iff, aup_o, aup_k, ite_true, ite_false, z_fa000, z_fa001, z_fa010, z_fa011, z_fa100, z_fa101, z_fa110, z_fa111, if_true, if_false]; exact hQ 0
theorem mw_261s (hw : qWF g) (hJ : jJ s) (ia : i32 a) (ib : i32 b) (ic : i32 c) (it : i32 tx) (hI : ¬ bI s 261 a b tx) (hA : ¬ bA 261 a b c) (hS : bS s 261 a tx) : mO g (d + 10) mX10_copy [.inl (iI a), .inl (iI b), .inl (iI tx)] s s (.inr 2) := by
  have hx : (0 ≤ a ∧ a ≤ 7) ∧ (0 ≤ b ∧ b ≤ 7) ∧ (-1 ≤ tx ∧ tx ≤ 3) := by unfold bI at hI; omega
  have hab : a < b ∨ b < a := by unfold bA at hA; omega
  have hs : ∃ _ : Unit, 400 ≤ s 2 9 ∨ (0 ≤ tx ∧ tx ≤ 3 ∧ s 55 tx = -1) := ⟨(), by unfold bS at hS; omega⟩
  clear hI hA hS
  have it0 := it
  unfold i32 at ia ib ic it
  refine m_thr fun m Q hrJ hQ => wX10_copy hw (wX10_isFile hw ?_)
  have hr := hrJ.1
  simp (disch := omega) only [z_app, z_lit, z_neg, z_wi1, z_wi0, z_leT, z_leF, z_ltT, z_ltF, z_eqT, z_eqF, Int.cast_ofNat_Int, true_and, and_true, not_true_eq_false, not_false_eq_true, false_imp_iff, true_imp_iff, ite_true, ite_false, if_true, if_false]
  refine ⟨Or.inr trivial, wX10_isFile hw ?_⟩
  simp (disch := omega) only [z_app, z_lit, z_neg, z_wi1, z_wi0, z_leT, z_leF, z_ltT, z_ltF, z_eqT, z_eqF, Int.cast_ofNat_Int, true_and, and_true, not_true_eq_false, not_false_eq_true, false_imp_iff, true_imp_iff, ite_true, ite_false, if_true, if_false]
  refine ⟨Or.inr trivial, wX10_isTx hw ?_⟩
  simp (disch := omega) only [z_app, z_lit, z_neg, z_wi1, z_wi0, z_leT, z_leF, z_ltT, z_ltF, z_eqT, z_eqF, Int.cast_ofNat_Int, true_and, and_true, not_true_eq_false, not_false_eq_true, false_imp_iff, true_imp_iff, ite_true, ite_false, if_true, if_false]
  refine ⟨Or.inr trivial, m_cannot hw hJ hr it0 (fun h9 => ?_) (fun h9 => (let ⟨_, h⟩ := hs; h9 h).elim)⟩
  clear h9; simp (disch := omega) only [z_app, z_rd, z_cl, z_add, z_sub, z_mul, z_neg, z_lit, z_leT, z_leF, z_ltT, z_ltF, z_eqT, z_eqF, i_leT, i_leF, i_ltT, i_ltF, i_eqT, i_eqF, z_le, z_lt, z_eq, z_ite, z_at, z_pt, z_up, z_wr, z_wi1, z_wi0, z_wi, z_inS, z_toInt, z_nb0, z_nb1, Int.cast_ofNat_Int, true_and, and_true, not_true_eq_false, not_false_eq_true, false_imp_iff, true_imp_iff, aup_o, aup_k, ite_true, ite_false, z_fa000, z_fa001, z_fa010, z_fa011, z_fa100, z_fa101, z_fa110, z_fa111, if_true, if_false]; exact hQ 0
theorem mw_261r (hw : qWF g) (hJ : jJ s) (ia : i32 a) (ib : i32 b) (ic : i32 c) (it : i32 tx) (hI : ¬ bI s 261 a b tx) (hA : ¬ bA 261 a b c) (hS : ¬ bS s 261 a tx) : mO g (d + 10) mX10_copy [.inl (iI a), .inl (iI b), .inl (iI tx)] s (stS (opS s 261 a b c tx)) (.inl (opA s 261 a b c tx)) := by
  have hx : (0 ≤ a ∧ a ≤ 7) ∧ (0 ≤ b ∧ b ≤ 7) ∧ (-1 ≤ tx ∧ tx ≤ 3) := by unfold bI at hI; omega
  have hab : a < b ∨ b < a := by unfold bA at hA; omega
  have hs : ∃ _ : Unit, ¬ (400 ≤ s 2 9 ∨ (0 ≤ tx ∧ tx ≤ 3 ∧ s 55 tx = -1)) := ⟨(), by unfold bS at hS; unfold bI at hI; omega⟩
  have E := fun (m : aS) (Q : Int32 → qS → Prop) (hr0 : rL s (aup m 86 0 0)) hQ => m_eff261 (d := d + 2) (T := fun _ _ => False) (Q := Q) hw hJ hr0 hI hA hS hQ
  clear hI hA hS
  have it0 := it
  unfold i32 at ia ib ic it
  refine m_op_ret (fun x hx => sto s _ _ _ _ _ hx) fun m Q hr0 hQ hr => wX10_copy hw (wX10_isFile hw ?_)
  simp (disch := omega) only [z_app, z_lit, z_neg, z_wi1, z_wi0, z_leT, z_leF, z_ltT, z_ltF, z_eqT, z_eqF, Int.cast_ofNat_Int, true_and, and_true, not_true_eq_false, not_false_eq_true, false_imp_iff, true_imp_iff, ite_true, ite_false, if_true, if_false]
  refine ⟨Or.inr trivial, wX10_isFile hw ?_⟩
  simp (disch := omega) only [z_app, z_lit, z_neg, z_wi1, z_wi0, z_leT, z_leF, z_ltT, z_ltF, z_eqT, z_eqF, Int.cast_ofNat_Int, true_and, and_true, not_true_eq_false, not_false_eq_true, false_imp_iff, true_imp_iff, ite_true, ite_false, if_true, if_false]
  refine ⟨Or.inr trivial, wX10_isTx hw ?_⟩
  simp (disch := omega) only [z_app, z_lit, z_neg, z_wi1, z_wi0, z_leT, z_leF, z_ltT, z_ltF, z_eqT, z_eqF, Int.cast_ofNat_Int, true_and, and_true, not_true_eq_false, not_false_eq_true, false_imp_iff, true_imp_iff, ite_true, ite_false, if_true, if_false]
  refine ⟨Or.inr trivial, m_cannot hw hJ hr it0 (fun h9 => (let ⟨_, h⟩ := hs; h h9).elim) (fun h9 => ?_)⟩
  clear h9
  simp (disch := omega) only [z_app, z_rd, z_cl, z_add, z_sub, z_mul, z_neg, z_lit, z_leT, z_leF, z_ltT, z_ltF, z_eqT, z_eqF, i_leT, i_leF, i_ltT, i_ltF, i_eqT, i_eqF, z_le, z_lt, z_eq, z_ite, z_at, z_pt, z_up, z_wr, z_wi1, z_wi0, z_wi, z_inS, z_toInt, z_nb0, z_nb1, Int.cast_ofNat_Int, true_and, and_true, not_true_eq_false, not_false_eq_true, false_imp_iff, true_imp_iff, aup_o, aup_k, ite_true, ite_false, z_fa000, z_fa001, z_fa010, z_fa011, z_fa100, z_fa101, z_fa110, z_fa111, if_true, if_false]
  exact E m Q hr0 hQ
theorem mw_262i (hw : qWF g) (hJ : jJ s) (ia : i32 a) (ib : i32 b) (ic : i32 c) (it : i32 tx) (hI : bI s 262 a b tx) : mO g (d + 10) mX10_send [.inl (iI a), .inl (iI b), .inl (iI c), .inl (iI tx)] s s (.inr 0) := by
  have hx : ¬ ((0 ≤ a ∧ a ≤ 3) ∧ (-1 ≤ tx ∧ tx ≤ 3)) := by unfold bI at hI; omega
  clear hI
  have it0 := it
  unfold i32 at ia ib ic it
  refine m_thr fun m Q hrJ hQ => wX10_send hw (wX10_isTopic hw ?_)
  have hr := hrJ.1
  by_cases ha : 0 ≤ a ∧ a ≤ 3
  · have ht : tx < -1 ∨ 3 < tx := by omega
    by_cases hb : 0 ≤ b ∧ b ≤ 9999
    · by_cases hc : 0 ≤ c ∧ c ≤ 20
      · simp (disch := omega) only [z_app, z_lit, z_neg, z_wi1, z_wi0, z_leT, z_leF, z_ltT, z_ltF, z_eqT, z_eqF, Int.cast_ofNat_Int, true_and, and_true, not_true_eq_false, not_false_eq_true, false_imp_iff, true_imp_iff, ite_true, ite_false, if_true, if_false]
        refine ⟨Or.inr trivial, wX10_isTx hw ?_⟩
        simp (disch := omega) only [z_app, z_lit, z_neg, z_wi1, z_wi0, z_leT, z_leF, z_ltT, z_ltF, z_eqT, z_eqF, Int.cast_ofNat_Int, true_and, and_true, not_true_eq_false, not_false_eq_true, false_imp_iff, true_imp_iff, ite_true, ite_false, if_true, if_false]
        refine ⟨Or.inl trivial, m_cannot hw hJ hr it0 (fun h9 => ?_) (fun h9 => ?_)⟩
        · clear h9; simp (disch := omega) only [z_app, z_rd, z_cl, z_add, z_sub, z_mul, z_neg, z_lit, z_leT, z_leF, z_ltT, z_ltF, z_eqT, z_eqF, i_leT, i_leF, i_ltT, i_ltF, i_eqT, i_eqF, z_le, z_lt, z_eq, z_ite, z_at, z_pt, z_up, z_wr, z_wi1, z_wi0, z_wi, z_inS, z_toInt, z_nb0, z_nb1, Int.cast_ofNat_Int, true_and, and_true, not_true_eq_false, not_false_eq_true, false_imp_iff, true_imp_iff, aup_o, aup_k, ite_true, ite_false, z_fa000, z_fa001, z_fa010, z_fa011, z_fa100, z_fa101, z_fa110, z_fa111, if_true, if_false]; exact hQ 0
        · clear h9; simp (disch := omega) only [z_app, z_rd, z_cl, z_add, z_sub, z_mul, z_neg, z_lit, z_leT, z_leF, z_ltT, z_ltF, z_eqT, z_eqF, i_leT, i_leF, i_ltT, i_ltF, i_eqT, i_eqF, z_le, z_lt, z_eq, z_ite, z_at, z_pt, z_up, z_wr, z_wi1, z_wi0, z_wi, z_inS, z_toInt, z_nb0, z_nb1, Int.cast_ofNat_Int, true_and, and_true, not_true_eq_false, not_false_eq_true, false_imp_iff, true_imp_iff, aup_o, aup_k, ite_true, ite_false, z_fa000, z_fa001, z_fa010, z_fa011, z_fa100, z_fa101, z_fa110, z_fa111, if_true, if_false]; exact hQ 0
      · simp (disch := omega) only [z_app, z_lit, z_neg, z_wi1, z_wi0, z_leT, z_leF, z_ltT, z_ltF, z_eqT, z_eqF, Int.cast_ofNat_Int, true_and, and_true, not_true_eq_false, not_false_eq_true, false_imp_iff, true_imp_iff, ite_true, ite_false, if_true, if_false]
        refine ⟨Or.inr trivial, wX10_isTx hw ?_⟩
        simp (disch := omega) only [z_app, z_lit, z_neg, z_wi1, z_wi0, z_leT, z_leF, z_ltT, z_ltF, z_eqT, z_eqF, Int.cast_ofNat_Int, true_and, and_true, not_true_eq_false, not_false_eq_true, false_imp_iff, true_imp_iff, ite_true, ite_false, if_true, if_false]
        refine ⟨Or.inl trivial, m_cannot hw hJ hr it0 (fun h9 => ?_) (fun h9 => ?_)⟩
        · clear h9; simp (disch := omega) only [z_app, z_rd, z_cl, z_add, z_sub, z_mul, z_neg, z_lit, z_leT, z_leF, z_ltT, z_ltF, z_eqT, z_eqF, i_leT, i_leF, i_ltT, i_ltF, i_eqT, i_eqF, z_le, z_lt, z_eq, z_ite, z_at, z_pt, z_up, z_wr, z_wi1, z_wi0, z_wi, z_inS, z_toInt, z_nb0, z_nb1, Int.cast_ofNat_Int, true_and, and_true, not_true_eq_false, not_false_eq_true, false_imp_iff, true_imp_iff, aup_o, aup_k, ite_true, ite_false, z_fa000, z_fa001, z_fa010, z_fa011, z_fa100, z_fa101, z_fa110, z_fa111, if_true, if_false]; exact hQ 0
        · clear h9; simp (disch := omega) only [z_app, z_rd, z_cl, z_add, z_sub, z_mul, z_neg, z_lit, z_leT, z_leF, z_ltT, z_ltF, z_eqT, z_eqF, i_leT, i_leF, i_ltT, i_ltF, i_eqT, i_eqF, z_le, z_lt, z_eq, z_ite, z_at, z_pt, z_up, z_wr, z_wi1, z_wi0, z_wi, z_inS, z_toInt, z_nb0, z_nb1, Int.cast_ofNat_Int, true_and, and_true, not_true_eq_false, not_false_eq_true, false_imp_iff, true_imp_iff, aup_o, aup_k, ite_true, ite_false, z_fa000, z_fa001, z_fa010, z_fa011, z_fa100, z_fa101, z_fa110, z_fa111, if_true, if_false]; exact hQ 0
    · simp (disch := omega) only [z_app, z_lit, z_neg, z_wi1, z_wi0, z_leT, z_leF, z_ltT, z_ltF, z_eqT, z_eqF, Int.cast_ofNat_Int, true_and, and_true, not_true_eq_false, not_false_eq_true, false_imp_iff, true_imp_iff, ite_true, ite_false, if_true, if_false]
      refine ⟨Or.inr trivial, wX10_isTx hw ?_⟩
      simp (disch := omega) only [z_app, z_lit, z_neg, z_wi1, z_wi0, z_leT, z_leF, z_ltT, z_ltF, z_eqT, z_eqF, Int.cast_ofNat_Int, true_and, and_true, not_true_eq_false, not_false_eq_true, false_imp_iff, true_imp_iff, ite_true, ite_false, if_true, if_false]
      refine ⟨Or.inl trivial, m_cannot hw hJ hr it0 (fun h9 => ?_) (fun h9 => ?_)⟩
      · clear h9; simp (disch := omega) only [z_app, z_rd, z_cl, z_add, z_sub, z_mul, z_neg, z_lit, z_leT, z_leF, z_ltT, z_ltF, z_eqT, z_eqF, i_leT, i_leF, i_ltT, i_ltF, i_eqT, i_eqF, z_le, z_lt, z_eq, z_ite, z_at, z_pt, z_up, z_wr, z_wi1, z_wi0, z_wi, z_inS, z_toInt, z_nb0, z_nb1, Int.cast_ofNat_Int, true_and, and_true, not_true_eq_false, not_false_eq_true, false_imp_iff, true_imp_iff, aup_o, aup_k, ite_true, ite_false, z_fa000, z_fa001, z_fa010, z_fa011, z_fa100, z_fa101, z_fa110, z_fa111, if_true, if_false]; exact hQ 0
      · clear h9; simp (disch := omega) only [z_app, z_rd, z_cl, z_add, z_sub, z_mul, z_neg, z_lit, z_leT, z_leF, z_ltT, z_ltF, z_eqT, z_eqF, i_leT, i_leF, i_ltT, i_ltF, i_eqT, i_eqF, z_le, z_lt, z_eq, z_ite, z_at, z_pt, z_up, z_wr, z_wi1, z_wi0, z_wi, z_inS, z_toInt, z_nb0, z_nb1, Int.cast_ofNat_Int, true_and, and_true, not_true_eq_false, not_false_eq_true, false_imp_iff, true_imp_iff, aup_o, aup_k, ite_true, ite_false, z_fa000, z_fa001, z_fa010, z_fa011, z_fa100, z_fa101, z_fa110, z_fa111, if_true, if_false]; exact hQ 0
  · by_cases hb : 0 ≤ b ∧ b ≤ 9999
    · by_cases hc : 0 ≤ c ∧ c ≤ 20
      · simp (disch := omega) only [z_app, z_lit, z_neg, z_wi1, z_wi0, z_leT, z_leF, z_ltT, z_ltF, z_eqT, z_eqF, Int.cast_ofNat_Int, true_and, and_true, not_true_eq_false, not_false_eq_true, false_imp_iff, true_imp_iff, ite_true, ite_false, if_true, if_false]
        refine ⟨Or.inl trivial, m_cannot hw hJ hr it0 (fun h9 => ?_) (fun h9 => ?_)⟩
        · clear h9; simp (disch := omega) only [z_app, z_rd, z_cl, z_add, z_sub, z_mul, z_neg, z_lit, z_leT, z_leF, z_ltT, z_ltF, z_eqT, z_eqF, i_leT, i_leF, i_ltT, i_ltF, i_eqT, i_eqF, z_le, z_lt, z_eq, z_ite, z_at, z_pt, z_up, z_wr, z_wi1, z_wi0, z_wi, z_inS, z_toInt, z_nb0, z_nb1, Int.cast_ofNat_Int, true_and, and_true, not_true_eq_false, not_false_eq_true, false_imp_iff, true_imp_iff, aup_o, aup_k, ite_true, ite_false, z_fa000, z_fa001, z_fa010, z_fa011, z_fa100, z_fa101, z_fa110, z_fa111, if_true, if_false]; exact hQ 0
        · clear h9; simp (disch := omega) only [z_app, z_rd, z_cl, z_add, z_sub, z_mul, z_neg, z_lit, z_leT, z_leF, z_ltT, z_ltF, z_eqT, z_eqF, i_leT, i_leF, i_ltT, i_ltF, i_eqT, i_eqF, z_le, z_lt, z_eq, z_ite, z_at, z_pt, z_up, z_wr, z_wi1, z_wi0, z_wi, z_inS, z_toInt, z_nb0, z_nb1, Int.cast_ofNat_Int, true_and, and_true, not_true_eq_false, not_false_eq_true, false_imp_iff, true_imp_iff, aup_o, aup_k, ite_true, ite_false, z_fa000, z_fa001, z_fa010, z_fa011, z_fa100, z_fa101, z_fa110, z_fa111, if_true, if_false]; exact hQ 0
      · simp (disch := omega) only [z_app, z_lit, z_neg, z_wi1, z_wi0, z_leT, z_leF, z_ltT, z_ltF, z_eqT, z_eqF, Int.cast_ofNat_Int, true_and, and_true, not_true_eq_false, not_false_eq_true, false_imp_iff, true_imp_iff, ite_true, ite_false, if_true, if_false]
        refine ⟨Or.inl trivial, m_cannot hw hJ hr it0 (fun h9 => ?_) (fun h9 => ?_)⟩
        · clear h9; simp (disch := omega) only [z_app, z_rd, z_cl, z_add, z_sub, z_mul, z_neg, z_lit, z_leT, z_leF, z_ltT, z_ltF, z_eqT, z_eqF, i_leT, i_leF, i_ltT, i_ltF, i_eqT, i_eqF, z_le, z_lt, z_eq, z_ite, z_at, z_pt, z_up, z_wr, z_wi1, z_wi0, z_wi, z_inS, z_toInt, z_nb0, z_nb1, Int.cast_ofNat_Int, true_and, and_true, not_true_eq_false, not_false_eq_true, false_imp_iff, true_imp_iff, aup_o, aup_k, ite_true, ite_false, z_fa000, z_fa001, z_fa010, z_fa011, z_fa100, z_fa101, z_fa110, z_fa111, if_true, if_false]; exact hQ 0
        · clear h9; simp (disch := omega) only [z_app, z_rd, z_cl, z_add, z_sub, z_mul, z_neg, z_lit, z_leT, z_leF, z_ltT, z_ltF, z_eqT, z_eqF, i_leT, i_leF, i_ltT, i_ltF, i_eqT, i_eqF, z_le, z_lt, z_eq, z_ite, z_at, z_pt, z_up, z_wr, z_wi1, z_wi0, z_wi, z_inS, z_toInt, z_nb0, z_nb1, Int.cast_ofNat_Int, true_and, and_true, not_true_eq_false, not_false_eq_true, false_imp_iff, true_imp_iff, aup_o, aup_k, ite_true, ite_false, z_fa000, z_fa001, z_fa010, z_fa011, z_fa100, z_fa101, z_fa110, z_fa111, if_true, if_false]; exact hQ 0
    · simp (disch := omega) only [z_app, z_lit, z_neg, z_wi1, z_wi0, z_leT, z_leF, z_ltT, z_ltF, z_eqT, z_eqF, Int.cast_ofNat_Int, true_and, and_true, not_true_eq_false, not_false_eq_true, false_imp_iff, true_imp_iff, ite_true, ite_false, if_true, if_false]
      refine ⟨Or.inl trivial, m_cannot hw hJ hr it0 (fun h9 => ?_) (fun h9 => ?_)⟩
      · clear h9; simp (disch := omega) only [z_app, z_rd, z_cl, z_add, z_sub, z_mul, z_neg, z_lit, z_leT, z_leF, z_ltT, z_ltF, z_eqT, z_eqF, i_leT, i_leF, i_ltT, i_ltF, i_eqT, i_eqF, z_le, z_lt, z_eq, z_ite, z_at, z_pt, z_up, z_wr, z_wi1, z_wi0, z_wi, z_inS, z_toInt, z_nb0, z_nb1, Int.cast_ofNat_Int, true_and, and_true, not_true_eq_false, not_false_eq_true, false_imp_iff, true_imp_iff, aup_o, aup_k, ite_true, ite_false, z_fa000, z_fa001, z_fa010, z_fa011, z_fa100, z_fa101, z_fa110, z_fa111, if_true, if_false]; exact hQ 0
      · clear h9; simp (disch := omega) only [z_app, z_rd, z_cl, z_add, z_sub, z_mul, z_neg, z_lit, z_leT, z_leF, z_ltT, z_ltF, z_eqT, z_eqF, i_leT, i_leF, i_ltT, i_ltF, i_eqT, i_eqF, z_le, z_lt, z_eq, z_ite, z_at, z_pt, z_up, z_wr, z_wi1, z_wi0, z_wi, z_inS, z_toInt, z_nb0, z_nb1, Int.cast_ofNat_Int, true_and, and_true, not_true_eq_false, not_false_eq_true, false_imp_iff, true_imp_iff, aup_o, aup_k, ite_true, ite_false, z_fa000, z_fa001, z_fa010, z_fa011, z_fa100, z_fa101, z_fa110, z_fa111, if_true, if_false]; exact hQ 0
theorem mw_262a (hw : qWF g) (hJ : jJ s) (ia : i32 a) (ib : i32 b) (ic : i32 c) (it : i32 tx) (hI : ¬ bI s 262 a b tx) (hA : bA 262 a b c) : mO g (d + 10) mX10_send [.inl (iI a), .inl (iI b), .inl (iI c), .inl (iI tx)] s s (.inr 1) := by
  have hx : (0 ≤ a ∧ a ≤ 3) ∧ (-1 ≤ tx ∧ tx ≤ 3) := by unfold bI at hI; omega
  have hbc : ¬ ((0 ≤ b ∧ b ≤ 9999) ∧ (0 ≤ c ∧ c ≤ 20)) := by unfold bA at hA; omega
  clear hI hA
  have it0 := it
  unfold i32 at ia ib ic it
  refine m_thr fun m Q hrJ hQ => wX10_send hw (wX10_isTopic hw ?_)
  have hr := hrJ.1
  by_cases hb : 0 ≤ b ∧ b ≤ 9999
  · have hc : c < 0 ∨ 20 < c := by omega
    simp (disch := omega) only [z_app, z_lit, z_neg, z_wi1, z_wi0, z_leT, z_leF, z_ltT, z_ltF, z_eqT, z_eqF, Int.cast_ofNat_Int, true_and, and_true, not_true_eq_false, not_false_eq_true, false_imp_iff, true_imp_iff, ite_true, ite_false, if_true, if_false]
    refine ⟨Or.inr trivial, wX10_isTx hw ?_⟩
    simp (disch := omega) only [z_app, z_lit, z_neg, z_wi1, z_wi0, z_leT, z_leF, z_ltT, z_ltF, z_eqT, z_eqF, Int.cast_ofNat_Int, true_and, and_true, not_true_eq_false, not_false_eq_true, false_imp_iff, true_imp_iff, ite_true, ite_false, if_true, if_false]
    refine ⟨Or.inr trivial, m_cannot hw hJ hr it0 (fun h9 => ?_) (fun h9 => ?_)⟩
    · clear h9; simp (disch := omega) only [z_app, z_rd, z_cl, z_add, z_sub, z_mul, z_neg, z_lit, z_leT, z_leF, z_ltT, z_ltF, z_eqT, z_eqF, i_leT, i_leF, i_ltT, i_ltF, i_eqT, i_eqF, z_le, z_lt, z_eq, z_ite, z_at, z_pt, z_up, z_wr, z_wi1, z_wi0, z_wi, z_inS, z_toInt, z_nb0, z_nb1, Int.cast_ofNat_Int, true_and, and_true, not_true_eq_false, not_false_eq_true, false_imp_iff, true_imp_iff, aup_o, aup_k, ite_true, ite_false, z_fa000, z_fa001, z_fa010, z_fa011, z_fa100, z_fa101, z_fa110, z_fa111, if_true, if_false]; exact hQ 0
    · clear h9; simp (disch := omega) only [z_app, z_rd, z_cl, z_add, z_sub, z_mul, z_neg, z_lit, z_leT, z_leF, z_ltT, z_ltF, z_eqT, z_eqF, i_leT, i_leF, i_ltT, i_ltF, i_eqT, i_eqF, z_le, z_lt, z_eq, z_ite, z_at, z_pt, z_up, z_wr, z_wi1, z_wi0, z_wi, z_inS, z_toInt, z_nb0, z_nb1, Int.cast_ofNat_Int, true_and, and_true, not_true_eq_false, not_false_eq_true, false_imp_iff, true_imp_iff, aup_o, aup_k, ite_true, ite_false, z_fa000, z_fa001, z_fa010, z_fa011, z_fa100, z_fa101, z_fa110, z_fa111, if_true, if_false]; exact hQ 0
  · simp (disch := omega) only [z_app, z_lit, z_neg, z_wi1, z_wi0, z_leT, z_leF, z_ltT, z_ltF, z_eqT, z_eqF, Int.cast_ofNat_Int, true_and, and_true, not_true_eq_false, not_false_eq_true, false_imp_iff, true_imp_iff, ite_true, ite_false, if_true, if_false]
    refine ⟨Or.inr trivial, wX10_isTx hw ?_⟩
    simp (disch := omega) only [z_app, z_lit, z_neg, z_wi1, z_wi0, z_leT, z_leF, z_ltT, z_ltF, z_eqT, z_eqF, Int.cast_ofNat_Int, true_and, and_true, not_true_eq_false, not_false_eq_true, false_imp_iff, true_imp_iff, ite_true, ite_false, if_true, if_false]
    refine ⟨Or.inr trivial, m_cannot hw hJ hr it0 (fun h9 => ?_) (fun h9 => ?_)⟩
    · clear h9; simp (disch := omega) only [z_app, z_rd, z_cl, z_add, z_sub, z_mul, z_neg, z_lit, z_leT, z_leF, z_ltT, z_ltF, z_eqT, z_eqF, i_leT, i_leF, i_ltT, i_ltF, i_eqT, i_eqF, z_le, z_lt, z_eq, z_ite, z_at, z_pt, z_up, z_wr, z_wi1, z_wi0, z_wi, z_inS, z_toInt, z_nb0, z_nb1, Int.cast_ofNat_Int, true_and, and_true, not_true_eq_false, not_false_eq_true, false_imp_iff, true_imp_iff, aup_o, aup_k, ite_true, ite_false, z_fa000, z_fa001, z_fa010, z_fa011, z_fa100, z_fa101, z_fa110, z_fa111, if_true, if_false]; exact hQ 0
    · clear h9; simp (disch := omega) only [z_app, z_rd, z_cl, z_add, z_sub, z_mul, z_neg, z_lit, z_leT, z_leF, z_ltT, z_ltF, z_eqT, z_eqF, i_leT, i_leF, i_ltT, i_ltF, i_eqT, i_eqF, z_le, z_lt, z_eq, z_ite, z_at, z_pt, z_up, z_wr, z_wi1, z_wi0, z_wi, z_inS, z_toInt, z_nb0, z_nb1, Int.cast_ofNat_Int, true_and, and_true, not_true_eq_false, not_false_eq_true, false_imp_iff, true_imp_iff, aup_o, aup_k, ite_true, ite_false, z_fa000, z_fa001, z_fa010, z_fa011, z_fa100, z_fa101, z_fa110, z_fa111, if_true, if_false]; exact hQ 0
theorem mw_262s (hw : qWF g) (hJ : jJ s) (ia : i32 a) (ib : i32 b) (ic : i32 c) (it : i32 tx) (hI : ¬ bI s 262 a b tx) (hA : ¬ bA 262 a b c) (hS : bS s 262 a tx) : mO g (d + 10) mX10_send [.inl (iI a), .inl (iI b), .inl (iI c), .inl (iI tx)] s s (.inr 2) := by
  have hx : (0 ≤ a ∧ a ≤ 3) ∧ (-1 ≤ tx ∧ tx ≤ 3) := by unfold bI at hI; omega
  have hbc : (0 ≤ b ∧ b ≤ 9999) ∧ (0 ≤ c ∧ c ≤ 20) := by unfold bA at hA; omega
  have hs : ∃ _ : Unit, 400 ≤ s 2 9 ∨ (0 ≤ tx ∧ tx ≤ 3 ∧ s 55 tx = -1) := ⟨(), by unfold bS at hS; omega⟩
  clear hI hA hS
  have it0 := it
  unfold i32 at ia ib ic it
  refine m_thr fun m Q hrJ hQ => wX10_send hw (wX10_isTopic hw ?_)
  have hr := hrJ.1
  simp (disch := omega) only [z_app, z_lit, z_neg, z_wi1, z_wi0, z_leT, z_leF, z_ltT, z_ltF, z_eqT, z_eqF, Int.cast_ofNat_Int, true_and, and_true, not_true_eq_false, not_false_eq_true, false_imp_iff, true_imp_iff, ite_true, ite_false, if_true, if_false]
  refine ⟨Or.inr trivial, wX10_isTx hw ?_⟩
  simp (disch := omega) only [z_app, z_lit, z_neg, z_wi1, z_wi0, z_leT, z_leF, z_ltT, z_ltF, z_eqT, z_eqF, Int.cast_ofNat_Int, true_and, and_true, not_true_eq_false, not_false_eq_true, false_imp_iff, true_imp_iff, ite_true, ite_false, if_true, if_false]
  refine ⟨Or.inr trivial, m_cannot hw hJ hr it0 (fun h9 => ?_) (fun h9 => (let ⟨_, h⟩ := hs; h9 h).elim)⟩
  clear h9; simp (disch := omega) only [z_app, z_rd, z_cl, z_add, z_sub, z_mul, z_neg, z_lit, z_leT, z_leF, z_ltT, z_ltF, z_eqT, z_eqF, i_leT, i_leF, i_ltT, i_ltF, i_eqT, i_eqF, z_le, z_lt, z_eq, z_ite, z_at, z_pt, z_up, z_wr, z_wi1, z_wi0, z_wi, z_inS, z_toInt, z_nb0, z_nb1, Int.cast_ofNat_Int, true_and, and_true, not_true_eq_false, not_false_eq_true, false_imp_iff, true_imp_iff, aup_o, aup_k, ite_true, ite_false, z_fa000, z_fa001, z_fa010, z_fa011, z_fa100, z_fa101, z_fa110, z_fa111, if_true, if_false]; exact hQ 0
theorem mw_262r (hw : qWF g) (hJ : jJ s) (ia : i32 a) (ib : i32 b) (ic : i32 c) (it : i32 tx) (hI : ¬ bI s 262 a b tx) (hA : ¬ bA 262 a b c) (hS : ¬ bS s 262 a tx) : mO g (d + 10) mX10_send [.inl (iI a), .inl (iI b), .inl (iI c), .inl (iI tx)] s (stS (opS s 262 a b c tx)) (.inl (opA s 262 a b c tx)) := by
  have hx : (0 ≤ a ∧ a ≤ 3) ∧ (-1 ≤ tx ∧ tx ≤ 3) := by unfold bI at hI; omega
  have hbc : (0 ≤ b ∧ b ≤ 9999) ∧ (0 ≤ c ∧ c ≤ 20) := by unfold bA at hA; omega
  have hs : ∃ _ : Unit, ¬ (400 ≤ s 2 9 ∨ (0 ≤ tx ∧ tx ≤ 3 ∧ s 55 tx = -1)) := ⟨(), by unfold bS at hS; unfold bI at hI; omega⟩
  have E := fun (m : aS) (Q : Int32 → qS → Prop) (hr0 : rL s (aup m 86 0 0)) hQ => m_eff262 (d := d + 2) (T := fun _ _ => False) (Q := Q) hw hJ hr0 hI hA hS hQ
  clear hI hA hS
  have it0 := it
  unfold i32 at ia ib ic it
  refine m_op_ret (fun x hx => sto s _ _ _ _ _ hx) fun m Q hr0 hQ hr => wX10_send hw (wX10_isTopic hw ?_)
  simp (disch := omega) only [z_app, z_lit, z_neg, z_wi1, z_wi0, z_leT, z_leF, z_ltT, z_ltF, z_eqT, z_eqF, Int.cast_ofNat_Int, true_and, and_true, not_true_eq_false, not_false_eq_true, false_imp_iff, true_imp_iff, ite_true, ite_false, if_true, if_false]
  refine ⟨Or.inr trivial, wX10_isTx hw ?_⟩
  simp (disch := omega) only [z_app, z_lit, z_neg, z_wi1, z_wi0, z_leT, z_leF, z_ltT, z_ltF, z_eqT, z_eqF, Int.cast_ofNat_Int, true_and, and_true, not_true_eq_false, not_false_eq_true, false_imp_iff, true_imp_iff, ite_true, ite_false, if_true, if_false]
  refine ⟨Or.inr trivial, m_cannot hw hJ hr it0 (fun h9 => (let ⟨_, h⟩ := hs; h h9).elim) (fun h9 => ?_)⟩
  clear h9
  simp (disch := omega) only [z_app, z_rd, z_cl, z_add, z_sub, z_mul, z_neg, z_lit, z_leT, z_leF, z_ltT, z_ltF, z_eqT, z_eqF, i_leT, i_leF, i_ltT, i_ltF, i_eqT, i_eqF, z_le, z_lt, z_eq, z_ite, z_at, z_pt, z_up, z_wr, z_wi1, z_wi0, z_wi, z_inS, z_toInt, z_nb0, z_nb1, Int.cast_ofNat_Int, true_and, and_true, not_true_eq_false, not_false_eq_true, false_imp_iff, true_imp_iff, aup_o, aup_k, ite_true, ite_false, z_fa000, z_fa001, z_fa010, z_fa011, z_fa100, z_fa101, z_fa110, z_fa111, if_true, if_false]
  exact E m Q hr0 hQ
end MO5
