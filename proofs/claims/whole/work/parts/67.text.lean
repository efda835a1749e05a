/-! ===== pairs: damage, truncate, append ===== -/
section PX
variable {g : qG}
theorem j_20 {s : aS} (hJ : jJ s) {k : Int} (k0 : s 2 10 ≤ k) : jJ (aup s 20 k 1) := by
  obtain ⟨hB, hR, hD, hT, hV, hC, hS, hN, hH, hY⟩ := hJ
  refine ⟨hB, hR, fun j j0 j1 => ?_, hT, hV, hC, hS, jN_c (s := s) rfl rfl rfl rfl rfl rfl rfl rfl rfl rfl rfl hN, hH, hY⟩
  have q := hD j j0 j1
  rw [aup_k]
  show ((if j = k then 1 else s 20 j) = 0 ∨ (if j = k then 1 else s 20 j) = 1) ∧ (j < s 2 10 → (if j = k then 1 else s 20 j) = 0)
  by_cases h : j = k
  · rw [if_pos h]; exact ⟨Or.inr rfl, fun hh => by omega⟩
  · rw [if_neg h]; exact q
theorem k_countDamaged_l (hw : qWF g) {s : aS} {d : Nat} {Q : Int32 → qS → Prop} {T : String → qS → Prop} (n1 : s 2 9 ≤ 400) : ∀ k x : Int, 0 ≤ k → k ≤ s 2 9 → Q (iI (x + sI (s 20) k (s 2 9))) (qi s) → qV g mX4_countDamaged (d + 1) 0 7 [some (.inr 2), some (.inl (iI x)), some (.inl (iI k))] [] (qi s) Q T := by
  refine stepUp (s 2 9) (fun k ih x k0 k1 hQ => wX4_countDamaged_7 hw ?_)
  by_cases h : k < s 2 9
  · rw [sI_f _ h, ← Int.add_assoc] at hQ
    simp (disch := omega) only [z_app, z_rd, z_cl, z_add, z_sub, z_mul, z_neg, z_lit, z_leT, z_leF, z_ltT, z_ltF, z_eqT, z_eqF, i_leT, i_leF, i_ltT, i_ltF, i_eqT, i_eqF, z_le, z_lt, z_eq, z_ite, z_at, z_pt, z_up, z_wr, z_wi1, z_wi0, z_wi, z_inS, z_toInt, z_nb0, z_nb1, Int.cast_ofNat_Int, true_and, and_true, not_true_eq_false, not_false_eq_true, false_imp_iff, true_imp_iff, aup_o, aup_k, ite_true, ite_false, z_fa000, z_fa001, z_fa010, z_fa011, z_fa100, z_fa101, z_fa110, z_fa111, if_true, if_false]
    exact ih h _ (by omega) (by omega) hQ
  · rw [sI_e (by omega), Int.add_zero] at hQ
    simp (disch := omega) only [z_app, z_rd, z_cl, z_add, z_sub, z_mul, z_neg, z_lit, z_leT, z_leF, z_ltT, z_ltF, z_eqT, z_eqF, i_leT, i_leF, i_ltT, i_ltF, i_eqT, i_eqF, z_le, z_lt, z_eq, z_ite, z_at, z_pt, z_up, z_wr, z_wi1, z_wi0, z_wi, z_inS, z_toInt, z_nb0, z_nb1, Int.cast_ofNat_Int, true_and, and_true, not_true_eq_false, not_false_eq_true, false_imp_iff, true_imp_iff, aup_o, aup_k, ite_true, ite_false, z_fa000, z_fa001, z_fa010, z_fa011, z_fa100, z_fa101, z_fa110, z_fa111, if_true, if_false]
    exact hQ
theorem m_damagedCount_l (hw : qWF g) {s m : aS} {d : Nat} {Q : Int32 → qS → Prop} {T : String → qS → Prop} (hJ : jJ s) (hr : rL s m) : ∀ k x : Int, 0 ≤ k → k ≤ s 2 9 → Q (iI (x + sI (s 20) k (s 2 9))) (qi m) → qV g mX10_damagedCount (d + 1) 0 7 [some (.inr 86), some (.inl (iI x)), some (.inl (iI k))] [] (qi m) Q T := by
  have B := jb hJ
  refine stepUp (s 2 9) (fun k ih x k0 k1 hQ => wX10_damagedCount_7 hw ?_)
  have e15 := rs_15 hr
  by_cases h : k < s 2 9
  · have D := (jd hJ k0 h).1
    have e96 := rr_96 hr k0 h
    rw [sI_f _ h, ← Int.add_assoc] at hQ
    rcases D with D | D
    · rw [D] at hQ
      simp (disch := omega) only [z_app, z_rd, z_cl, z_add, z_sub, z_mul, z_neg, z_lit, z_leT, z_leF, z_ltT, z_ltF, z_eqT, z_eqF, i_leT, i_leF, i_ltT, i_ltF, i_eqT, i_eqF, z_le, z_lt, z_eq, z_ite, z_at, z_pt, z_up, z_wr, z_wi1, z_wi0, z_wi, z_inS, z_toInt, z_nb0, z_nb1, Int.cast_ofNat_Int, true_and, and_true, not_true_eq_false, not_false_eq_true, false_imp_iff, true_imp_iff, aup_o, aup_k, ite_true, ite_false, z_fa000, z_fa001, z_fa010, z_fa011, z_fa100, z_fa101, z_fa110, z_fa111, if_true, if_false, e15, e96, D]
      exact ih h _ (by omega) (by omega) hQ
    · rw [D] at hQ
      simp (disch := omega) only [z_app, z_rd, z_cl, z_add, z_sub, z_mul, z_neg, z_lit, z_leT, z_leF, z_ltT, z_ltF, z_eqT, z_eqF, i_leT, i_leF, i_ltT, i_ltF, i_eqT, i_eqF, z_le, z_lt, z_eq, z_ite, z_at, z_pt, z_up, z_wr, z_wi1, z_wi0, z_wi, z_inS, z_toInt, z_nb0, z_nb1, Int.cast_ofNat_Int, true_and, and_true, not_true_eq_false, not_false_eq_true, false_imp_iff, true_imp_iff, aup_o, aup_k, ite_true, ite_false, z_fa000, z_fa001, z_fa010, z_fa011, z_fa100, z_fa101, z_fa110, z_fa111, if_true, if_false, e15, e96, D]
      exact ih h _ (by omega) (by omega) hQ
  · rw [sI_e (by omega), Int.add_zero] at hQ
    simp (disch := omega) only [z_app, z_rd, z_cl, z_add, z_sub, z_mul, z_neg, z_lit, z_leT, z_leF, z_ltT, z_ltF, z_eqT, z_eqF, i_leT, i_leF, i_ltT, i_ltF, i_eqT, i_eqF, z_le, z_lt, z_eq, z_ite, z_at, z_pt, z_up, z_wr, z_wi1, z_wi0, z_wi, z_inS, z_toInt, z_nb0, z_nb1, Int.cast_ofNat_Int, true_and, and_true, not_true_eq_false, not_false_eq_true, false_imp_iff, true_imp_iff, aup_o, aup_k, ite_true, ite_false, z_fa000, z_fa001, z_fa010, z_fa011, z_fa100, z_fa101, z_fa110, z_fa111, if_true, if_false, e15]
    exact hQ
theorem pr_20 (hw : qWF g) : ∀ (σ : qS) (a1 : Int32), lR σ → lPair g 20 lR mX9_damage mX10_damage [.inl a1] ["java/lang/IndexOutOfBoundsException", "java/lang/IllegalStateException"] σ := by
  rintro σ x1 ⟨a, rfl, hJ, hr⟩
  obtain ⟨k, ⟨i1, i2⟩, rfl⟩ := z_of x1
  have B := jb hJ
  by_cases hi : a 23 (a 21 2) ≤ k ∧ k < a 2 9
  · by_cases hd : a 2 10 ≤ k
    · have J := j_20 hJ hd
      have z : sI (aup a 20 k 1 20) (a 23 (a 21 2)) (a 2 9) = sI (aup a 20 k 1 20) (a 2 10) (a 2 9) := by
        rw [sI_s (mid := a 2 10) (by omega) _ (by omega), sI_c (g := fun _ => 0) (a 2 10) (fun j p q => ?_), sI_k _ (by omega)]
        · omega
        · rw [aup_k, if_neg (by omega)]
          exact (jd hJ (by omega) (by omega)).2 q
      refine pair_of (o := .inl (sI (aup a 20 k 1 20) (a 2 10) (a 2 9))) (a' := aup a 20 k 1) (k_ret fun Q T hQ => wX9_damage hw (k_hasRecord1 hw hJ hi.1 hi.2 (k_rI1 hw ?_))) ?_ hr J (fun x hx => aup_o (by omega)) (es_n2 (by decide))
      · simp (disch := omega) only [z_app, z_rd, z_cl, z_add, z_sub, z_mul, z_neg, z_lit, z_leT, z_leF, z_ltT, z_ltF, z_eqT, z_eqF, i_leT, i_leF, i_ltT, i_ltF, i_eqT, i_eqF, z_le, z_lt, z_eq, z_ite, z_at, z_pt, z_up, z_wr, z_wi1, z_wi0, z_wi, z_inS, z_toInt, z_nb0, z_nb1, Int.cast_ofNat_Int, true_and, and_true, not_true_eq_false, not_false_eq_true, false_imp_iff, true_imp_iff, aup_o, aup_k, ite_true, ite_false, z_fa000, z_fa001, z_fa010, z_fa011, z_fa100, z_fa101, z_fa110, z_fa111, if_true, if_false]
        refine wX4_countDamaged hw ⟨rfl, ?_⟩
        have := k_countDamaged_l (s := aup a 20 k 1) (d := 18) (T := T) (Q := Q) hw (by show a 2 9 ≤ 400; omega) (a 2 10) 0 (by omega) (by show a 2 10 ≤ a 2 9; omega) (by rw [Int.zero_add]; exact hQ)
        exact this
      · refine m_op_ret (fun x hx => aup_o (by omega)) fun m Q hr0 hQ hr1 => wX10_damage hw (wX10_isInLog hw ?_)
        have hr := hr1
        have hr2 : rL (aup a 20 k 1) (aup (aup m 86 0 0) 96 k 1) := by
          obtain ⟨r1, r2, r3, r4, r5, r6, r7, r8, r9⟩ := id hr0
          refine ⟨r1, fun j j0 j1 => ?_, r3, r4, r5, r6, r7, r8, r9⟩
          obtain ⟨q1, q2, q3, q4, q5, q6, q7, q8, q9⟩ := r2 j j0 j1
          refine ⟨q1, q2, q3, q4, q5, q6, q7, q8, ?_⟩
          rw [aup_k, aup_k]
          split
          · rfl
          · exact q9
        have e98 : m 98 0 = a 23 (a 21 2) := by have := rg_98 hr (i := 0) (by omega) (by omega); rw [Int.add_zero] at this; exact this
        have e98' : aup (aup m 86 0 0) 96 k 1 98 0 = a 23 (a 21 2) := e98
        simp (disch := omega) only [z_app, z_rd, z_cl, z_add, z_sub, z_mul, z_neg, z_lit, z_leT, z_leF, z_ltT, z_ltF, z_eqT, z_eqF, i_leT, i_leF, i_ltT, i_ltF, i_eqT, i_eqF, z_le, z_lt, z_eq, z_ite, z_at, z_pt, z_up, z_wr, z_wi1, z_wi0, z_wi, z_inS, z_toInt, z_nb0, z_nb1, Int.cast_ofNat_Int, true_and, and_true, not_true_eq_false, not_false_eq_true, false_imp_iff, true_imp_iff, aup_o, aup_k, ite_true, ite_false, z_fa000, z_fa001, z_fa010, z_fa011, z_fa100, z_fa101, z_fa110, z_fa111, if_true, if_false, rs_3 hr, rs_4 hr, rs_5 hr, rs_15 hr, rs_16 hr, rs_19 hr, rs_20 hr, rs_27 hr, rs_28 hr, rs_34 hr, rr_88 hr, rr_89 hr, rr_90 hr, rr_91 hr, rr_92 hr, rr_93 hr, rr_94 hr, rr_95 hr, rr_96 hr, rg_97 hr, rg_98 hr, rt_99 hr, rv_100 hr, rv_101 hr, rc_102 hr, rc_103 hr, rp_104 hr, Int.add_zero]
        refine ⟨Or.inr trivial, wX10_damagedCount hw ?_⟩
        simp (disch := omega) only [z_app, z_rd, z_cl, z_add, z_sub, z_mul, z_neg, z_lit, z_leT, z_leF, z_ltT, z_ltF, z_eqT, z_eqF, i_leT, i_leF, i_ltT, i_ltF, i_eqT, i_eqF, z_le, z_lt, z_eq, z_ite, z_at, z_pt, z_up, z_wr, z_wi1, z_wi0, z_wi, z_inS, z_toInt, z_nb0, z_nb1, Int.cast_ofNat_Int, true_and, and_true, not_true_eq_false, not_false_eq_true, false_imp_iff, true_imp_iff, aup_o, aup_k, ite_true, ite_false, z_fa000, z_fa001, z_fa010, z_fa011, z_fa100, z_fa101, z_fa110, z_fa111, if_true, if_false, e98]
        refine m_damagedCount_l (s := aup a 20 k 1) hw J hr2 _ _ (by omega) (by show a 23 (a 21 2) ≤ a 2 9; omega) ?_
        rw [Int.zero_add]
        show Q (iI (sI (aup a 20 k 1 20) (a 23 (a 21 2)) (a 2 9))) _
        rw [z]
        exact hQ _ hr2 (mF_up (by decide) (by decide))
    · refine pair_of (o := .inr 1) (a' := a) (k_thr rfl fun Q T hT => wX9_damage hw (k_hasRecord1 hw hJ hi.1 hi.2 (k_rI1 hw ?_))) (m_thr fun m Q hrJ hQ => wX10_damage hw (wX10_isInLog hw ?_)) hr hJ (fun _ _ => rfl) (es_n2 (by decide))
      · refine ⟨fun hh => ?_, fun _ => ⟨by decide, by decide, hT⟩⟩
        have := (z_le (x := a 2 10) (y := k) (by omega) (by omega) (by omega) (by omega)).mp hh
        omega
      · have hr := hrJ.1
        simp (disch := omega) only [z_app, z_rd, z_cl, z_add, z_sub, z_mul, z_neg, z_lit, z_leT, z_leF, z_ltT, z_ltF, z_eqT, z_eqF, i_leT, i_leF, i_ltT, i_ltF, i_eqT, i_eqF, z_le, z_lt, z_eq, z_ite, z_at, z_pt, z_up, z_wr, z_wi1, z_wi0, z_wi, z_inS, z_toInt, z_nb0, z_nb1, Int.cast_ofNat_Int, true_and, and_true, not_true_eq_false, not_false_eq_true, false_imp_iff, true_imp_iff, aup_o, aup_k, ite_true, ite_false, z_fa000, z_fa001, z_fa010, z_fa011, z_fa100, z_fa101, z_fa110, z_fa111, if_true, if_false, rs_3 hr, rs_4 hr, rs_5 hr, rs_15 hr, rs_16 hr, rs_19 hr, rs_20 hr, rs_27 hr, rs_28 hr, rs_34 hr, rr_88 hr, rr_89 hr, rr_90 hr, rr_91 hr, rr_92 hr, rr_93 hr, rr_94 hr, rr_95 hr, rr_96 hr, rg_97 hr, rg_98 hr, rt_99 hr, rv_100 hr, rv_101 hr, rc_102 hr, rc_103 hr, rp_104 hr, Int.add_zero]
        exact ⟨Or.inr trivial, hQ 0⟩
  · refine pair_of (o := .inr 0) (a' := a) (k_thr rfl fun Q T hT => wX9_damage hw (k_hasRecord0 hw hJ i1 i2 hi (k_rI0 hw hT))) (m_thr fun m Q hrJ hQ => wX10_damage hw (wX10_isInLog hw ?_)) hr hJ (fun _ _ => rfl) (es_n2 (by decide))
    have hr := hrJ.1
    simp (disch := omega) only [z_app, z_rd, z_cl, z_add, z_sub, z_mul, z_neg, z_lit, z_leT, z_leF, z_ltT, z_ltF, z_eqT, z_eqF, i_leT, i_leF, i_ltT, i_ltF, i_eqT, i_eqF, z_le, z_lt, z_eq, z_ite, z_at, z_pt, z_up, z_wr, z_wi1, z_wi0, z_wi, z_inS, z_toInt, z_nb0, z_nb1, Int.cast_ofNat_Int, true_and, and_true, not_true_eq_false, not_false_eq_true, false_imp_iff, true_imp_iff, aup_o, aup_k, ite_true, ite_false, z_fa000, z_fa001, z_fa010, z_fa011, z_fa100, z_fa101, z_fa110, z_fa111, if_true, if_false, rs_3 hr, rs_4 hr, rs_5 hr, rs_15 hr, rs_16 hr, rs_19 hr, rs_20 hr, rs_27 hr, rs_28 hr, rs_34 hr, rr_88 hr, rr_89 hr, rr_90 hr, rr_91 hr, rr_92 hr, rr_93 hr, rr_94 hr, rr_95 hr, rr_96 hr, rg_97 hr, rg_98 hr, rt_99 hr, rv_100 hr, rv_101 hr, rc_102 hr, rc_103 hr, rp_104 hr, Int.add_zero]
    exact ⟨Or.inl trivial, hQ 0⟩
theorem j_lenT {s : aS} (hJ : jJ s) {w : Int} (w0 : 0 ≤ w) (w1 : w ≤ s 0 3) : jJ (aup s 0 3 w) := by
  obtain ⟨hB, hR, hD, hT, hV, hC, hS, hN, hH, hY⟩ := hJ
  refine ⟨hB, hR, hD, hT, hV, hC, hS, jN_c (s := s) rfl rfl rfl rfl rfl rfl rfl rfl rfl rfl rfl hN, hH, hY.1, ⟨?_, ?_⟩, fun i i0 i1 => hY.2.2 i i0 ?_⟩
  · show 0 ≤ w; exact w0
  · have := hY.2.1.2
    show w ≤ 900; omega
  · have : i < w := i1
    omega
theorem pr_1 (hw : qWF g) : ∀ (σ : qS) (a1 : Int32), lR σ → lPair g 20 lR mX9_truncate mX10_truncate [.inl a1] ["java/lang/IllegalArgumentException"] σ := by
  rintro σ x1 ⟨a, rfl, hJ, hr⟩
  obtain ⟨k, ⟨i1, i2⟩, rfl⟩ := z_of x1
  have B : 0 ≤ a 0 3 ∧ a 0 3 ≤ 900 := by have := jb hJ; omega
  by_cases hi : 0 ≤ k ∧ k ≤ a 0 3
  · refine pair_of (o := .inl k) (a' := aup a 0 3 k) (k_ret fun Q T hQ => wX9_truncate hw ?_) ?_ hr (j_lenT hJ hi.1 hi.2) (fun x hx => aup_o (by omega)) (es_n1 _)
    · refine ⟨fun hh => ?_, fun _ => ⟨fun _ => ?_, fun hh => absurd ?_ hh⟩⟩
      · have := (z_lt (x := k) (y := 0) (by omega) (by omega) (by omega) (by omega)).mp hh
        omega
      · rw [z_up]; exact hQ
      · exact (z_le (x := k) (y := a 0 3) (by omega) (by omega) (by omega) (by omega)).mpr hi.2
    · intro m Q hrJ hQ
      have e2 : m 86 2 = a 0 3 := hrJ.2.1
      refine wX10_truncate hw ?_
      simp (disch := omega) only [z_app, z_rd, z_cl, z_add, z_sub, z_mul, z_neg, z_lit, z_leT, z_leF, z_ltT, z_ltF, z_eqT, z_eqF, i_leT, i_leF, i_ltT, i_ltF, i_eqT, i_eqF, z_le, z_lt, z_eq, z_ite, z_at, z_pt, z_up, z_wr, z_wi1, z_wi0, z_wi, z_inS, z_toInt, z_nb0, z_nb1, Int.cast_ofNat_Int, true_and, and_true, not_true_eq_false, not_false_eq_true, false_imp_iff, true_imp_iff, aup_o, aup_k, ite_true, ite_false, z_fa000, z_fa001, z_fa010, z_fa011, z_fa100, z_fa101, z_fa110, z_fa111, if_true, if_false, e2]
      refine hQ _ k ⟨?_, ?_⟩ (fun x hx => by rw [aup_o (by omega), aup_o (by omega)]) (fun v hv => ⟨by rw [aup_k, if_neg (by decide), aup_s], by cases hv; rfl⟩) (fun j hj => by cases hj)
      · obtain ⟨r1, r2, r3, r4, r5, r6, r7, r8, r9⟩ := hrJ.1
        exact ⟨r1, r2, r3, r4, r5, r6, r7, r8, r9⟩
      · obtain ⟨x1, x2, x3⟩ := hrJ.2
        refine ⟨?_, fun i i0 i1 => ?_, x3⟩
        · rw [aup_s, aup_s]
        · have i1' : i < k := i1
          exact x2 i i0 (by omega)
  · refine pair_of (o := .inr 0) (a' := a) (k_thr rfl fun Q T hT => wX9_truncate hw ?_) (m_thr fun m Q hrJ hQ => wX10_truncate hw ?_) hr hJ (fun _ _ => rfl) (es_n1 _)
    · refine ⟨fun _ => ⟨by decide, by decide, hT⟩, fun h0 => ⟨fun hh => ?_, fun _ => ⟨by decide, by decide, hT⟩⟩⟩
      have a1 := (z_le (x := k) (y := a 0 3) (by omega) (by omega) (by omega) (by omega)).mp hh
      have a2 : ¬ k < 0 := fun h => h0 ((z_lt (x := k) (y := 0) (by omega) (by omega) (by omega) (by omega)).mpr h)
      omega
    · have e2 : m 86 2 = a 0 3 := hrJ.2.1
      simp (disch := omega) only [z_app, z_rd, z_cl, z_add, z_sub, z_mul, z_neg, z_lit, z_leT, z_leF, z_ltT, z_ltF, z_eqT, z_eqF, i_leT, i_leF, i_ltT, i_ltF, i_eqT, i_eqF, z_le, z_lt, z_eq, z_ite, z_at, z_pt, z_up, z_wr, z_wi1, z_wi0, z_wi, z_inS, z_toInt, z_nb0, z_nb1, Int.cast_ofNat_Int, true_and, and_true, not_true_eq_false, not_false_eq_true, false_imp_iff, true_imp_iff, aup_o, aup_k, ite_true, ite_false, z_fa000, z_fa001, z_fa010, z_fa011, z_fa100, z_fa101, z_fa110, z_fa111, if_true, if_false, e2]
      exact hQ 0
/-- a byte, as the class and as the reference keeps it -/
theorem and255 (y : Int32) : y &&& 255 = iI (y.toInt % 256) := by
  have hb := y.toBitVec.isLt
  apply Int32.toInt_inj.mp
  rw [z_toInt (by omega) (by omega)]
  have e1 : (y &&& 255).toBitVec.toNat = y.toBitVec.toNat % 256 := by
    rw [Int32.toBitVec_and, BitVec.toNat_and]
    show y.toBitVec.toNat &&& 255 = _
    exact Nat.and_two_pow_sub_one_eq_mod _ 8
  have e2 : (y &&& 255).toInt = ((y &&& 255).toBitVec.toNat : Int) := by
    show (y &&& 255).toBitVec.toInt = _
    rw [BitVec.toInt_eq_toNat_of_lt]
    rw [e1]
    omega
  have e3 : y.toInt = if 2 * y.toBitVec.toNat < 2 ^ 32 then (y.toBitVec.toNat : Int) else (y.toBitVec.toNat : Int) - (2 ^ 32 : Nat) := BitVec.toInt_eq_toNat_cond _
  rw [e2, e1, e3]
  split <;> omega
theorem nar8 (y : Int32) : vp_nar .byte (y.toInt8.toInt32) = iI (y.toInt8.toInt) := by
  show (y.toInt8.toInt32).toInt8.toInt32 = iI (y.toInt8.toInt)
  rw [Int8.toInt8_toInt32]
  apply Int32.toInt_inj.mp
  have h1 := y.toInt8.le_toInt
  have h2 := y.toInt8.toInt_lt
  rw [Int8.toInt_toInt32, z_toInt (by omega) (by omega)]
theorem bmod8 (y : Int32) : y.toInt8.toInt % 256 = y.toInt % 256 := by
  rw [Int32.toInt_toInt8]
  exact Int.bmod_emod
def sfn (s : aS) (y : Int32) : aS := aup (aup s 85 (s 0 3) (y.toInt8.toInt)) 0 3 (s 0 3 + 1)
def mfn (m : aS) (y : Int32) : aS := aup (aup m 87 (m 86 2) (y.toInt % 256)) 86 2 (m 86 2 + 1)
theorem j_sfn {s : aS} (hJ : jJ s) (h : s 0 3 < 900) (y : Int32) : jJ (sfn s y) := by
  obtain ⟨hB, hR, hD, hT, hV, hC, hS, hN, hH, hY⟩ := hJ
  have h1 := y.toInt8.le_toInt
  have h2 := y.toInt8.toInt_lt
  have y2 := hY.2.1
  refine ⟨hB, hR, hD, hT, hV, hC, hS, jN_c (s := s) rfl rfl rfl rfl rfl rfl rfl rfl rfl rfl rfl hN, hH, hY.1, ⟨?_, ?_⟩, fun i i0 i1 => ?_⟩
  · show 0 ≤ s 0 3 + 1; omega
  · show s 0 3 + 1 ≤ 900; omega
  · have i1' : i < s 0 3 + 1 := i1
    unfold sfn
    rw [aup_o (by decide), aup_k]
    split
    · omega
    · exact hY.2.2 i i0 (by omega)
theorem r_sfn {s m : aS} (hr : rJ s m) (y : Int32) : rJ (sfn s y) (mfn m y) := by
  obtain ⟨⟨r1, r2, r3, r4, r5, r6, r7, r8, r9⟩, x1, x2, x3⟩ := hr
  refine ⟨⟨r1, r2, r3, r4, r5, r6, r7, r8, r9⟩, ?_, fun i i0 i1 => ?_, x3⟩
  · show m 86 2 + 1 = s 0 3 + 1
    rw [x1]
  · have i1' : i < s 0 3 + 1 := i1
    unfold sfn mfn
    rw [aup_o (k' := 87) (by decide), aup_k, aup_o (k' := 85) (by decide), aup_k, x1]
    split
    · exact (bmod8 y).symm
    · exact x2 i i0 (by omega)
def y4 (x : Int32) : List Int32 := [x >>> (24 &&& 31), x >>> (16 &&& 31), x >>> (8 &&& 31), x >>> (0 &&& 31)]
theorem sfn_len (s : aS) (y : Int32) : sfn s y 0 3 = s 0 3 + 1 := aup_s _ _ _ _
theorem k_store1 (hw : qWF g) {s : aS} {d : Nat} {Q : Int32 → qS → Prop} {T : String → qS → Prop} {x l l' : Int32} (hl : l + -8 = l') (h0 : ¬ l < 0) (n0 : 0 ≤ s 0 3) (n1 : s 0 3 < 900) (h : qV g mX9_store (d + 1) 0 3 [some (.inr 0), some (.inl x), some (.inl l')] [] (qi (sfn s (x >>> (l &&& 31)))) Q T) : qV g mX9_store (d + 1) 0 3 [some (.inr 0), some (.inl x), some (.inl l)] [] (qi s) Q T := by
  refine wX9_store_3 hw ⟨fun hh => (h0 hh).elim, fun _ => ⟨fun hh => ?_, fun _ => ⟨fun hh => ?_, fun _ => ⟨z_in n0 (by omega) (by omega), rfl, ?_⟩⟩⟩⟩
  · have := (z_lt (x := s 0 3) (y := 0) (by omega) (by omega) (by omega) (by omega)).mp hh
    omega
  · rw [z_nI] at hh
    have := (z_le (x := ((900 : Nat) : Int)) (y := s 0 3) (by omega) (by omega) (by omega) (by omega)).mp hh
    omega
  · rw [hl, nar8]
    have e : qup (qup (qi s) 85 (qi s 0 3).toNatClampNeg (iI ((x >>> (l &&& 31)).toInt8.toInt))) 0 3 (qup (qi s) 85 (qi s 0 3).toNatClampNeg (iI ((x >>> (l &&& 31)).toInt8.toInt)) 0 3 + 1) = qi (sfn s (x >>> (l &&& 31))) := by
      rw [z_app, show ((3 : Nat) : Int) = 3 from rfl, z_wr n0 (by omega), z_app, show ((3 : Nat) : Int) = 3 from rfl, show (1 : Int32) = iI 1 from rfl, z_add, z_up]
      rfl
    rw [e]
    exact h
theorem k_store (hw : qWF g) {s : aS} {d : Nat} {Q : Int32 → qS → Prop} {T : String → qS → Prop} {x : Int32} (n0 : 0 ≤ s 0 3) (n1 : s 0 3 ≤ 896) (hQ : Q (iI 0) (qi ((y4 x).foldl sfn s))) : qC g (d + 1) mX9_store [.inr 0, .inl x] (qi s) Q T := by
  refine wX9_store hw ⟨rfl, ?_⟩
  refine k_store1 (l' := 16) hw (by decide +kernel) (by decide +kernel) n0 (by omega) ?_
  refine k_store1 (l' := 8) hw (by decide +kernel) (by decide +kernel) (by rw [sfn_len]; omega) (by rw [sfn_len]; omega) ?_
  refine k_store1 (l' := 0) hw (by decide +kernel) (by decide +kernel) (by rw [sfn_len, sfn_len]; omega) (by rw [sfn_len, sfn_len]; omega) ?_
  refine k_store1 (l' := -8) hw (by decide +kernel) (by decide +kernel) (by rw [sfn_len, sfn_len, sfn_len]; omega) (by rw [sfn_len, sfn_len, sfn_len]; omega) ?_
  exact wX9_store_3 hw ⟨fun _ => hQ, fun hh => absurd (show (-8 : Int32) < 0 by decide +kernel) hh⟩
theorem mfn_len (m : aS) (y : Int32) : mfn m y 86 2 = m 86 2 + 1 := aup_s _ _ _ _
theorem m_append1 (hw : qWF g) {m : aS} {d : Nat} {Q : Int32 → qS → Prop} {T : String → qS → Prop} {x l l' : Int32} (hl : l + -8 = l') (h0 : ¬ l < 0) (n0 : 0 ≤ m 86 2) (n1 : m 86 2 < 900) (h : qV g mX10_appendWord (d + 1) 0 3 [some (.inr 86), some (.inl x), some (.inl l')] [] (qi (mfn m (x >>> (l &&& 31)))) Q T) : qV g mX10_appendWord (d + 1) 0 3 [some (.inr 86), some (.inl x), some (.inl l)] [] (qi m) Q T := by
  refine wX10_appendWord_3 hw ⟨fun hh => (h0 hh).elim, fun _ => ⟨z_in n0 (by omega) (by omega), rfl, ?_⟩⟩
  rw [hl, and255]
  have e : qup (qup (qi m) 87 (qi m 86 2).toNatClampNeg (iI ((x >>> (l &&& 31)).toInt % 256))) 86 2 (qup (qi m) 87 (qi m 86 2).toNatClampNeg (iI ((x >>> (l &&& 31)).toInt % 256)) 86 2 + 1) = qi (mfn m (x >>> (l &&& 31))) := by
    rw [z_app, show ((2 : Nat) : Int) = 2 from rfl, z_wr n0 (by omega), z_app, show ((2 : Nat) : Int) = 2 from rfl, show (1 : Int32) = iI 1 from rfl, z_add, z_up]
    rfl
  rw [e]
  exact h
theorem m_appendWord (hw : qWF g) {m : aS} {d : Nat} {Q : Int32 → qS → Prop} {T : String → qS → Prop} {x : Int32} (n0 : 0 ≤ m 86 2) (n1 : m 86 2 ≤ 896) (hQ : Q (iI 0) (qi ((y4 x).foldl mfn m))) : qC g (d + 1) mX10_appendWord [.inr 86, .inl x] (qi m) Q T := by
  refine wX10_appendWord hw ⟨rfl, ?_⟩
  refine m_append1 (l' := 16) hw (by decide +kernel) (by decide +kernel) n0 (by omega) ?_
  refine m_append1 (l' := 8) hw (by decide +kernel) (by decide +kernel) (by rw [mfn_len]; omega) (by rw [mfn_len]; omega) ?_
  refine m_append1 (l' := 0) hw (by decide +kernel) (by decide +kernel) (by rw [mfn_len, mfn_len]; omega) (by rw [mfn_len, mfn_len]; omega) ?_
  refine m_append1 (l' := -8) hw (by decide +kernel) (by decide +kernel) (by rw [mfn_len, mfn_len, mfn_len]; omega) (by rw [mfn_len, mfn_len, mfn_len]; omega) ?_
  exact wX10_appendWord_3 hw ⟨fun _ => hQ, fun hh => absurd (show (-8 : Int32) < 0 by decide +kernel) hh⟩
theorem sfn_f (ys : List Int32) : ∀ s : aS, ys.foldl sfn s 0 3 = s 0 3 + ys.length ∧ (∀ x : Nat, 86 ≤ x → ys.foldl sfn s x = s x) := by
  induction ys with
  | nil => intro s; exact ⟨by show s 0 3 = s 0 3 + ((0 : Nat) : Int); omega, fun _ _ => rfl⟩
  | cons y t ih =>
    intro s
    obtain ⟨a1, a2⟩ := ih (sfn s y)
    refine ⟨?_, fun x hx => ?_⟩
    · show t.foldl sfn (sfn s y) 0 3 = _
      rw [a1, sfn_len, List.length_cons]
      omega
    · show t.foldl sfn (sfn s y) x = _
      rw [a2 x hx]
      unfold sfn
      rw [aup_o (by omega), aup_o (by omega)]
theorem mfn_f (ys : List Int32) : ∀ m : aS, ys.foldl mfn m 86 2 = m 86 2 + ys.length ∧ ys.foldl mfn m 86 0 = m 86 0 ∧ (∀ x : Nat, x < 86 ∨ 122 ≤ x → ys.foldl mfn m x = m x) := by
  induction ys with
  | nil => intro s; exact ⟨by show s 86 2 = s 86 2 + ((0 : Nat) : Int); omega, rfl, fun _ _ => rfl⟩
  | cons y t ih =>
    intro m
    obtain ⟨a1, a2, a3⟩ := ih (mfn m y)
    refine ⟨?_, ?_, fun x hx => ?_⟩
    · show t.foldl mfn (mfn m y) 86 2 = _
      rw [a1, mfn_len, List.length_cons]
      omega
    · show t.foldl mfn (mfn m y) 86 0 = _
      rw [a2]
      unfold mfn
      rw [aup_k, if_neg (by decide), aup_o (by decide)]
    · show t.foldl mfn (mfn m y) x = _
      rw [a3 x hx]
      unfold mfn
      rw [aup_o (by omega), aup_o (by omega)]
theorem jr_f (ys : List Int32) : ∀ s m : aS, jJ s → rJ s m → s 0 3 + ys.length ≤ 900 → jJ (ys.foldl sfn s) ∧ rJ (ys.foldl sfn s) (ys.foldl mfn m) := by
  induction ys with
  | nil => intro s m h1 h2 _; exact ⟨h1, h2⟩
  | cons y t ih =>
    intro s m h1 h2 h3
    rw [List.length_cons] at h3
    exact ih _ _ (j_sfn h1 (by omega) y) (r_sfn h2 y) (by rw [sfn_len]; omega)
theorem pr_0 (hw : qWF g) : ∀ (σ : qS) (a1 a2 a3 a4 a5 : Int32), lR σ → lPair g 20 lR mX9_append mX10_append [.inl a1, .inl a2, .inl a3, .inl a4, .inl a5] ["java/lang/IllegalStateException"] σ := by
  rintro σ b1 b2 b3 b4 b5 ⟨a, rfl, hJ, hr⟩
  have B : 0 ≤ a 0 3 ∧ a 0 3 ≤ 900 := by have := jb hJ; omega
  by_cases hl : a 0 3 + 20 ≤ 900
  · have L4 : ∀ x, ((y4 x).length : Int) = 4 := fun _ => rfl
    have f1 := sfn_f (y4 b1) a
    have f2 := sfn_f (y4 b2) ((y4 b1).foldl sfn a)
    have f3 := sfn_f (y4 b3) ((y4 b2).foldl sfn ((y4 b1).foldl sfn a))
    have f4 := sfn_f (y4 b4) ((y4 b3).foldl sfn ((y4 b2).foldl sfn ((y4 b1).foldl sfn a)))
    have f5 := sfn_f (y4 b5) ((y4 b4).foldl sfn ((y4 b3).foldl sfn ((y4 b2).foldl sfn ((y4 b1).foldl sfn a))))
    have g1 := f1.1
    have g2 := f2.1
    have g3 := f3.1
    have g4 := f4.1
    have g5 := f5.1
    rw [L4] at g1 g2 g3 g4 g5
    have JR := fun (m : aS) (hm : rJ a m) => jr_f (y4 b5) _ _ (jr_f (y4 b4) _ _ (jr_f (y4 b3) _ _ (jr_f (y4 b2) _ _ (jr_f (y4 b1) _ _ hJ hm (by rw [L4]; omega)).1 (jr_f (y4 b1) _ _ hJ hm (by rw [L4]; omega)).2 (by rw [L4]; omega)).1 (jr_f (y4 b2) _ _ (jr_f (y4 b1) _ _ hJ hm (by rw [L4]; omega)).1 (jr_f (y4 b1) _ _ hJ hm (by rw [L4]; omega)).2 (by rw [L4]; omega)).2 (by rw [L4]; omega)).1 (jr_f (y4 b3) _ _ (jr_f (y4 b2) _ _ (jr_f (y4 b1) _ _ hJ hm (by rw [L4]; omega)).1 (jr_f (y4 b1) _ _ hJ hm (by rw [L4]; omega)).2 (by rw [L4]; omega)).1 (jr_f (y4 b2) _ _ (jr_f (y4 b1) _ _ hJ hm (by rw [L4]; omega)).1 (jr_f (y4 b1) _ _ hJ hm (by rw [L4]; omega)).2 (by rw [L4]; omega)).2 (by rw [L4]; omega)).2 (by rw [L4]; omega)).1 (jr_f (y4 b4) _ _ (jr_f (y4 b3) _ _ (jr_f (y4 b2) _ _ (jr_f (y4 b1) _ _ hJ hm (by rw [L4]; omega)).1 (jr_f (y4 b1) _ _ hJ hm (by rw [L4]; omega)).2 (by rw [L4]; omega)).1 (jr_f (y4 b2) _ _ (jr_f (y4 b1) _ _ hJ hm (by rw [L4]; omega)).1 (jr_f (y4 b1) _ _ hJ hm (by rw [L4]; omega)).2 (by rw [L4]; omega)).2 (by rw [L4]; omega)).1 (jr_f (y4 b3) _ _ (jr_f (y4 b2) _ _ (jr_f (y4 b1) _ _ hJ hm (by rw [L4]; omega)).1 (jr_f (y4 b1) _ _ hJ hm (by rw [L4]; omega)).2 (by rw [L4]; omega)).1 (jr_f (y4 b2) _ _ (jr_f (y4 b1) _ _ hJ hm (by rw [L4]; omega)).1 (jr_f (y4 b1) _ _ hJ hm (by rw [L4]; omega)).2 (by rw [L4]; omega)).2 (by rw [L4]; omega)).2 (by rw [L4]; omega)).2 (by rw [L4]; omega)
    refine pair_of (o := .inl (a 0 3 + 20)) (a' := (y4 b5).foldl sfn ((y4 b4).foldl sfn ((y4 b3).foldl sfn ((y4 b2).foldl sfn ((y4 b1).foldl sfn a))))) (k_ret fun Q T hQ => wX9_append hw ⟨fun _ => ?_, fun hh => absurd ?_ hh⟩) ?_ hr (JR a hr).1 (fun x hx => by rw [f5.2 x hx, f4.2 x hx, f3.2 x hx, f2.2 x hx, f1.2 x hx]) (es_n1 _)
    · refine k_store hw (by omega) (by omega) (k_store hw (by omega) (by omega) (k_store hw (by omega) (by omega) (k_store hw (by omega) (by omega) (k_store hw (by omega) (by omega) ?_))))
      rw [z_app, show ((3 : Nat) : Int) = 3 from rfl, g5, g4, g3, g2, g1, show a 0 3 + 4 + 4 + 4 + 4 + 4 = a 0 3 + 20 by omega]
      exact hQ
    · have := (z_le (x := a 0 3 + 20) (y := 900) (by omega) (by omega) (by omega) (by omega)).mpr hl
      rw [← z_add] at this
      exact this
    · intro m Q hrJ hQ
      have e2 : m 86 2 = a 0 3 := hrJ.2.1
      have hm := rJ_t hrJ 0
      have F := (JR _ hm).2
      have k1 := mfn_f (y4 b1) (aup m 86 0 0)
      have k2 := mfn_f (y4 b2) ((y4 b1).foldl mfn (aup m 86 0 0))
      have k3 := mfn_f (y4 b3) ((y4 b2).foldl mfn ((y4 b1).foldl mfn (aup m 86 0 0)))
      have k4 := mfn_f (y4 b4) ((y4 b3).foldl mfn ((y4 b2).foldl mfn ((y4 b1).foldl mfn (aup m 86 0 0))))
      have k5 := mfn_f (y4 b5) ((y4 b4).foldl mfn ((y4 b3).foldl mfn ((y4 b2).foldl mfn ((y4 b1).foldl mfn (aup m 86 0 0)))))
      have e20 : aup m 86 0 0 86 2 = a 0 3 := by rw [aup_k, if_neg (by decide), e2]
      have l1 := k1.1
      have l2 := k2.1
      have l3 := k3.1
      have l4 := k4.1
      have l5 := k5.1
      rw [L4] at l1 l2 l3 l4 l5
      rw [e20] at l1
      refine wX10_append hw ?_
      simp (disch := omega) only [z_app, z_rd, z_cl, z_add, z_sub, z_mul, z_neg, z_lit, z_leT, z_leF, z_ltT, z_ltF, z_eqT, z_eqF, i_leT, i_leF, i_ltT, i_ltF, i_eqT, i_eqF, z_le, z_lt, z_eq, z_ite, z_at, z_pt, z_up, z_wr, z_wi1, z_wi0, z_wi, z_inS, z_toInt, z_nb0, z_nb1, Int.cast_ofNat_Int, true_and, and_true, not_true_eq_false, not_false_eq_true, false_imp_iff, true_imp_iff, aup_o, aup_k, ite_true, ite_false, z_fa000, z_fa001, z_fa010, z_fa011, z_fa100, z_fa101, z_fa110, z_fa111, if_true, if_false, e2]
      refine m_appendWord hw (by omega) (by omega) (m_appendWord hw (by omega) (by omega) (m_appendWord hw (by omega) (by omega) (m_appendWord hw (by omega) (by omega) (m_appendWord hw (by omega) (by omega) ?_))))
      refine hQ _ _ F (fun x hx => ?_) (fun v hv => ⟨?_, ?_⟩) (fun j hj => by cases hj)
      · rw [k5.2.2 x hx, k4.2.2 x hx, k3.2.2 x hx, k2.2.2 x hx, k1.2.2 x hx, aup_o (by omega)]
      · rw [k5.2.1, k4.2.1, k3.2.1, k2.2.1, k1.2.1, aup_s]
      · cases hv
        show ((y4 b5).foldl mfn ((y4 b4).foldl mfn ((y4 b3).foldl mfn ((y4 b2).foldl mfn ((y4 b1).foldl mfn (aup m 86 0 0)))))) 86 2 = a 0 3 + 20
        omega
  · refine pair_of (o := .inr 0) (a' := a) (k_thr rfl fun Q T hT => wX9_append hw ⟨fun hh => ?_, fun _ => ⟨by decide, by decide, hT⟩⟩) (m_thr fun m Q hrJ hQ => wX10_append hw ?_) hr hJ (fun _ _ => rfl) (es_n1 _)
    · have h2 : iI (a 0 3 + 20) ≤ iI 900 := by rw [← z_add]; exact hh
      have := (z_le (x := a 0 3 + 20) (y := 900) (by omega) (by omega) (by omega) (by omega)).mp h2
      omega
    · have e2 : m 86 2 = a 0 3 := hrJ.2.1
      simp (disch := omega) only [z_app, z_rd, z_cl, z_add, z_sub, z_mul, z_neg, z_lit, z_leT, z_leF, z_ltT, z_ltF, z_eqT, z_eqF, i_leT, i_leF, i_ltT, i_ltF, i_eqT, i_eqF, z_le, z_lt, z_eq, z_ite, z_at, z_pt, z_up, z_wr, z_wi1, z_wi0, z_wi, z_inS, z_toInt, z_nb0, z_nb1, Int.cast_ofNat_Int, true_and, and_true, not_true_eq_false, not_false_eq_true, false_imp_iff, true_imp_iff, aup_o, aup_k, ite_true, ite_false, z_fa000, z_fa001, z_fa010, z_fa011, z_fa100, z_fa101, z_fa110, z_fa111, if_true, if_false, e2]
      exact hQ 0
end PX
