/-! ===== pairs: blockAt, checkpoint, read ===== -/
section PW
variable {g : qG}
theorem pr_30 (hw : qWF g) : ∀ (σ : qS) (a1 a2 a3 : Int32), lR σ → lPair g 20 lR mX9_blockAt mX10_blockAt [.inl a1, .inl a2, .inl a3] ["java/lang/IndexOutOfBoundsException", "java/lang/IllegalArgumentException"] σ := by
  rintro σ x0 x1 x2 ⟨a, rfl, hJ, hr⟩
  obtain ⟨p, ⟨j1, j2⟩, rfl⟩ := z_of x0
  obtain ⟨f, ⟨i1, i2⟩, rfl⟩ := z_of x1
  obtain ⟨w, ⟨w1, w2⟩, rfl⟩ := z_of x2
  have B : 0 ≤ a 1 11 ∧ a 1 11 ≤ a 2 9 ∧ a 2 9 ≤ 400 := by have := jb hJ; omega
  by_cases hf : 0 ≤ f ∧ f ≤ 7
  · by_cases hb : 0 ≤ w ∧ w ≤ 3
    · by_cases hp : a 1 11 ≤ p ∧ p ≤ a 2 9
      · -- the state behind it differs from a in the view and the list alone, which are looked at nowhere
        unfold lPair
        refine wX9_blockAt hw ?_
        simp (disch := omega) only [z_app, z_rd, z_cl, z_add, z_sub, z_mul, z_neg, z_lit, z_leT, z_leF, z_ltT, z_ltF, z_eqT, z_eqF, i_leT, i_leF, i_ltT, i_ltF, i_eqT, i_eqF, z_le, z_lt, z_eq, z_ite, z_at, z_pt, z_up, z_wr, z_wi1, z_wi0, z_wi, z_inS, z_toInt, z_nb0, z_nb1, Int.cast_ofNat_Int, true_and, and_true, not_true_eq_false, not_false_eq_true, false_imp_iff, true_imp_iff, aup_o, aup_k, ite_true, ite_false, z_fa000, z_fa001, z_fa010, z_fa011, z_fa100, z_fa101, z_fa110, z_fa111, if_true, if_false]
        refine k_rI1 hw (wX2_isRecoverable hw ?_)
        simp (disch := omega) only [z_app, z_rd, z_cl, z_add, z_sub, z_mul, z_neg, z_lit, z_leT, z_leF, z_ltT, z_ltF, z_eqT, z_eqF, i_leT, i_leF, i_ltT, i_ltF, i_eqT, i_eqF, z_le, z_lt, z_eq, z_ite, z_at, z_pt, z_up, z_wr, z_wi1, z_wi0, z_wi, z_inS, z_toInt, z_nb0, z_nb1, Int.cast_ofNat_Int, true_and, and_true, not_true_eq_false, not_false_eq_true, false_imp_iff, true_imp_iff, aup_o, aup_k, ite_true, ite_false, z_fa000, z_fa001, z_fa010, z_fa011, z_fa100, z_fa101, z_fa110, z_fa111, if_true, if_false]
        refine ⟨Or.inr trivial, k_rA1 hw (k_recover49 hw hJ hp.1 hp.2 (fun u u1 u2 u3 => ?_))⟩
        refine k_valueOf49 hw hf.1 (by omega) hb.1 (by omega) u2 ?_
        have Ju := jJ_v hJ (fun x h1 h2 h3 => u1 x h1 h2 h3)
        have hru : rJ u u := rJ_v (rJ_fr hr (fun x h1 h2 => u1 x (by omega) (by omega) (by omega)) (fun i hi => by rw [u1 86 (by decide) (by decide) (by decide)])) (fun x h1 h2 h3 => u1 x h1 h2 h3)
        have eV : bkV (u 51, u 53) f w = bkV ((eL a (a 1 11) p).foldl (fch a) (a 46, a 48)) f w := bk_eq u3 hf.1 (by omega) hb.1 (by omega)
        have hm : mO g 20 mX10_blockAt [.inl (iI p), .inl (iI f), .inl (iI w)] a a (.inl (bkV (u 51, u 53) f w)) := by
          rw [eV]
          refine m_v_ret fun m Q hr0 hQ hr1 => wX10_blockAt hw (wX10_isBlock hw (wX10_isFile hw ?_))
          have e28 := rs_28 hr1
          have e15 := rs_15 hr1
          simp (disch := omega) only [z_app, z_rd, z_cl, z_add, z_sub, z_mul, z_neg, z_lit, z_leT, z_leF, z_ltT, z_ltF, z_eqT, z_eqF, i_leT, i_leF, i_ltT, i_ltF, i_eqT, i_eqF, z_le, z_lt, z_eq, z_ite, z_at, z_pt, z_up, z_wr, z_wi1, z_wi0, z_wi, z_inS, z_toInt, z_nb0, z_nb1, Int.cast_ofNat_Int, true_and, and_true, not_true_eq_false, not_false_eq_true, false_imp_iff, true_imp_iff, aup_o, aup_k, ite_true, ite_false, z_fa000, z_fa001, z_fa010, z_fa011, z_fa100, z_fa101, z_fa110, z_fa111, if_true, if_false]
          refine ⟨Or.inr trivial, Or.inr trivial, wX10_isPrefix hw ?_⟩
          simp (disch := omega) only [z_app, z_rd, z_cl, z_add, z_sub, z_mul, z_neg, z_lit, z_leT, z_leF, z_ltT, z_ltF, z_eqT, z_eqF, i_leT, i_leF, i_ltT, i_ltF, i_eqT, i_eqF, z_le, z_lt, z_eq, z_ite, z_at, z_pt, z_up, z_wr, z_wi1, z_wi0, z_wi, z_inS, z_toInt, z_nb0, z_nb1, Int.cast_ofNat_Int, true_and, and_true, not_true_eq_false, not_false_eq_true, false_imp_iff, true_imp_iff, aup_o, aup_k, ite_true, ite_false, z_fa000, z_fa001, z_fa010, z_fa011, z_fa100, z_fa101, z_fa110, z_fa111, if_true, if_false, e28, e15]
          exact ⟨Or.inr trivial, m_seen hw hJ hr0 hp.1 hp.2 hf.1 (by omega) hb.1 (by omega) hQ⟩
        rw [z_up]
        have hru0 : rJ a (aup u 122 ((0 : Nat) : Int) (bkV (u 51, u 53) f w)) := rJ_fr hr (fun x h1 h2 => by rw [aup_o (by omega), u1 x (by omega) (by omega) (by omega)]) (fun i hi => by rw [aup_o (by decide), u1 86 (by decide) (by decide) (by decide)])
        refine hm _ _ hru0 (fun b r h1 h2 h3 h4 => ⟨lR_of Ju (rJ_v h1 (fun x y1 y2 y3 => u1 x y1 y2 y3)) (fun k hk' => ?_), ?_, ?_⟩)
        · rw [h2 k (Or.inl hk'), aup_o (by omega)]
        · show iI (b 86 ((0 : Nat) : Int)) = 0
          rw [show b 86 ((0 : Nat) : Int) = 0 from (h3 _ rfl).1]
          rfl
        · rw [(h3 _ rfl).2]
          show iI _ = iI (b 122 ((0 : Nat) : Int))
          rw [h2 122 (Or.inr (by decide))]
          exact congrArg iI (aup_s _ _ _ _).symm
      · refine pair_of (o := .inr 1) (a' := a) (k_thr rfl fun Q T hT => wX9_blockAt hw ?_) (m_thr fun m Q hr0 hQ => wX10_blockAt hw (wX10_isBlock hw (wX10_isFile hw ?_))) hr hJ (fun _ _ => rfl) (es_n2 (by decide))
        · simp (disch := omega) only [z_app, z_rd, z_cl, z_add, z_sub, z_mul, z_neg, z_lit, z_leT, z_leF, z_ltT, z_ltF, z_eqT, z_eqF, i_leT, i_leF, i_ltT, i_ltF, i_eqT, i_eqF, z_le, z_lt, z_eq, z_ite, z_at, z_pt, z_up, z_wr, z_wi1, z_wi0, z_wi, z_inS, z_toInt, z_nb0, z_nb1, Int.cast_ofNat_Int, true_and, and_true, not_true_eq_false, not_false_eq_true, false_imp_iff, true_imp_iff, aup_o, aup_k, ite_true, ite_false, z_fa000, z_fa001, z_fa010, z_fa011, z_fa100, z_fa101, z_fa110, z_fa111, if_true, if_false]
          refine k_rI1 hw (wX2_isRecoverable hw ?_)
          simp (disch := omega) only [z_app, z_rd, z_cl, z_add, z_sub, z_mul, z_neg, z_lit, z_leT, z_leF, z_ltT, z_ltF, z_eqT, z_eqF, i_leT, i_leF, i_ltT, i_ltF, i_eqT, i_eqF, z_le, z_lt, z_eq, z_ite, z_at, z_pt, z_up, z_wr, z_wi1, z_wi0, z_wi, z_inS, z_toInt, z_nb0, z_nb1, Int.cast_ofNat_Int, true_and, and_true, not_true_eq_false, not_false_eq_true, false_imp_iff, true_imp_iff, aup_o, aup_k, ite_true, ite_false, z_fa000, z_fa001, z_fa010, z_fa011, z_fa100, z_fa101, z_fa110, z_fa111, if_true, if_false]
          exact ⟨Or.inl trivial, k_rA0 hw hT⟩
        · have e28 := rs_28 hr0.1
          have e15 := rs_15 hr0.1
          simp (disch := omega) only [z_app, z_rd, z_cl, z_add, z_sub, z_mul, z_neg, z_lit, z_leT, z_leF, z_ltT, z_ltF, z_eqT, z_eqF, i_leT, i_leF, i_ltT, i_ltF, i_eqT, i_eqF, z_le, z_lt, z_eq, z_ite, z_at, z_pt, z_up, z_wr, z_wi1, z_wi0, z_wi, z_inS, z_toInt, z_nb0, z_nb1, Int.cast_ofNat_Int, true_and, and_true, not_true_eq_false, not_false_eq_true, false_imp_iff, true_imp_iff, aup_o, aup_k, ite_true, ite_false, z_fa000, z_fa001, z_fa010, z_fa011, z_fa100, z_fa101, z_fa110, z_fa111, if_true, if_false]
          refine ⟨Or.inr trivial, Or.inr trivial, wX10_isPrefix hw ?_⟩
          simp (disch := omega) only [z_app, z_rd, z_cl, z_add, z_sub, z_mul, z_neg, z_lit, z_leT, z_leF, z_ltT, z_ltF, z_eqT, z_eqF, i_leT, i_leF, i_ltT, i_ltF, i_eqT, i_eqF, z_le, z_lt, z_eq, z_ite, z_at, z_pt, z_up, z_wr, z_wi1, z_wi0, z_wi, z_inS, z_toInt, z_nb0, z_nb1, Int.cast_ofNat_Int, true_and, and_true, not_true_eq_false, not_false_eq_true, false_imp_iff, true_imp_iff, aup_o, aup_k, ite_true, ite_false, z_fa000, z_fa001, z_fa010, z_fa011, z_fa100, z_fa101, z_fa110, z_fa111, if_true, if_false, e28, e15]
          exact ⟨Or.inl trivial, hQ 0⟩
    · refine pair_of (o := .inr 0) (a' := a) (k_thr rfl fun Q T hT => wX9_blockAt hw ?_) (m_thr fun m Q hr0 hQ => wX10_blockAt hw (wX10_isBlock hw (wX10_isFile hw ?_))) hr hJ (fun _ _ => rfl) (es_n2 (by decide))
      · simp (disch := omega) only [z_app, z_rd, z_cl, z_add, z_sub, z_mul, z_neg, z_lit, z_leT, z_leF, z_ltT, z_ltF, z_eqT, z_eqF, i_leT, i_leF, i_ltT, i_ltF, i_eqT, i_eqF, z_le, z_lt, z_eq, z_ite, z_at, z_pt, z_up, z_wr, z_wi1, z_wi0, z_wi, z_inS, z_toInt, z_nb0, z_nb1, Int.cast_ofNat_Int, true_and, and_true, not_true_eq_false, not_false_eq_true, false_imp_iff, true_imp_iff, aup_o, aup_k, ite_true, ite_false, z_fa000, z_fa001, z_fa010, z_fa011, z_fa100, z_fa101, z_fa110, z_fa111, if_true, if_false]
        exact k_rI0 hw hT
      · have e28 := rs_28 hr0.1
        have e15 := rs_15 hr0.1
        simp (disch := omega) only [z_app, z_rd, z_cl, z_add, z_sub, z_mul, z_neg, z_lit, z_leT, z_leF, z_ltT, z_ltF, z_eqT, z_eqF, i_leT, i_leF, i_ltT, i_ltF, i_eqT, i_eqF, z_le, z_lt, z_eq, z_ite, z_at, z_pt, z_up, z_wr, z_wi1, z_wi0, z_wi, z_inS, z_toInt, z_nb0, z_nb1, Int.cast_ofNat_Int, true_and, and_true, not_true_eq_false, not_false_eq_true, false_imp_iff, true_imp_iff, aup_o, aup_k, ite_true, ite_false, z_fa000, z_fa001, z_fa010, z_fa011, z_fa100, z_fa101, z_fa110, z_fa111, if_true, if_false]
        refine ⟨Or.inr trivial, Or.inl trivial, wX10_isPrefix hw ?_⟩
        by_cases hp : a 1 11 ≤ p ∧ p ≤ a 2 9
        · simp (disch := omega) only [z_app, z_rd, z_cl, z_add, z_sub, z_mul, z_neg, z_lit, z_leT, z_leF, z_ltT, z_ltF, z_eqT, z_eqF, i_leT, i_leF, i_ltT, i_ltF, i_eqT, i_eqF, z_le, z_lt, z_eq, z_ite, z_at, z_pt, z_up, z_wr, z_wi1, z_wi0, z_wi, z_inS, z_toInt, z_nb0, z_nb1, Int.cast_ofNat_Int, true_and, and_true, not_true_eq_false, not_false_eq_true, false_imp_iff, true_imp_iff, aup_o, aup_k, ite_true, ite_false, z_fa000, z_fa001, z_fa010, z_fa011, z_fa100, z_fa101, z_fa110, z_fa111, if_true, if_false, e28, e15]
          exact ⟨Or.inr trivial, hQ 0⟩
        · simp (disch := omega) only [z_app, z_rd, z_cl, z_add, z_sub, z_mul, z_neg, z_lit, z_leT, z_leF, z_ltT, z_ltF, z_eqT, z_eqF, i_leT, i_leF, i_ltT, i_ltF, i_eqT, i_eqF, z_le, z_lt, z_eq, z_ite, z_at, z_pt, z_up, z_wr, z_wi1, z_wi0, z_wi, z_inS, z_toInt, z_nb0, z_nb1, Int.cast_ofNat_Int, true_and, and_true, not_true_eq_false, not_false_eq_true, false_imp_iff, true_imp_iff, aup_o, aup_k, ite_true, ite_false, z_fa000, z_fa001, z_fa010, z_fa011, z_fa100, z_fa101, z_fa110, z_fa111, if_true, if_false, e28, e15]
          exact ⟨Or.inl trivial, hQ 0⟩
  · refine pair_of (o := .inr 0) (a' := a) (k_thr rfl fun Q T hT => wX9_blockAt hw ?_) (m_thr fun m Q hr0 hQ => wX10_blockAt hw (wX10_isBlock hw (wX10_isFile hw ?_))) hr hJ (fun _ _ => rfl) (es_n2 (by decide))
    · simp (disch := omega) only [z_app, z_rd, z_cl, z_add, z_sub, z_mul, z_neg, z_lit, z_leT, z_leF, z_ltT, z_ltF, z_eqT, z_eqF, i_leT, i_leF, i_ltT, i_ltF, i_eqT, i_eqF, z_le, z_lt, z_eq, z_ite, z_at, z_pt, z_up, z_wr, z_wi1, z_wi0, z_wi, z_inS, z_toInt, z_nb0, z_nb1, Int.cast_ofNat_Int, true_and, and_true, not_true_eq_false, not_false_eq_true, false_imp_iff, true_imp_iff, aup_o, aup_k, ite_true, ite_false, z_fa000, z_fa001, z_fa010, z_fa011, z_fa100, z_fa101, z_fa110, z_fa111, if_true, if_false]
      exact k_rI0 hw hT
    · have e28 := rs_28 hr0.1
      have e15 := rs_15 hr0.1
      simp (disch := omega) only [z_app, z_rd, z_cl, z_add, z_sub, z_mul, z_neg, z_lit, z_leT, z_leF, z_ltT, z_ltF, z_eqT, z_eqF, i_leT, i_leF, i_ltT, i_ltF, i_eqT, i_eqF, z_le, z_lt, z_eq, z_ite, z_at, z_pt, z_up, z_wr, z_wi1, z_wi0, z_wi, z_inS, z_toInt, z_nb0, z_nb1, Int.cast_ofNat_Int, true_and, and_true, not_true_eq_false, not_false_eq_true, false_imp_iff, true_imp_iff, aup_o, aup_k, ite_true, ite_false, z_fa000, z_fa001, z_fa010, z_fa011, z_fa100, z_fa101, z_fa110, z_fa111, if_true, if_false]
      refine ⟨Or.inl trivial, Or.inl trivial, wX10_isPrefix hw ?_⟩
      by_cases hp : a 1 11 ≤ p ∧ p ≤ a 2 9
      · simp (disch := omega) only [z_app, z_rd, z_cl, z_add, z_sub, z_mul, z_neg, z_lit, z_leT, z_leF, z_ltT, z_ltF, z_eqT, z_eqF, i_leT, i_leF, i_ltT, i_ltF, i_eqT, i_eqF, z_le, z_lt, z_eq, z_ite, z_at, z_pt, z_up, z_wr, z_wi1, z_wi0, z_wi, z_inS, z_toInt, z_nb0, z_nb1, Int.cast_ofNat_Int, true_and, and_true, not_true_eq_false, not_false_eq_true, false_imp_iff, true_imp_iff, aup_o, aup_k, ite_true, ite_false, z_fa000, z_fa001, z_fa010, z_fa011, z_fa100, z_fa101, z_fa110, z_fa111, if_true, if_false, e28, e15]
        exact ⟨Or.inr trivial, hQ 0⟩
      · simp (disch := omega) only [z_app, z_rd, z_cl, z_add, z_sub, z_mul, z_neg, z_lit, z_leT, z_leF, z_ltT, z_ltF, z_eqT, z_eqF, i_leT, i_leF, i_ltT, i_ltF, i_eqT, i_eqF, z_le, z_lt, z_eq, z_ite, z_at, z_pt, z_up, z_wr, z_wi1, z_wi0, z_wi, z_inS, z_toInt, z_nb0, z_nb1, Int.cast_ofNat_Int, true_and, and_true, not_true_eq_false, not_false_eq_true, false_imp_iff, true_imp_iff, aup_o, aup_k, ite_true, ite_false, z_fa000, z_fa001, z_fa010, z_fa011, z_fa100, z_fa101, z_fa110, z_fa111, if_true, if_false, e28, e15]
        exact ⟨Or.inl trivial, hQ 0⟩
/-- the reference keeps what its view shows -/
def mkC (s u q : aS) (lb lf lc : Int) : Prop := (∀ x : Nat, x ≠ 105 → x ≠ 106 → x ≠ 107 → q x = u x) ∧ (∀ i, 0 ≤ i → i < lb → q 105 i = u 109 i) ∧ (∀ f, 0 ≤ f → f < lf → q 106 f = u 110 f) ∧ (∀ c, 0 ≤ c → c < lc → q 107 c = u 103 c)
theorem m_cp88 (hw : qWF g) {s u : aS} {d : Nat} {Q : Int32 → qS → Prop} {T : String → qS → Prop} {n : Int} (h27 : u 86 27 = s 26 6) (c0 : 0 ≤ s 26 6) (c1 : s 26 6 ≤ 6) (hQ : ∀ q, mkC s u q 32 8 (s 26 6) → qC g d mX10_flushAll [.inr 86] (qi (aup (aup q 86 28 n) 86 29 1)) (fun _ s2 => qC g d mX10_settle [.inr 86] s2 (fun _ s4 => Q (iI n) s4) T) T) : ∀ (j : Int) (q : aS), 0 ≤ j → j ≤ s 26 6 → mkC s u q 32 8 j → qV g mX10_checkpoint (d + 1) 0 88 [some (.inr 86), some (.inl (iI n)), some (.inl (iI j))] [] (qi q) Q T := by
  refine stepUp (s 26 6) (fun j ih q j0 j1 hq => wX10_checkpoint_88 hw ?_)
  obtain ⟨q1, q2, q3, q4⟩ := id hq
  have e27 : q 86 27 = s 26 6 := by rw [q1 86 (by decide) (by decide) (by decide), h27]
  have e103 : q 103 = u 103 := q1 103 (by decide) (by decide) (by decide)
  by_cases h : j < s 26 6
  · simp (disch := omega) only [z_app, z_rd, z_cl, z_add, z_sub, z_mul, z_neg, z_lit, z_leT, z_leF, z_ltT, z_ltF, z_eqT, z_eqF, i_leT, i_leF, i_ltT, i_ltF, i_eqT, i_eqF, z_le, z_lt, z_eq, z_ite, z_at, z_pt, z_up, z_wr, z_wi1, z_wi0, z_wi, z_inS, z_toInt, z_nb0, z_nb1, Int.cast_ofNat_Int, true_and, and_true, not_true_eq_false, not_false_eq_true, false_imp_iff, true_imp_iff, aup_o, aup_k, ite_true, ite_false, z_fa000, z_fa001, z_fa010, z_fa011, z_fa100, z_fa101, z_fa110, z_fa111, if_true, if_false, e27, e103]
    refine ih h _ (by omega) (by omega) ⟨fun x x1 x2 x3 => by rw [aup_o x3, q1 x x1 x2 x3], fun i i0 i1 => by rw [aup_o (by decide)]; exact q2 i i0 i1, fun f f0 f1 => by rw [aup_o (by decide)]; exact q3 f f0 f1, fun c c0 c1 => ?_⟩
    rw [aup_k]
    split
    · rename_i hh; rw [hh]
    · exact q4 c c0 (by omega)
  · have e : j = s 26 6 := by omega
    subst e
    simp (disch := omega) only [z_app, z_rd, z_cl, z_add, z_sub, z_mul, z_neg, z_lit, z_leT, z_leF, z_ltT, z_ltF, z_eqT, z_eqF, i_leT, i_leF, i_ltT, i_ltF, i_eqT, i_eqF, z_le, z_lt, z_eq, z_ite, z_at, z_pt, z_up, z_wr, z_wi1, z_wi0, z_wi, z_inS, z_toInt, z_nb0, z_nb1, Int.cast_ofNat_Int, true_and, and_true, not_true_eq_false, not_false_eq_true, false_imp_iff, true_imp_iff, aup_o, aup_k, ite_true, ite_false, z_fa000, z_fa001, z_fa010, z_fa011, z_fa100, z_fa101, z_fa110, z_fa111, if_true, if_false, e27]
    exact ⟨Or.inr trivial, hQ q hq⟩
theorem m_cp62 (hw : qWF g) {s u : aS} {d : Nat} {Q : Int32 → qS → Prop} {T : String → qS → Prop} {n : Int} (h01 : f01 (u 110)) (hQ : ∀ q, mkC s u q 32 8 0 → qV g mX10_checkpoint (d + 1) 0 88 [some (.inr 86), some (.inl (iI n)), some (.inl (iI 0))] [] (qi q) Q T) : ∀ (j : Int) (q : aS), 0 ≤ j → j ≤ 8 → mkC s u q 32 j 0 → qV g mX10_checkpoint (d + 1) 0 62 [some (.inr 86), some (.inl (iI n)), some (.inl (iI j))] [] (qi q) Q T := by
  refine stepUp 8 (fun j ih q j0 j1 hq => wX10_checkpoint_62 hw ?_)
  obtain ⟨q1, q2, q3, q4⟩ := id hq
  have e110 : q 110 = u 110 := q1 110 (by decide) (by decide) (by decide)
  by_cases h : j < 8
  · have step : ∀ v, v = u 110 j → qV g mX10_checkpoint (d + 1) 0 62 [some (.inr 86), some (.inl (iI n)), some (.inl (iI (j + 1)))] [] (qi (aup q 106 j v)) Q T := by
      intro v hv
      refine ih h _ (by omega) (by omega) ⟨fun x x1 x2 x3 => by rw [aup_o x2, q1 x x1 x2 x3], fun i i0 i1 => by rw [aup_o (by decide)]; exact q2 i i0 i1, fun f f0 f1 => ?_, fun c c0 c1 => by omega⟩
      rw [aup_k]
      split
      · rename_i hh; rw [hh, hv]
      · exact q3 f f0 (by omega)
    rcases h01 j j0 h with X | X
    · simp (disch := omega) only [z_app, z_rd, z_cl, z_add, z_sub, z_mul, z_neg, z_lit, z_leT, z_leF, z_ltT, z_ltF, z_eqT, z_eqF, i_leT, i_leF, i_ltT, i_ltF, i_eqT, i_eqF, z_le, z_lt, z_eq, z_ite, z_at, z_pt, z_up, z_wr, z_wi1, z_wi0, z_wi, z_inS, z_toInt, z_nb0, z_nb1, Int.cast_ofNat_Int, true_and, and_true, not_true_eq_false, not_false_eq_true, false_imp_iff, true_imp_iff, aup_o, aup_k, ite_true, ite_false, z_fa000, z_fa001, z_fa010, z_fa011, z_fa100, z_fa101, z_fa110, z_fa111, if_true, if_false, e110, X]
      exact step 0 X.symm
    · simp (disch := omega) only [z_app, z_rd, z_cl, z_add, z_sub, z_mul, z_neg, z_lit, z_leT, z_leF, z_ltT, z_ltF, z_eqT, z_eqF, i_leT, i_leF, i_ltT, i_ltF, i_eqT, i_eqF, z_le, z_lt, z_eq, z_ite, z_at, z_pt, z_up, z_wr, z_wi1, z_wi0, z_wi, z_inS, z_toInt, z_nb0, z_nb1, Int.cast_ofNat_Int, true_and, and_true, not_true_eq_false, not_false_eq_true, false_imp_iff, true_imp_iff, aup_o, aup_k, ite_true, ite_false, z_fa000, z_fa001, z_fa010, z_fa011, z_fa100, z_fa101, z_fa110, z_fa111, if_true, if_false, e110, X]
      exact step 1 X.symm
  · have e : j = 8 := by omega
    subst e
    simp (disch := omega) only [z_app, z_rd, z_cl, z_add, z_sub, z_mul, z_neg, z_lit, z_leT, z_leF, z_ltT, z_ltF, z_eqT, z_eqF, i_leT, i_leF, i_ltT, i_ltF, i_eqT, i_eqF, z_le, z_lt, z_eq, z_ite, z_at, z_pt, z_up, z_wr, z_wi1, z_wi0, z_wi, z_inS, z_toInt, z_nb0, z_nb1, Int.cast_ofNat_Int, true_and, and_true, not_true_eq_false, not_false_eq_true, false_imp_iff, true_imp_iff, aup_o, aup_k, ite_true, ite_false, z_fa000, z_fa001, z_fa010, z_fa011, z_fa100, z_fa101, z_fa110, z_fa111, if_true, if_false]
    exact hQ q hq
theorem m_cp36 (hw : qWF g) {s u : aS} {d : Nat} {Q : Int32 → qS → Prop} {T : String → qS → Prop} {n : Int} (hQ : ∀ q, mkC s u q 32 0 0 → qV g mX10_checkpoint (d + 1) 0 62 [some (.inr 86), some (.inl (iI n)), some (.inl (iI 0))] [] (qi q) Q T) : ∀ (j : Int) (q : aS), 0 ≤ j → j ≤ 32 → mkC s u q j 0 0 → qV g mX10_checkpoint (d + 1) 0 36 [some (.inr 86), some (.inl (iI n)), some (.inl (iI j))] [] (qi q) Q T := by
  refine stepUp 32 (fun j ih q j0 j1 hq => wX10_checkpoint_36 hw ?_)
  obtain ⟨q1, q2, q3, q4⟩ := id hq
  have e109 : q 109 = u 109 := q1 109 (by decide) (by decide) (by decide)
  by_cases h : j < 32
  · simp (disch := omega) only [z_app, z_rd, z_cl, z_add, z_sub, z_mul, z_neg, z_lit, z_leT, z_leF, z_ltT, z_ltF, z_eqT, z_eqF, i_leT, i_leF, i_ltT, i_ltF, i_eqT, i_eqF, z_le, z_lt, z_eq, z_ite, z_at, z_pt, z_up, z_wr, z_wi1, z_wi0, z_wi, z_inS, z_toInt, z_nb0, z_nb1, Int.cast_ofNat_Int, true_and, and_true, not_true_eq_false, not_false_eq_true, false_imp_iff, true_imp_iff, aup_o, aup_k, ite_true, ite_false, z_fa000, z_fa001, z_fa010, z_fa011, z_fa100, z_fa101, z_fa110, z_fa111, if_true, if_false, e109]
    refine ih h _ (by omega) (by omega) ⟨fun x x1 x2 x3 => by rw [aup_o x1, q1 x x1 x2 x3], fun i i0 i1 => ?_, fun f f0 f1 => by omega, fun c c0 c1 => by omega⟩
    rw [aup_k]
    split
    · rename_i hh; rw [hh]
    · exact q2 i i0 (by omega)
  · have e : j = 32 := by omega
    subst e
    simp (disch := omega) only [z_app, z_rd, z_cl, z_add, z_sub, z_mul, z_neg, z_lit, z_leT, z_leF, z_ltT, z_ltF, z_eqT, z_eqF, i_leT, i_leF, i_ltT, i_ltF, i_eqT, i_eqF, z_le, z_lt, z_eq, z_ite, z_at, z_pt, z_up, z_wr, z_wi1, z_wi0, z_wi, z_inS, z_toInt, z_nb0, z_nb1, Int.cast_ofNat_Int, true_and, and_true, not_true_eq_false, not_false_eq_true, false_imp_iff, true_imp_iff, aup_o, aup_k, ite_true, ite_false, z_fa000, z_fa001, z_fa010, z_fa011, z_fa100, z_fa101, z_fa110, z_fa111, if_true, if_false]
    exact hQ q hq
theorem mw_266s (hw : qWF g) {s : aS} {d : Nat} {a : Int} (hJ : jJ s) (hS : bS s 266 a (-1)) : mO g (d + 10) mX10_checkpoint [] s s (.inr 0) := by
  have B : 0 ≤ s 2 9 ∧ s 2 9 ≤ 400 := by have := jb hJ; omega
  have hf : s 2 9 = 400 := by unfold bS at hS; omega
  refine m_thr fun m Q hr hQ => wX10_checkpoint hw ?_
  have e15 := rs_15 hr.1
  simp (disch := omega) only [z_app, z_rd, z_cl, z_add, z_sub, z_mul, z_neg, z_lit, z_leT, z_leF, z_ltT, z_ltF, z_eqT, z_eqF, i_leT, i_leF, i_ltT, i_ltF, i_eqT, i_eqF, z_le, z_lt, z_eq, z_ite, z_at, z_pt, z_up, z_wr, z_wi1, z_wi0, z_wi, z_inS, z_toInt, z_nb0, z_nb1, Int.cast_ofNat_Int, true_and, and_true, not_true_eq_false, not_false_eq_true, false_imp_iff, true_imp_iff, aup_o, aup_k, ite_true, ite_false, z_fa000, z_fa001, z_fa010, z_fa011, z_fa100, z_fa101, z_fa110, z_fa111, if_true, if_false, e15]
  exact hQ 0
theorem mw_266r (hw : qWF g) {s : aS} {d : Nat} {a b c : Int} (hJ : jJ s) (hS : ¬ bS s 266 a (-1)) : mO g (d + 10) mX10_checkpoint [] s (stS (opS s 266 a b c (-1))) (.inl (opA s 266 a b c (-1))) := by
  have B := jb hJ
  have n1 : s 2 9 < 400 := by unfold bS at hS; omega
  have J1 := (p_266 (b := b) (c := c) hw hJ hS).1
  have ho : okR s 8 (-1) 0 0 0 := ⟨by omega, by omega, by omega, by omega, by omega, by omega, by omega, by omega, by omega, by omega, by omega, by omega, fun h => by omega⟩
  clear hS
  refine m_op_ret (fun x hx => sto s _ _ _ _ _ hx) fun m Q hr0 hQ hr => wX10_checkpoint hw ?_
  rw [op_266] at J1 hQ
  have e15 := rs_15 hr
  simp (disch := omega) only [z_app, z_rd, z_cl, z_add, z_sub, z_mul, z_neg, z_lit, z_leT, z_leF, z_ltT, z_ltF, z_eqT, z_eqF, i_leT, i_leF, i_ltT, i_ltF, i_eqT, i_eqF, z_le, z_lt, z_eq, z_ite, z_at, z_pt, z_up, z_wr, z_wi1, z_wi0, z_wi, z_inS, z_toInt, z_nb0, z_nb1, Int.cast_ofNat_Int, true_and, and_true, not_true_eq_false, not_false_eq_true, false_imp_iff, true_imp_iff, aup_o, aup_k, ite_true, ite_false, z_fa000, z_fa001, z_fa010, z_fa011, z_fa100, z_fa101, z_fa110, z_fa111, if_true, if_false, e15]
  refine m_layView hw hJ hr0 (by omega) (Int.le_refl _) (fun u hv hx hf => ?_)
  have hru : rL s u := rL_vF hr0 hv
  obtain ⟨r1, r2, r3, r4, r5, r6, r7, r8, r9⟩ := id hru
  refine m_record0 (s := s) (k := 8) (ow := -1) (x := 0) (y := 0) (w := 0) hw hJ r1.1 r1.2.2.2.1 r1.2.2.2.2.2.1 r3 r2 n1 (by omega) (by omega) (by omega) (Or.inl (by omega)) ?_
  have hrl := rL_ad (x := 0) (y := 0) (w := 0) (ow' := -1) (ow := -1) (k := 8) (j_hy hJ) hru (by rw [if_neg (by decide)])
  have x110 : adM s u 8 (-1) 0 0 0 110 = u 110 := am_o _ _ _ _ _ _ _ (by decide)
  have x109 : adM s u 8 (-1) 0 0 0 109 = u 109 := am_o _ _ _ _ _ _ _ (by decide)
  have x27 : adM s u 8 (-1) 0 0 0 86 27 = s 26 6 := by rw [am_86 _ _ _ _ _ _ _ (by decide) (by decide)]; exact rs_27 hru
  refine m_cp36 (s := s) (u := adM s u 8 (-1) 0 0 0) hw (fun q1 h1 => m_cp62 hw (by rw [x110]; exact hx) (fun q2 h2 => m_cp88 hw x27 (by omega) (by omega) (fun q h => ?_) 0 q2 (by omega) (by omega) h2) 0 q1 (by omega) (by omega) h1) 0 _ (by omega) (by omega) ⟨fun _ _ _ _ => rfl, fun i i0 i1 => by omega, fun f f0 f1 => by omega, fun c c0 c1 => by omega⟩
  obtain ⟨q1, q2, q3, q4⟩ := h
  -- the state that the class keeps, before it is flushed
  have hkp : rL (kpS (aup (adS s 8 (-1) 0 0 0) 1 11 (s 2 9))) (aup (aup q 86 28 (s 2 9)) 86 29 1) := by
    obtain ⟨y1, y2, y3, y4, y5, y6, y7, y8, y9⟩ := hrl
    have o : ∀ x : Nat, x ≠ 46 → x ≠ 48 → x ≠ 38 → x ≠ 1 → kpS (aup (adS s 8 (-1) 0 0 0) 1 11 (s 2 9)) x = adS s 8 (-1) 0 0 0 x := fun x h1 h2 h3 h4 => by rw [kp_o h1 h2 h3, aup_o h4]
    have o1 : ∀ i, kpS (aup (adS s 8 (-1) 0 0 0) 1 11 (s 2 9)) 1 i = if i = 11 then s 2 9 else adS s 8 (-1) 0 0 0 1 i := fun i => by rw [kp_o (by decide) (by decide) (by decide), aup_k]
    have p : ∀ x : Nat, x ≠ 105 → x ≠ 106 → x ≠ 107 → x ≠ 86 → aup (aup q 86 28 (s 2 9)) 86 29 1 x = adM s u 8 (-1) 0 0 0 x := fun x h1 h2 h3 h4 => by rw [aup_o h4, aup_o h4, q1 x h1 h2 h3]
    have p86 : ∀ i, i ≠ 28 → i ≠ 29 → aup (aup q 86 28 (s 2 9)) 86 29 1 86 i = adM s u 8 (-1) 0 0 0 86 i := fun i h1 h2 => by rw [aup_k, if_neg h2, aup_k, if_neg h1, q1 86 (by decide) (by decide) (by decide)]
    refine ⟨⟨?_, ?_, ?_, ?_, ?_, ?_, ?_, ?_, ?_, ?_⟩, ?_, ?_, ?_, ?_, ?_, ?_, ?_, ?_⟩
    · rw [p86 3 (by decide) (by decide), o 21 (by decide) (by decide) (by decide) (by decide)]; exact y1.1
    · rw [p86 4 (by decide) (by decide), o1, if_neg (by decide)]; exact y1.2.1
    · rw [p86 5 (by decide) (by decide), o1, if_neg (by decide)]; exact y1.2.2.1
    · rw [p86 15 (by decide) (by decide), o 2 (by decide) (by decide) (by decide) (by decide)]; exact y1.2.2.2.1
    · rw [p86 16 (by decide) (by decide), o 2 (by decide) (by decide) (by decide) (by decide)]; exact y1.2.2.2.2.1
    · rw [p86 19 (by decide) (by decide), o 21 (by decide) (by decide) (by decide) (by decide)]; exact y1.2.2.2.2.2.1
    · rw [p86 20 (by decide) (by decide), o 21 (by decide) (by decide) (by decide) (by decide)]; exact y1.2.2.2.2.2.2.1
    · rw [p86 27 (by decide) (by decide), o 26 (by decide) (by decide) (by decide) (by decide)]; exact y1.2.2.2.2.2.2.2.1
    · rw [aup_k, if_neg (by decide), aup_s, o1, if_pos rfl]
    · rw [p86 34 (by decide) (by decide), o1, if_neg (by decide)]; exact y1.2.2.2.2.2.2.2.2.2
    · unfold rR at y2 ⊢
      rw [o 2 (by decide) (by decide) (by decide) (by decide), o 4 (by decide) (by decide) (by decide) (by decide), o 6 (by decide) (by decide) (by decide) (by decide), o 8 (by decide) (by decide) (by decide) (by decide), o 10 (by decide) (by decide) (by decide) (by decide), o 12 (by decide) (by decide) (by decide) (by decide), o 14 (by decide) (by decide) (by decide) (by decide), o 16 (by decide) (by decide) (by decide) (by decide), o 18 (by decide) (by decide) (by decide) (by decide), o 20 (by decide) (by decide) (by decide) (by decide), p 88 (by decide) (by decide) (by decide) (by decide), p 89 (by decide) (by decide) (by decide) (by decide), p 90 (by decide) (by decide) (by decide) (by decide), p 91 (by decide) (by decide) (by decide) (by decide), p 92 (by decide) (by decide) (by decide) (by decide), p 93 (by decide) (by decide) (by decide) (by decide), p 94 (by decide) (by decide) (by decide) (by decide), p 95 (by decide) (by decide) (by decide) (by decide), p 96 (by decide) (by decide) (by decide) (by decide)]
      exact y2
    · unfold rG at y3 ⊢
      rw [o 21 (by decide) (by decide) (by decide) (by decide), o 23 (by decide) (by decide) (by decide) (by decide), p 97 (by decide) (by decide) (by decide) (by decide), p 98 (by decide) (by decide) (by decide) (by decide)]
      exact y3
    · unfold rT at y4 ⊢
      rw [o 55 (by decide) (by decide) (by decide) (by decide), p 99 (by decide) (by decide) (by decide) (by decide)]
      exact y4
    · unfold rV at y5 ⊢
      rw [o 28 (by decide) (by decide) (by decide) (by decide), o 30 (by decide) (by decide) (by decide) (by decide), p 100 (by decide) (by decide) (by decide) (by decide), p 101 (by decide) (by decide) (by decide) (by decide)]
      exact y5
    · unfold rC at y6 ⊢
      rw [o 26 (by decide) (by decide) (by decide) (by decide), o 32 (by decide) (by decide) (by decide) (by decide), o 34 (by decide) (by decide) (by decide) (by decide), p 102 (by decide) (by decide) (by decide) (by decide), p 103 (by decide) (by decide) (by decide) (by decide)]
      exact y6
    · unfold rP at y7 ⊢
      rw [o 26 (by decide) (by decide) (by decide) (by decide), o 34 (by decide) (by decide) (by decide) (by decide), o 36 (by decide) (by decide) (by decide) (by decide), p 104 (by decide) (by decide) (by decide) (by decide)]
      exact y7
    · right
      have a41 : aup (adS s 8 (-1) 0 0 0) 1 11 (s 2 9) 41 = s 41 := by rw [aup_o (by decide), ad_o _ _ _ _ _ _ (by decide)]
      have a43 : aup (adS s 8 (-1) 0 0 0) 1 11 (s 2 9) 43 = s 43 := by rw [aup_o (by decide), ad_o _ _ _ _ _ _ (by decide)]
      have a26 : aup (adS s 8 (-1) 0 0 0) 1 11 (s 2 9) 26 6 = s 26 6 := by rw [aup_o (by decide), ad_o _ _ _ _ _ _ (by decide)]
      have a34 : aup (adS s 8 (-1) 0 0 0) 1 11 (s 2 9) 34 = s 34 := by rw [aup_o (by decide), ad_o _ _ _ _ _ _ (by decide)]
      have k46 : ∀ f, 0 ≤ f → f < 8 → kpS (aup (adS s 8 (-1) 0 0 0) 1 11 (s 2 9)) 46 f = s 41 f := fun f f0 f1 => by unfold kpS; rw [if_pos ⟨rfl, f0, f1⟩, a41]
      have k48 : ∀ f, 0 ≤ f → f < 32 → kpS (aup (adS s 8 (-1) 0 0 0) 1 11 (s 2 9)) 48 f = s 43 f := fun f f0 f1 => by unfold kpS; rw [if_neg (by simp), if_pos ⟨rfl, f0, f1⟩, a43]
      have k38 : ∀ c, 0 ≤ c → c < s 26 6 → kpS (aup (adS s 8 (-1) 0 0 0) 1 11 (s 2 9)) 38 c = s 34 c := fun c c0 c1 => by unfold kpS; rw [if_neg (by simp), if_neg (by simp), a26, if_pos ⟨rfl, c0, c1⟩, a34]
      have FE := fEq_tr hJ.2.2.2.2.2.2.2.1.2 hf
      refine ⟨aup_s _ _ _ _, fun f f0 f1 => ?_, fun c c0 c1 => ?_⟩
      · rw [k46 f f0 f1, aup_o (k' := 106) (by decide), aup_o (k' := 106) (by decide), q3 f f0 f1, x110]
        obtain ⟨z1, z2⟩ := FE f f0 f1
        refine ⟨z1.symm, fun hh w0 w1 w2 => ?_⟩
        rw [aup_o (k' := 105) (by decide), aup_o (k' := 105) (by decide), q2 _ (by omega) (by omega), x109, k48 _ (by omega) (by omega)]
        exact (z2 hh w0 w1 w2).symm
      · rw [o 26 (by decide) (by decide) (by decide) (by decide), ad_o _ _ _ _ _ _ (by decide)] at c1
        rw [k38 c c0 c1, aup_o (by decide), aup_o (by decide), q4 c c0 c1, am_o _ _ _ _ _ _ _ (by decide)]
        exact rc_103 hru c0 c1
    · unfold rM at y9 ⊢
      rw [o1, if_neg (by decide), o 61 (by decide) (by decide) (by decide) (by decide), o 10 (by decide) (by decide) (by decide) (by decide), o 12 (by decide) (by decide) (by decide) (by decide), p 108 (by decide) (by decide) (by decide) (by decide)]
      exact y9
  have ag : agR (adS s 8 (-1) 0 0 0) (kpS (aup (adS s 8 (-1) 0 0 0) 1 11 (s 2 9))) := by
    refine ⟨?_, fun x hx => ?_⟩
    · rw [kp_o (by decide) (by decide) (by decide), aup_o (by decide)]
    · rw [kp_o (by omega) (by omega) (by omega), aup_o (by omega)]
  have k2 : kpS (aup (adS s 8 (-1) 0 0 0) 1 11 (s 2 9)) 2 = adS s 8 (-1) 0 0 0 2 := by rw [kp_o (by decide) (by decide) (by decide), aup_o (by decide)]
  have k20 : kpS (aup (adS s 8 (-1) 0 0 0) 1 11 (s 2 9)) 20 = adS s 8 (-1) 0 0 0 20 := by rw [kp_o (by decide) (by decide) (by decide), aup_o (by decide)]
  have k21 := ag.2 21 (by decide)
  have k23 := ag.2 23 (by decide)
  have e9 : kpS (aup (adS s 8 (-1) 0 0 0) 1 11 (s 2 9)) 2 9 = s 2 9 + 1 := by rw [k2, ad_n]
  have e10 : kpS (aup (adS s 8 (-1) 0 0 0) 1 11 (s 2 9)) 2 10 = s 2 10 := by rw [k2, ad_2 _ _ _ _ _ _ (by decide)]
  have ef : kpS (aup (adS s 8 (-1) 0 0 0) 1 11 (s 2 9)) 23 (kpS (aup (adS s 8 (-1) 0 0 0) 1 11 (s 2 9)) 21 2) = s 23 (s 21 2) := by rw [k23, k21, ad_21, if_neg (by decide), if_neg (by decide), ad_23, if_neg (by omega)]
  have hFF : mF (aup m 86 0 0) (aup (aup q 86 28 (s 2 9)) 86 29 1) := by
    have f1 : mF (aup m 86 0 0) u := ⟨fun k _ _ => hv k (by omega) (by omega), fun k _ => hv k (by omega) (by omega), fun i _ => by rw [hv 86 (by decide) (by decide)]⟩
    have f2 : mF (adM s u 8 (-1) 0 0 0) q := ⟨fun k _ _ => q1 k (by omega) (by omega) (by omega), fun k _ => q1 k (by omega) (by omega) (by omega), fun i _ => by rw [q1 86 (by decide) (by decide) (by decide)]⟩
    exact mF_tr f1 (mF_tr (mF_ad s u 8 (-1) 0 0 0) (mF_tr f2 (mF_tr (mF_86 (by decide) (by decide) (by decide)) (mF_86 (by decide) (by decide) (by decide)))))
  have hnl : lnk s 8 (-1) = [] := by unfold lnk; rw [if_neg (by decide), if_neg (by decide)]
  refine m_flushAll (s := kpS (aup (adS s 8 (-1) 0 0 0) 1 11 (s 2 9))) hw (by rw [ef, e9, e10]; omega) ?_ (fun j j0 j1 j2 => ?_) hkp (fun b1 h1 f1 => ?_)
  · rw [k21, ad_21, if_neg (by decide), if_neg (by decide), ad_21, if_pos rfl]
    unfold tlS
    split <;> omega
  · rw [e9] at j1
    rw [e10] at j2
    rw [k20, ad_20]
    split
    · rfl
    · exact (jd hJ j0 (by omega)).2 j2
  · rw [hnl] at J1 hQ
    exact m_settle hw J1 h1 (fun b2 h2 f2 => hQ b2 h2 (mF_tr hFF (mF_tr f1 f2)))

theorem pr_16 (hw : qWF g) : ∀ (σ : qS) (a1 a2 : Int32), lR σ → lPair g 20 lR mX9_read mX10_read [.inl a1, .inl a2] ["java/lang/IndexOutOfBoundsException", "java/lang/IllegalArgumentException", "java/lang/IllegalStateException"] σ := by
  rintro σ x1 x2 ⟨m, rfl, hJ, hr⟩
  obtain ⟨a, ia, rfl⟩ := z_of x1
  obtain ⟨b, ib, rfl⟩ := z_of x2
  have K := fun (Q : Int32 → qS → Prop) (T : String → qS → Prop) => k_oper (d := 12) (Q := Q) (T := T) (wd := 264) (a := a) (b := b) (c := 0) (tx := -1) hw hJ (by unfold wdR; omega) ia ib (by unfold i32; omega) (by unfold i32; omega)
  by_cases hI : bI m 264 (a) (b) (-1)
  · refine pair_of (o := .inr 0) (a' := m) (k_thr rfl fun Q T hT => wX9_read hw (K Q T (fun _ => hT) (fun h => (h hI).elim) (fun h => (h hI).elim) (fun h => (h hI).elim))) (mw_264i (d := 10) hw hJ ia ib hI) hr hJ (fun _ _ => rfl) (es_n3 (by decide) (by decide) (by decide))
  by_cases hA : bA 264 (a) (b) (0)
  · refine pair_of (o := .inr 1) (a' := m) (k_thr rfl fun Q T hT => wX9_read hw (K Q T (fun h => (hI h).elim) (fun _ _ => hT) (fun _ h => (h hA).elim) (fun _ h => (h hA).elim))) (mw_264a (d := 10) hw hJ ib hI hA) hr hJ (fun _ _ => rfl) (es_n3 (by decide) (by decide) (by decide))
  by_cases hS : bS m 264 (a) (-1)
  · refine pair_of (o := .inr 2) (a' := m) (k_thr rfl fun Q T hT => wX9_read hw (K Q T (fun h => (hI h).elim) (fun _ h => (hA h).elim) (fun _ _ _ => hT) (fun _ _ h => (h hS).elim))) (mw_264s (d := 10) hw hJ hI hA hS) hr hJ (fun _ _ => rfl) (es_n3 (by decide) (by decide) (by decide))
  · have J := (p_all (c := 0) (b := b) hw hJ (wd := 264) (by unfold wdR; omega) hI hA hS).1
    exact pair_of (o := .inl (opA m 264 (a) (b) (0) (-1))) (a' := stS (opS m 264 (a) (b) (0) (-1))) (k_ret fun Q T hQ => wX9_read hw (K Q T (fun h => (hI h).elim) (fun _ h => (hA h).elim) (fun _ _ h => (hS h).elim) (fun _ _ _ => hQ))) (mw_264r (d := 10) hw hJ hI hA hS) hr (j_stS J) (fun k hk => sto m _ _ _ _ _ (Or.inr (by omega))) (es_n3 (by decide) (by decide) (by decide))
theorem pr_19 (hw : qWF g) : ∀ (σ : qS), lR σ → lPair g 20 lR mX9_checkpoint mX10_checkpoint [] ["java/lang/IllegalStateException"] σ := by
  rintro σ ⟨m, rfl, hJ, hr⟩
  have K := fun (Q : Int32 → qS → Prop) (T : String → qS → Prop) => k_oper (d := 12) (Q := Q) (T := T) (wd := 266) (a := 0) (b := 0) (c := 0) (tx := -1) hw hJ (by unfold wdR; omega) (by unfold i32; omega) (by unfold i32; omega) (by unfold i32; omega) (by unfold i32; omega)
  by_cases hI : bI m 266 (0) (0) (-1)
  · exact absurd hI (by unfold bI; omega)
  by_cases hA : bA 266 (0) (0) (0)
  · exact absurd hA (by unfold bA; omega)
  by_cases hS : bS m 266 (0) (-1)
  · refine pair_of (o := .inr 0) (a' := m) (k_thr rfl fun Q T hT => wX9_checkpoint hw (K Q T (fun h => (hI h).elim) (fun _ h => (hA h).elim) (fun _ _ _ => hT) (fun _ _ h => (h hS).elim))) (mw_266s (d := 10) hw hJ hS) hr hJ (fun _ _ => rfl) (es_n1 _)
  · have J := (p_all (c := 0) (b := 0) hw hJ (wd := 266) (by unfold wdR; omega) hI hA hS).1
    exact pair_of (o := .inl (opA m 266 (0) (0) (0) (-1))) (a' := stS (opS m 266 (0) (0) (0) (-1))) (k_ret fun Q T hQ => wX9_checkpoint hw (K Q T (fun h => (hI h).elim) (fun _ h => (hA h).elim) (fun _ _ h => (hS h).elim) (fun _ _ _ => hQ))) (mw_266r (d := 10) hw hJ hS) hr (j_stS J) (fun k hk => sto m _ _ _ _ _ (Or.inr (by omega))) (es_n1 _)
end PW
