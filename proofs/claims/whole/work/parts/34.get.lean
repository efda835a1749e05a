/-! ===== the plain getters ===== -/
theorem k_ret {g : qG} {D : Nat} {M : qMd} {as : List qP} {es : List String} {a a' : aS} {r : Int} (h : ∀ (Q : Int32 → qS → Prop) (T : String → qS → Prop), Q (iI r) (qi a') → qC g D M (.inr 0 :: as) (qi a) Q T) : kO g D M as es a a' (.inl r) := fun Q T h1 _ => h Q T (h1 r rfl)
theorem k_thr {g : qG} {D : Nat} {M : qMd} {as : List qP} {es : List String} {a a' : aS} {j : Nat} {E : String} (he : es[j]? = some E) (h : ∀ (Q : Int32 → qS → Prop) (T : String → qS → Prop), T E (qi a') → qC g D M (.inr 0 :: as) (qi a) Q T) : kO g D M as es a a' (.inr j) := fun Q T _ h2 => h Q T (h2 j E rfl he)
theorem rJ_t {s a : aS} (h : rJ s a) (v : Int) : rJ s (aup a 86 0 v) := rJ_fr h (fun k h1 h2 => aup_o (by omega)) (fun i hi => by rw [aup_k, if_neg hi])
theorem m_ret {g : qG} {D : Nat} {M : qMd} {as : List qP} {s : aS} {r : Int} (h : ∀ (a : aS) (Q : Int32 → qS → Prop), rJ s a → Q (iI r) (qi (aup a 86 0 0)) → qC g D M (.inr 86 :: as) (qi a) Q (fun _ _ => False)) : mO g D M as s s (.inl r) := by
  intro a Q hr hQ
  refine h a Q hr (hQ _ _ (rJ_t hr 0) (fun k hk => aup_o (by omega)) (fun v hv => ⟨aup_s _ _ _ _, by cases hv; rfl⟩) (fun j hj => by cases hj))
theorem m_thr {g : qG} {D : Nat} {M : qMd} {as : List qP} {s : aS} {j : Nat} (h : ∀ (a : aS) (Q : Int32 → qS → Prop), rJ s a → (∀ r, Q (iI r) (qi (aup a 86 0 (j + 1)))) → qC g D M (.inr 86 :: as) (qi a) Q (fun _ _ => False)) : mO g D M as s s (.inr j) := by
  intro a Q hr hQ
  refine h a Q hr (fun r => hQ _ _ (rJ_t hr _) (fun k hk => aup_o (by omega)) (fun v hv => by cases hv) (fun i hi => by cases hi; exact aup_s _ _ _ _))
section Get
variable {g : qG}
theorem k_rI1 (hw : qWF g) {d : Nat} {σ : qS} {Q : Int32 → qS → Prop} {T : String → qS → Prop} (h : Q 0 σ) : qC g (d + 1) mX9_requireIndex [.inl (iI 1)] σ Q T := wX9_requireIndex hw ⟨fun _ => h, fun hn => absurd (show ¬ iI 1 = 0 by decide +kernel) hn⟩
theorem k_rI0 (hw : qWF g) {d : Nat} {σ : qS} {Q : Int32 → qS → Prop} {T : String → qS → Prop} (h : T "java/lang/IndexOutOfBoundsException" σ) : qC g (d + 1) mX9_requireIndex [.inl (iI 0)] σ Q T := wX9_requireIndex hw ⟨fun hn => absurd (show iI 0 = 0 by decide +kernel) hn, fun _ => ⟨by decide, by decide, h⟩⟩
theorem k_rA1 (hw : qWF g) {d : Nat} {σ : qS} {Q : Int32 → qS → Prop} {T : String → qS → Prop} (h : Q 0 σ) : qC g (d + 1) mX9_requireArgument [.inl (iI 1)] σ Q T := wX9_requireArgument hw ⟨fun _ => h, fun hn => absurd (show ¬ iI 1 = 0 by decide +kernel) hn⟩
theorem k_rA0 (hw : qWF g) {d : Nat} {σ : qS} {Q : Int32 → qS → Prop} {T : String → qS → Prop} (h : T "java/lang/IllegalArgumentException" σ) : qC g (d + 1) mX9_requireArgument [.inl (iI 0)] σ Q T := wX9_requireArgument hw ⟨fun hn => absurd (show iI 0 = 0 by decide +kernel) hn, fun _ => ⟨by decide, by decide, h⟩⟩
theorem pr_3 (hw : qWF g) : ∀ σ, lR σ → lPlain g 20 lR mX9_errorCode mX10_errorCode σ := by
  rintro σ ⟨a, rfl, hJ, hr⟩
  refine plain_of (a' := a) (r := a 63 10) (k_ret fun Q T hQ => wX9_errorCode hw hQ) (m_ret fun b Q hb hQ => wX10_errorCode hw ?_) hr hJ (fun _ _ => rfl)
  rw [← hb.2.2.2.1] at hQ
  simp +contextual (disch := omega) only [z_app, z_rd, z_cl, z_add, z_sub, z_mul, z_neg, z_lit, z_leT, z_leF, z_ltT, z_ltF, z_eqT, z_eqF, i_leT, i_leF, i_ltT, i_ltF, i_eqT, i_eqF, z_le, z_lt, z_eq, z_ite, z_at, z_pt, z_up, z_wr, z_wi1, z_wi0, z_wi, z_inS, z_toInt, z_nb0, z_nb1, Int.cast_ofNat_Int, true_and, and_true, not_true_eq_false, not_false_eq_true, false_imp_iff, true_imp_iff, aup_o, aup_k, ite_true, ite_false, z_fa000, z_fa001, z_fa010, z_fa011, z_fa100, z_fa101, z_fa110, z_fa111, if_true, if_false]
  exact hQ
theorem pr_4 (hw : qWF g) : ∀ σ, lR σ → lPlain g 20 lR mX9_errorPosition mX10_errorPosition σ := by
  rintro σ ⟨a, rfl, hJ, hr⟩
  refine plain_of (a' := a) (r := a 63 11) (k_ret fun Q T hQ => wX9_errorPosition hw hQ) (m_ret fun b Q hb hQ => wX10_errorPosition hw ?_) hr hJ (fun _ _ => rfl)
  rw [← hb.2.2.2.2.1] at hQ
  simp +contextual (disch := omega) only [z_app, z_rd, z_cl, z_add, z_sub, z_mul, z_neg, z_lit, z_leT, z_leF, z_ltT, z_ltF, z_eqT, z_eqF, i_leT, i_leF, i_ltT, i_ltF, i_eqT, i_eqF, z_le, z_lt, z_eq, z_ite, z_at, z_pt, z_up, z_wr, z_wi1, z_wi0, z_wi, z_inS, z_toInt, z_nb0, z_nb1, Int.cast_ofNat_Int, true_and, and_true, not_true_eq_false, not_false_eq_true, false_imp_iff, true_imp_iff, aup_o, aup_k, ite_true, ite_false, z_fa000, z_fa001, z_fa010, z_fa011, z_fa100, z_fa101, z_fa110, z_fa111, if_true, if_false]
  exact hQ
theorem pr_5 (hw : qWF g) : ∀ σ, lR σ → lPlain g 20 lR mX9_failure mX10_failure σ := by
  rintro σ ⟨a, rfl, hJ, hr⟩
  refine plain_of (a' := a) (r := a 62 2) (k_ret fun Q T hQ => wX9_failure hw hQ) (m_ret fun b Q hb hQ => wX10_failure hw ?_) hr hJ (fun _ _ => rfl)
  rw [← hb.2.2.2.2.2.1] at hQ
  simp +contextual (disch := omega) only [z_app, z_rd, z_cl, z_add, z_sub, z_mul, z_neg, z_lit, z_leT, z_leF, z_ltT, z_ltF, z_eqT, z_eqF, i_leT, i_leF, i_ltT, i_ltF, i_eqT, i_eqF, z_le, z_lt, z_eq, z_ite, z_at, z_pt, z_up, z_wr, z_wi1, z_wi0, z_wi, z_inS, z_toInt, z_nb0, z_nb1, Int.cast_ofNat_Int, true_and, and_true, not_true_eq_false, not_false_eq_true, false_imp_iff, true_imp_iff, aup_o, aup_k, ite_true, ite_false, z_fa000, z_fa001, z_fa010, z_fa011, z_fa100, z_fa101, z_fa110, z_fa111, if_true, if_false]
  exact hQ
theorem pr_6 (hw : qWF g) : ∀ σ, lR σ → lPlain g 20 lR mX9_failurePosition mX10_failurePosition σ := by
  rintro σ ⟨a, rfl, hJ, hr⟩
  refine plain_of (a' := a) (r := a 62 3) (k_ret fun Q T hQ => wX9_failurePosition hw hQ) (m_ret fun b Q hb hQ => wX10_failurePosition hw ?_) hr hJ (fun _ _ => rfl)
  rw [← hb.2.2.2.2.2.2] at hQ
  simp +contextual (disch := omega) only [z_app, z_rd, z_cl, z_add, z_sub, z_mul, z_neg, z_lit, z_leT, z_leF, z_ltT, z_ltF, z_eqT, z_eqF, i_leT, i_leF, i_ltT, i_ltF, i_eqT, i_eqF, z_le, z_lt, z_eq, z_ite, z_at, z_pt, z_up, z_wr, z_wi1, z_wi0, z_wi, z_inS, z_toInt, z_nb0, z_nb1, Int.cast_ofNat_Int, true_and, and_true, not_true_eq_false, not_false_eq_true, false_imp_iff, true_imp_iff, aup_o, aup_k, ite_true, ite_false, z_fa000, z_fa001, z_fa010, z_fa011, z_fa100, z_fa101, z_fa110, z_fa111, if_true, if_false]
  exact hQ
theorem pr_24 (hw : qWF g) : ∀ σ, lR σ → lPlain g 20 lR mX9_segments mX10_segments σ := by
  rintro σ ⟨a, rfl, hJ, hr⟩
  refine plain_of (a' := a) (r := a 21 3 - a 21 2 + 1) (k_ret fun Q T hQ => wX9_segments hw ?_) (m_ret fun b Q hb hQ => wX10_segments hw ?_) hr hJ (fun _ _ => rfl)
  · simp +contextual (disch := omega) only [z_app, z_rd, z_cl, z_add, z_sub, z_mul, z_neg, z_lit, z_leT, z_leF, z_ltT, z_ltF, z_eqT, z_eqF, i_leT, i_leF, i_ltT, i_ltF, i_eqT, i_eqF, z_le, z_lt, z_eq, z_ite, z_at, z_pt, z_up, z_wr, z_wi1, z_wi0, z_wi, z_inS, z_toInt, z_nb0, z_nb1, Int.cast_ofNat_Int, true_and, and_true, not_true_eq_false, not_false_eq_true, false_imp_iff, true_imp_iff, aup_o, aup_k, ite_true, ite_false, z_fa000, z_fa001, z_fa010, z_fa011, z_fa100, z_fa101, z_fa110, z_fa111, if_true, if_false]
    exact hQ
  · rw [← rs_19 hb.1] at hQ
    simp +contextual (disch := omega) only [z_app, z_rd, z_cl, z_add, z_sub, z_mul, z_neg, z_lit, z_leT, z_leF, z_ltT, z_ltF, z_eqT, z_eqF, i_leT, i_leF, i_ltT, i_ltF, i_eqT, i_eqF, z_le, z_lt, z_eq, z_ite, z_at, z_pt, z_up, z_wr, z_wi1, z_wi0, z_wi, z_inS, z_toInt, z_nb0, z_nb1, Int.cast_ofNat_Int, true_and, and_true, not_true_eq_false, not_false_eq_true, false_imp_iff, true_imp_iff, aup_o, aup_k, ite_true, ite_false, z_fa000, z_fa001, z_fa010, z_fa011, z_fa100, z_fa101, z_fa110, z_fa111, if_true, if_false]
    exact hQ
theorem pr_17 (hw : qWF g) : ∀ (σ : qS) (a1 a2 : Int32), lR σ → lPair g 20 lR mX9_message mX10_message [.inl a1, .inl a2] ["java/lang/IndexOutOfBoundsException", "java/lang/IllegalArgumentException"] σ := by
  rintro σ x1 x2 ⟨a, rfl, hJ, hr⟩
  obtain ⟨i, ⟨i1, i2⟩, rfl⟩ := z_of x1
  obtain ⟨w, ⟨w1, w2⟩, rfl⟩ := z_of x2
  have B := jb hJ
  by_cases hi : 0 ≤ i ∧ i < a 1 10
  · obtain ⟨hi1, hi2⟩ := hi
    by_cases hv : 0 ≤ w ∧ w ≤ 2
    · obtain ⟨hv1, hv2⟩ := hv
      have K := hJ.2.2.2.2.2.2.2.2.2.1 i hi1 hi2
      refine pair_of (o := .inl (if w = 0 then a 61 i else if w = 1 then a 10 (a 61 i) else a 12 (a 61 i))) (a' := a) (k_ret fun Q T hQ => wX9_message hw ?_) (m_ret fun b Q hb hQ => wX10_message hw ?_) hr hJ (fun _ _ => rfl) (es_n2 (by decide))
      · simp +contextual (disch := omega) only [z_app, z_rd, z_cl, z_add, z_sub, z_mul, z_neg, z_lit, z_leT, z_leF, z_ltT, z_ltF, z_eqT, z_eqF, i_leT, i_leF, i_ltT, i_ltF, i_eqT, i_eqF, z_le, z_lt, z_eq, z_ite, z_at, z_pt, z_up, z_wr, z_wi1, z_wi0, z_wi, z_inS, z_toInt, z_nb0, z_nb1, Int.cast_ofNat_Int, true_and, and_true, not_true_eq_false, not_false_eq_true, false_imp_iff, true_imp_iff, aup_o, aup_k, ite_true, ite_false, z_fa000, z_fa001, z_fa010, z_fa011, z_fa100, z_fa101, z_fa110, z_fa111, if_true, if_false]
        refine k_rI1 hw ?_
        refine k_rA1 hw ?_
        refine wX2_takenValue hw ?_
        simp +contextual (disch := omega) only [z_app, z_rd, z_cl, z_add, z_sub, z_mul, z_neg, z_lit, z_leT, z_leF, z_ltT, z_ltF, z_eqT, z_eqF, i_leT, i_leF, i_ltT, i_ltF, i_eqT, i_eqF, z_le, z_lt, z_eq, z_ite, z_at, z_pt, z_up, z_wr, z_wi1, z_wi0, z_wi, z_inS, z_toInt, z_nb0, z_nb1, Int.cast_ofNat_Int, true_and, and_true, not_true_eq_false, not_false_eq_true, false_imp_iff, true_imp_iff, aup_o, aup_k, ite_true, ite_false, z_fa000, z_fa001, z_fa010, z_fa011, z_fa100, z_fa101, z_fa110, z_fa111, if_true, if_false]
        refine ⟨fun h0 => ⟨fun h1 => ?_, fun h1 => ?_⟩, fun h0 => ?_⟩
        · rw [if_neg h0, if_neg h1] at hQ; exact hQ
        · rw [if_neg h0, if_pos (by omega)] at hQ; exact hQ
        · rw [if_pos (by omega)] at hQ; exact hQ
      · have e := rs_34 hb.1
        obtain ⟨M1, M2, M3⟩ := hb.1.2.2.2.2.2.2.2.2 i hi1 hi2
        have hc : w = 0 ∨ w = 1 ∨ w = 2 := by omega
        rcases hc with rfl | rfl | rfl
        · simp +contextual (disch := omega) only [z_app, z_rd, z_cl, z_add, z_sub, z_mul, z_neg, z_lit, z_leT, z_leF, z_ltT, z_ltF, z_eqT, z_eqF, i_leT, i_leF, i_ltT, i_ltF, i_eqT, i_eqF, z_le, z_lt, z_eq, z_ite, z_at, z_pt, z_up, z_wr, z_wi1, z_wi0, z_wi, z_inS, z_toInt, z_nb0, z_nb1, Int.cast_ofNat_Int, true_and, and_true, not_true_eq_false, not_false_eq_true, false_imp_iff, true_imp_iff, aup_o, aup_k, ite_true, ite_false, z_fa000, z_fa001, z_fa010, z_fa011, z_fa100, z_fa101, z_fa110, z_fa111, if_true, if_false, e, Int.add_zero, M1]
          exact hQ
        · simp +contextual (disch := omega) only [z_app, z_rd, z_cl, z_add, z_sub, z_mul, z_neg, z_lit, z_leT, z_leF, z_ltT, z_ltF, z_eqT, z_eqF, i_leT, i_leF, i_ltT, i_ltF, i_eqT, i_eqF, z_le, z_lt, z_eq, z_ite, z_at, z_pt, z_up, z_wr, z_wi1, z_wi0, z_wi, z_inS, z_toInt, z_nb0, z_nb1, Int.cast_ofNat_Int, true_and, and_true, not_true_eq_false, not_false_eq_true, false_imp_iff, true_imp_iff, aup_o, aup_k, ite_true, ite_false, z_fa000, z_fa001, z_fa010, z_fa011, z_fa100, z_fa101, z_fa110, z_fa111, if_true, if_false, e, M2]
          exact hQ
        · simp +contextual (disch := omega) only [z_app, z_rd, z_cl, z_add, z_sub, z_mul, z_neg, z_lit, z_leT, z_leF, z_ltT, z_ltF, z_eqT, z_eqF, i_leT, i_leF, i_ltT, i_ltF, i_eqT, i_eqF, z_le, z_lt, z_eq, z_ite, z_at, z_pt, z_up, z_wr, z_wi1, z_wi0, z_wi, z_inS, z_toInt, z_nb0, z_nb1, Int.cast_ofNat_Int, true_and, and_true, not_true_eq_false, not_false_eq_true, false_imp_iff, true_imp_iff, aup_o, aup_k, ite_true, ite_false, z_fa000, z_fa001, z_fa010, z_fa011, z_fa100, z_fa101, z_fa110, z_fa111, if_true, if_false, e, M3]
          exact hQ
    · refine pair_of (o := .inr 1) (a' := a) (k_thr rfl fun Q T hT => wX9_message hw ?_) (m_thr fun b Q hb hQ => wX10_message hw ?_) hr hJ (fun _ _ => rfl) (es_n2 (by decide))
      · simp +contextual (disch := omega) only [z_app, z_rd, z_cl, z_add, z_sub, z_mul, z_neg, z_lit, z_leT, z_leF, z_ltT, z_ltF, z_eqT, z_eqF, i_leT, i_leF, i_ltT, i_ltF, i_eqT, i_eqF, z_le, z_lt, z_eq, z_ite, z_at, z_pt, z_up, z_wr, z_wi1, z_wi0, z_wi, z_inS, z_toInt, z_nb0, z_nb1, Int.cast_ofNat_Int, true_and, and_true, not_true_eq_false, not_false_eq_true, false_imp_iff, true_imp_iff, aup_o, aup_k, ite_true, ite_false, z_fa000, z_fa001, z_fa010, z_fa011, z_fa100, z_fa101, z_fa110, z_fa111, if_true, if_false]
        refine k_rI1 hw ?_
        refine k_rA0 hw ?_
        exact hT
      · have e := rs_34 hb.1
        simp +contextual (disch := omega) only [z_app, z_rd, z_cl, z_add, z_sub, z_mul, z_neg, z_lit, z_leT, z_leF, z_ltT, z_ltF, z_eqT, z_eqF, i_leT, i_leF, i_ltT, i_ltF, i_eqT, i_eqF, z_le, z_lt, z_eq, z_ite, z_at, z_pt, z_up, z_wr, z_wi1, z_wi0, z_wi, z_inS, z_toInt, z_nb0, z_nb1, Int.cast_ofNat_Int, true_and, and_true, not_true_eq_false, not_false_eq_true, false_imp_iff, true_imp_iff, aup_o, aup_k, ite_true, ite_false, z_fa000, z_fa001, z_fa010, z_fa011, z_fa100, z_fa101, z_fa110, z_fa111, if_true, if_false, e]
        exact hQ 0
  · refine pair_of (o := .inr 0) (a' := a) (k_thr rfl fun Q T hT => wX9_message hw ?_) (m_thr fun b Q hb hQ => wX10_message hw ?_) hr hJ (fun _ _ => rfl) (es_n2 (by decide))
    · by_cases h0 : 0 ≤ i
      · simp +contextual (disch := omega) only [z_app, z_rd, z_cl, z_add, z_sub, z_mul, z_neg, z_lit, z_leT, z_leF, z_ltT, z_ltF, z_eqT, z_eqF, i_leT, i_leF, i_ltT, i_ltF, i_eqT, i_eqF, z_le, z_lt, z_eq, z_ite, z_at, z_pt, z_up, z_wr, z_wi1, z_wi0, z_wi, z_inS, z_toInt, z_nb0, z_nb1, Int.cast_ofNat_Int, true_and, and_true, not_true_eq_false, not_false_eq_true, false_imp_iff, true_imp_iff, aup_o, aup_k, ite_true, ite_false, z_fa000, z_fa001, z_fa010, z_fa011, z_fa100, z_fa101, z_fa110, z_fa111, if_true, if_false]
        exact k_rI0 hw hT
      · simp +contextual (disch := omega) only [z_app, z_rd, z_cl, z_add, z_sub, z_mul, z_neg, z_lit, z_leT, z_leF, z_ltT, z_ltF, z_eqT, z_eqF, i_leT, i_leF, i_ltT, i_ltF, i_eqT, i_eqF, z_le, z_lt, z_eq, z_ite, z_at, z_pt, z_up, z_wr, z_wi1, z_wi0, z_wi, z_inS, z_toInt, z_nb0, z_nb1, Int.cast_ofNat_Int, true_and, and_true, not_true_eq_false, not_false_eq_true, false_imp_iff, true_imp_iff, aup_o, aup_k, ite_true, ite_false, z_fa000, z_fa001, z_fa010, z_fa011, z_fa100, z_fa101, z_fa110, z_fa111, if_true, if_false]
        exact k_rI0 hw hT
    · have e := rs_34 hb.1
      by_cases hv : 0 ≤ w ∧ w ≤ 2
      · simp +contextual (disch := omega) only [z_app, z_rd, z_cl, z_add, z_sub, z_mul, z_neg, z_lit, z_leT, z_leF, z_ltT, z_ltF, z_eqT, z_eqF, i_leT, i_leF, i_ltT, i_ltF, i_eqT, i_eqF, z_le, z_lt, z_eq, z_ite, z_at, z_pt, z_up, z_wr, z_wi1, z_wi0, z_wi, z_inS, z_toInt, z_nb0, z_nb1, Int.cast_ofNat_Int, true_and, and_true, not_true_eq_false, not_false_eq_true, false_imp_iff, true_imp_iff, aup_o, aup_k, ite_true, ite_false, z_fa000, z_fa001, z_fa010, z_fa011, z_fa100, z_fa101, z_fa110, z_fa111, if_true, if_false, e]
        exact hQ 0
      · simp +contextual (disch := omega) only [z_app, z_rd, z_cl, z_add, z_sub, z_mul, z_neg, z_lit, z_leT, z_leF, z_ltT, z_ltF, z_eqT, z_eqF, i_leT, i_leF, i_ltT, i_ltF, i_eqT, i_eqF, z_le, z_lt, z_eq, z_ite, z_at, z_pt, z_up, z_wr, z_wi1, z_wi0, z_wi, z_inS, z_toInt, z_nb0, z_nb1, Int.cast_ofNat_Int, true_and, and_true, not_true_eq_false, not_false_eq_true, false_imp_iff, true_imp_iff, aup_o, aup_k, ite_true, ite_false, z_fa000, z_fa001, z_fa010, z_fa011, z_fa100, z_fa101, z_fa110, z_fa111, if_true, if_false, e]
        exact hQ 0
end Get
