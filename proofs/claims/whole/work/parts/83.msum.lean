/-! ===== the reference's parser: sums, signs, blocks ===== -/
theorem psl_s (C V : Int → Int) (f : Nat) (sg j : Int) : psl C V (f + 1) sg j = match patom C j with | .inr _ => [] | .inl x => atm C V sg j :: (if C x = 43 ∨ C x = 45 then psl C V f (if C x = 43 then 1 else -1) (x + 1) else []) := rfl
section MS
variable {g : qG} {d : Nat} {Q : Int32 → qS → Prop} {T : String → qS → Prop} {m w : aS} {b : Int → Int} {n c j : Int} {e : Int → Int}
theorem m_sum_l (hw : qWF g) (hs : kSW g) (hF : tkF w b n c e) (hB : tB (w 80) (w 84) c) : ∀ (f : Nat) (m : aS) (x : Int) (o1 : Option qP), 1800 ≤ x + 1 + 2 * f → scT m b n → scA m w e c x → 0 ≤ x → x ≤ c → m 86 45 = 0 → 0 ≤ m 86 55 → 2 * m 86 55 ≤ w 82 x →
    (∀ v y, (if w 80 x = 43 ∨ w 80 x = 45 then psum (w 80) f (x + 1) else .inl x) = .inl y → mSm m v → scA v w e c y → v 86 55 = m 86 55 + ((if w 80 x = 43 ∨ w 80 x = 45 then psl (w 80) (w 84) f (if w 80 x = 43 then 1 else -1) (x + 1) else []).length : Nat) → aL v (m 86 55) (if w 80 x = 43 ∨ w 80 x = 45 then psl (w 80) (w 84) f (if w 80 x = 43 then 1 else -1) (x + 1) else []) → 2 * v 86 55 ≤ w 82 y → Q (iI 0) (qi v)) →
    (∀ v y, (if w 80 x = 43 ∨ w 80 x = 45 then psum (w 80) f (x + 1) else .inl x) = .inr y → mBd w m v 1 y → Q (iI 0) (qi v)) → qV g mX10_parseSum (d + 7) 0 5 [some (.inr 86), o1] [] (qi m) Q T := by
  have c9 := hB.1
  intro f
  induction f with
  | zero => intro m x o1 h18 ht h x0 x1; omega
  | succ f ih =>
    intro m x o1 h18 ht h x0 x1 h45 a0 a1 h1 h0
    have t43 := tt_3 h (x := 43) (by decide) (by decide)
    have t45 := tt_3 h (x := 45) (by decide) (by decide)
    have B := (hB.2 x x0 x1).1
    refine wX10_parseSum_5 hw ?_
    by_cases hc : w 80 x = 43 ∨ w 80 x = 45
    · simp only [if_pos hc] at h1 h0
      have xc := tB_lt hB x0 x1 (by omega)
      have mo := st_mono hF x0 xc
      have step : ∀ (sg : Int), sg = (if w 80 x = 43 then 1 else -1) → ∀ (Q' : Int32 → qS → Prop), (∀ v, qC g (d + 6) mX10_parseAtom [.inr 86, .inl (iI sg)] (qi v) (fun _ s4 => qV g mX10_parseSum (d + 7) 0 5 [some (.inr 86), some (.inl (iI sg))] [] s4 Q T) T → Q' (iI 0) (qi v)) → qC g (d + 6) mX10_scan [.inr 86] (qi m) Q' T := by
        intro sg hsg Q' hQ'
        rw [← hsg] at h1
        refine m_next (d := d + 2) hw hs hF ht h x0 xc (fun v f1 f2 => hQ' v ?_)
        have v45 : v 86 45 = 0 := by rw [f1.2 45 (by omega)]; exact h45
        have v55 : v 86 55 = m 86 55 := f1.2 55 (by omega)
        refine m_atom hw hs hF hB (scT_F ht f1) f2 (by omega) (by omega) v45 (by omega) (by omega) (fun v2 y hy p1 p2 p3 p4 => ?_) (fun v2 y hy p1 => ?_)
        · have yb := (patom_b hB (j := x + 1) (by omega) (by omega)).1 y hy
          have v245 : v2 86 45 = 0 := by rw [p1.2.1 45 (by omega) (by decide)]; exact v45
          have mo2 : w 82 (x + 1) + 1 ≤ w 82 y := by
            have key : ∀ y : Int, x + 1 < y → y ≤ c → w 82 (x + 1) + 1 ≤ w 82 y := by
              refine stepDown (x + 2) (fun y ih2 y0 y1 => ?_)
              by_cases hy2 : y = x + 2
              · have := (st_mono hF (j := x + 1) (by omega) (by omega)).2.1
                rw [hy2, show x + 2 = x + 1 + 1 by omega]; exact this
              · have i1 := ih2 (by omega) (by omega) (by omega)
                have i2 := (st_mono hF (j := y - 1) (by omega) (by omega)).2.1
                rw [show y - 1 + 1 = y by omega] at i2
                omega
            exact key y yb.1 yb.2
          have ps : psum (w 80) (f + 1) (x + 1) = if w 80 y = 43 ∨ w 80 y = 45 then psum (w 80) f (y + 1) else .inl y := by rw [psum_s f (x + 1), hy]
          have pl : psl (w 80) (w 84) (f + 1) sg (x + 1) = atm (w 80) (w 84) sg (x + 1) :: (if w 80 y = 43 ∨ w 80 y = 45 then psl (w 80) (w 84) f (if w 80 y = 43 then 1 else -1) (y + 1) else []) := by rw [psl_s, hy]
          rw [ps] at h1 h0
          rw [pl] at h1
          refine ih v2 y _ (by omega) (scT_P (scT_F ht f1) (mPF_sm p1)) p2 (by omega) yb.2 v245 (by omega) (by omega) (fun v3 z q1 q2 q3 q4 q5 q6 => h1 v3 z q1 (mSm_tr (mSm_sc f1) (mSm_tr p1 q2)) q3 (by rw [q4, p3, v55, List.length_cons]; omega) ⟨?_, ?_⟩ q6) (fun v3 z q1 q2 => h0 v3 z q1 (mBd_tr (mPF_tr (mPF_sc f1) (mPF_sm p1)) q2))
          · obtain ⟨e1, e2, e3⟩ := q2.2.2.1 (m 86 55) (by omega)
            rw [v55] at p4
            unfold aR at p4 ⊢
            rw [e1, e2, e3]
            exact p4
          · rw [p3, v55] at q5
            exact q5
        · have ps : psum (w 80) (f + 1) (x + 1) = .inr y := by rw [psum_s f (x + 1), hy]
          have q := h0 v2 y ps (mBd_tr (mPF_sc f1) p1)
          have e45 := p1.2.1
          refine wX10_parseSum_5 hw ?_
          clear h1 h0 ih B hc
          simp (disch := omega) only [z_app, z_rd, z_cl, z_add, z_sub, z_mul, z_neg, z_lit, z_leT, z_leF, z_ltT, z_ltF, z_eqT, z_eqF, i_leT, i_leF, i_ltT, i_ltF, i_eqT, i_eqF, z_le, z_lt, z_eq, z_ite, z_at, z_pt, z_up, z_wr, z_wi1, z_wi0, z_wi, z_inS, z_toInt, z_nb0, z_nb1, Int.cast_ofNat_Int, true_and, and_true, not_true_eq_false, not_false_eq_true, false_imp_iff, true_imp_iff, aup_o, aup_k, ite_true, ite_false, z_fa000, z_fa001, z_fa010, z_fa011, z_fa100, z_fa101, z_fa110, z_fa111, if_true, if_false, e45]
          exact q
      by_cases c1 : w 80 x = 43
      · have st := step 1 (by rw [if_pos c1])
        clear h1 h0 ih hc step
        simp (disch := omega) only [z_app, z_rd, z_cl, z_add, z_sub, z_mul, z_neg, z_lit, z_leT, z_leF, z_ltT, z_ltF, z_eqT, z_eqF, i_leT, i_leF, i_ltT, i_ltF, i_eqT, i_eqF, z_le, z_lt, z_eq, z_ite, z_at, z_pt, z_up, z_wr, z_wi1, z_wi0, z_wi, z_inS, z_toInt, z_nb0, z_nb1, Int.cast_ofNat_Int, true_and, and_true, not_true_eq_false, not_false_eq_true, false_imp_iff, true_imp_iff, aup_o, aup_k, ite_true, ite_false, z_fa000, z_fa001, z_fa010, z_fa011, z_fa100, z_fa101, z_fa110, z_fa111, if_true, if_false, h45, t43, t45]
        refine st _ (fun v hv => ?_)
        exact hv
      · have c2 : w 80 x = 45 := by omega
        have st := step (-1) (by rw [if_neg c1])
        clear h1 h0 ih hc step
        simp (disch := omega) only [z_app, z_rd, z_cl, z_add, z_sub, z_mul, z_neg, z_lit, z_leT, z_leF, z_ltT, z_ltF, z_eqT, z_eqF, i_leT, i_leF, i_ltT, i_ltF, i_eqT, i_eqF, z_le, z_lt, z_eq, z_ite, z_at, z_pt, z_up, z_wr, z_wi1, z_wi0, z_wi, z_inS, z_toInt, z_nb0, z_nb1, Int.cast_ofNat_Int, true_and, and_true, not_true_eq_false, not_false_eq_true, false_imp_iff, true_imp_iff, aup_o, aup_k, ite_true, ite_false, z_fa000, z_fa001, z_fa010, z_fa011, z_fa100, z_fa101, z_fa110, z_fa111, if_true, if_false, h45, t43, t45]
        refine st _ (fun v hv => ?_)
        exact hv
    · simp only [if_neg hc] at h1
      have q := h1 m x rfl (mSm_rf m) h (by show m 86 55 = m 86 55 + ((0 : Nat) : Int); omega) trivial a1
      have c1 : w 80 x ≠ 43 := fun hh => hc (Or.inl hh)
      have c2 : w 80 x ≠ 45 := fun hh => hc (Or.inr hh)
      clear h1 h0 ih hc
      simp (disch := omega) only [z_app, z_rd, z_cl, z_add, z_sub, z_mul, z_neg, z_lit, z_leT, z_leF, z_ltT, z_ltF, z_eqT, z_eqF, i_leT, i_leF, i_ltT, i_ltF, i_eqT, i_eqF, z_le, z_lt, z_eq, z_ite, z_at, z_pt, z_up, z_wr, z_wi1, z_wi0, z_wi, z_inS, z_toInt, z_nb0, z_nb1, Int.cast_ofNat_Int, true_and, and_true, not_true_eq_false, not_false_eq_true, false_imp_iff, true_imp_iff, aup_o, aup_k, ite_true, ite_false, z_fa000, z_fa001, z_fa010, z_fa011, z_fa100, z_fa101, z_fa110, z_fa111, if_true, if_false, h45, t43, t45]
      exact q
theorem st_up {w : aS} (hF : tkF w b n c e) {x : Int} (x0 : 0 ≤ x) : ∀ y : Int, x < y → y ≤ c → w 82 x + 1 ≤ w 82 y := by
  refine stepDown (x + 1) (fun y ih2 y0 y1 => ?_)
  by_cases hy2 : y = x + 1
  · have := (st_mono hF (j := x) (by omega) (by omega)).2.1
    rw [hy2]; exact this
  · have i1 := ih2 (by omega) (by omega) (by omega)
    have i2 := (st_mono hF (j := y - 1) (by omega) (by omega)).2.1
    rw [show y - 1 + 1 = y by omega] at i2
    omega
theorem m_sum (hw : qWF g) (hs : kSW g) (hF : tkF w b n c e) (hB : tB (w 80) (w 84) c) (ht : scT m b n) (h : scA m w e c j) (j0 : 0 ≤ j) (j1 : j ≤ c) (h45 : m 86 45 = 0) (a0 : 0 ≤ m 86 55) (a1 : 2 * m 86 55 + 1 ≤ w 82 j) (h1 : ∀ v x, psum (w 80) 900 j = .inl x → mSm m v → scA v w e c x → v 86 55 = m 86 55 + ((psl (w 80) (w 84) 900 1 j).length : Nat) → aL v (m 86 55) (psl (w 80) (w 84) 900 1 j) → 2 * v 86 55 ≤ w 82 x → Q (iI 0) (qi v)) (h0 : ∀ v x, psum (w 80) 900 j = .inr x → mBd w m v 1 x → Q (iI 0) (qi v)) : qC g (d + 7) mX10_parseSum [.inr 86] (qi m) Q T := by
  refine wX10_parseSum hw ?_
  simp (disch := omega) only [z_app, z_rd, z_cl, z_add, z_sub, z_mul, z_neg, z_lit, z_leT, z_leF, z_ltT, z_ltF, z_eqT, z_eqF, i_leT, i_leF, i_ltT, i_ltF, i_eqT, i_eqF, z_le, z_lt, z_eq, z_ite, z_at, z_pt, z_up, z_wr, z_wi1, z_wi0, z_wi, z_inS, z_toInt, z_nb0, z_nb1, Int.cast_ofNat_Int, true_and, and_true, not_true_eq_false, not_false_eq_true, false_imp_iff, true_imp_iff, aup_o, aup_k, ite_true, ite_false, z_fa000, z_fa001, z_fa010, z_fa011, z_fa100, z_fa101, z_fa110, z_fa111, if_true, if_false]
  refine m_atom hw hs hF hB ht h j0 j1 h45 a0 a1 (fun v x hx p1 p2 p3 p4 => ?_) (fun v x hx p1 => ?_)
  · have xb := (patom_b hB j0 j1).1 x hx
    have mo := st_up hF j0 x xb.1 xb.2
    have ps : psum (w 80) 900 j = if w 80 x = 43 ∨ w 80 x = 45 then psum (w 80) 899 (x + 1) else .inl x := by
      show psum (w 80) (899 + 1) j = _
      rw [psum_s 899 j, hx]
    have pl : psl (w 80) (w 84) 900 1 j = atm (w 80) (w 84) 1 j :: (if w 80 x = 43 ∨ w 80 x = 45 then psl (w 80) (w 84) 899 (if w 80 x = 43 then 1 else -1) (x + 1) else []) := by
      show psl (w 80) (w 84) (899 + 1) 1 j = _
      rw [psl_s, hx]
    rw [ps] at h1 h0
    rw [pl] at h1
    refine m_sum_l hw hs hF hB 899 v x _ (by omega) (scT_P ht (mPF_sm p1)) p2 (by omega) xb.2 (by rw [p1.2.1 45 (by omega) (by decide)]; exact h45) (by omega) (by omega) (fun v3 z q1 q2 q3 q4 q5 q6 => h1 v3 z q1 (mSm_tr p1 q2) q3 (by rw [q4, p3, List.length_cons]; omega) ⟨?_, ?_⟩ q6) (fun v3 z q1 q2 => h0 v3 z q1 (mBd_tr (mPF_sm p1) q2))
    · obtain ⟨e1, e2, e3⟩ := q2.2.2.1 (m 86 55) (by omega)
      unfold aR at p4 ⊢
      rw [e1, e2, e3]
      exact p4
    · rw [p3] at q5
      exact q5
  · have ps : psum (w 80) 900 j = .inr x := by
      show psum (w 80) (899 + 1) j = _
      rw [psum_s 899 j, hx]
    have q := h0 v x ps p1
    have e45 := p1.2.1
    refine wX10_parseSum_5 hw ?_
    clear h1 h0
    simp (disch := omega) only [z_app, z_rd, z_cl, z_add, z_sub, z_mul, z_neg, z_lit, z_leT, z_leF, z_ltT, z_ltF, z_eqT, z_eqF, i_leT, i_leF, i_ltT, i_ltF, i_eqT, i_eqF, z_le, z_lt, z_eq, z_ite, z_at, z_pt, z_up, z_wr, z_wi1, z_wi0, z_wi, z_inS, z_toInt, z_nb0, z_nb1, Int.cast_ofNat_Int, true_and, and_true, not_true_eq_false, not_false_eq_true, false_imp_iff, true_imp_iff, aup_o, aup_k, ite_true, ite_false, z_fa000, z_fa001, z_fa010, z_fa011, z_fa100, z_fa101, z_fa110, z_fa111, if_true, if_false, e45]
    exact q
theorem m_sumB (hw : qWF g) {f : Int} (h45 : m 86 45 = f) (f1 : 1 ≤ f) (f3 : f ≤ 3) (hQ : Q (iI 0) (qi m)) : qC g (d + 2) mX10_parseSum [.inr 86] (qi m) Q T := by
  refine wX10_parseSum hw ?_
  simp (disch := omega) only [z_app, z_rd, z_cl, z_add, z_sub, z_mul, z_neg, z_lit, z_leT, z_leF, z_ltT, z_ltF, z_eqT, z_eqF, i_leT, i_leF, i_ltT, i_ltF, i_eqT, i_eqF, z_le, z_lt, z_eq, z_ite, z_at, z_pt, z_up, z_wr, z_wi1, z_wi0, z_wi, z_inS, z_toInt, z_nb0, z_nb1, Int.cast_ofNat_Int, true_and, and_true, not_true_eq_false, not_false_eq_true, false_imp_iff, true_imp_iff, aup_o, aup_k, ite_true, ite_false, z_fa000, z_fa001, z_fa010, z_fa011, z_fa100, z_fa101, z_fa110, z_fa111, if_true, if_false]
  refine m_atomB hw h45 f1 f3 ?_
  refine wX10_parseSum_5 hw ?_
  simp (disch := omega) only [z_app, z_rd, z_cl, z_add, z_sub, z_mul, z_neg, z_lit, z_leT, z_leF, z_ltT, z_ltF, z_eqT, z_eqF, i_leT, i_leF, i_ltT, i_ltF, i_eqT, i_eqF, z_le, z_lt, z_eq, z_ite, z_at, z_pt, z_up, z_wr, z_wi1, z_wi0, z_wi, z_inS, z_toInt, z_nb0, z_nb1, Int.cast_ofNat_Int, true_and, and_true, not_true_eq_false, not_false_eq_true, false_imp_iff, true_imp_iff, aup_o, aup_k, ite_true, ite_false, z_fa000, z_fa001, z_fa010, z_fa011, z_fa100, z_fa101, z_fa110, z_fa111, if_true, if_false, h45]
  exact hQ
theorem m_req1 (hw : qWF g) (hs : kSW g) (hF : tkF w b n c e) (ht : scT m b n) (h : scA m w e c j) (j0 : 0 ≤ j) (j1 : j < c) (h45 : m 86 45 = 0) {x : Int} (x0 : 0 ≤ x) (x1 : x ≤ 255) (hc : w 80 j = x) (hQ : ∀ v : aS, scF m v → scA v w e c (j + 1) → Q (iI 0) (qi v)) : qC g (d + 5) mX10_requireSign [.inr 86, .inl (iI x)] (qi m) Q T := by
  have t := tt_3 h x0 x1
  refine wX10_requireSign hw ?_
  simp (disch := omega) only [z_app, z_rd, z_cl, z_add, z_sub, z_mul, z_neg, z_lit, z_leT, z_leF, z_ltT, z_ltF, z_eqT, z_eqF, i_leT, i_leF, i_ltT, i_ltF, i_eqT, i_eqF, z_le, z_lt, z_eq, z_ite, z_at, z_pt, z_up, z_wr, z_wi1, z_wi0, z_wi, z_inS, z_toInt, z_nb0, z_nb1, Int.cast_ofNat_Int, true_and, and_true, not_true_eq_false, not_false_eq_true, false_imp_iff, true_imp_iff, aup_o, aup_k, ite_true, ite_false, z_fa000, z_fa001, z_fa010, z_fa011, z_fa100, z_fa101, z_fa110, z_fa111, if_true, if_false, h45, t]
  exact m_next hw hs hF ht h j0 j1 hQ
theorem m_req0 (hw : qWF g) (h : scA m w e c j) (h45 : m 86 45 = 0) {x : Int} (x0 : 0 ≤ x) (x1 : x ≤ 255) (hc : w 80 j ≠ x) (hQ : ∀ v : aS, mBd w m v 1 j → Q (iI 0) (qi v)) : qC g (d + 1) mX10_requireSign [.inr 86, .inl (iI x)] (qi m) Q T := by
  have q := hQ _ (mBd_fail h.1 (by decide) (by decide))
  have t := tt_3 h x0 x1
  refine wX10_requireSign hw ?_
  simp (disch := omega) only [z_app, z_rd, z_cl, z_add, z_sub, z_mul, z_neg, z_lit, z_leT, z_leF, z_ltT, z_ltF, z_eqT, z_eqF, i_leT, i_leF, i_ltT, i_ltF, i_eqT, i_eqF, z_le, z_lt, z_eq, z_ite, z_at, z_pt, z_up, z_wr, z_wi1, z_wi0, z_wi, z_inS, z_toInt, z_nb0, z_nb1, Int.cast_ofNat_Int, true_and, and_true, not_true_eq_false, not_false_eq_true, false_imp_iff, true_imp_iff, aup_o, aup_k, ite_true, ite_false, z_fa000, z_fa001, z_fa010, z_fa011, z_fa100, z_fa101, z_fa110, z_fa111, if_true, if_false, h45, t]
  exact q
theorem m_reqB (hw : qWF g) {f : Int} {x : Int32} (h45 : m 86 45 = f) (f1 : 1 ≤ f) (f3 : f ≤ 3) (hQ : Q (iI 0) (qi m)) : qC g (d + 1) mX10_requireSign [.inr 86, .inl x] (qi m) Q T := by
  refine wX10_requireSign hw ?_
  simp (disch := omega) only [z_app, z_rd, z_cl, z_add, z_sub, z_mul, z_neg, z_lit, z_leT, z_leF, z_ltT, z_ltF, z_eqT, z_eqF, i_leT, i_leF, i_ltT, i_ltF, i_eqT, i_eqF, z_le, z_lt, z_eq, z_ite, z_at, z_pt, z_up, z_wr, z_wi1, z_wi0, z_wi, z_inS, z_toInt, z_nb0, z_nb1, Int.cast_ofNat_Int, true_and, and_true, not_true_eq_false, not_false_eq_true, false_imp_iff, true_imp_iff, aup_o, aup_k, ite_true, ite_false, z_fa000, z_fa001, z_fa010, z_fa011, z_fa100, z_fa101, z_fa110, z_fa111, if_true, if_false, h45]
  exact hQ
theorem m_blk1 (hw : qWF g) (hs : kSW g) (hF : tkF w b n c e) (ht : scT m b n) (h : scA m w e c j) (j0 : 0 ≤ j) (j1 : j < c) (h45 : m 86 45 = 0) (hc : w 80 j = 40) {k L : Int} (hL : m 86 57 = L) (L0 : 0 ≤ L) (L1 : L < 4) (hQ : ∀ v : aS, scF (aup (aup m 119 L k) 86 57 (L + 1)) v → scA v w e c (j + 1) → Q (iI 0) (qi v)) : qC g (d + 5) mX10_parseBlock [.inr 86, .inl (iI k)] (qi m) Q T := by
  have t := tt_3 h (x := 40) (by decide) (by decide)
  have h2 : scA (aup (aup m 119 L k) 86 57 (L + 1)) w e c j := by
    unfold scA tR at h ⊢
    rw [aup_i (by decide), aup_i (by decide), aup_i (by decide), aup_i (by decide), aup_i (by decide), aup_i (by decide), aup_o (by decide)]
    exact h
  refine wX10_parseBlock hw ?_
  simp (disch := omega) only [z_app, z_rd, z_cl, z_add, z_sub, z_mul, z_neg, z_lit, z_leT, z_leF, z_ltT, z_ltF, z_eqT, z_eqF, i_leT, i_leF, i_ltT, i_ltF, i_eqT, i_eqF, z_le, z_lt, z_eq, z_ite, z_at, z_pt, z_up, z_wr, z_wi1, z_wi0, z_wi, z_inS, z_toInt, z_nb0, z_nb1, Int.cast_ofNat_Int, true_and, and_true, not_true_eq_false, not_false_eq_true, false_imp_iff, true_imp_iff, aup_o, aup_k, ite_true, ite_false, z_fa000, z_fa001, z_fa010, z_fa011, z_fa100, z_fa101, z_fa110, z_fa111, if_true, if_false, h45, t, hL]
  exact m_next hw hs hF (scT_P ht (mPF_tr (mPF_up (by decide) (by decide)) (mPF_86 (by decide) (by decide)))) h2 j0 j1 hQ
theorem m_blk0 (hw : qWF g) (h : scA m w e c j) (h45 : m 86 45 = 0) {k L : Int} (hL : m 86 57 = L) (L0 : 0 ≤ L) (L1 : L ≤ 4) (hc : w 80 j ≠ 40) (hQ : ∀ v : aS, mBd w m v 1 j → Q (iI 0) (qi v)) : qC g (d + 1) mX10_parseBlock [.inr 86, .inl (iI k)] (qi m) Q T := by
  have q := hQ _ (mBd_fail h.1 (by decide) (by decide))
  have t := tt_3 h (x := 40) (by decide) (by decide)
  have hc0 : qi m 86 45 = (0 : Int32) := congrArg iI h45
  have hc1 : ¬ qup (qup (qi m) 86 45 1) 86 46 (qi m 86 41) 86 45 = (0 : Int32) := by
    show ¬ (1 : Int32) = 0
    decide
  refine wX10_parseBlock hw ?_
  simp only [if_pos hc0, if_neg hc1]
  by_cases h4 : L = 4
  · simp (disch := omega) only [z_app, z_rd, z_cl, z_add, z_sub, z_mul, z_neg, z_lit, z_leT, z_leF, z_ltT, z_ltF, z_eqT, z_eqF, i_leT, i_leF, i_ltT, i_ltF, i_eqT, i_eqF, z_le, z_lt, z_eq, z_ite, z_at, z_pt, z_up, z_wr, z_wi1, z_wi0, z_wi, z_inS, z_toInt, z_nb0, z_nb1, Int.cast_ofNat_Int, true_and, and_true, not_true_eq_false, not_false_eq_true, false_imp_iff, true_imp_iff, aup_o, aup_k, ite_true, ite_false, z_fa000, z_fa001, z_fa010, z_fa011, z_fa100, z_fa101, z_fa110, z_fa111, if_true, if_false, h45, t, hL]
    exact q
  · simp (disch := omega) only [z_app, z_rd, z_cl, z_add, z_sub, z_mul, z_neg, z_lit, z_leT, z_leF, z_ltT, z_ltF, z_eqT, z_eqF, i_leT, i_leF, i_ltT, i_ltF, i_eqT, i_eqF, z_le, z_lt, z_eq, z_ite, z_at, z_pt, z_up, z_wr, z_wi1, z_wi0, z_wi, z_inS, z_toInt, z_nb0, z_nb1, Int.cast_ofNat_Int, true_and, and_true, not_true_eq_false, not_false_eq_true, false_imp_iff, true_imp_iff, aup_o, aup_k, ite_true, ite_false, z_fa000, z_fa001, z_fa010, z_fa011, z_fa100, z_fa101, z_fa110, z_fa111, if_true, if_false, h45, t, hL]
    exact q
theorem m_blk3 (hw : qWF g) (h : scA m w e c j) (h45 : m 86 45 = 0) {k : Int} (hL : m 86 57 = 4) (hc : w 80 j = 40) (hQ : ∀ v : aS, mBd w m v 3 j → Q (iI 0) (qi v)) : qC g (d + 1) mX10_parseBlock [.inr 86, .inl (iI k)] (qi m) Q T := by
  have q := hQ _ (mBd_fail h.1 (by decide) (by decide))
  have t := tt_3 h (x := 40) (by decide) (by decide)
  have hc0 : qi m 86 45 = (0 : Int32) := congrArg iI h45
  refine wX10_parseBlock hw ?_
  simp only [if_pos hc0]
  simp (disch := omega) only [z_app, z_rd, z_cl, z_add, z_sub, z_mul, z_neg, z_lit, z_leT, z_leF, z_ltT, z_ltF, z_eqT, z_eqF, i_leT, i_leF, i_ltT, i_ltF, i_eqT, i_eqF, z_le, z_lt, z_eq, z_ite, z_at, z_pt, z_up, z_wr, z_wi1, z_wi0, z_wi, z_inS, z_toInt, z_nb0, z_nb1, Int.cast_ofNat_Int, true_and, and_true, not_true_eq_false, not_false_eq_true, false_imp_iff, true_imp_iff, aup_o, aup_k, ite_true, ite_false, z_fa000, z_fa001, z_fa010, z_fa011, z_fa100, z_fa101, z_fa110, z_fa111, if_true, if_false, h45, t, hL]
  exact q
theorem m_blkB (hw : qWF g) {f : Int} {k : Int32} (h45 : m 86 45 = f) (f1 : 1 ≤ f) (f3 : f ≤ 3) (hQ : Q (iI 0) (qi m)) : qC g (d + 1) mX10_parseBlock [.inr 86, .inl k] (qi m) Q T := by
  refine wX10_parseBlock hw ?_
  simp (disch := omega) only [z_app, z_rd, z_cl, z_add, z_sub, z_mul, z_neg, z_lit, z_leT, z_leF, z_ltT, z_ltF, z_eqT, z_eqF, i_leT, i_leF, i_ltT, i_ltF, i_eqT, i_eqF, z_le, z_lt, z_eq, z_ite, z_at, z_pt, z_up, z_wr, z_wi1, z_wi0, z_wi, z_inS, z_toInt, z_nb0, z_nb1, Int.cast_ofNat_Int, true_and, and_true, not_true_eq_false, not_false_eq_true, false_imp_iff, true_imp_iff, aup_o, aup_k, ite_true, ite_false, z_fa000, z_fa001, z_fa010, z_fa011, z_fa100, z_fa101, z_fa110, z_fa111, if_true, if_false, h45]
  exact hQ
end MS
