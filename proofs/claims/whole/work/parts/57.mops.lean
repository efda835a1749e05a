/-! ===== the reference's operations: transactions and changes ===== -/
section MO2
variable {g : qG} {s : aS} {d : Nat} {a b c tx : Int}
theorem m_beginTx_l (hw : qWF g) {m : aS} {Q : Int32 → qS → Prop} {T : String → qS → Prop} (hJ : jJ s) (hr : rL s m) (hr0 : rL s (aup m 86 0 0)) (h1 : bS s 256 a tx → Q (iI 0) (qi (aup m 86 0 1))) (h0 : ¬ bS s 256 a tx → ∀ b', rL (stS (opS s 256 a b c tx)) b' → mF (aup m 86 0 0) b' → Q (iI (frT s)) (qi b')) : ∀ t : Int, 0 ≤ t → t ≤ 4 → fI (fun t => decide (s 55 t = -1)) t 4 = frT s → tx = -1 → qV g mX10_beginTx (d + 8) 0 2 [some (.inr 86), some (.inl (iI t))] [] (qi m) Q T := by
  have B := jb hJ
  have F := frT_b s
  refine stepUp 4 (fun t ih t0 t1 hf htx => wX10_beginTx_2 hw ?_)
  have e15 : m 86 15 = s 2 9 := rs_15 hr
  by_cases h : t < 4
  · have J := jt hJ t0 h
    have e99 := rt_99 hr t0 h
    rw [fI_f h] at hf
    by_cases hb : s 55 t = -1
    · rw [if_pos (decide_eq_true hb)] at hf
      by_cases hfull : s 2 9 < 400
      · have hS : ¬ bS s 256 a tx := by unfold bS; omega
        have e15' : aup m 86 0 0 86 15 = s 2 9 := rs_15 hr0
        have J1 := (p_256 (b := b) (c := c) hw hJ hS).1
        have h0' := h0 hS
        rw [op_256, ← hf] at h0' J1
        simp (disch := omega) only [z_app, z_rd, z_cl, z_add, z_sub, z_mul, z_neg, z_lit, z_leT, z_leF, z_ltT, z_ltF, z_eqT, z_eqF, i_leT, i_leF, i_ltT, i_ltF, i_eqT, i_eqF, z_le, z_lt, z_eq, z_ite, z_at, z_pt, z_up, z_wr, z_wi1, z_wi0, z_wi, z_inS, z_toInt, z_nb0, z_nb1, Int.cast_ofNat_Int, true_and, and_true, not_true_eq_false, not_false_eq_true, false_imp_iff, true_imp_iff, aup_o, aup_k, ite_true, ite_false, z_fa000, z_fa001, z_fa010, z_fa011, z_fa100, z_fa101, z_fa110, z_fa111, if_true, if_false, e99, e15]
        obtain ⟨r1, r2, r3, r4, r5, r6, r7, r8, r9⟩ := id hr0
        have y3 : aup (aup m 86 0 0) 99 t (s 2 9) 86 3 = s 21 4 := by rw [aup_o (by decide)]; exact r1.1
        have y15 : aup (aup m 86 0 0) 99 t (s 2 9) 86 15 = s 2 9 := by rw [aup_o (by decide)]; exact r1.2.2.2.1
        have y19 : aup (aup m 86 0 0) 99 t (s 2 9) 86 19 = s 21 3 - s 21 2 + 1 := by rw [aup_o (by decide)]; exact r1.2.2.2.2.2.1
        have yG : rG s (aup (aup m 86 0 0) 99 t (s 2 9)) := rG_b (a := aup m 86 0 0) (aup_o (by decide)) (aup_o (by decide)) r3
        have yR : rR s (aup (aup m 86 0 0) 99 t (s 2 9)) := rR_b (a := aup m 86 0 0) (fun c c0 c1 => aup_o (by omega)) r2
        refine m_record0 (s := s) (k := 0) (ow := s 2 9) (x := t) (y := 0) (w := 0) hw hJ y3 y15 y19 yG yR hfull (by omega) (by omega) (by omega) (Or.inl (by omega)) ?_
        rw [am_99]
        have hrl := rL_ad (x := t) (y := 0) (w := 0) (ow' := s 2 9) (ow := -1) (k := 0) (j_hy hJ) hr0 (by rw [if_pos rfl])
        have hb1 : rL (bgS s t) (aup (adM s (aup m 86 0 0) 0 (s 2 9) t 0 0) 99 t (s 2 9)) := rL_tx hrl
        have hl : lnk s 0 (-1) = [] := by unfold lnk; rw [if_neg (by decide), if_neg (by decide)]
        have hfin := rL_ef hJ hfull (okR_0 hJ t0 h) bs_bg hb1
        have hF : mF (aup m 86 0 0) (efM (s 2 9) (lnk s 0 (-1)) (awl (bgS s t) 59 0 (lnk s 0 (-1))) (aup (adM s (aup m 86 0 0) 0 (s 2 9) t 0 0) 99 t (s 2 9))) := mF_tr (mF_ad s _ _ _ _ _ _) (mF_tr (mF_up (by decide) (by decide)) (efM_F _ _ _ _))
        rw [hl] at hfin hF J1 h0'
        exact m_settle hw J1 hfin (fun b2 h2 f2 => h0' b2 h2 (mF_tr hF f2))
      · have hS : bS s 256 a tx := ⟨by decide, Or.inl (by omega)⟩
        simp (disch := omega) only [z_app, z_rd, z_cl, z_add, z_sub, z_mul, z_neg, z_lit, z_leT, z_leF, z_ltT, z_ltF, z_eqT, z_eqF, i_leT, i_leF, i_ltT, i_ltF, i_eqT, i_eqF, z_le, z_lt, z_eq, z_ite, z_at, z_pt, z_up, z_wr, z_wi1, z_wi0, z_wi, z_inS, z_toInt, z_nb0, z_nb1, Int.cast_ofNat_Int, true_and, and_true, not_true_eq_false, not_false_eq_true, false_imp_iff, true_imp_iff, aup_o, aup_k, ite_true, ite_false, z_fa000, z_fa001, z_fa010, z_fa011, z_fa100, z_fa101, z_fa110, z_fa111, if_true, if_false, e99, e15]
        exact h1 hS
    · rw [if_neg (by simpa using hb)] at hf
      simp (disch := omega) only [z_app, z_rd, z_cl, z_add, z_sub, z_mul, z_neg, z_lit, z_leT, z_leF, z_ltT, z_ltF, z_eqT, z_eqF, i_leT, i_leF, i_ltT, i_ltF, i_eqT, i_eqF, z_le, z_lt, z_eq, z_ite, z_at, z_pt, z_up, z_wr, z_wi1, z_wi0, z_wi, z_inS, z_toInt, z_nb0, z_nb1, Int.cast_ofNat_Int, true_and, and_true, not_true_eq_false, not_false_eq_true, false_imp_iff, true_imp_iff, aup_o, aup_k, ite_true, ite_false, z_fa000, z_fa001, z_fa010, z_fa011, z_fa100, z_fa101, z_fa110, z_fa111, if_true, if_false, e99]
      exact ih h (by omega) (by omega) hf htx
  · rw [fI_e (by omega)] at hf
    have hS : bS s 256 a tx := ⟨by decide, Or.inr (Or.inr (Or.inl ⟨rfl, by omega⟩))⟩
    simp (disch := omega) only [z_app, z_rd, z_cl, z_add, z_sub, z_mul, z_neg, z_lit, z_leT, z_leF, z_ltT, z_ltF, z_eqT, z_eqF, i_leT, i_leF, i_ltT, i_ltF, i_eqT, i_eqF, z_le, z_lt, z_eq, z_ite, z_at, z_pt, z_up, z_wr, z_wi1, z_wi0, z_wi, z_inS, z_toInt, z_nb0, z_nb1, Int.cast_ofNat_Int, true_and, and_true, not_true_eq_false, not_false_eq_true, false_imp_iff, true_imp_iff, aup_o, aup_k, ite_true, ite_false, z_fa000, z_fa001, z_fa010, z_fa011, z_fa100, z_fa101, z_fa110, z_fa111, if_true, if_false]
    exact h1 hS
theorem mw_256t (hw : qWF g) (hJ : jJ s) (hS : bS s 256 a (-1)) : mO g (d + 9) mX10_begin [] s s (.inr 0) := by
  refine m_thr fun m Q hr hQ => wX10_begin hw (wX10_beginTx hw ⟨rfl, m_beginTx_l (a := a) (b := 0) (c := 0) (tx := -1) hw hJ hr.1 (rJ_t hr 0).1 (fun _ => ?_) (fun h => (h hS).elim) 0 (by omega) (by omega) rfl rfl⟩)
  exact hQ 0
theorem mw_256r (hw : qWF g) (hJ : jJ s) (hS : ¬ bS s 256 a (-1)) : mO g (d + 9) mX10_begin [] s (stS (opS s 256 a b c (-1))) (.inl (opA s 256 a b c (-1))) := by
  refine m_op_ret (fun x hx => sto s _ _ _ _ _ hx) fun m Q hr0 hQ hr => wX10_begin hw (wX10_beginTx hw ⟨rfl, m_beginTx_l (a := a) (b := b) (c := c) (tx := -1) hw hJ hr hr0 (fun h => (hS h).elim) (fun _ => hQ) 0 (by omega) (by omega) rfl rfl⟩)
/-- the commit's loop over the records of its transaction -/
theorem m_isOfW (hw : qWF g) {u m : aS} {Q : Int32 → qS → Prop} {T : String → qS → Prop} (hR : rR u m) {k e : Int} (k0 : 0 ≤ k) (k1 : k < u 2 9) (n1 : u 2 9 ≤ 400) (t0 : 0 ≤ u 4 k) (t1 : u 4 k ≤ 8) (o0 : -1 ≤ u 6 k) (o1 : u 6 k ≤ 400) (b0 : -1 ≤ e) (b1 : e ≤ 400) (h1 : u 6 k = e ∧ 3 ≤ u 4 k ∧ u 4 k ≤ 6 → Q (iI 1) (qi m)) (h0 : ¬ (u 6 k = e ∧ 3 ≤ u 4 k ∧ u 4 k ≤ 6) → Q (iI 0) (qi m)) : qC g (d + 1) mX10_isOf [.inr 86, .inl (iI k), .inl (iI e)] (qi m) Q T := by
  obtain ⟨r88, r89, -⟩ := hR k k0 k1
  refine wX10_isOf hw ?_
  by_cases h : u 6 k = e
  · by_cases h2 : 3 ≤ u 4 k
    · by_cases h3 : u 4 k ≤ 6
      · simp (disch := omega) only [z_app, z_rd, z_cl, z_add, z_sub, z_mul, z_neg, z_lit, z_leT, z_leF, z_ltT, z_ltF, z_eqT, z_eqF, i_leT, i_leF, i_ltT, i_ltF, i_eqT, i_eqF, z_le, z_lt, z_eq, z_ite, z_at, z_pt, z_up, z_wr, z_wi1, z_wi0, z_wi, z_inS, z_toInt, z_nb0, z_nb1, Int.cast_ofNat_Int, true_and, and_true, not_true_eq_false, not_false_eq_true, false_imp_iff, true_imp_iff, aup_o, aup_k, ite_true, ite_false, z_fa000, z_fa001, z_fa010, z_fa011, z_fa100, z_fa101, z_fa110, z_fa111, if_true, if_false, r88, r89]
        exact ⟨Or.inr trivial, h1 ⟨h, h2, h3⟩⟩
      · simp (disch := omega) only [z_app, z_rd, z_cl, z_add, z_sub, z_mul, z_neg, z_lit, z_leT, z_leF, z_ltT, z_ltF, z_eqT, z_eqF, i_leT, i_leF, i_ltT, i_ltF, i_eqT, i_eqF, z_le, z_lt, z_eq, z_ite, z_at, z_pt, z_up, z_wr, z_wi1, z_wi0, z_wi, z_inS, z_toInt, z_nb0, z_nb1, Int.cast_ofNat_Int, true_and, and_true, not_true_eq_false, not_false_eq_true, false_imp_iff, true_imp_iff, aup_o, aup_k, ite_true, ite_false, z_fa000, z_fa001, z_fa010, z_fa011, z_fa100, z_fa101, z_fa110, z_fa111, if_true, if_false, r88, r89]
        exact ⟨Or.inl trivial, h0 (fun x => h3 x.2.2)⟩
    · simp (disch := omega) only [z_app, z_rd, z_cl, z_add, z_sub, z_mul, z_neg, z_lit, z_leT, z_leF, z_ltT, z_ltF, z_eqT, z_eqF, i_leT, i_leF, i_ltT, i_ltF, i_eqT, i_eqF, z_le, z_lt, z_eq, z_ite, z_at, z_pt, z_up, z_wr, z_wi1, z_wi0, z_wi, z_inS, z_toInt, z_nb0, z_nb1, Int.cast_ofNat_Int, true_and, and_true, not_true_eq_false, not_false_eq_true, false_imp_iff, true_imp_iff, aup_o, aup_k, ite_true, ite_false, z_fa000, z_fa001, z_fa010, z_fa011, z_fa100, z_fa101, z_fa110, z_fa111, if_true, if_false, r88, r89]
      exact ⟨Or.inl trivial, h0 (fun x => h2 x.2.1)⟩
  · simp (disch := omega) only [z_app, z_rd, z_cl, z_add, z_sub, z_mul, z_neg, z_lit, z_leT, z_leF, z_ltT, z_ltF, z_eqT, z_eqF, i_leT, i_leF, i_ltT, i_ltF, i_eqT, i_eqF, z_le, z_lt, z_eq, z_ite, z_at, z_pt, z_up, z_wr, z_wi1, z_wi0, z_wi, z_inS, z_toInt, z_nb0, z_nb1, Int.cast_ofNat_Int, true_and, and_true, not_true_eq_false, not_false_eq_true, false_imp_iff, true_imp_iff, aup_o, aup_k, ite_true, ite_false, z_fa000, z_fa001, z_fa010, z_fa011, z_fa100, z_fa101, z_fa110, z_fa111, if_true, if_false, r88, r89]
    exact ⟨Or.inl trivial, h0 (fun x => h x.1)⟩
theorem efS_snoc (e : Int) (u : aS) (l : List Int) (k : Int) : efS u e (l ++ [k]) = e1S (efS u e l) e k := by
  unfold efS
  rw [List.foldl_append]
  rfl
theorem m_endTx_l (hw : qWF g) {m2 : aS} {Q : Int32 → qS → Prop} {T : String → qS → Prop} (hJ : jJ s) (n1 : s 2 9 < 400) (t0 : 0 ≤ a) (t1 : a < 4) (hf : s 55 a ≠ -1) {l3 : Int32} {r : Int} (J1 : jJ (fiS (clS s a 1) (s 2 9) (lnk s 1 (s 55 a)))) (hrl : rL (adS s 1 (s 55 a) a 0 0) m2) (hQ : ∀ b', rL (stS (fiS (clS s a 1) (s 2 9) (lnk s 1 (s 55 a)))) b' → mF m2 b' → Q (iI r) (qi b')) : ∀ (k : Int) (m : aS), s 55 a ≤ k → k ≤ s 2 9 → mF m2 m → (∀ c : Nat, c ≠ 94 ∧ c ≠ 100 ∧ c ≠ 101 → m c = m2 c) → rR (efS (awl (clS s a 1) 59 0 (lnk s 1 (s 55 a))) (s 2 9) (lI (fun j => decide (s 6 j = s 55 a)) (s 55 a + 1) k)) m → rV (efS (awl (clS s a 1) 59 0 (lnk s 1 (s 55 a))) (s 2 9) (lI (fun j => decide (s 6 j = s 55 a)) (s 55 a + 1) k)) m → gV (efS (awl (clS s a 1) 59 0 (lnk s 1 (s 55 a))) (s 2 9) (lI (fun j => decide (s 6 j = s 55 a)) (s 55 a + 1) k)) (s 2 9 + 1) (s 2 9) (lI (fun j => decide (s 6 j = s 55 a)) (mx k (s 55 a + 1)) (s 2 9)) → qV g mX10_endTx (d + 8) 0 81 [some (.inr 86), some (.inl (iI a)), some (.inl (iI 1)), some (.inl l3), some (.inl (iI (s 55 a))), some (.inl (iI r)), some (.inl (iI (s 2 9))), some (.inl (iI k))] [] (qi m) Q T := by
  have B := jb hJ
  have q := j_lt hJ t0 t1 hf
  have hu : ∀ (l : List Int) (x : Nat), x ≠ 18 ∧ x ≠ 28 ∧ x ≠ 30 ∧ x ≠ 41 ∧ x ≠ 43 → x ≠ 59 → x ≠ 55 → efS (awl (clS s a 1) 59 0 (lnk s 1 (s 55 a))) (s 2 9) l x = adS s 1 (s 55 a) a 0 0 x := by
    intro l x h1 h2 h3
    rw [ef_o _ h1, awl_o h2]
    unfold clS
    rw [aup_o h3]
  refine stepUp (s 2 9) (fun k ih m k0 k1 hF ho hR hV hG => wX10_endTx_81 hw ?_)
  have u2 := congrFun (hu (lI (fun j => decide (s 6 j = s 55 a)) (s 55 a + 1) k) 2 (by decide) (by decide) (by decide)) 9
  have u4 := congrFun (hu (lI (fun j => decide (s 6 j = s 55 a)) (s 55 a + 1) k) 4 (by decide) (by decide) (by decide)) k
  have u6 := congrFun (hu (lI (fun j => decide (s 6 j = s 55 a)) (s 55 a + 1) k) 6 (by decide) (by decide) (by decide)) k
  rw [ad_n] at u2
  by_cases h : k < s 2 9
  · rw [ad_4, if_neg (by omega)] at u4
    rw [ad_6, if_neg (by omega)] at u6
    have R1 := (hJ.2.1 k (by omega) h).1.1
    have O1 := (hJ.2.1 k (by omega) h).2.1
    have O2 := (hJ.2.1 k (by omega) h).2.2.2.1
    have O3 := (hJ.2.1 k (by omega) h).2.2.1
    have OT := okR_t hJ t0 t1 hf q.2.1
    simp (disch := omega) only [z_app, z_rd, z_cl, z_add, z_sub, z_mul, z_neg, z_lit, z_leT, z_leF, z_ltT, z_ltF, z_eqT, z_eqF, i_leT, i_leF, i_ltT, i_ltF, i_eqT, i_eqF, z_le, z_lt, z_eq, z_ite, z_at, z_pt, z_up, z_wr, z_wi1, z_wi0, z_wi, z_inS, z_toInt, z_nb0, z_nb1, Int.cast_ofNat_Int, true_and, and_true, not_true_eq_false, not_false_eq_true, false_imp_iff, true_imp_iff, aup_o, aup_k, ite_true, ite_false, z_fa000, z_fa001, z_fa010, z_fa011, z_fa100, z_fa101, z_fa110, z_fa111, if_true, if_false]
    refine m_isOfW hw hR (by omega) (by rw [u2]; omega) (by rw [u2]; omega) (by rw [u4]; omega) (by rw [u4]; omega) (by rw [u6]; omega) (by rw [u6]; omega) (by omega) (by omega) (fun hh => ?_) (fun hh => ?_)
    · rw [u4, u6] at hh
      have hkb : s 55 a < k := by
        by_cases e : k = s 55 a
        · have := O2 (by omega); omega
        · omega
      have el : lI (fun j => decide (s 6 j = s 55 a)) (s 55 a + 1) (k + 1) = lI (fun j => decide (s 6 j = s 55 a)) (s 55 a + 1) k ++ [k] := by
        rw [lI_l (by omega), if_pos (decide_eq_true hh.1)]
      have mxk : mx k (s 55 a + 1) = k := by unfold mx; rw [if_pos (by omega)]
      have mxk1 : mx (k + 1) (s 55 a + 1) = k + 1 := by unfold mx; rw [if_pos (by omega)]
      have er : lI (fun j => decide (s 6 j = s 55 a)) k (s 2 9) = k :: lI (fun j => decide (s 6 j = s 55 a)) (k + 1) (s 2 9) := by
        rw [lI_f _ h, if_pos (decide_eq_true hh.1)]
        rfl
      rw [mxk, er] at hG
      have g8 := gV_8 hG
      have hj := (hG.2.2.1 k List.mem_cons_self).2
      simp (disch := omega) only [z_app, z_rd, z_cl, z_add, z_sub, z_mul, z_neg, z_lit, z_leT, z_leF, z_ltT, z_ltF, z_eqT, z_eqF, i_leT, i_leF, i_ltT, i_ltF, i_eqT, i_eqF, z_le, z_lt, z_eq, z_ite, z_at, z_pt, z_up, z_wr, z_wi1, z_wi0, z_wi, z_inS, z_toInt, z_nb0, z_nb1, Int.cast_ofNat_Int, true_and, and_true, not_true_eq_false, not_false_eq_true, false_imp_iff, true_imp_iff, aup_o, aup_k, ite_true, ite_false, z_fa000, z_fa001, z_fa010, z_fa011, z_fa100, z_fa101, z_fa110, z_fa111, if_true, if_false]
      refine m_makeEffective hw hR hV (by omega) (by rw [u2]; omega) (by rw [u2]; omega) hj (fun h6 => ⟨(g8.1 h6).2.2.1, (g8.1 h6).2.2.2⟩) ?_
      refine ih h _ (by omega) (by omega) (mF_tr hF (mF_e1 _ _ _ _)) (fun c hc => by rw [e1M_o _ _ _ _ hc, ho c hc]) ?_ ?_ ?_
      · rw [el, efS_snoc]; exact rR_e1 hR
      · rw [el, efS_snoc]; exact rV_e1 hV g8.1 g8.2
      · rw [el, efS_snoc, mxk1]; exact gV_step (by omega) hG
    · rw [u4, u6] at hh
      have el : lI (fun j => decide (s 6 j = s 55 a)) (s 55 a + 1) (k + 1) = lI (fun j => decide (s 6 j = s 55 a)) (s 55 a + 1) k := by
        by_cases e : k = s 55 a
        · rw [lI_e (by omega), lI_e (by omega)]
        · rw [lI_l (by omega), if_neg, List.append_nil]
          intro hd
          have h6 := of_decide_eq_true hd
          have := OT k (by omega) h h6
          exact hh ⟨h6, this.1, this.2.1⟩
      have er : lI (fun j => decide (s 6 j = s 55 a)) (mx (k + 1) (s 55 a + 1)) (s 2 9) = lI (fun j => decide (s 6 j = s 55 a)) (mx k (s 55 a + 1)) (s 2 9) := by
        by_cases e : k = s 55 a
        · have e1 : mx (k + 1) (s 55 a + 1) = mx k (s 55 a + 1) := by unfold mx; split <;> split <;> omega
          rw [e1]
        · have mxk : mx k (s 55 a + 1) = k := by unfold mx; rw [if_pos (by omega)]
          have mxk1 : mx (k + 1) (s 55 a + 1) = k + 1 := by unfold mx; rw [if_pos (by omega)]
          rw [mxk, mxk1, lI_f _ h, if_neg, List.nil_append]
          intro hd
          have h6 := of_decide_eq_true hd
          have := OT k (by omega) h h6
          exact hh ⟨h6, this.1, this.2.1⟩
      simp (disch := omega) only [z_app, z_rd, z_cl, z_add, z_sub, z_mul, z_neg, z_lit, z_leT, z_leF, z_ltT, z_ltF, z_eqT, z_eqF, i_leT, i_leF, i_ltT, i_ltF, i_eqT, i_eqF, z_le, z_lt, z_eq, z_ite, z_at, z_pt, z_up, z_wr, z_wi1, z_wi0, z_wi, z_inS, z_toInt, z_nb0, z_nb1, Int.cast_ofNat_Int, true_and, and_true, not_true_eq_false, not_false_eq_true, false_imp_iff, true_imp_iff, aup_o, aup_k, ite_true, ite_false, z_fa000, z_fa001, z_fa010, z_fa011, z_fa100, z_fa101, z_fa110, z_fa111, if_true, if_false]
      refine ih h m (by omega) (by omega) hF ho ?_ ?_ ?_
      · rw [el]; exact hR
      · rw [el]; exact hV
      · rw [el, er]; exact hG
  · have ek : k = s 2 9 := by omega
    subst ek
    have hl : lnk s 1 (s 55 a) = lI (fun j => decide (s 6 j = s 55 a)) (s 55 a + 1) (s 2 9) := if_pos rfl
    simp (disch := omega) only [z_app, z_rd, z_cl, z_add, z_sub, z_mul, z_neg, z_lit, z_leT, z_leF, z_ltT, z_ltF, z_eqT, z_eqF, i_leT, i_leF, i_ltT, i_ltF, i_eqT, i_eqF, z_le, z_lt, z_eq, z_ite, z_at, z_pt, z_up, z_wr, z_wi1, z_wi0, z_wi, z_inS, z_toInt, z_nb0, z_nb1, Int.cast_ofNat_Int, true_and, and_true, not_true_eq_false, not_false_eq_true, false_imp_iff, true_imp_iff, aup_o, aup_k, ite_true, ite_false, z_fa000, z_fa001, z_fa010, z_fa011, z_fa100, z_fa101, z_fa110, z_fa111, if_true, if_false]
    rw [← hl] at hR hV
    obtain ⟨x1, x2, x3, x4, x5, x6, x7, x8, x9⟩ := hrl
    have hfin : rL (fiS (clS s a 1) (s 2 9) (lnk s 1 (s 55 a))) (aup m 99 a (-1)) := by
      refine rL_fi ?_ (rR_b (fun c c0 c1 => aup_o (by omega)) hR) ?_ ?_ (rV_b (aup_o (by decide)) (aup_o (by decide)) hV) ?_ ?_ ?_ ?_
      · unfold rS at x1 ⊢
        rw [aup_o (by decide), ho 86 (by decide)]
        exact x1
      · exact rG_b (a := m2) (by rw [aup_o (by decide), ho 97 (by decide)]) (by rw [aup_o (by decide), ho 98 (by decide)]) x3
      · intro u u0 u1
        unfold clS
        rw [aup_k, aup_k, ho 99 (by decide)]
        split
        · rfl
        · exact x4 u u0 u1
      · exact rC_b (a := m2) (by rw [aup_o (by decide), ho 102 (by decide)]) (by rw [aup_o (by decide), ho 103 (by decide)]) x6
      · exact rP_b (a := m2) (by rw [aup_o (by decide), ho 104 (by decide)]) x7
      · exact rK_b (a := m2) (by rw [aup_o (by decide), ho 86 (by decide)]) (by rw [aup_o (by decide), ho 105 (by decide)]) (by rw [aup_o (by decide), ho 106 (by decide)]) (by rw [aup_o (by decide), ho 107 (by decide)]) x8
      · exact rM_b (a := m2) (by rw [aup_o (by decide), ho 108 (by decide)]) x9
    exact m_settle hw J1 hfin (fun b2 h2 f2 => hQ b2 h2 (mF_tr hF (mF_tr (mF_up (by decide) (by decide)) f2)))
end MO2
