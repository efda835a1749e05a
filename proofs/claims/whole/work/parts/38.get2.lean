/-! ===== getters that count ===== -/
def coS (s : aS) : Int := sI (fun t => if s 55 t = -1 then 0 else 1) 0 4
def fdS (s : aS) : Int := fI (fun k => decide (s 20 k = 1)) (s 2 10) (s 2 9)
def ulS (s : aS) (c : Int) : Int := sI (fun i => s 12 (s 28 (400 * s 32 c + i))) (s 34 c) (s 30 (s 32 c))
def cbS (s : aS) (t p : Int) : Int := sI (fun i => if s 18 (s 28 (400 * t + i)) < p then 1 else 0) 0 (s 30 t)
def pfF (s : aS) (c lo x : Int) : Nat → Int
  | 0 => x
  | n + 1 => if s 4 (lo + n) = 7 ∧ s 8 (lo + n) = c then s 10 (lo + n) else pfF s c lo x n
def pfS (s : aS) (c lo hi x : Int) : Int := pfF s c lo x (hi - lo).toNat
theorem pf_e {s : aS} {c lo hi x : Int} (h : hi ≤ lo) : pfS s c lo hi x = x := by
  unfold pfS
  rw [show (hi - lo).toNat = 0 by omega]
  rfl
theorem pf_l {s : aS} {c lo hi x : Int} (h : lo < hi) : pfS s c lo hi x = if s 4 (hi - 1) = 7 ∧ s 8 (hi - 1) = c then s 10 (hi - 1) else pfS s c lo (hi - 1) x := by
  unfold pfS
  rw [show (hi - lo).toNat = (hi - 1 - lo).toNat + 1 by omega]
  show (if s 4 (lo + ((hi - 1 - lo).toNat : Nat)) = 7 ∧ s 8 (lo + ((hi - 1 - lo).toNat : Nat)) = c then s 10 (lo + ((hi - 1 - lo).toNat : Nat)) else pfF s c lo x (hi - 1 - lo).toNat) = _
  rw [show lo + (((hi - 1 - lo).toNat : Nat) : Int) = hi - 1 by omega]
theorem pf_f {s : aS} {c lo x : Int} : ∀ hi : Int, lo < hi → pfS s c lo hi x = pfS s c (lo + 1) hi (if s 4 lo = 7 ∧ s 8 lo = c then s 10 lo else x) := by
  refine stepDown lo (fun hi ih h => ?_)
  by_cases h1 : lo < hi - 1
  · rw [pf_l h, pf_l (lo := lo + 1) (by omega), ih h h1]
  · have e : hi - 1 = lo := by omega
    rw [pf_l h, e, pf_e (lo := lo) (hi := lo) (by omega), pf_e (by omega)]
theorem pf_n {s : aS} {c lo hi x : Int} : ∀ mid : Int, lo ≤ mid → mid ≤ hi → (∀ k, lo ≤ k → k < mid → ¬ (s 4 k = 7 ∧ s 8 k = c)) → pfS s c lo hi x = pfS s c mid hi x := by
  refine stepDown lo (fun mid ih h0 h1 hn => ?_)
  by_cases h : lo < mid
  · rw [ih h (by omega) (by omega) (fun k a b => hn k a (by omega)), pf_f hi (by omega), if_neg (hn (mid - 1) (by omega) (by omega)), show mid - 1 + 1 = mid by omega]
  · rw [show mid = lo by omega]
theorem fI_n {p : Int → Bool} {hi : Int} {mid : Int} : ∀ lo : Int, lo ≤ mid → mid ≤ hi → (∀ k, lo ≤ k → k < mid → p k = false) → fI p lo hi = fI p mid hi := by
  refine stepUp mid (fun lo ih h0 h1 hn => ?_)
  by_cases h : lo < mid
  · rw [fI_f (by omega), hn lo (by omega) h]
    exact ih h (by omega) h1 (fun k a b => hn k (by omega) b)
  · rw [show mid = lo by omega]
theorem jd {s : aS} (h : jJ s) {k : Int} (h0 : 0 ≤ k) (h1 : k < s 2 9) : (s 20 k = 0 ∨ s 20 k = 1) ∧ (k < s 2 10 → s 20 k = 0) := h.2.2.1 k h0 h1
theorem fd_eq {s : aS} (h : jJ s) : fI (fun k => decide (s 20 k = 1)) (s 23 (s 21 2)) (s 2 9) = fdS s := by
  have B := jb h
  refine fI_n _ (by omega) (by omega) (fun k a b => ?_)
  have := (jd h (k := k) (by omega) (by omega)).2 b
  exact decide_eq_false (by omega)
section G2
variable {g : qG} {s a : aS} {d : Nat} {Q : Int32 → qS → Prop} {T : String → qS → Prop}
theorem k_countOpen_l (hw : qWF g) (hJ : jJ s) : ∀ t x : Int, 0 ≤ t → t ≤ 4 → Q (iI (x + sI (fun t => if s 55 t = -1 then 0 else 1) t 4)) (qi s) → qV g mX2_countOpen (d + 1) 0 4 [some (.inr 1), some (.inl (iI x)), some (.inl (iI t))] [] (qi s) Q T := by
  refine stepUp 4 (fun t ih x t0 t1 hQ => wX2_countOpen_4 hw ?_)
  by_cases h : t < 4
  · have J := jt hJ t0 h
    rw [sI_f _ h, ← Int.add_assoc] at hQ
    by_cases hb : s 55 t = -1
    · rw [if_pos hb] at hQ
      simp +contextual (disch := omega) only [z_app, z_rd, z_cl, z_add, z_sub, z_mul, z_neg, z_lit, z_leT, z_leF, z_ltT, z_ltF, z_eqT, z_eqF, i_leT, i_leF, i_ltT, i_ltF, i_eqT, i_eqF, z_le, z_lt, z_eq, z_ite, z_at, z_pt, z_up, z_wr, z_wi1, z_wi0, z_wi, z_inS, z_toInt, z_nb0, z_nb1, Int.cast_ofNat_Int, true_and, and_true, not_true_eq_false, not_false_eq_true, false_imp_iff, true_imp_iff, aup_o, aup_k, ite_true, ite_false, z_fa000, z_fa001, z_fa010, z_fa011, z_fa100, z_fa101, z_fa110, z_fa111, if_true, if_false]
      exact ih h _ (by omega) (by omega) hQ
    · rw [if_neg hb] at hQ
      simp +contextual (disch := omega) only [z_app, z_rd, z_cl, z_add, z_sub, z_mul, z_neg, z_lit, z_leT, z_leF, z_ltT, z_ltF, z_eqT, z_eqF, i_leT, i_leF, i_ltT, i_ltF, i_eqT, i_eqF, z_le, z_lt, z_eq, z_ite, z_at, z_pt, z_up, z_wr, z_wi1, z_wi0, z_wi, z_inS, z_toInt, z_nb0, z_nb1, Int.cast_ofNat_Int, true_and, and_true, not_true_eq_false, not_false_eq_true, false_imp_iff, true_imp_iff, aup_o, aup_k, ite_true, ite_false, z_fa000, z_fa001, z_fa010, z_fa011, z_fa100, z_fa101, z_fa110, z_fa111, if_true, if_false]
      exact ih h _ (by omega) (by omega) hQ
  · simp +contextual (disch := omega) only [z_app, z_rd, z_cl, z_add, z_sub, z_mul, z_neg, z_lit, z_leT, z_leF, z_ltT, z_ltF, z_eqT, z_eqF, i_leT, i_leF, i_ltT, i_ltF, i_eqT, i_eqF, z_le, z_lt, z_eq, z_ite, z_at, z_pt, z_up, z_wr, z_wi1, z_wi0, z_wi, z_inS, z_toInt, z_nb0, z_nb1, Int.cast_ofNat_Int, true_and, and_true, not_true_eq_false, not_false_eq_true, false_imp_iff, true_imp_iff, aup_o, aup_k, ite_true, ite_false, z_fa000, z_fa001, z_fa010, z_fa011, z_fa100, z_fa101, z_fa110, z_fa111, if_true, if_false]
    rw [sI_e (by omega), Int.add_zero] at hQ
    exact hQ
theorem k_countOpen (hw : qWF g) (hJ : jJ s) (hQ : Q (iI (coS s)) (qi s)) : qC g (d + 1) mX2_countOpen [.inr 1] (qi s) Q T :=
  wX2_countOpen hw ⟨rfl, k_countOpen_l hw hJ 0 0 (by omega) (by omega) (by rw [Int.zero_add]; exact hQ)⟩
theorem m_isOpen1 (hw : qWF g) (hJ : jJ s) (hr : rL s a) {t : Int} (t0 : 0 ≤ t) (t1 : t < 4) (h : s 55 t ≠ -1) (hQ : Q (iI 1) (qi a)) : qC g (d + 1) mX10_isOpen [.inr 86, .inl (iI t)] (qi a) Q T := by
  have J := jt hJ t0 t1
  refine wX10_isOpen hw ?_
  simp +contextual (disch := omega) only [z_app, z_rd, z_cl, z_add, z_sub, z_mul, z_neg, z_lit, z_leT, z_leF, z_ltT, z_ltF, z_eqT, z_eqF, i_leT, i_leF, i_ltT, i_ltF, i_eqT, i_eqF, z_le, z_lt, z_eq, z_ite, z_at, z_pt, z_up, z_wr, z_wi1, z_wi0, z_wi, z_inS, z_toInt, z_nb0, z_nb1, Int.cast_ofNat_Int, true_and, and_true, not_true_eq_false, not_false_eq_true, false_imp_iff, true_imp_iff, aup_o, aup_k, ite_true, ite_false, z_fa000, z_fa001, z_fa010, z_fa011, z_fa100, z_fa101, z_fa110, z_fa111, if_true, if_false, rs_3 hr, rs_4 hr, rs_5 hr, rs_15 hr, rs_16 hr, rs_19 hr, rs_20 hr, rs_27 hr, rs_28 hr, rs_34 hr, rr_88 hr, rr_89 hr, rr_90 hr, rr_91 hr, rr_92 hr, rr_93 hr, rr_94 hr, rr_95 hr, rr_96 hr, rg_97 hr, rg_98 hr, rt_99 hr, rv_100 hr, rv_101 hr, rc_102 hr, rc_103 hr, rp_104 hr]
  exact ⟨Or.inr trivial, hQ⟩
theorem m_isOpen0 (hw : qWF g) (hr : rL s a) {t : Int} (t0 : 0 ≤ t) (t1 : t < 4) (h : s 55 t = -1) (hQ : Q (iI 0) (qi a)) : qC g (d + 1) mX10_isOpen [.inr 86, .inl (iI t)] (qi a) Q T := by
  refine wX10_isOpen hw ?_
  simp +contextual (disch := omega) only [z_app, z_rd, z_cl, z_add, z_sub, z_mul, z_neg, z_lit, z_leT, z_leF, z_ltT, z_ltF, z_eqT, z_eqF, i_leT, i_leF, i_ltT, i_ltF, i_eqT, i_eqF, z_le, z_lt, z_eq, z_ite, z_at, z_pt, z_up, z_wr, z_wi1, z_wi0, z_wi, z_inS, z_toInt, z_nb0, z_nb1, Int.cast_ofNat_Int, true_and, and_true, not_true_eq_false, not_false_eq_true, false_imp_iff, true_imp_iff, aup_o, aup_k, ite_true, ite_false, z_fa000, z_fa001, z_fa010, z_fa011, z_fa100, z_fa101, z_fa110, z_fa111, if_true, if_false, rs_3 hr, rs_4 hr, rs_5 hr, rs_15 hr, rs_16 hr, rs_19 hr, rs_20 hr, rs_27 hr, rs_28 hr, rs_34 hr, rr_88 hr, rr_89 hr, rr_90 hr, rr_91 hr, rr_92 hr, rr_93 hr, rr_94 hr, rr_95 hr, rr_96 hr, rg_97 hr, rg_98 hr, rt_99 hr, rv_100 hr, rv_101 hr, rc_102 hr, rc_103 hr, rp_104 hr]
  exact ⟨Or.inl trivial, hQ⟩
theorem m_openTransactions_l (hw : qWF g) (hJ : jJ s) (hr : rL s a) : ∀ t x : Int, 0 ≤ t → t ≤ 4 → Q (iI (x + sI (fun t => if s 55 t = -1 then 0 else 1) t 4)) (qi a) → qV g mX10_openTransactions (d + 2) 0 4 [some (.inr 86), some (.inl (iI x)), some (.inl (iI t))] [] (qi a) Q T := by
  refine stepUp 4 (fun t ih x t0 t1 hQ => wX10_openTransactions_4 hw ?_)
  by_cases h : t < 4
  · rw [sI_f _ h, ← Int.add_assoc] at hQ
    simp +contextual (disch := omega) only [z_app, z_rd, z_cl, z_add, z_sub, z_mul, z_neg, z_lit, z_leT, z_leF, z_ltT, z_ltF, z_eqT, z_eqF, i_leT, i_leF, i_ltT, i_ltF, i_eqT, i_eqF, z_le, z_lt, z_eq, z_ite, z_at, z_pt, z_up, z_wr, z_wi1, z_wi0, z_wi, z_inS, z_toInt, z_nb0, z_nb1, Int.cast_ofNat_Int, true_and, and_true, not_true_eq_false, not_false_eq_true, false_imp_iff, true_imp_iff, aup_o, aup_k, ite_true, ite_false, z_fa000, z_fa001, z_fa010, z_fa011, z_fa100, z_fa101, z_fa110, z_fa111, if_true, if_false]
    by_cases hb : s 55 t = -1
    · rw [if_pos hb] at hQ
      refine m_isOpen0 hw hr t0 h hb ?_
      simp +contextual (disch := omega) only [z_app, z_rd, z_cl, z_add, z_sub, z_mul, z_neg, z_lit, z_leT, z_leF, z_ltT, z_ltF, z_eqT, z_eqF, i_leT, i_leF, i_ltT, i_ltF, i_eqT, i_eqF, z_le, z_lt, z_eq, z_ite, z_at, z_pt, z_up, z_wr, z_wi1, z_wi0, z_wi, z_inS, z_toInt, z_nb0, z_nb1, Int.cast_ofNat_Int, true_and, and_true, not_true_eq_false, not_false_eq_true, false_imp_iff, true_imp_iff, aup_o, aup_k, ite_true, ite_false, z_fa000, z_fa001, z_fa010, z_fa011, z_fa100, z_fa101, z_fa110, z_fa111, if_true, if_false]
      exact ih h _ (by omega) (by omega) hQ
    · rw [if_neg hb] at hQ
      refine m_isOpen1 hw hJ hr t0 h hb ?_
      simp +contextual (disch := omega) only [z_app, z_rd, z_cl, z_add, z_sub, z_mul, z_neg, z_lit, z_leT, z_leF, z_ltT, z_ltF, z_eqT, z_eqF, i_leT, i_leF, i_ltT, i_ltF, i_eqT, i_eqF, z_le, z_lt, z_eq, z_ite, z_at, z_pt, z_up, z_wr, z_wi1, z_wi0, z_wi, z_inS, z_toInt, z_nb0, z_nb1, Int.cast_ofNat_Int, true_and, and_true, not_true_eq_false, not_false_eq_true, false_imp_iff, true_imp_iff, aup_o, aup_k, ite_true, ite_false, z_fa000, z_fa001, z_fa010, z_fa011, z_fa100, z_fa101, z_fa110, z_fa111, if_true, if_false]
      exact ih h _ (by omega) (by omega) hQ
  · simp +contextual (disch := omega) only [z_app, z_rd, z_cl, z_add, z_sub, z_mul, z_neg, z_lit, z_leT, z_leF, z_ltT, z_ltF, z_eqT, z_eqF, i_leT, i_leF, i_ltT, i_ltF, i_eqT, i_eqF, z_le, z_lt, z_eq, z_ite, z_at, z_pt, z_up, z_wr, z_wi1, z_wi0, z_wi, z_inS, z_toInt, z_nb0, z_nb1, Int.cast_ofNat_Int, true_and, and_true, not_true_eq_false, not_false_eq_true, false_imp_iff, true_imp_iff, aup_o, aup_k, ite_true, ite_false, z_fa000, z_fa001, z_fa010, z_fa011, z_fa100, z_fa101, z_fa110, z_fa111, if_true, if_false]
    rw [sI_e (by omega), Int.add_zero] at hQ
    exact hQ
theorem m_openTransactions (hw : qWF g) (hJ : jJ s) (hr : rL s a) (hQ : Q (iI (coS s)) (qi a)) : qC g (d + 2) mX10_openTransactions [.inr 86] (qi a) Q T :=
  wX10_openTransactions hw ⟨rfl, m_openTransactions_l hw hJ hr 0 0 (by omega) (by omega) (by rw [Int.zero_add]; exact hQ)⟩
theorem k_firstDamaged_l (hw : qWF g) (hJ : jJ s) : ∀ k : Int, 0 ≤ k → k ≤ s 2 9 → Q (iI (fI (fun k => decide (s 20 k = 1)) k (s 2 9))) (qi s) → qV g mX4_firstDamaged (d + 1) 0 5 [some (.inr 2), some (.inl (iI k))] [] (qi s) Q T := by
  have B := jb hJ
  refine stepUp (s 2 9) (fun k ih k0 k1 hQ => wX4_firstDamaged_5 hw ?_)
  by_cases h : k < s 2 9
  · have D := (jd hJ k0 h).1
    rw [fI_f h] at hQ
    by_cases hm : s 20 k = 1
    · rw [if_pos (decide_eq_true hm)] at hQ
      simp +contextual (disch := omega) only [z_app, z_rd, z_cl, z_add, z_sub, z_mul, z_neg, z_lit, z_leT, z_leF, z_ltT, z_ltF, z_eqT, z_eqF, i_leT, i_leF, i_ltT, i_ltF, i_eqT, i_eqF, z_le, z_lt, z_eq, z_ite, z_at, z_pt, z_up, z_wr, z_wi1, z_wi0, z_wi, z_inS, z_toInt, z_nb0, z_nb1, Int.cast_ofNat_Int, true_and, and_true, not_true_eq_false, not_false_eq_true, false_imp_iff, true_imp_iff, aup_o, aup_k, ite_true, ite_false, z_fa000, z_fa001, z_fa010, z_fa011, z_fa100, z_fa101, z_fa110, z_fa111, if_true, if_false]
      exact hQ
    · rw [if_neg (by simpa using hm)] at hQ
      simp +contextual (disch := omega) only [z_app, z_rd, z_cl, z_add, z_sub, z_mul, z_neg, z_lit, z_leT, z_leF, z_ltT, z_ltF, z_eqT, z_eqF, i_leT, i_leF, i_ltT, i_ltF, i_eqT, i_eqF, z_le, z_lt, z_eq, z_ite, z_at, z_pt, z_up, z_wr, z_wi1, z_wi0, z_wi, z_inS, z_toInt, z_nb0, z_nb1, Int.cast_ofNat_Int, true_and, and_true, not_true_eq_false, not_false_eq_true, false_imp_iff, true_imp_iff, aup_o, aup_k, ite_true, ite_false, z_fa000, z_fa001, z_fa010, z_fa011, z_fa100, z_fa101, z_fa110, z_fa111, if_true, if_false]
      exact ih h (by omega) (by omega) hQ
  · simp +contextual (disch := omega) only [z_app, z_rd, z_cl, z_add, z_sub, z_mul, z_neg, z_lit, z_leT, z_leF, z_ltT, z_ltF, z_eqT, z_eqF, i_leT, i_leF, i_ltT, i_ltF, i_eqT, i_eqF, z_le, z_lt, z_eq, z_ite, z_at, z_pt, z_up, z_wr, z_wi1, z_wi0, z_wi, z_inS, z_toInt, z_nb0, z_nb1, Int.cast_ofNat_Int, true_and, and_true, not_true_eq_false, not_false_eq_true, false_imp_iff, true_imp_iff, aup_o, aup_k, ite_true, ite_false, z_fa000, z_fa001, z_fa010, z_fa011, z_fa100, z_fa101, z_fa110, z_fa111, if_true, if_false]
    rw [fI_e (by omega)] at hQ
    rw [show k = s 2 9 by omega] at hQ
    exact hQ
theorem k_firstDamaged (hw : qWF g) (hJ : jJ s) (hQ : Q (iI (fdS s)) (qi s)) : qC g (d + 1) mX4_firstDamaged [.inr 2] (qi s) Q T := by
  have B := jb hJ
  exact wX4_firstDamaged hw ⟨rfl, k_firstDamaged_l hw hJ (s 2 10) (by omega) (by omega) hQ⟩
theorem m_firstDamaged_l (hw : qWF g) (hJ : jJ s) (hr : rL s a) : ∀ k : Int, 0 ≤ k → k ≤ s 2 9 → Q (iI (fI (fun k => decide (s 20 k = 1)) k (s 2 9))) (qi a) → qV g mX10_firstDamaged (d + 1) 0 5 [some (.inr 86), some (.inl (iI k))] [] (qi a) Q T := by
  have B := jb hJ
  refine stepUp (s 2 9) (fun k ih k0 k1 hQ => wX10_firstDamaged_5 hw ?_)
  by_cases h : k < s 2 9
  · have D := (jd hJ k0 h).1
    rw [fI_f h] at hQ
    by_cases hm : s 20 k = 1
    · rw [if_pos (decide_eq_true hm)] at hQ
      simp +contextual (disch := omega) only [z_app, z_rd, z_cl, z_add, z_sub, z_mul, z_neg, z_lit, z_leT, z_leF, z_ltT, z_ltF, z_eqT, z_eqF, i_leT, i_leF, i_ltT, i_ltF, i_eqT, i_eqF, z_le, z_lt, z_eq, z_ite, z_at, z_pt, z_up, z_wr, z_wi1, z_wi0, z_wi, z_inS, z_toInt, z_nb0, z_nb1, Int.cast_ofNat_Int, true_and, and_true, not_true_eq_false, not_false_eq_true, false_imp_iff, true_imp_iff, aup_o, aup_k, ite_true, ite_false, z_fa000, z_fa001, z_fa010, z_fa011, z_fa100, z_fa101, z_fa110, z_fa111, if_true, if_false, rs_3 hr, rs_4 hr, rs_5 hr, rs_15 hr, rs_16 hr, rs_19 hr, rs_20 hr, rs_27 hr, rs_28 hr, rs_34 hr, rr_88 hr, rr_89 hr, rr_90 hr, rr_91 hr, rr_92 hr, rr_93 hr, rr_94 hr, rr_95 hr, rr_96 hr, rg_97 hr, rg_98 hr, rt_99 hr, rv_100 hr, rv_101 hr, rc_102 hr, rc_103 hr, rp_104 hr]
      exact hQ
    · rw [if_neg (by simpa using hm)] at hQ
      simp +contextual (disch := omega) only [z_app, z_rd, z_cl, z_add, z_sub, z_mul, z_neg, z_lit, z_leT, z_leF, z_ltT, z_ltF, z_eqT, z_eqF, i_leT, i_leF, i_ltT, i_ltF, i_eqT, i_eqF, z_le, z_lt, z_eq, z_ite, z_at, z_pt, z_up, z_wr, z_wi1, z_wi0, z_wi, z_inS, z_toInt, z_nb0, z_nb1, Int.cast_ofNat_Int, true_and, and_true, not_true_eq_false, not_false_eq_true, false_imp_iff, true_imp_iff, aup_o, aup_k, ite_true, ite_false, z_fa000, z_fa001, z_fa010, z_fa011, z_fa100, z_fa101, z_fa110, z_fa111, if_true, if_false, rs_3 hr, rs_4 hr, rs_5 hr, rs_15 hr, rs_16 hr, rs_19 hr, rs_20 hr, rs_27 hr, rs_28 hr, rs_34 hr, rr_88 hr, rr_89 hr, rr_90 hr, rr_91 hr, rr_92 hr, rr_93 hr, rr_94 hr, rr_95 hr, rr_96 hr, rg_97 hr, rg_98 hr, rt_99 hr, rv_100 hr, rv_101 hr, rc_102 hr, rc_103 hr, rp_104 hr]
      exact ih h (by omega) (by omega) hQ
  · simp +contextual (disch := omega) only [z_app, z_rd, z_cl, z_add, z_sub, z_mul, z_neg, z_lit, z_leT, z_leF, z_ltT, z_ltF, z_eqT, z_eqF, i_leT, i_leF, i_ltT, i_ltF, i_eqT, i_eqF, z_le, z_lt, z_eq, z_ite, z_at, z_pt, z_up, z_wr, z_wi1, z_wi0, z_wi, z_inS, z_toInt, z_nb0, z_nb1, Int.cast_ofNat_Int, true_and, and_true, not_true_eq_false, not_false_eq_true, false_imp_iff, true_imp_iff, aup_o, aup_k, ite_true, ite_false, z_fa000, z_fa001, z_fa010, z_fa011, z_fa100, z_fa101, z_fa110, z_fa111, if_true, if_false, rs_3 hr, rs_4 hr, rs_5 hr, rs_15 hr, rs_16 hr, rs_19 hr, rs_20 hr, rs_27 hr, rs_28 hr, rs_34 hr, rr_88 hr, rr_89 hr, rr_90 hr, rr_91 hr, rr_92 hr, rr_93 hr, rr_94 hr, rr_95 hr, rr_96 hr, rg_97 hr, rg_98 hr, rt_99 hr, rv_100 hr, rv_101 hr, rc_102 hr, rc_103 hr, rp_104 hr]
    rw [fI_e (by omega)] at hQ
    rw [show k = s 2 9 by omega] at hQ
    exact hQ
theorem m_firstDamaged (hw : qWF g) (hJ : jJ s) (hr : rL s a) (hQ : Q (iI (fdS s)) (qi a)) : qC g (d + 1) mX10_firstDamaged [.inr 86] (qi a) Q T := by
  have B := jb hJ
  refine wX10_firstDamaged hw ?_
  simp +contextual (disch := omega) only [z_app, z_rd, z_cl, z_add, z_sub, z_mul, z_neg, z_lit, z_leT, z_leF, z_ltT, z_ltF, z_eqT, z_eqF, i_leT, i_leF, i_ltT, i_ltF, i_eqT, i_eqF, z_le, z_lt, z_eq, z_ite, z_at, z_pt, z_up, z_wr, z_wi1, z_wi0, z_wi, z_inS, z_toInt, z_nb0, z_nb1, Int.cast_ofNat_Int, true_and, and_true, not_true_eq_false, not_false_eq_true, false_imp_iff, true_imp_iff, aup_o, aup_k, ite_true, ite_false, z_fa000, z_fa001, z_fa010, z_fa011, z_fa100, z_fa101, z_fa110, z_fa111, if_true, if_false, rs_3 hr, rs_4 hr, rs_5 hr, rs_15 hr, rs_16 hr, rs_19 hr, rs_20 hr, rs_27 hr, rs_28 hr, rs_34 hr, rr_88 hr, rr_89 hr, rr_90 hr, rr_91 hr, rr_92 hr, rr_93 hr, rr_94 hr, rr_95 hr, rr_96 hr, rg_97 hr, rg_98 hr, rt_99 hr, rv_100 hr, rv_101 hr, rc_102 hr, rc_103 hr, rp_104 hr, Int.add_zero]
  refine m_firstDamaged_l hw hJ hr _ (by omega) (by omega) ?_
  rw [fd_eq hJ]
  exact hQ
theorem m_isOf1 (hw : qWF g) (hJ : jJ s) (hr : rL s a) {k b : Int} (k0 : 0 ≤ k) (k1 : k < s 2 9) (h1 : s 6 k = b) (h2 : 3 ≤ s 4 k) (h3 : s 4 k ≤ 6) (b0 : -1 ≤ b) (b1 : b ≤ 400) (hQ : Q (iI 1) (qi a)) : qC g (d + 1) mX10_isOf [.inr 86, .inl (iI k), .inl (iI b)] (qi a) Q T := by
  have B := jb hJ
  have R := (hJ.2.1 k k0 k1).1.1
  refine wX10_isOf hw ?_
  simp +contextual (disch := omega) only [z_app, z_rd, z_cl, z_add, z_sub, z_mul, z_neg, z_lit, z_leT, z_leF, z_ltT, z_ltF, z_eqT, z_eqF, i_leT, i_leF, i_ltT, i_ltF, i_eqT, i_eqF, z_le, z_lt, z_eq, z_ite, z_at, z_pt, z_up, z_wr, z_wi1, z_wi0, z_wi, z_inS, z_toInt, z_nb0, z_nb1, Int.cast_ofNat_Int, true_and, and_true, not_true_eq_false, not_false_eq_true, false_imp_iff, true_imp_iff, aup_o, aup_k, ite_true, ite_false, z_fa000, z_fa001, z_fa010, z_fa011, z_fa100, z_fa101, z_fa110, z_fa111, if_true, if_false, rs_3 hr, rs_4 hr, rs_5 hr, rs_15 hr, rs_16 hr, rs_19 hr, rs_20 hr, rs_27 hr, rs_28 hr, rs_34 hr, rr_88 hr, rr_89 hr, rr_90 hr, rr_91 hr, rr_92 hr, rr_93 hr, rr_94 hr, rr_95 hr, rr_96 hr, rg_97 hr, rg_98 hr, rt_99 hr, rv_100 hr, rv_101 hr, rc_102 hr, rc_103 hr, rp_104 hr]
  exact ⟨Or.inr trivial, hQ⟩
theorem m_isOf0 (hw : qWF g) (hJ : jJ s) (hr : rL s a) {k b : Int} (k0 : 0 ≤ k) (k1 : k < s 2 9) (h1 : ¬ (s 6 k = b ∧ 3 ≤ s 4 k ∧ s 4 k ≤ 6)) (b0 : -1 ≤ b) (b1 : b ≤ 400) (hQ : Q (iI 0) (qi a)) : qC g (d + 1) mX10_isOf [.inr 86, .inl (iI k), .inl (iI b)] (qi a) Q T := by
  have B := jb hJ
  have R := (hJ.2.1 k k0 k1).1.1
  have O := (hJ.2.1 k k0 k1).2.1
  refine wX10_isOf hw ?_
  by_cases h : s 6 k = b
  · by_cases h2 : 3 ≤ s 4 k
    · simp +contextual (disch := omega) only [z_app, z_rd, z_cl, z_add, z_sub, z_mul, z_neg, z_lit, z_leT, z_leF, z_ltT, z_ltF, z_eqT, z_eqF, i_leT, i_leF, i_ltT, i_ltF, i_eqT, i_eqF, z_le, z_lt, z_eq, z_ite, z_at, z_pt, z_up, z_wr, z_wi1, z_wi0, z_wi, z_inS, z_toInt, z_nb0, z_nb1, Int.cast_ofNat_Int, true_and, and_true, not_true_eq_false, not_false_eq_true, false_imp_iff, true_imp_iff, aup_o, aup_k, ite_true, ite_false, z_fa000, z_fa001, z_fa010, z_fa011, z_fa100, z_fa101, z_fa110, z_fa111, if_true, if_false, rs_3 hr, rs_4 hr, rs_5 hr, rs_15 hr, rs_16 hr, rs_19 hr, rs_20 hr, rs_27 hr, rs_28 hr, rs_34 hr, rr_88 hr, rr_89 hr, rr_90 hr, rr_91 hr, rr_92 hr, rr_93 hr, rr_94 hr, rr_95 hr, rr_96 hr, rg_97 hr, rg_98 hr, rt_99 hr, rv_100 hr, rv_101 hr, rc_102 hr, rc_103 hr, rp_104 hr]
      exact ⟨Or.inl trivial, hQ⟩
    · simp +contextual (disch := omega) only [z_app, z_rd, z_cl, z_add, z_sub, z_mul, z_neg, z_lit, z_leT, z_leF, z_ltT, z_ltF, z_eqT, z_eqF, i_leT, i_leF, i_ltT, i_ltF, i_eqT, i_eqF, z_le, z_lt, z_eq, z_ite, z_at, z_pt, z_up, z_wr, z_wi1, z_wi0, z_wi, z_inS, z_toInt, z_nb0, z_nb1, Int.cast_ofNat_Int, true_and, and_true, not_true_eq_false, not_false_eq_true, false_imp_iff, true_imp_iff, aup_o, aup_k, ite_true, ite_false, z_fa000, z_fa001, z_fa010, z_fa011, z_fa100, z_fa101, z_fa110, z_fa111, if_true, if_false, rs_3 hr, rs_4 hr, rs_5 hr, rs_15 hr, rs_16 hr, rs_19 hr, rs_20 hr, rs_27 hr, rs_28 hr, rs_34 hr, rr_88 hr, rr_89 hr, rr_90 hr, rr_91 hr, rr_92 hr, rr_93 hr, rr_94 hr, rr_95 hr, rr_96 hr, rg_97 hr, rg_98 hr, rt_99 hr, rv_100 hr, rv_101 hr, rc_102 hr, rc_103 hr, rp_104 hr]
      exact ⟨Or.inl trivial, hQ⟩
  · simp +contextual (disch := omega) only [z_app, z_rd, z_cl, z_add, z_sub, z_mul, z_neg, z_lit, z_leT, z_leF, z_ltT, z_ltF, z_eqT, z_eqF, i_leT, i_leF, i_ltT, i_ltF, i_eqT, i_eqF, z_le, z_lt, z_eq, z_ite, z_at, z_pt, z_up, z_wr, z_wi1, z_wi0, z_wi, z_inS, z_toInt, z_nb0, z_nb1, Int.cast_ofNat_Int, true_and, and_true, not_true_eq_false, not_false_eq_true, false_imp_iff, true_imp_iff, aup_o, aup_k, ite_true, ite_false, z_fa000, z_fa001, z_fa010, z_fa011, z_fa100, z_fa101, z_fa110, z_fa111, if_true, if_false, rs_3 hr, rs_4 hr, rs_5 hr, rs_15 hr, rs_16 hr, rs_19 hr, rs_20 hr, rs_27 hr, rs_28 hr, rs_34 hr, rr_88 hr, rr_89 hr, rr_90 hr, rr_91 hr, rr_92 hr, rr_93 hr, rr_94 hr, rr_95 hr, rr_96 hr, rg_97 hr, rg_98 hr, rt_99 hr, rv_100 hr, rv_101 hr, rc_102 hr, rc_103 hr, rp_104 hr]
    exact ⟨Or.inl trivial, hQ⟩
theorem m_recordsOf_l (hw : qWF g) (hJ : jJ s) (hr : rL s a) {t : Int} (t0 : 0 ≤ t) (t1 : t < 4) (hb : s 55 t ≠ -1) : ∀ k x : Int, s 55 t ≤ k → k ≤ s 2 9 → Q (iI (x + sI (fun j => if s 6 j = s 55 t ∧ 3 ≤ s 4 j ∧ s 4 j ≤ 6 then 1 else 0) k (s 2 9))) (qi a) → qV g mX10_recordsOf (d + 2) 0 9 [some (.inr 86), some (.inl (iI t)), some (.inl (iI x)), some (.inl (iI k))] [] (qi a) Q T := by
  have B := jb hJ
  have J := jt hJ t0 t1
  refine stepUp (s 2 9) (fun k ih x k0 k1 hQ => wX10_recordsOf_9 hw ?_)
  by_cases h : k < s 2 9
  · rw [sI_f _ h, ← Int.add_assoc] at hQ
    simp +contextual (disch := omega) only [z_app, z_rd, z_cl, z_add, z_sub, z_mul, z_neg, z_lit, z_leT, z_leF, z_ltT, z_ltF, z_eqT, z_eqF, i_leT, i_leF, i_ltT, i_ltF, i_eqT, i_eqF, z_le, z_lt, z_eq, z_ite, z_at, z_pt, z_up, z_wr, z_wi1, z_wi0, z_wi, z_inS, z_toInt, z_nb0, z_nb1, Int.cast_ofNat_Int, true_and, and_true, not_true_eq_false, not_false_eq_true, false_imp_iff, true_imp_iff, aup_o, aup_k, ite_true, ite_false, z_fa000, z_fa001, z_fa010, z_fa011, z_fa100, z_fa101, z_fa110, z_fa111, if_true, if_false, rs_3 hr, rs_4 hr, rs_5 hr, rs_15 hr, rs_16 hr, rs_19 hr, rs_20 hr, rs_27 hr, rs_28 hr, rs_34 hr, rr_88 hr, rr_89 hr, rr_90 hr, rr_91 hr, rr_92 hr, rr_93 hr, rr_94 hr, rr_95 hr, rr_96 hr, rg_97 hr, rg_98 hr, rt_99 hr, rv_100 hr, rv_101 hr, rc_102 hr, rc_103 hr, rp_104 hr]
    by_cases hh : s 6 k = s 55 t ∧ 3 ≤ s 4 k ∧ s 4 k ≤ 6
    · rw [if_pos hh] at hQ
      refine m_isOf1 hw hJ hr (by omega) h hh.1 hh.2.1 hh.2.2 (by omega) (by omega) ?_
      simp +contextual (disch := omega) only [z_app, z_rd, z_cl, z_add, z_sub, z_mul, z_neg, z_lit, z_leT, z_leF, z_ltT, z_ltF, z_eqT, z_eqF, i_leT, i_leF, i_ltT, i_ltF, i_eqT, i_eqF, z_le, z_lt, z_eq, z_ite, z_at, z_pt, z_up, z_wr, z_wi1, z_wi0, z_wi, z_inS, z_toInt, z_nb0, z_nb1, Int.cast_ofNat_Int, true_and, and_true, not_true_eq_false, not_false_eq_true, false_imp_iff, true_imp_iff, aup_o, aup_k, ite_true, ite_false, z_fa000, z_fa001, z_fa010, z_fa011, z_fa100, z_fa101, z_fa110, z_fa111, if_true, if_false]
      exact ih h _ (by omega) (by omega) hQ
    · rw [if_neg hh] at hQ
      refine m_isOf0 hw hJ hr (by omega) h hh (by omega) (by omega) ?_
      simp +contextual (disch := omega) only [z_app, z_rd, z_cl, z_add, z_sub, z_mul, z_neg, z_lit, z_leT, z_leF, z_ltT, z_ltF, z_eqT, z_eqF, i_leT, i_leF, i_ltT, i_ltF, i_eqT, i_eqF, z_le, z_lt, z_eq, z_ite, z_at, z_pt, z_up, z_wr, z_wi1, z_wi0, z_wi, z_inS, z_toInt, z_nb0, z_nb1, Int.cast_ofNat_Int, true_and, and_true, not_true_eq_false, not_false_eq_true, false_imp_iff, true_imp_iff, aup_o, aup_k, ite_true, ite_false, z_fa000, z_fa001, z_fa010, z_fa011, z_fa100, z_fa101, z_fa110, z_fa111, if_true, if_false]
      exact ih h _ (by omega) (by omega) hQ
  · simp +contextual (disch := omega) only [z_app, z_rd, z_cl, z_add, z_sub, z_mul, z_neg, z_lit, z_leT, z_leF, z_ltT, z_ltF, z_eqT, z_eqF, i_leT, i_leF, i_ltT, i_ltF, i_eqT, i_eqF, z_le, z_lt, z_eq, z_ite, z_at, z_pt, z_up, z_wr, z_wi1, z_wi0, z_wi, z_inS, z_toInt, z_nb0, z_nb1, Int.cast_ofNat_Int, true_and, and_true, not_true_eq_false, not_false_eq_true, false_imp_iff, true_imp_iff, aup_o, aup_k, ite_true, ite_false, z_fa000, z_fa001, z_fa010, z_fa011, z_fa100, z_fa101, z_fa110, z_fa111, if_true, if_false, rs_3 hr, rs_4 hr, rs_5 hr, rs_15 hr, rs_16 hr, rs_19 hr, rs_20 hr, rs_27 hr, rs_28 hr, rs_34 hr, rr_88 hr, rr_89 hr, rr_90 hr, rr_91 hr, rr_92 hr, rr_93 hr, rr_94 hr, rr_95 hr, rr_96 hr, rg_97 hr, rg_98 hr, rt_99 hr, rv_100 hr, rv_101 hr, rc_102 hr, rc_103 hr, rp_104 hr]
    rw [sI_e (by omega), Int.add_zero] at hQ
    exact hQ
theorem j_parts (hJ : jJ s) {t : Int} (t0 : 0 ≤ t) (t1 : t < 4) (hb : s 55 t ≠ -1) : sI (fun j => if s 6 j = s 55 t ∧ 3 ≤ s 4 j ∧ s 4 j ≤ 6 then 1 else 0) (s 55 t) (s 2 9) = s 57 t := by
  rcases hJ.2.2.2.1 t t0 t1 with h | ⟨⟨a1, a2, a3⟩, a4, a5, -⟩
  · exact (hb h).elim
  · have O := (hJ.2.1 (s 55 t) a2 a3).2
    rw [sI_f _ a3, a5, if_neg, Int.zero_add]
    · refine sI_c _ (fun i h0 h1 => ?_)
      by_cases h : s 6 i = s 55 t
      · have := a4 i (by omega) h1 h
        rw [if_pos ⟨h, this.1, this.2.1⟩, if_pos h]
      · rw [if_neg (fun x => h x.1), if_neg h]
    · intro hh
      have := O.2.2.1 (by omega)
      omega
theorem m_recordsOf (hw : qWF g) (hJ : jJ s) (hr : rL s a) {t : Int} (t0 : 0 ≤ t) (t1 : t < 4) (hb : s 55 t ≠ -1) (hQ : Q (iI (s 57 t)) (qi a)) : qC g (d + 2) mX10_recordsOf [.inr 86, .inl (iI t)] (qi a) Q T := by
  have J := jt hJ t0 t1
  have B := jb hJ
  have K : s 55 t ≤ s 2 9 := by
    rcases hJ.2.2.2.1 t t0 t1 with h | ⟨⟨a1, a2, a3⟩, -⟩ <;> omega
  refine wX10_recordsOf hw ?_
  simp +contextual (disch := omega) only [z_app, z_rd, z_cl, z_add, z_sub, z_mul, z_neg, z_lit, z_leT, z_leF, z_ltT, z_ltF, z_eqT, z_eqF, i_leT, i_leF, i_ltT, i_ltF, i_eqT, i_eqF, z_le, z_lt, z_eq, z_ite, z_at, z_pt, z_up, z_wr, z_wi1, z_wi0, z_wi, z_inS, z_toInt, z_nb0, z_nb1, Int.cast_ofNat_Int, true_and, and_true, not_true_eq_false, not_false_eq_true, false_imp_iff, true_imp_iff, aup_o, aup_k, ite_true, ite_false, z_fa000, z_fa001, z_fa010, z_fa011, z_fa100, z_fa101, z_fa110, z_fa111, if_true, if_false, rs_3 hr, rs_4 hr, rs_5 hr, rs_15 hr, rs_16 hr, rs_19 hr, rs_20 hr, rs_27 hr, rs_28 hr, rs_34 hr, rr_88 hr, rr_89 hr, rr_90 hr, rr_91 hr, rr_92 hr, rr_93 hr, rr_94 hr, rr_95 hr, rr_96 hr, rg_97 hr, rg_98 hr, rt_99 hr, rv_100 hr, rv_101 hr, rc_102 hr, rc_103 hr, rp_104 hr]
  refine m_recordsOf_l hw hJ hr t0 t1 hb _ _ (by omega) K ?_
  rw [j_parts hJ t0 t1 hb, Int.zero_add]
  exact hQ
theorem k_unreadLengths_l (hw : qWF g) (hJ : jJ s) {c : Int} (c0 : 0 ≤ c) (c1 : c < s 26 6) : ∀ (k x : Int), 0 ≤ k → k ≤ s 30 (s 32 c) → Q (iI (x + sI (fun i => s 12 (s 28 (400 * s 32 c + i))) k (s 30 (s 32 c)))) (qi s) → qV g mX0_unreadLengths (d + 1) 0 43 [some (.inr 26), some (.inl (iI c)), some (.inr 2), some (.inl (iI (s 32 c * 400))), some (.inl (iI (s 30 (s 32 c)))), some (.inl (iI x)), some (.inl (iI k))] [] (qi s) Q T := by
  have B := jb hJ
  have C := jc hJ c0 c1
  refine stepUp (s 30 (s 32 c)) (fun k ih x k0 k1 hQ => wX0_unreadLengths_43 hw ?_)
  by_cases h : k < s 30 (s 32 c)
  · have V := jv hJ (t := s 32 c) (i := k) C.1 C.2.1 (by omega) h
    have e : s 32 c * 400 + k = 400 * s 32 c + k := by omega
    rw [sI_f _ h, ← Int.add_assoc] at hQ
    simp +contextual (disch := omega) only [z_app, z_rd, z_cl, z_add, z_sub, z_mul, z_neg, z_lit, z_leT, z_leF, z_ltT, z_ltF, z_eqT, z_eqF, i_leT, i_leF, i_ltT, i_ltF, i_eqT, i_eqF, z_le, z_lt, z_eq, z_ite, z_at, z_pt, z_up, z_wr, z_wi1, z_wi0, z_wi, z_inS, z_toInt, z_nb0, z_nb1, Int.cast_ofNat_Int, true_and, and_true, not_true_eq_false, not_false_eq_true, false_imp_iff, true_imp_iff, aup_o, aup_k, ite_true, ite_false, z_fa000, z_fa001, z_fa010, z_fa011, z_fa100, z_fa101, z_fa110, z_fa111, if_true, if_false, e]
    exact ih h _ (by omega) (by omega) hQ
  · simp +contextual (disch := omega) only [z_app, z_rd, z_cl, z_add, z_sub, z_mul, z_neg, z_lit, z_leT, z_leF, z_ltT, z_ltF, z_eqT, z_eqF, i_leT, i_leF, i_ltT, i_ltF, i_eqT, i_eqF, z_le, z_lt, z_eq, z_ite, z_at, z_pt, z_up, z_wr, z_wi1, z_wi0, z_wi, z_inS, z_toInt, z_nb0, z_nb1, Int.cast_ofNat_Int, true_and, and_true, not_true_eq_false, not_false_eq_true, false_imp_iff, true_imp_iff, aup_o, aup_k, ite_true, ite_false, z_fa000, z_fa001, z_fa010, z_fa011, z_fa100, z_fa101, z_fa110, z_fa111, if_true, if_false]
    rw [sI_e (by omega), Int.add_zero] at hQ
    exact hQ
theorem k_unreadLengths (hw : qWF g) (hJ : jJ s) {c : Int} (c0 : 0 ≤ c) (c1 : c < s 26 6) (hQ : Q (iI (ulS s c)) (qi s)) : qC g (d + 1) mX0_unreadLengths [.inr 26, .inl (iI c), .inr 2] (qi s) Q T := by
  have B := jb hJ
  have C := jc hJ c0 c1
  refine wX0_unreadLengths hw ?_
  simp +contextual (disch := omega) only [z_app, z_rd, z_cl, z_add, z_sub, z_mul, z_neg, z_lit, z_leT, z_leF, z_ltT, z_ltF, z_eqT, z_eqF, i_leT, i_leF, i_ltT, i_ltF, i_eqT, i_eqF, z_le, z_lt, z_eq, z_ite, z_at, z_pt, z_up, z_wr, z_wi1, z_wi0, z_wi, z_inS, z_toInt, z_nb0, z_nb1, Int.cast_ofNat_Int, true_and, and_true, not_true_eq_false, not_false_eq_true, false_imp_iff, true_imp_iff, aup_o, aup_k, ite_true, ite_false, z_fa000, z_fa001, z_fa010, z_fa011, z_fa100, z_fa101, z_fa110, z_fa111, if_true, if_false]
  refine k_unreadLengths_l hw hJ c0 c1 _ _ (by omega) (by omega) ?_
  rw [Int.zero_add]
  exact hQ
theorem m_unreadLength_l (hw : qWF g) (hJ : jJ s) (hr : rL s a) {c : Int} (c0 : 0 ≤ c) (c1 : c < s 26 6) : ∀ (k x : Int), 0 ≤ k → k ≤ s 30 (s 32 c) → Q (iI (x + sI (fun i => s 12 (s 28 (400 * s 32 c + i))) k (s 30 (s 32 c)))) (qi a) → qV g mX10_unreadLength (d + 2) 0 17 [some (.inr 86), some (.inl (iI c)), some (.inl (iI (s 32 c))), some (.inl (iI x)), some (.inl (iI k))] [] (qi a) Q T := by
  have B := jb hJ
  have C := jc hJ c0 c1
  refine stepUp (s 30 (s 32 c)) (fun k ih x k0 k1 hQ => wX10_unreadLength_17 hw ?_)
  by_cases h : k < s 30 (s 32 c)
  · have V := jv hJ (t := s 32 c) (i := k) C.1 C.2.1 (by omega) h
    rw [sI_f _ h, ← Int.add_assoc] at hQ
    simp +contextual (disch := omega) only [z_app, z_rd, z_cl, z_add, z_sub, z_mul, z_neg, z_lit, z_leT, z_leF, z_ltT, z_ltF, z_eqT, z_eqF, i_leT, i_leF, i_ltT, i_ltF, i_eqT, i_eqF, z_le, z_lt, z_eq, z_ite, z_at, z_pt, z_up, z_wr, z_wi1, z_wi0, z_wi, z_inS, z_toInt, z_nb0, z_nb1, Int.cast_ofNat_Int, true_and, and_true, not_true_eq_false, not_false_eq_true, false_imp_iff, true_imp_iff, aup_o, aup_k, ite_true, ite_false, z_fa000, z_fa001, z_fa010, z_fa011, z_fa100, z_fa101, z_fa110, z_fa111, if_true, if_false, rs_3 hr, rs_4 hr, rs_5 hr, rs_15 hr, rs_16 hr, rs_19 hr, rs_20 hr, rs_27 hr, rs_28 hr, rs_34 hr, rr_88 hr, rr_89 hr, rr_90 hr, rr_91 hr, rr_92 hr, rr_93 hr, rr_94 hr, rr_95 hr, rr_96 hr, rg_97 hr, rg_98 hr, rt_99 hr, rv_100 hr, rv_101 hr, rc_102 hr, rc_103 hr, rp_104 hr]
    refine m_recordOf hw hr C.1 C.2.1 k0 h (by omega) ?_
    simp +contextual (disch := omega) only [z_app, z_rd, z_cl, z_add, z_sub, z_mul, z_neg, z_lit, z_leT, z_leF, z_ltT, z_ltF, z_eqT, z_eqF, i_leT, i_leF, i_ltT, i_ltF, i_eqT, i_eqF, z_le, z_lt, z_eq, z_ite, z_at, z_pt, z_up, z_wr, z_wi1, z_wi0, z_wi, z_inS, z_toInt, z_nb0, z_nb1, Int.cast_ofNat_Int, true_and, and_true, not_true_eq_false, not_false_eq_true, false_imp_iff, true_imp_iff, aup_o, aup_k, ite_true, ite_false, z_fa000, z_fa001, z_fa010, z_fa011, z_fa100, z_fa101, z_fa110, z_fa111, if_true, if_false, rs_3 hr, rs_4 hr, rs_5 hr, rs_15 hr, rs_16 hr, rs_19 hr, rs_20 hr, rs_27 hr, rs_28 hr, rs_34 hr, rr_88 hr, rr_89 hr, rr_90 hr, rr_91 hr, rr_92 hr, rr_93 hr, rr_94 hr, rr_95 hr, rr_96 hr, rg_97 hr, rg_98 hr, rt_99 hr, rv_100 hr, rv_101 hr, rc_102 hr, rc_103 hr, rp_104 hr]
    exact ih h _ (by omega) (by omega) hQ
  · simp +contextual (disch := omega) only [z_app, z_rd, z_cl, z_add, z_sub, z_mul, z_neg, z_lit, z_leT, z_leF, z_ltT, z_ltF, z_eqT, z_eqF, i_leT, i_leF, i_ltT, i_ltF, i_eqT, i_eqF, z_le, z_lt, z_eq, z_ite, z_at, z_pt, z_up, z_wr, z_wi1, z_wi0, z_wi, z_inS, z_toInt, z_nb0, z_nb1, Int.cast_ofNat_Int, true_and, and_true, not_true_eq_false, not_false_eq_true, false_imp_iff, true_imp_iff, aup_o, aup_k, ite_true, ite_false, z_fa000, z_fa001, z_fa010, z_fa011, z_fa100, z_fa101, z_fa110, z_fa111, if_true, if_false, rs_3 hr, rs_4 hr, rs_5 hr, rs_15 hr, rs_16 hr, rs_19 hr, rs_20 hr, rs_27 hr, rs_28 hr, rs_34 hr, rr_88 hr, rr_89 hr, rr_90 hr, rr_91 hr, rr_92 hr, rr_93 hr, rr_94 hr, rr_95 hr, rr_96 hr, rg_97 hr, rg_98 hr, rt_99 hr, rv_100 hr, rv_101 hr, rc_102 hr, rc_103 hr, rp_104 hr]
    rw [sI_e (by omega), Int.add_zero] at hQ
    exact hQ
theorem m_unreadLength (hw : qWF g) (hJ : jJ s) (hr : rL s a) {c : Int} (c0 : 0 ≤ c) (c1 : c < s 26 6) (hQ : Q (iI (ulS s c)) (qi a)) : qC g (d + 2) mX10_unreadLength [.inr 86, .inl (iI c)] (qi a) Q T := by
  have B := jb hJ
  have C := jc hJ c0 c1
  refine wX10_unreadLength hw ?_
  simp +contextual (disch := omega) only [z_app, z_rd, z_cl, z_add, z_sub, z_mul, z_neg, z_lit, z_leT, z_leF, z_ltT, z_ltF, z_eqT, z_eqF, i_leT, i_leF, i_ltT, i_ltF, i_eqT, i_eqF, z_le, z_lt, z_eq, z_ite, z_at, z_pt, z_up, z_wr, z_wi1, z_wi0, z_wi, z_inS, z_toInt, z_nb0, z_nb1, Int.cast_ofNat_Int, true_and, and_true, not_true_eq_false, not_false_eq_true, false_imp_iff, true_imp_iff, aup_o, aup_k, ite_true, ite_false, z_fa000, z_fa001, z_fa010, z_fa011, z_fa100, z_fa101, z_fa110, z_fa111, if_true, if_false, rs_3 hr, rs_4 hr, rs_5 hr, rs_15 hr, rs_16 hr, rs_19 hr, rs_20 hr, rs_27 hr, rs_28 hr, rs_34 hr, rr_88 hr, rr_89 hr, rr_90 hr, rr_91 hr, rr_92 hr, rr_93 hr, rr_94 hr, rr_95 hr, rr_96 hr, rg_97 hr, rg_98 hr, rt_99 hr, rv_100 hr, rv_101 hr, rc_102 hr, rc_103 hr, rp_104 hr]
  refine m_unreadLength_l hw hJ hr c0 c1 _ _ (by omega) (by omega) ?_
  rw [Int.zero_add]
  exact hQ
/-- effects of visible messages -/
theorem jve (h : jJ s) {t i : Int} (h0 : 0 ≤ t) (h1 : t < 4) (h2 : 0 ≤ i) (h3 : i < s 30 t) : 0 ≤ s 18 (s 28 (400 * t + i)) ∧ s 18 (s 28 (400 * t + i)) < s 2 9 := by
  have V := (h.2.2.2.2.1 t h0 h1).2.1 i h2 h3
  have E := j_ef h V.1.1 V.1.2
  exact ⟨V.2.2.2, E.2.1⟩
theorem cb_one (h : jJ s) {t p n : Int} (h0 : 0 ≤ t) (h1 : t < 4) (n0 : 0 < n) (n1 : n ≤ s 30 t) (hp : s 18 (s 28 (400 * t + (n - 1))) < p) (hn : ∀ i, n ≤ i → i < s 30 t → ¬ s 18 (s 28 (400 * t + i)) < p) : cbS s t p = n := by
  unfold cbS
  rw [sI_s (mid := n) (by omega) (s 30 t) n1, sI_c (g := fun _ => 1) n (fun i a b => if_pos ?_), sI_k n (by omega), sI_c (lo := n) (g := fun _ => 0) (s 30 t) (fun i a b => if_neg (hn i a b)), sI_k _ n1]
  · omega
  · by_cases e : i = n - 1
    · rw [e]; exact hp
    · have := ((h.2.2.2.2.1 t h0 h1).2.2 i (n - 1) a (by omega) (by omega)).2
      omega
theorem cb_zero {t p : Int} (h0 : 0 ≤ s 30 t) (hn : ∀ i, 0 ≤ i → i < s 30 t → ¬ s 18 (s 28 (400 * t + i)) < p) : cbS s t p = 0 := by
  unfold cbS
  rw [sI_c (g := fun _ => 0) (s 30 t) (fun i a b => if_neg (hn i a b)), sI_k _ h0, Int.zero_mul]
theorem k_countShownBefore_l (hw : qWF g) (hJ : jJ s) {t p : Int} (t0 : 0 ≤ t) (t1 : t < 4) (p0 : 0 ≤ p) (p1 : p ≤ 400) (hQ : Q (iI (cbS s t p)) (qi s)) : ∀ n : Int, 0 ≤ n → n ≤ s 30 t → (∀ i, n ≤ i → i < s 30 t → ¬ s 18 (s 28 (400 * t + i)) < p) → qV g mX0_countShownBefore (d + 1) 0 14 [some (.inr 26), some (.inl (iI t)), some (.inl (iI p)), some (.inr 2), some (.inl (iI (s 30 t))), some (.inl (iI n))] [] (qi s) Q T := by
  have B := jb hJ
  have V0 := (hJ.2.2.2.2.1 t t0 t1).1
  refine stepDown 0 (fun n ih n0 n1 hn => wX0_countShownBefore_14 hw ?_)
  by_cases h : 0 < n
  · have V := jv hJ (t := t) (i := n - 1) t0 t1 (by omega) (by omega)
    have E := jve hJ (t := t) (i := n - 1) t0 t1 (by omega) (by omega)
    have e : t * 400 + n - 1 = 400 * t + (n - 1) := by omega
    by_cases hh : s 18 (s 28 (400 * t + (n - 1))) < p
    · rw [cb_one hJ t0 t1 h n1 hh hn] at hQ
      simp +contextual (disch := omega) only [z_app, z_rd, z_cl, z_add, z_sub, z_mul, z_neg, z_lit, z_leT, z_leF, z_ltT, z_ltF, z_eqT, z_eqF, i_leT, i_leF, i_ltT, i_ltF, i_eqT, i_eqF, z_le, z_lt, z_eq, z_ite, z_at, z_pt, z_up, z_wr, z_wi1, z_wi0, z_wi, z_inS, z_toInt, z_nb0, z_nb1, Int.cast_ofNat_Int, true_and, and_true, not_true_eq_false, not_false_eq_true, false_imp_iff, true_imp_iff, aup_o, aup_k, ite_true, ite_false, z_fa000, z_fa001, z_fa010, z_fa011, z_fa100, z_fa101, z_fa110, z_fa111, if_true, if_false, e]
      exact hQ
    · simp +contextual (disch := omega) only [z_app, z_rd, z_cl, z_add, z_sub, z_mul, z_neg, z_lit, z_leT, z_leF, z_ltT, z_ltF, z_eqT, z_eqF, i_leT, i_leF, i_ltT, i_ltF, i_eqT, i_eqF, z_le, z_lt, z_eq, z_ite, z_at, z_pt, z_up, z_wr, z_wi1, z_wi0, z_wi, z_inS, z_toInt, z_nb0, z_nb1, Int.cast_ofNat_Int, true_and, and_true, not_true_eq_false, not_false_eq_true, false_imp_iff, true_imp_iff, aup_o, aup_k, ite_true, ite_false, z_fa000, z_fa001, z_fa010, z_fa011, z_fa100, z_fa101, z_fa110, z_fa111, if_true, if_false, e]
      have e2 : n + -1 = n - 1 := by omega
      rw [e2]
      refine ih h (by omega) (by omega) (fun i a b => ?_)
      by_cases e3 : i = n - 1
      · rw [e3]; exact hh
      · exact hn i (by omega) b
  · simp +contextual (disch := omega) only [z_app, z_rd, z_cl, z_add, z_sub, z_mul, z_neg, z_lit, z_leT, z_leF, z_ltT, z_ltF, z_eqT, z_eqF, i_leT, i_leF, i_ltT, i_ltF, i_eqT, i_eqF, z_le, z_lt, z_eq, z_ite, z_at, z_pt, z_up, z_wr, z_wi1, z_wi0, z_wi, z_inS, z_toInt, z_nb0, z_nb1, Int.cast_ofNat_Int, true_and, and_true, not_true_eq_false, not_false_eq_true, false_imp_iff, true_imp_iff, aup_o, aup_k, ite_true, ite_false, z_fa000, z_fa001, z_fa010, z_fa011, z_fa100, z_fa101, z_fa110, z_fa111, if_true, if_false]
    rw [cb_zero V0.1 (fun i a b => hn i (by omega) b)] at hQ
    exact hQ
theorem k_countShownBefore (hw : qWF g) (hJ : jJ s) {t p : Int} (t0 : 0 ≤ t) (t1 : t < 4) (p0 : 0 ≤ p) (p1 : p ≤ 400) (hQ : Q (iI (cbS s t p)) (qi s)) : qC g (d + 1) mX0_countShownBefore [.inr 26, .inl (iI t), .inl (iI p), .inr 2] (qi s) Q T := by
  have V0 := (hJ.2.2.2.2.1 t t0 t1).1
  refine wX0_countShownBefore hw ?_
  simp +contextual (disch := omega) only [z_app, z_rd, z_cl, z_add, z_sub, z_mul, z_neg, z_lit, z_leT, z_leF, z_ltT, z_ltF, z_eqT, z_eqF, i_leT, i_leF, i_ltT, i_ltF, i_eqT, i_eqF, z_le, z_lt, z_eq, z_ite, z_at, z_pt, z_up, z_wr, z_wi1, z_wi0, z_wi, z_inS, z_toInt, z_nb0, z_nb1, Int.cast_ofNat_Int, true_and, and_true, not_true_eq_false, not_false_eq_true, false_imp_iff, true_imp_iff, aup_o, aup_k, ite_true, ite_false, z_fa000, z_fa001, z_fa010, z_fa011, z_fa100, z_fa101, z_fa110, z_fa111, if_true, if_false]
  exact k_countShownBefore_l hw hJ t0 t1 p0 p1 hQ _ (by omega) (by omega) (fun i a b => by omega)
theorem m_visibleAt_l (hw : qWF g) (hJ : jJ s) (hr : rL s a) {t p : Int} (t0 : 0 ≤ t) (t1 : t < 4) (p0 : 0 ≤ p) (p1 : p ≤ 400) : ∀ i x : Int, 0 ≤ i → i ≤ s 30 t → Q (iI (x + sI (fun i => if s 18 (s 28 (400 * t + i)) < p then 1 else 0) i (s 30 t))) (qi a) → qV g mX10_visibleAt (d + 2) 0 40 [some (.inr 86), some (.inl (iI p)), some (.inl (iI t)), some (.inl (iI x)), some (.inl (iI i))] [] (qi a) Q T := by
  have B := jb hJ
  have V0 := (hJ.2.2.2.2.1 t t0 t1).1
  refine stepUp (s 30 t) (fun i ih x i0 i1 hQ => wX10_visibleAt_40 hw ?_)
  by_cases h : i < s 30 t
  · have V := jv hJ (t := t) (i := i) t0 t1 (by omega) (by omega)
    have E := jve hJ (t := t) (i := i) t0 t1 (by omega) (by omega)
    rw [sI_f _ h, ← Int.add_assoc] at hQ
    simp +contextual (disch := omega) only [z_app, z_rd, z_cl, z_add, z_sub, z_mul, z_neg, z_lit, z_leT, z_leF, z_ltT, z_ltF, z_eqT, z_eqF, i_leT, i_leF, i_ltT, i_ltF, i_eqT, i_eqF, z_le, z_lt, z_eq, z_ite, z_at, z_pt, z_up, z_wr, z_wi1, z_wi0, z_wi, z_inS, z_toInt, z_nb0, z_nb1, Int.cast_ofNat_Int, true_and, and_true, not_true_eq_false, not_false_eq_true, false_imp_iff, true_imp_iff, aup_o, aup_k, ite_true, ite_false, z_fa000, z_fa001, z_fa010, z_fa011, z_fa100, z_fa101, z_fa110, z_fa111, if_true, if_false, rs_3 hr, rs_4 hr, rs_5 hr, rs_15 hr, rs_16 hr, rs_19 hr, rs_20 hr, rs_27 hr, rs_28 hr, rs_34 hr, rr_88 hr, rr_89 hr, rr_90 hr, rr_91 hr, rr_92 hr, rr_93 hr, rr_94 hr, rr_95 hr, rr_96 hr, rg_97 hr, rg_98 hr, rt_99 hr, rv_100 hr, rv_101 hr, rc_102 hr, rc_103 hr, rp_104 hr]
    refine m_recordOf hw hr t0 t1 i0 h (by omega) ?_
    by_cases hh : s 18 (s 28 (400 * t + i)) < p
    · rw [if_pos hh] at hQ
      simp +contextual (disch := omega) only [z_app, z_rd, z_cl, z_add, z_sub, z_mul, z_neg, z_lit, z_leT, z_leF, z_ltT, z_ltF, z_eqT, z_eqF, i_leT, i_leF, i_ltT, i_ltF, i_eqT, i_eqF, z_le, z_lt, z_eq, z_ite, z_at, z_pt, z_up, z_wr, z_wi1, z_wi0, z_wi, z_inS, z_toInt, z_nb0, z_nb1, Int.cast_ofNat_Int, true_and, and_true, not_true_eq_false, not_false_eq_true, false_imp_iff, true_imp_iff, aup_o, aup_k, ite_true, ite_false, z_fa000, z_fa001, z_fa010, z_fa011, z_fa100, z_fa101, z_fa110, z_fa111, if_true, if_false, rs_3 hr, rs_4 hr, rs_5 hr, rs_15 hr, rs_16 hr, rs_19 hr, rs_20 hr, rs_27 hr, rs_28 hr, rs_34 hr, rr_88 hr, rr_89 hr, rr_90 hr, rr_91 hr, rr_92 hr, rr_93 hr, rr_94 hr, rr_95 hr, rr_96 hr, rg_97 hr, rg_98 hr, rt_99 hr, rv_100 hr, rv_101 hr, rc_102 hr, rc_103 hr, rp_104 hr]
      exact ih h _ (by omega) (by omega) hQ
    · rw [if_neg hh] at hQ
      simp +contextual (disch := omega) only [z_app, z_rd, z_cl, z_add, z_sub, z_mul, z_neg, z_lit, z_leT, z_leF, z_ltT, z_ltF, z_eqT, z_eqF, i_leT, i_leF, i_ltT, i_ltF, i_eqT, i_eqF, z_le, z_lt, z_eq, z_ite, z_at, z_pt, z_up, z_wr, z_wi1, z_wi0, z_wi, z_inS, z_toInt, z_nb0, z_nb1, Int.cast_ofNat_Int, true_and, and_true, not_true_eq_false, not_false_eq_true, false_imp_iff, true_imp_iff, aup_o, aup_k, ite_true, ite_false, z_fa000, z_fa001, z_fa010, z_fa011, z_fa100, z_fa101, z_fa110, z_fa111, if_true, if_false, rs_3 hr, rs_4 hr, rs_5 hr, rs_15 hr, rs_16 hr, rs_19 hr, rs_20 hr, rs_27 hr, rs_28 hr, rs_34 hr, rr_88 hr, rr_89 hr, rr_90 hr, rr_91 hr, rr_92 hr, rr_93 hr, rr_94 hr, rr_95 hr, rr_96 hr, rg_97 hr, rg_98 hr, rt_99 hr, rv_100 hr, rv_101 hr, rc_102 hr, rc_103 hr, rp_104 hr]
      exact ih h _ (by omega) (by omega) hQ
  · simp +contextual (disch := omega) only [z_app, z_rd, z_cl, z_add, z_sub, z_mul, z_neg, z_lit, z_leT, z_leF, z_ltT, z_ltF, z_eqT, z_eqF, i_leT, i_leF, i_ltT, i_ltF, i_eqT, i_eqF, z_le, z_lt, z_eq, z_ite, z_at, z_pt, z_up, z_wr, z_wi1, z_wi0, z_wi, z_inS, z_toInt, z_nb0, z_nb1, Int.cast_ofNat_Int, true_and, and_true, not_true_eq_false, not_false_eq_true, false_imp_iff, true_imp_iff, aup_o, aup_k, ite_true, ite_false, z_fa000, z_fa001, z_fa010, z_fa011, z_fa100, z_fa101, z_fa110, z_fa111, if_true, if_false, rs_3 hr, rs_4 hr, rs_5 hr, rs_15 hr, rs_16 hr, rs_19 hr, rs_20 hr, rs_27 hr, rs_28 hr, rs_34 hr, rr_88 hr, rr_89 hr, rr_90 hr, rr_91 hr, rr_92 hr, rr_93 hr, rr_94 hr, rr_95 hr, rr_96 hr, rg_97 hr, rg_98 hr, rt_99 hr, rv_100 hr, rv_101 hr, rc_102 hr, rc_103 hr, rp_104 hr]
    rw [sI_e (by omega), Int.add_zero] at hQ
    exact hQ
theorem k_positionBefore_l (hw : qWF g) (hJ : jJ s) {c p : Int} (c0 : 0 ≤ c) (c1 : c < 6) : ∀ (k : Int) (o : Option qP), s 1 11 ≤ k + 1 → k < s 2 9 → Q (iI (pfS s c (s 1 11) (k + 1) (s 38 c))) (qi s) → qV g mX2_positionBefore (d + 1) 0 4 [some (.inr 1), some (.inl (iI p)), some (.inl (iI c)), some (.inl (iI k)), o] [] (qi s) Q T := by
  have B := jb hJ
  refine stepDown (s 1 11 - 1) (fun k ih o k0 k1 hQ => wX2_positionBefore_4 hw ?_)
  by_cases h : s 1 11 ≤ k
  · have R := (hJ.2.1 k (by omega) k1).1
    have R1 := R.1
    have R2 := R.2.1
    have e2 : k + -1 = k - 1 := by omega
    rw [pf_l (by omega), show k + 1 - 1 = k by omega] at hQ
    by_cases h7 : s 4 k = 7
    · by_cases h8 : s 8 k = c
      · rw [if_pos ⟨h7, h8⟩] at hQ
        simp +contextual (disch := omega) only [z_app, z_rd, z_cl, z_add, z_sub, z_mul, z_neg, z_lit, z_leT, z_leF, z_ltT, z_ltF, z_eqT, z_eqF, i_leT, i_leF, i_ltT, i_ltF, i_eqT, i_eqF, z_le, z_lt, z_eq, z_ite, z_at, z_pt, z_up, z_wr, z_wi1, z_wi0, z_wi, z_inS, z_toInt, z_nb0, z_nb1, Int.cast_ofNat_Int, true_and, and_true, not_true_eq_false, not_false_eq_true, false_imp_iff, true_imp_iff, aup_o, aup_k, ite_true, ite_false, z_fa000, z_fa001, z_fa010, z_fa011, z_fa100, z_fa101, z_fa110, z_fa111, if_true, if_false]
        exact hQ
      · rw [if_neg (fun x => h8 x.2)] at hQ
        simp +contextual (disch := omega) only [z_app, z_rd, z_cl, z_add, z_sub, z_mul, z_neg, z_lit, z_leT, z_leF, z_ltT, z_ltF, z_eqT, z_eqF, i_leT, i_leF, i_ltT, i_ltF, i_eqT, i_eqF, z_le, z_lt, z_eq, z_ite, z_at, z_pt, z_up, z_wr, z_wi1, z_wi0, z_wi, z_inS, z_toInt, z_nb0, z_nb1, Int.cast_ofNat_Int, true_and, and_true, not_true_eq_false, not_false_eq_true, false_imp_iff, true_imp_iff, aup_o, aup_k, ite_true, ite_false, z_fa000, z_fa001, z_fa010, z_fa011, z_fa100, z_fa101, z_fa110, z_fa111, if_true, if_false, e2]
        refine ih (by omega) _ (by omega) (by omega) ?_
        rw [show k - 1 + 1 = k by omega]
        exact hQ
    · rw [if_neg (fun x => h7 x.1)] at hQ
      simp +contextual (disch := omega) only [z_app, z_rd, z_cl, z_add, z_sub, z_mul, z_neg, z_lit, z_leT, z_leF, z_ltT, z_ltF, z_eqT, z_eqF, i_leT, i_leF, i_ltT, i_ltF, i_eqT, i_eqF, z_le, z_lt, z_eq, z_ite, z_at, z_pt, z_up, z_wr, z_wi1, z_wi0, z_wi, z_inS, z_toInt, z_nb0, z_nb1, Int.cast_ofNat_Int, true_and, and_true, not_true_eq_false, not_false_eq_true, false_imp_iff, true_imp_iff, aup_o, aup_k, ite_true, ite_false, z_fa000, z_fa001, z_fa010, z_fa011, z_fa100, z_fa101, z_fa110, z_fa111, if_true, if_false, e2]
      refine ih (by omega) _ (by omega) (by omega) ?_
      rw [show k - 1 + 1 = k by omega]
      exact hQ
  · rw [pf_e (by omega)] at hQ
    simp +contextual (disch := omega) only [z_app, z_rd, z_cl, z_add, z_sub, z_mul, z_neg, z_lit, z_leT, z_leF, z_ltT, z_ltF, z_eqT, z_eqF, i_leT, i_leF, i_ltT, i_ltF, i_eqT, i_eqF, z_le, z_lt, z_eq, z_ite, z_at, z_pt, z_up, z_wr, z_wi1, z_wi0, z_wi, z_inS, z_toInt, z_nb0, z_nb1, Int.cast_ofNat_Int, true_and, and_true, not_true_eq_false, not_false_eq_true, false_imp_iff, true_imp_iff, aup_o, aup_k, ite_true, ite_false, z_fa000, z_fa001, z_fa010, z_fa011, z_fa100, z_fa101, z_fa110, z_fa111, if_true, if_false]
    exact hQ
theorem m_positionAt_l (hw : qWF g) (hJ : jJ s) (hr : rL s a) {c p u : Int} (c0 : 0 ≤ c) (c1 : c < 6) (p1 : p ≤ s 2 9) : ∀ k x : Int, 0 ≤ k → k ≤ p → Q (iI (pfS s c k p x)) (qi a) → qV g mX10_positionAt (d + 1) 0 78 [some (.inr 86), some (.inl (iI p)), some (.inl (iI c)), some (.inl (iI x)), some (.inl (iI u)), some (.inl (iI k))] [] (qi a) Q T := by
  have B := jb hJ
  refine stepUp p (fun k ih x k0 k1 hQ => wX10_positionAt_78 hw ?_)
  by_cases h : k < p
  · have R := (hJ.2.1 k (by omega) (by omega)).1
    have R1 := R.1
    have R2 := R.2.1
    rw [pf_f _ h] at hQ
    by_cases h7 : s 4 k = 7
    · by_cases h8 : s 8 k = c
      · rw [if_pos ⟨h7, h8⟩] at hQ
        simp +contextual (disch := omega) only [z_app, z_rd, z_cl, z_add, z_sub, z_mul, z_neg, z_lit, z_leT, z_leF, z_ltT, z_ltF, z_eqT, z_eqF, i_leT, i_leF, i_ltT, i_ltF, i_eqT, i_eqF, z_le, z_lt, z_eq, z_ite, z_at, z_pt, z_up, z_wr, z_wi1, z_wi0, z_wi, z_inS, z_toInt, z_nb0, z_nb1, Int.cast_ofNat_Int, true_and, and_true, not_true_eq_false, not_false_eq_true, false_imp_iff, true_imp_iff, aup_o, aup_k, ite_true, ite_false, z_fa000, z_fa001, z_fa010, z_fa011, z_fa100, z_fa101, z_fa110, z_fa111, if_true, if_false, rs_3 hr, rs_4 hr, rs_5 hr, rs_15 hr, rs_16 hr, rs_19 hr, rs_20 hr, rs_27 hr, rs_28 hr, rs_34 hr, rr_88 hr, rr_89 hr, rr_90 hr, rr_91 hr, rr_92 hr, rr_93 hr, rr_94 hr, rr_95 hr, rr_96 hr, rg_97 hr, rg_98 hr, rt_99 hr, rv_100 hr, rv_101 hr, rc_102 hr, rc_103 hr, rp_104 hr]
        exact ih h _ (by omega) (by omega) hQ
      · rw [if_neg (fun x => h8 x.2)] at hQ
        simp +contextual (disch := omega) only [z_app, z_rd, z_cl, z_add, z_sub, z_mul, z_neg, z_lit, z_leT, z_leF, z_ltT, z_ltF, z_eqT, z_eqF, i_leT, i_leF, i_ltT, i_ltF, i_eqT, i_eqF, z_le, z_lt, z_eq, z_ite, z_at, z_pt, z_up, z_wr, z_wi1, z_wi0, z_wi, z_inS, z_toInt, z_nb0, z_nb1, Int.cast_ofNat_Int, true_and, and_true, not_true_eq_false, not_false_eq_true, false_imp_iff, true_imp_iff, aup_o, aup_k, ite_true, ite_false, z_fa000, z_fa001, z_fa010, z_fa011, z_fa100, z_fa101, z_fa110, z_fa111, if_true, if_false, rs_3 hr, rs_4 hr, rs_5 hr, rs_15 hr, rs_16 hr, rs_19 hr, rs_20 hr, rs_27 hr, rs_28 hr, rs_34 hr, rr_88 hr, rr_89 hr, rr_90 hr, rr_91 hr, rr_92 hr, rr_93 hr, rr_94 hr, rr_95 hr, rr_96 hr, rg_97 hr, rg_98 hr, rt_99 hr, rv_100 hr, rv_101 hr, rc_102 hr, rc_103 hr, rp_104 hr]
        exact ih h _ (by omega) (by omega) hQ
    · rw [if_neg (fun x => h7 x.1)] at hQ
      simp +contextual (disch := omega) only [z_app, z_rd, z_cl, z_add, z_sub, z_mul, z_neg, z_lit, z_leT, z_leF, z_ltT, z_ltF, z_eqT, z_eqF, i_leT, i_leF, i_ltT, i_ltF, i_eqT, i_eqF, z_le, z_lt, z_eq, z_ite, z_at, z_pt, z_up, z_wr, z_wi1, z_wi0, z_wi, z_inS, z_toInt, z_nb0, z_nb1, Int.cast_ofNat_Int, true_and, and_true, not_true_eq_false, not_false_eq_true, false_imp_iff, true_imp_iff, aup_o, aup_k, ite_true, ite_false, z_fa000, z_fa001, z_fa010, z_fa011, z_fa100, z_fa101, z_fa110, z_fa111, if_true, if_false, rs_3 hr, rs_4 hr, rs_5 hr, rs_15 hr, rs_16 hr, rs_19 hr, rs_20 hr, rs_27 hr, rs_28 hr, rs_34 hr, rr_88 hr, rr_89 hr, rr_90 hr, rr_91 hr, rr_92 hr, rr_93 hr, rr_94 hr, rr_95 hr, rr_96 hr, rg_97 hr, rg_98 hr, rt_99 hr, rv_100 hr, rv_101 hr, rc_102 hr, rc_103 hr, rp_104 hr]
      exact ih h _ (by omega) (by omega) hQ
  · simp +contextual (disch := omega) only [z_app, z_rd, z_cl, z_add, z_sub, z_mul, z_neg, z_lit, z_leT, z_leF, z_ltT, z_ltF, z_eqT, z_eqF, i_leT, i_leF, i_ltT, i_ltF, i_eqT, i_eqF, z_le, z_lt, z_eq, z_ite, z_at, z_pt, z_up, z_wr, z_wi1, z_wi0, z_wi, z_inS, z_toInt, z_nb0, z_nb1, Int.cast_ofNat_Int, true_and, and_true, not_true_eq_false, not_false_eq_true, false_imp_iff, true_imp_iff, aup_o, aup_k, ite_true, ite_false, z_fa000, z_fa001, z_fa010, z_fa011, z_fa100, z_fa101, z_fa110, z_fa111, if_true, if_false, rs_3 hr, rs_4 hr, rs_5 hr, rs_15 hr, rs_16 hr, rs_19 hr, rs_20 hr, rs_27 hr, rs_28 hr, rs_34 hr, rr_88 hr, rr_89 hr, rr_90 hr, rr_91 hr, rr_92 hr, rr_93 hr, rr_94 hr, rr_95 hr, rr_96 hr, rg_97 hr, rg_98 hr, rt_99 hr, rv_100 hr, rv_101 hr, rc_102 hr, rc_103 hr, rp_104 hr]
    rw [pf_e (by omega)] at hQ
    exact hQ
theorem m_wouldFree_l (hw : qWF g) (hJ : jJ s) (hr : rL s a) {u n : Int} (n0 : 0 ≤ n) (n1 : n ≤ s 21 3 - s 21 2) : ∀ k x : Int, 0 ≤ k → k ≤ n → Q (iI (x + sI (s 25) (s 21 2 + k) (s 21 2 + n))) (qi a) → qV g mX10_wouldFree (d + 3) 0 39 [some (.inr 86), some (.inl (iI u)), some (.inl (iI n)), some (.inl (iI x)), some (.inl (iI k))] [] (qi a) Q T := by
  have B := jb hJ
  refine stepUp n (fun k ih x k0 k1 hQ => wX10_wouldFree_39 hw ?_)
  by_cases h : k < n
  · rw [sI_f _ (by omega), ← Int.add_assoc] at hQ
    simp +contextual (disch := omega) only [z_app, z_rd, z_cl, z_add, z_sub, z_mul, z_neg, z_lit, z_leT, z_leF, z_ltT, z_ltF, z_eqT, z_eqF, i_leT, i_leF, i_ltT, i_ltF, i_eqT, i_eqF, z_le, z_lt, z_eq, z_ite, z_at, z_pt, z_up, z_wr, z_wi1, z_wi0, z_wi, z_inS, z_toInt, z_nb0, z_nb1, Int.cast_ofNat_Int, true_and, and_true, not_true_eq_false, not_false_eq_true, false_imp_iff, true_imp_iff, aup_o, aup_k, ite_true, ite_false, z_fa000, z_fa001, z_fa010, z_fa011, z_fa100, z_fa101, z_fa110, z_fa111, if_true, if_false, rs_3 hr, rs_4 hr, rs_5 hr, rs_15 hr, rs_16 hr, rs_19 hr, rs_20 hr, rs_27 hr, rs_28 hr, rs_34 hr, rr_88 hr, rr_89 hr, rr_90 hr, rr_91 hr, rr_92 hr, rr_93 hr, rr_94 hr, rr_95 hr, rr_96 hr, rg_97 hr, rg_98 hr, rt_99 hr, rv_100 hr, rv_101 hr, rc_102 hr, rc_103 hr, rp_104 hr]
    refine m_bytesOf hw hJ hr k0 (by omega) ?_
    simp +contextual (disch := omega) only [z_app, z_rd, z_cl, z_add, z_sub, z_mul, z_neg, z_lit, z_leT, z_leF, z_ltT, z_ltF, z_eqT, z_eqF, i_leT, i_leF, i_ltT, i_ltF, i_eqT, i_eqF, z_le, z_lt, z_eq, z_ite, z_at, z_pt, z_up, z_wr, z_wi1, z_wi0, z_wi, z_inS, z_toInt, z_nb0, z_nb1, Int.cast_ofNat_Int, true_and, and_true, not_true_eq_false, not_false_eq_true, false_imp_iff, true_imp_iff, aup_o, aup_k, ite_true, ite_false, z_fa000, z_fa001, z_fa010, z_fa011, z_fa100, z_fa101, z_fa110, z_fa111, if_true, if_false, rs_3 hr, rs_4 hr, rs_5 hr, rs_15 hr, rs_16 hr, rs_19 hr, rs_20 hr, rs_27 hr, rs_28 hr, rs_34 hr, rr_88 hr, rr_89 hr, rr_90 hr, rr_91 hr, rr_92 hr, rr_93 hr, rr_94 hr, rr_95 hr, rr_96 hr, rg_97 hr, rg_98 hr, rt_99 hr, rv_100 hr, rv_101 hr, rc_102 hr, rc_103 hr, rp_104 hr]
    refine ih h _ (by omega) (by omega) ?_
    rw [← Int.add_assoc]
    exact hQ
  · simp +contextual (disch := omega) only [z_app, z_rd, z_cl, z_add, z_sub, z_mul, z_neg, z_lit, z_leT, z_leF, z_ltT, z_ltF, z_eqT, z_eqF, i_leT, i_leF, i_ltT, i_ltF, i_eqT, i_eqF, z_le, z_lt, z_eq, z_ite, z_at, z_pt, z_up, z_wr, z_wi1, z_wi0, z_wi, z_inS, z_toInt, z_nb0, z_nb1, Int.cast_ofNat_Int, true_and, and_true, not_true_eq_false, not_false_eq_true, false_imp_iff, true_imp_iff, aup_o, aup_k, ite_true, ite_false, z_fa000, z_fa001, z_fa010, z_fa011, z_fa100, z_fa101, z_fa110, z_fa111, if_true, if_false, rs_3 hr, rs_4 hr, rs_5 hr, rs_15 hr, rs_16 hr, rs_19 hr, rs_20 hr, rs_27 hr, rs_28 hr, rs_34 hr, rr_88 hr, rr_89 hr, rr_90 hr, rr_91 hr, rr_92 hr, rr_93 hr, rr_94 hr, rr_95 hr, rr_96 hr, rg_97 hr, rg_98 hr, rt_99 hr, rv_100 hr, rv_101 hr, rc_102 hr, rc_103 hr, rp_104 hr]
    rw [sI_e (by omega), Int.add_zero] at hQ
    exact hQ
theorem m_slowest_l (hw : qWF g) (hJ : jJ s) (hr : rL s a) : ∀ c b : Int, 0 ≤ c → c ≤ s 26 6 → -1 ≤ b → b < s 26 6 → (lhS s c b = -1 → Q (iI 0) (qi (aup a 86 0 1))) → (lhS s c b ≠ -1 → Q (iI (lhS s c b)) (qi (aup a 86 0 0))) → qV g mX10_slowest (d + 3) 0 4 [some (.inr 86), some (.inl (iI b)), some (.inl (iI c))] [] (qi a) Q T := by
  have B := jb hJ
  refine stepUp (s 26 6) (fun c ih b c0 c1 b0 b1 h1 h2 => wX10_slowest_4 hw ?_)
  by_cases h : c < s 26 6
  · have H := hd_b hJ c0 h
    rw [lh_f h] at h1 h2
    by_cases hb : b = -1
    · rw [if_pos (Or.inl hb)] at h1 h2
      simp +contextual (disch := omega) only [z_app, z_rd, z_cl, z_add, z_sub, z_mul, z_neg, z_lit, z_leT, z_leF, z_ltT, z_ltF, z_eqT, z_eqF, i_leT, i_leF, i_ltT, i_ltF, i_eqT, i_eqF, z_le, z_lt, z_eq, z_ite, z_at, z_pt, z_up, z_wr, z_wi1, z_wi0, z_wi, z_inS, z_toInt, z_nb0, z_nb1, Int.cast_ofNat_Int, true_and, and_true, not_true_eq_false, not_false_eq_true, false_imp_iff, true_imp_iff, aup_o, aup_k, ite_true, ite_false, z_fa000, z_fa001, z_fa010, z_fa011, z_fa100, z_fa101, z_fa110, z_fa111, if_true, if_false, rs_3 hr, rs_4 hr, rs_5 hr, rs_15 hr, rs_16 hr, rs_19 hr, rs_20 hr, rs_27 hr, rs_28 hr, rs_34 hr, rr_88 hr, rr_89 hr, rr_90 hr, rr_91 hr, rr_92 hr, rr_93 hr, rr_94 hr, rr_95 hr, rr_96 hr, rg_97 hr, rg_98 hr, rt_99 hr, rv_100 hr, rv_101 hr, rc_102 hr, rc_103 hr, rp_104 hr]
      exact ih h _ (by omega) (by omega) (by omega) (by omega) h1 h2
    · simp +contextual (disch := omega) only [z_app, z_rd, z_cl, z_add, z_sub, z_mul, z_neg, z_lit, z_leT, z_leF, z_ltT, z_ltF, z_eqT, z_eqF, i_leT, i_leF, i_ltT, i_ltF, i_eqT, i_eqF, z_le, z_lt, z_eq, z_ite, z_at, z_pt, z_up, z_wr, z_wi1, z_wi0, z_wi, z_inS, z_toInt, z_nb0, z_nb1, Int.cast_ofNat_Int, true_and, and_true, not_true_eq_false, not_false_eq_true, false_imp_iff, true_imp_iff, aup_o, aup_k, ite_true, ite_false, z_fa000, z_fa001, z_fa010, z_fa011, z_fa100, z_fa101, z_fa110, z_fa111, if_true, if_false, rs_3 hr, rs_4 hr, rs_5 hr, rs_15 hr, rs_16 hr, rs_19 hr, rs_20 hr, rs_27 hr, rs_28 hr, rs_34 hr, rr_88 hr, rr_89 hr, rr_90 hr, rr_91 hr, rr_92 hr, rr_93 hr, rr_94 hr, rr_95 hr, rr_96 hr, rg_97 hr, rg_98 hr, rt_99 hr, rv_100 hr, rv_101 hr, rc_102 hr, rc_103 hr, rp_104 hr]
      refine m_holdOf hw hJ hr c0 h ?_
      refine m_holdOf hw hJ hr (by omega) b1 ?_
      have H2 := hd_b hJ (c := b) (by omega) b1
      by_cases hh : hdS s c < hdS s b
      · rw [if_pos (Or.inr hh)] at h1 h2
        simp +contextual (disch := omega) only [z_app, z_rd, z_cl, z_add, z_sub, z_mul, z_neg, z_lit, z_leT, z_leF, z_ltT, z_ltF, z_eqT, z_eqF, i_leT, i_leF, i_ltT, i_ltF, i_eqT, i_eqF, z_le, z_lt, z_eq, z_ite, z_at, z_pt, z_up, z_wr, z_wi1, z_wi0, z_wi, z_inS, z_toInt, z_nb0, z_nb1, Int.cast_ofNat_Int, true_and, and_true, not_true_eq_false, not_false_eq_true, false_imp_iff, true_imp_iff, aup_o, aup_k, ite_true, ite_false, z_fa000, z_fa001, z_fa010, z_fa011, z_fa100, z_fa101, z_fa110, z_fa111, if_true, if_false, rs_3 hr, rs_4 hr, rs_5 hr, rs_15 hr, rs_16 hr, rs_19 hr, rs_20 hr, rs_27 hr, rs_28 hr, rs_34 hr, rr_88 hr, rr_89 hr, rr_90 hr, rr_91 hr, rr_92 hr, rr_93 hr, rr_94 hr, rr_95 hr, rr_96 hr, rg_97 hr, rg_98 hr, rt_99 hr, rv_100 hr, rv_101 hr, rc_102 hr, rc_103 hr, rp_104 hr]
        exact ih h _ (by omega) (by omega) (by omega) (by omega) h1 h2
      · rw [if_neg (by omega)] at h1 h2
        simp +contextual (disch := omega) only [z_app, z_rd, z_cl, z_add, z_sub, z_mul, z_neg, z_lit, z_leT, z_leF, z_ltT, z_ltF, z_eqT, z_eqF, i_leT, i_leF, i_ltT, i_ltF, i_eqT, i_eqF, z_le, z_lt, z_eq, z_ite, z_at, z_pt, z_up, z_wr, z_wi1, z_wi0, z_wi, z_inS, z_toInt, z_nb0, z_nb1, Int.cast_ofNat_Int, true_and, and_true, not_true_eq_false, not_false_eq_true, false_imp_iff, true_imp_iff, aup_o, aup_k, ite_true, ite_false, z_fa000, z_fa001, z_fa010, z_fa011, z_fa100, z_fa101, z_fa110, z_fa111, if_true, if_false, rs_3 hr, rs_4 hr, rs_5 hr, rs_15 hr, rs_16 hr, rs_19 hr, rs_20 hr, rs_27 hr, rs_28 hr, rs_34 hr, rr_88 hr, rr_89 hr, rr_90 hr, rr_91 hr, rr_92 hr, rr_93 hr, rr_94 hr, rr_95 hr, rr_96 hr, rg_97 hr, rg_98 hr, rt_99 hr, rv_100 hr, rv_101 hr, rc_102 hr, rc_103 hr, rp_104 hr]
        exact ih h _ (by omega) (by omega) (by omega) (by omega) h1 h2
  · rw [lh_e (by omega)] at h1 h2
    by_cases hb : b = -1
    · simp +contextual (disch := omega) only [z_app, z_rd, z_cl, z_add, z_sub, z_mul, z_neg, z_lit, z_leT, z_leF, z_ltT, z_ltF, z_eqT, z_eqF, i_leT, i_leF, i_ltT, i_ltF, i_eqT, i_eqF, z_le, z_lt, z_eq, z_ite, z_at, z_pt, z_up, z_wr, z_wi1, z_wi0, z_wi, z_inS, z_toInt, z_nb0, z_nb1, Int.cast_ofNat_Int, true_and, and_true, not_true_eq_false, not_false_eq_true, false_imp_iff, true_imp_iff, aup_o, aup_k, ite_true, ite_false, z_fa000, z_fa001, z_fa010, z_fa011, z_fa100, z_fa101, z_fa110, z_fa111, if_true, if_false, rs_3 hr, rs_4 hr, rs_5 hr, rs_15 hr, rs_16 hr, rs_19 hr, rs_20 hr, rs_27 hr, rs_28 hr, rs_34 hr, rr_88 hr, rr_89 hr, rr_90 hr, rr_91 hr, rr_92 hr, rr_93 hr, rr_94 hr, rr_95 hr, rr_96 hr, rg_97 hr, rg_98 hr, rt_99 hr, rv_100 hr, rv_101 hr, rc_102 hr, rc_103 hr, rp_104 hr]
      exact h1 hb
    · simp +contextual (disch := omega) only [z_app, z_rd, z_cl, z_add, z_sub, z_mul, z_neg, z_lit, z_leT, z_leF, z_ltT, z_ltF, z_eqT, z_eqF, i_leT, i_leF, i_ltT, i_ltF, i_eqT, i_eqF, z_le, z_lt, z_eq, z_ite, z_at, z_pt, z_up, z_wr, z_wi1, z_wi0, z_wi, z_inS, z_toInt, z_nb0, z_nb1, Int.cast_ofNat_Int, true_and, and_true, not_true_eq_false, not_false_eq_true, false_imp_iff, true_imp_iff, aup_o, aup_k, ite_true, ite_false, z_fa000, z_fa001, z_fa010, z_fa011, z_fa100, z_fa101, z_fa110, z_fa111, if_true, if_false, rs_3 hr, rs_4 hr, rs_5 hr, rs_15 hr, rs_16 hr, rs_19 hr, rs_20 hr, rs_27 hr, rs_28 hr, rs_34 hr, rr_88 hr, rr_89 hr, rr_90 hr, rr_91 hr, rr_92 hr, rr_93 hr, rr_94 hr, rr_95 hr, rr_96 hr, rg_97 hr, rg_98 hr, rt_99 hr, rv_100 hr, rv_101 hr, rc_102 hr, rc_103 hr, rp_104 hr]
      exact h2 hb
end G2
