/-! ===== what the reading methods of the class answer ===== -/
section KR
variable {g : qG} {s : aS} {d : Nat} {Q : Int32 → qS → Prop} {T : String → qS → Prop}
theorem k_unreadOf (hw : qWF g) (hJ : jJ s) {c : Int} (c0 : 0 ≤ c) (c1 : c < s 26 6) (hQ : Q (iI (s 30 (s 32 c) - s 34 c)) (qi s)) : qC g (d + 1) mX0_unreadOf [.inr 26, .inl (iI c)] (qi s) Q T := by
  have B := jb hJ
  have C := jc hJ c0 c1
  refine wX0_unreadOf hw ?_
  simp +contextual (disch := omega) only [z_app, z_rd, z_cl, z_add, z_sub, z_mul, z_neg, z_lit, z_leT, z_leF, z_ltT, z_ltF, z_eqT, z_eqF, i_leT, i_leF, i_ltT, i_ltF, i_eqT, i_eqF, z_le, z_lt, z_eq, z_ite, z_at, z_pt, z_up, z_wr, z_wi1, z_wi0, z_wi, z_inS, z_toInt, z_nb0, z_nb1, Int.cast_ofNat_Int, true_and, and_true, not_true_eq_false, not_false_eq_true, false_imp_iff, true_imp_iff, aup_o, aup_k, ite_true, ite_false, z_fa000, z_fa001, z_fa010, z_fa011, z_fa100, z_fa101, z_fa110, z_fa111, if_true, if_false]
  exact hQ
theorem k_spilledOf (hw : qWF g) (hJ : jJ s) {c : Int} (c0 : 0 ≤ c) (c1 : c < s 26 6) (hQ : Q (iI (spS s c)) (qi s)) : qC g (d + 1) mX0_spilledOf [.inr 26, .inl (iI c)] (qi s) Q T := by
  have B := jb hJ
  have C := jc hJ c0 c1
  refine wX0_spilledOf hw ?_
  unfold spS at hQ
  by_cases h : s 36 c - s 34 c ≤ 0
  · rw [if_pos h] at hQ
    simp +contextual (disch := omega) only [z_app, z_rd, z_cl, z_add, z_sub, z_mul, z_neg, z_lit, z_leT, z_leF, z_ltT, z_ltF, z_eqT, z_eqF, i_leT, i_leF, i_ltT, i_ltF, i_eqT, i_eqF, z_le, z_lt, z_eq, z_ite, z_at, z_pt, z_up, z_wr, z_wi1, z_wi0, z_wi, z_inS, z_toInt, z_nb0, z_nb1, Int.cast_ofNat_Int, true_and, and_true, not_true_eq_false, not_false_eq_true, false_imp_iff, true_imp_iff, aup_o, aup_k, ite_true, ite_false, z_fa000, z_fa001, z_fa010, z_fa011, z_fa100, z_fa101, z_fa110, z_fa111, if_true, if_false]
    exact hQ
  · rw [if_neg h] at hQ
    simp +contextual (disch := omega) only [z_app, z_rd, z_cl, z_add, z_sub, z_mul, z_neg, z_lit, z_leT, z_leF, z_ltT, z_ltF, z_eqT, z_eqF, i_leT, i_leF, i_ltT, i_ltF, i_eqT, i_eqF, z_le, z_lt, z_eq, z_ite, z_at, z_pt, z_up, z_wr, z_wi1, z_wi0, z_wi, z_inS, z_toInt, z_nb0, z_nb1, Int.cast_ofNat_Int, true_and, and_true, not_true_eq_false, not_false_eq_true, false_imp_iff, true_imp_iff, aup_o, aup_k, ite_true, ite_false, z_fa000, z_fa001, z_fa010, z_fa011, z_fa100, z_fa101, z_fa110, z_fa111, if_true, if_false]
    exact hQ
theorem k_spilledInAll_l (hw : qWF g) (hJ : jJ s) : ∀ c x : Int, 0 ≤ c → c ≤ s 26 6 → Q (iI (x + sI (spS s) c (s 26 6))) (qi s) → qV g mX0_spilledInAll (d + 2) 0 4 [some (.inr 26), some (.inl (iI x)), some (.inl (iI c))] [] (qi s) Q T := by
  have B := jb hJ
  refine stepUp (s 26 6) (fun c ih x c0 c1 hQ => wX0_spilledInAll_4 hw ?_)
  by_cases h : c < s 26 6
  · simp +contextual (disch := omega) only [z_app, z_rd, z_cl, z_add, z_sub, z_mul, z_neg, z_lit, z_leT, z_leF, z_ltT, z_ltF, z_eqT, z_eqF, i_leT, i_leF, i_ltT, i_ltF, i_eqT, i_eqF, z_le, z_lt, z_eq, z_ite, z_at, z_pt, z_up, z_wr, z_wi1, z_wi0, z_wi, z_inS, z_toInt, z_nb0, z_nb1, Int.cast_ofNat_Int, true_and, and_true, not_true_eq_false, not_false_eq_true, false_imp_iff, true_imp_iff, aup_o, aup_k, ite_true, ite_false, z_fa000, z_fa001, z_fa010, z_fa011, z_fa100, z_fa101, z_fa110, z_fa111, if_true, if_false]
    rw [sI_f _ h, ← Int.add_assoc] at hQ
    refine k_spilledOf hw hJ c0 h ?_
    simp +contextual (disch := omega) only [z_app, z_rd, z_cl, z_add, z_sub, z_mul, z_neg, z_lit, z_leT, z_leF, z_ltT, z_ltF, z_eqT, z_eqF, i_leT, i_leF, i_ltT, i_ltF, i_eqT, i_eqF, z_le, z_lt, z_eq, z_ite, z_at, z_pt, z_up, z_wr, z_wi1, z_wi0, z_wi, z_inS, z_toInt, z_nb0, z_nb1, Int.cast_ofNat_Int, true_and, and_true, not_true_eq_false, not_false_eq_true, false_imp_iff, true_imp_iff, aup_o, aup_k, ite_true, ite_false, z_fa000, z_fa001, z_fa010, z_fa011, z_fa100, z_fa101, z_fa110, z_fa111, if_true, if_false]
    exact ih h _ (by omega) (by omega) hQ
  · simp +contextual (disch := omega) only [z_app, z_rd, z_cl, z_add, z_sub, z_mul, z_neg, z_lit, z_leT, z_leF, z_ltT, z_ltF, z_eqT, z_eqF, i_leT, i_leF, i_ltT, i_ltF, i_eqT, i_eqF, z_le, z_lt, z_eq, z_ite, z_at, z_pt, z_up, z_wr, z_wi1, z_wi0, z_wi, z_inS, z_toInt, z_nb0, z_nb1, Int.cast_ofNat_Int, true_and, and_true, not_true_eq_false, not_false_eq_true, false_imp_iff, true_imp_iff, aup_o, aup_k, ite_true, ite_false, z_fa000, z_fa001, z_fa010, z_fa011, z_fa100, z_fa101, z_fa110, z_fa111, if_true, if_false]
    rw [sI_e (by omega), Int.add_zero] at hQ
    exact hQ
theorem k_spilledInAll (hw : qWF g) (hJ : jJ s) (hQ : Q (iI (sI (spS s) 0 (s 26 6))) (qi s)) : qC g (d + 2) mX0_spilledInAll [.inr 26] (qi s) Q T := by
  have B := jb hJ
  refine wX0_spilledInAll hw ⟨rfl, k_spilledInAll_l hw hJ 0 0 (by omega) (by omega) ?_⟩
  rw [Int.zero_add]
  exact hQ
theorem k_holdOf_l (hw : qWF g) (hJ : jJ s) {c : Int} (c0 : 0 ≤ c) (c1 : c < s 26 6) {u : Int} : ∀ (k x : Int) (o : Option qP), 0 ≤ k → k ≤ s 30 (s 32 c) → 0 ≤ x → x ≤ 400 → Q (iI (mI (fun i => s 28 (400 * s 32 c + i)) k (s 30 (s 32 c)) x)) (qi s) → qV g mX0_holdOf (d + 1) 0 70 [some (.inr 26), some (.inl (iI c)), some (.inl (iI (s 2 9))), some (.inl (iI (s 32 c * 400))), some (.inl (iI (s 30 (s 32 c)))), some (.inl (iI u)), some (.inl (iI x)), some (.inl (iI k)), o] [] (qi s) Q T := by
  have B := jb hJ
  have C := jc hJ c0 c1
  refine stepUp (s 30 (s 32 c)) (fun k ih x o k0 k1 x0 x1 hQ => wX0_holdOf_70 hw ?_)
  by_cases h : k < s 30 (s 32 c)
  · have V := jv hJ (t := s 32 c) (i := k) C.1 C.2.1 (by omega) h
    have e : s 32 c * 400 + k = 400 * s 32 c + k := by omega
    rw [mI_f h] at hQ
    unfold mn at hQ
    by_cases hx : x ≤ s 28 (400 * s 32 c + k)
    · simp +contextual (disch := omega) only [z_app, z_rd, z_cl, z_add, z_sub, z_mul, z_neg, z_lit, z_leT, z_leF, z_ltT, z_ltF, z_eqT, z_eqF, i_leT, i_leF, i_ltT, i_ltF, i_eqT, i_eqF, z_le, z_lt, z_eq, z_ite, z_at, z_pt, z_up, z_wr, z_wi1, z_wi0, z_wi, z_inS, z_toInt, z_nb0, z_nb1, Int.cast_ofNat_Int, true_and, and_true, not_true_eq_false, not_false_eq_true, false_imp_iff, true_imp_iff, aup_o, aup_k, ite_true, ite_false, z_fa000, z_fa001, z_fa010, z_fa011, z_fa100, z_fa101, z_fa110, z_fa111, if_true, if_false, e]
      refine ih h _ _ (by omega) (by omega) x0 x1 ?_
      by_cases hy : x < s 28 (400 * s 32 c + k)
      · rw [if_pos hy] at hQ; exact hQ
      · rw [if_neg hy, show s 28 (400 * s 32 c + k) = x by omega] at hQ; exact hQ
    · simp +contextual (disch := omega) only [z_app, z_rd, z_cl, z_add, z_sub, z_mul, z_neg, z_lit, z_leT, z_leF, z_ltT, z_ltF, z_eqT, z_eqF, i_leT, i_leF, i_ltT, i_ltF, i_eqT, i_eqF, z_le, z_lt, z_eq, z_ite, z_at, z_pt, z_up, z_wr, z_wi1, z_wi0, z_wi, z_inS, z_toInt, z_nb0, z_nb1, Int.cast_ofNat_Int, true_and, and_true, not_true_eq_false, not_false_eq_true, false_imp_iff, true_imp_iff, aup_o, aup_k, ite_true, ite_false, z_fa000, z_fa001, z_fa010, z_fa011, z_fa100, z_fa101, z_fa110, z_fa111, if_true, if_false, e]
      rw [if_neg (by omega)] at hQ
      exact ih h _ _ (by omega) (by omega) (by omega) (by omega) hQ
  · simp +contextual (disch := omega) only [z_app, z_rd, z_cl, z_add, z_sub, z_mul, z_neg, z_lit, z_leT, z_leF, z_ltT, z_ltF, z_eqT, z_eqF, i_leT, i_leF, i_ltT, i_ltF, i_eqT, i_eqF, z_le, z_lt, z_eq, z_ite, z_at, z_pt, z_up, z_wr, z_wi1, z_wi0, z_wi, z_inS, z_toInt, z_nb0, z_nb1, Int.cast_ofNat_Int, true_and, and_true, not_true_eq_false, not_false_eq_true, false_imp_iff, true_imp_iff, aup_o, aup_k, ite_true, ite_false, z_fa000, z_fa001, z_fa010, z_fa011, z_fa100, z_fa101, z_fa110, z_fa111, if_true, if_false]
    rw [mI_e (by omega)] at hQ
    exact hQ
theorem k_holdOf (hw : qWF g) (hJ : jJ s) {c : Int} (c0 : 0 ≤ c) (c1 : c < s 26 6) (hQ : Q (iI (hdS s c)) (qi s)) : qC g (d + 1) mX0_holdOf [.inr 26, .inl (iI c), .inl (iI (s 2 9))] (qi s) Q T := by
  have B := jb hJ
  have C := jc hJ c0 c1
  refine wX0_holdOf hw ?_
  unfold hdS at hQ
  by_cases h : s 36 c ≤ s 34 c
  · rw [show mx (s 34 c) (s 36 c) = s 34 c from if_pos h] at hQ
    simp +contextual (disch := omega) only [z_app, z_rd, z_cl, z_add, z_sub, z_mul, z_neg, z_lit, z_leT, z_leF, z_ltT, z_ltF, z_eqT, z_eqF, i_leT, i_leF, i_ltT, i_ltF, i_eqT, i_eqF, z_le, z_lt, z_eq, z_ite, z_at, z_pt, z_up, z_wr, z_wi1, z_wi0, z_wi, z_inS, z_toInt, z_nb0, z_nb1, Int.cast_ofNat_Int, true_and, and_true, not_true_eq_false, not_false_eq_true, false_imp_iff, true_imp_iff, aup_o, aup_k, ite_true, ite_false, z_fa000, z_fa001, z_fa010, z_fa011, z_fa100, z_fa101, z_fa110, z_fa111, if_true, if_false]
    exact k_holdOf_l hw hJ c0 c1 _ _ _ (by omega) (by omega) (by omega) (by omega) hQ
  · rw [show mx (s 34 c) (s 36 c) = s 36 c from if_neg h] at hQ
    simp +contextual (disch := omega) only [z_app, z_rd, z_cl, z_add, z_sub, z_mul, z_neg, z_lit, z_leT, z_leF, z_ltT, z_ltF, z_eqT, z_eqF, i_leT, i_leF, i_ltT, i_ltF, i_eqT, i_eqF, z_le, z_lt, z_eq, z_ite, z_at, z_pt, z_up, z_wr, z_wi1, z_wi0, z_wi, z_inS, z_toInt, z_nb0, z_nb1, Int.cast_ofNat_Int, true_and, and_true, not_true_eq_false, not_false_eq_true, false_imp_iff, true_imp_iff, aup_o, aup_k, ite_true, ite_false, z_fa000, z_fa001, z_fa010, z_fa011, z_fa100, z_fa101, z_fa110, z_fa111, if_true, if_false]
    exact k_holdOf_l hw hJ c0 c1 _ _ _ (by omega) (by omega) (by omega) (by omega) hQ
theorem k_leastHolder_l (hw : qWF g) (hJ : jJ s) : ∀ (c b l : Int) (o : Option qP), 0 ≤ c → c ≤ s 26 6 → -1 ≤ b → b < s 26 6 → (b ≠ -1 → l = hdS s b) → 0 ≤ l → l ≤ 400 → Q (iI (lhS s c b)) (qi s) → qV g mX0_leastHolder (d + 2) 0 7 [some (.inr 26), some (.inl (iI (s 2 9))), some (.inl (iI b)), some (.inl (iI l)), some (.inl (iI c)), o] [] (qi s) Q T := by
  have B := jb hJ
  refine stepUp (s 26 6) (fun c ih b l o c0 c1 b0 b1 hl l0 l1 hQ => wX0_leastHolder_7 hw ?_)
  by_cases h : c < s 26 6
  · have H := hd_b hJ c0 h
    rw [lh_f h] at hQ
    simp +contextual (disch := omega) only [z_app, z_rd, z_cl, z_add, z_sub, z_mul, z_neg, z_lit, z_le, z_lt, z_eq, z_ite, z_at, z_pt, z_up, z_wr, z_wi, z_inS, z_toInt, z_nb0, z_nb1, Int.cast_ofNat_Int, true_and, and_true, not_true_eq_false, not_false_eq_true, false_imp_iff, true_imp_iff, aup_o, aup_k, ite_true, ite_false]
    refine ⟨fun hh => by omega, fun _ => ?_⟩
    refine k_holdOf hw hJ c0 h ?_
    by_cases hb : b = -1
    · rw [if_pos (Or.inl hb)] at hQ
      simp +contextual (disch := omega) only [z_app, z_rd, z_cl, z_add, z_sub, z_mul, z_neg, z_lit, z_leT, z_leF, z_ltT, z_ltF, z_eqT, z_eqF, i_leT, i_leF, i_ltT, i_ltF, i_eqT, i_eqF, z_le, z_lt, z_eq, z_ite, z_at, z_pt, z_up, z_wr, z_wi1, z_wi0, z_wi, z_inS, z_toInt, z_nb0, z_nb1, Int.cast_ofNat_Int, true_and, and_true, not_true_eq_false, not_false_eq_true, false_imp_iff, true_imp_iff, aup_o, aup_k, ite_true, ite_false, z_fa000, z_fa001, z_fa010, z_fa011, z_fa100, z_fa101, z_fa110, z_fa111, if_true, if_false]
      exact ih h _ _ _ (by omega) (by omega) (by omega) (by omega) (fun _ => rfl) (by omega) (by omega) hQ
    · have hl' := hl hb
      by_cases hh : hdS s c < hdS s b
      · rw [if_pos (Or.inr hh)] at hQ
        simp +contextual (disch := omega) only [z_app, z_rd, z_cl, z_add, z_sub, z_mul, z_neg, z_lit, z_leT, z_leF, z_ltT, z_ltF, z_eqT, z_eqF, i_leT, i_leF, i_ltT, i_ltF, i_eqT, i_eqF, z_le, z_lt, z_eq, z_ite, z_at, z_pt, z_up, z_wr, z_wi1, z_wi0, z_wi, z_inS, z_toInt, z_nb0, z_nb1, Int.cast_ofNat_Int, true_and, and_true, not_true_eq_false, not_false_eq_true, false_imp_iff, true_imp_iff, aup_o, aup_k, ite_true, ite_false, z_fa000, z_fa001, z_fa010, z_fa011, z_fa100, z_fa101, z_fa110, z_fa111, if_true, if_false]
        exact ih h _ _ _ (by omega) (by omega) (by omega) (by omega) (fun _ => rfl) (by omega) (by omega) hQ
      · rw [if_neg (by omega)] at hQ
        simp +contextual (disch := omega) only [z_app, z_rd, z_cl, z_add, z_sub, z_mul, z_neg, z_lit, z_leT, z_leF, z_ltT, z_ltF, z_eqT, z_eqF, i_leT, i_leF, i_ltT, i_ltF, i_eqT, i_eqF, z_le, z_lt, z_eq, z_ite, z_at, z_pt, z_up, z_wr, z_wi1, z_wi0, z_wi, z_inS, z_toInt, z_nb0, z_nb1, Int.cast_ofNat_Int, true_and, and_true, not_true_eq_false, not_false_eq_true, false_imp_iff, true_imp_iff, aup_o, aup_k, ite_true, ite_false, z_fa000, z_fa001, z_fa010, z_fa011, z_fa100, z_fa101, z_fa110, z_fa111, if_true, if_false]
        exact ih h _ _ _ (by omega) (by omega) (by omega) (by omega) hl l0 l1 hQ
  · simp +contextual (disch := omega) only [z_app, z_rd, z_cl, z_add, z_sub, z_mul, z_neg, z_lit, z_leT, z_leF, z_ltT, z_ltF, z_eqT, z_eqF, i_leT, i_leF, i_ltT, i_ltF, i_eqT, i_eqF, z_le, z_lt, z_eq, z_ite, z_at, z_pt, z_up, z_wr, z_wi1, z_wi0, z_wi, z_inS, z_toInt, z_nb0, z_nb1, Int.cast_ofNat_Int, true_and, and_true, not_true_eq_false, not_false_eq_true, false_imp_iff, true_imp_iff, aup_o, aup_k, ite_true, ite_false, z_fa000, z_fa001, z_fa010, z_fa011, z_fa100, z_fa101, z_fa110, z_fa111, if_true, if_false]
    rw [lh_e (by omega)] at hQ
    exact hQ
theorem k_leastHolder (hw : qWF g) (hJ : jJ s) (hQ : Q (iI (lhS s 0 (-1))) (qi s)) : qC g (d + 2) mX0_leastHolder [.inr 26, .inl (iI (s 2 9))] (qi s) Q T := by
  have B := jb hJ
  exact wX0_leastHolder hw ⟨rfl, k_leastHolder_l hw hJ 0 (-1) (s 2 9) none (by omega) (by omega) (by omega) (by omega) (fun hn => absurd rfl hn) (by omega) (by omega) hQ⟩
theorem k_leastBegin_l (hw : qWF g) (hJ : jJ s) : ∀ (t x : Int) (o : Option qP), 0 ≤ t → t ≤ 4 → 0 ≤ x → x ≤ s 2 9 → Q (iI (mI (fun t => if s 55 t = -1 then s 2 9 else s 55 t) t 4 x)) (qi s) → qV g mX2_leastBegin (d + 1) 0 10 [some (.inr 1), some (.inl (iI x)), some (.inl (iI t)), o] [] (qi s) Q T := by
  have B := jb hJ
  refine stepUp 4 (fun t ih x o t0 t1 x0 x1 hQ => wX2_leastBegin_10 hw ?_)
  by_cases h : t < 4
  · have J := jt hJ t0 h
    rw [mI_f h] at hQ
    by_cases hb : s 55 t = -1
    · simp +contextual (disch := omega) only [z_app, z_rd, z_cl, z_add, z_sub, z_mul, z_neg, z_lit, z_leT, z_leF, z_ltT, z_ltF, z_eqT, z_eqF, i_leT, i_leF, i_ltT, i_ltF, i_eqT, i_eqF, z_le, z_lt, z_eq, z_ite, z_at, z_pt, z_up, z_wr, z_wi1, z_wi0, z_wi, z_inS, z_toInt, z_nb0, z_nb1, Int.cast_ofNat_Int, true_and, and_true, not_true_eq_false, not_false_eq_true, false_imp_iff, true_imp_iff, aup_o, aup_k, ite_true, ite_false, z_fa000, z_fa001, z_fa010, z_fa011, z_fa100, z_fa101, z_fa110, z_fa111, if_true, if_false]
      rw [if_pos hb, show mn x (s 2 9) = x by unfold mn; split <;> omega] at hQ
      exact ih h _ _ (by omega) (by omega) x0 x1 hQ
    · rw [if_neg hb] at hQ
      by_cases hx : x ≤ s 55 t
      · simp +contextual (disch := omega) only [z_app, z_rd, z_cl, z_add, z_sub, z_mul, z_neg, z_lit, z_leT, z_leF, z_ltT, z_ltF, z_eqT, z_eqF, i_leT, i_leF, i_ltT, i_ltF, i_eqT, i_eqF, z_le, z_lt, z_eq, z_ite, z_at, z_pt, z_up, z_wr, z_wi1, z_wi0, z_wi, z_inS, z_toInt, z_nb0, z_nb1, Int.cast_ofNat_Int, true_and, and_true, not_true_eq_false, not_false_eq_true, false_imp_iff, true_imp_iff, aup_o, aup_k, ite_true, ite_false, z_fa000, z_fa001, z_fa010, z_fa011, z_fa100, z_fa101, z_fa110, z_fa111, if_true, if_false]
        rw [show mn x (s 55 t) = x by unfold mn; split <;> omega] at hQ
        exact ih h _ _ (by omega) (by omega) x0 x1 hQ
      · simp +contextual (disch := omega) only [z_app, z_rd, z_cl, z_add, z_sub, z_mul, z_neg, z_lit, z_leT, z_leF, z_ltT, z_ltF, z_eqT, z_eqF, i_leT, i_leF, i_ltT, i_ltF, i_eqT, i_eqF, z_le, z_lt, z_eq, z_ite, z_at, z_pt, z_up, z_wr, z_wi1, z_wi0, z_wi, z_inS, z_toInt, z_nb0, z_nb1, Int.cast_ofNat_Int, true_and, and_true, not_true_eq_false, not_false_eq_true, false_imp_iff, true_imp_iff, aup_o, aup_k, ite_true, ite_false, z_fa000, z_fa001, z_fa010, z_fa011, z_fa100, z_fa101, z_fa110, z_fa111, if_true, if_false]
        rw [show mn x (s 55 t) = s 55 t by unfold mn; split <;> omega] at hQ
        exact ih h _ _ (by omega) (by omega) (by omega) (by omega) hQ
  · simp +contextual (disch := omega) only [z_app, z_rd, z_cl, z_add, z_sub, z_mul, z_neg, z_lit, z_leT, z_leF, z_ltT, z_ltF, z_eqT, z_eqF, i_leT, i_leF, i_ltT, i_ltF, i_eqT, i_eqF, z_le, z_lt, z_eq, z_ite, z_at, z_pt, z_up, z_wr, z_wi1, z_wi0, z_wi, z_inS, z_toInt, z_nb0, z_nb1, Int.cast_ofNat_Int, true_and, and_true, not_true_eq_false, not_false_eq_true, false_imp_iff, true_imp_iff, aup_o, aup_k, ite_true, ite_false, z_fa000, z_fa001, z_fa010, z_fa011, z_fa100, z_fa101, z_fa110, z_fa111, if_true, if_false]
    rw [mI_e (by omega)] at hQ
    exact hQ
theorem k_leastBegin (hw : qWF g) (hJ : jJ s) (hQ : Q (iI (lbS s)) (qi s)) : qC g (d + 1) mX2_leastBegin [.inr 1] (qi s) Q T := by
  have B := jb hJ
  exact wX2_leastBegin hw ⟨rfl, k_leastBegin_l hw hJ 0 (s 2 9) none (by omega) (by omega) (by omega) (by omega) hQ⟩
theorem k_leastNeeded_l (hw : qWF g) (hJ : jJ s) : ∀ (k : Int) (o : Option qP), 0 ≤ k → k ≤ s 2 9 → Q (iI (fI (fun k => decide (s 4 k ≠ 6 ∧ s 1 11 ≤ s 18 k)) k (s 2 9))) (qi s) → qV g mX2_leastNeeded (d + 1) 0 18 [some (.inr 1), some (.inl (iI k)), o] [] (qi s) Q T := by
  have B := jb hJ
  refine stepUp (s 2 9) (fun k ih o k0 k1 hQ => wX2_leastNeeded_18 hw ?_)
  by_cases h : k < s 2 9
  · have E := j_ef hJ k0 h
    have R := (hJ.2.1 k k0 h).1.1
    rw [fI_f h] at hQ
    by_cases hm : s 4 k ≠ 6 ∧ s 1 11 ≤ s 18 k
    · rw [if_pos (decide_eq_true hm)] at hQ
      obtain ⟨hm1, hm2⟩ := hm
      simp +contextual (disch := omega) only [z_app, z_rd, z_cl, z_add, z_sub, z_mul, z_neg, z_lit, z_leT, z_leF, z_ltT, z_ltF, z_eqT, z_eqF, i_leT, i_leF, i_ltT, i_ltF, i_eqT, i_eqF, z_le, z_lt, z_eq, z_ite, z_at, z_pt, z_up, z_wr, z_wi1, z_wi0, z_wi, z_inS, z_toInt, z_nb0, z_nb1, Int.cast_ofNat_Int, true_and, and_true, not_true_eq_false, not_false_eq_true, false_imp_iff, true_imp_iff, aup_o, aup_k, ite_true, ite_false, z_fa000, z_fa001, z_fa010, z_fa011, z_fa100, z_fa101, z_fa110, z_fa111, if_true, if_false]
      exact hQ
    · rw [if_neg (by simpa using hm)] at hQ
      by_cases h6 : s 4 k = 6
      · simp +contextual (disch := omega) only [z_app, z_rd, z_cl, z_add, z_sub, z_mul, z_neg, z_lit, z_leT, z_leF, z_ltT, z_ltF, z_eqT, z_eqF, i_leT, i_leF, i_ltT, i_ltF, i_eqT, i_eqF, z_le, z_lt, z_eq, z_ite, z_at, z_pt, z_up, z_wr, z_wi1, z_wi0, z_wi, z_inS, z_toInt, z_nb0, z_nb1, Int.cast_ofNat_Int, true_and, and_true, not_true_eq_false, not_false_eq_true, false_imp_iff, true_imp_iff, aup_o, aup_k, ite_true, ite_false, z_fa000, z_fa001, z_fa010, z_fa011, z_fa100, z_fa101, z_fa110, z_fa111, if_true, if_false]
        exact ih h _ (by omega) (by omega) hQ
      · have h7 : s 18 k < s 1 11 := by omega
        simp +contextual (disch := omega) only [z_app, z_rd, z_cl, z_add, z_sub, z_mul, z_neg, z_lit, z_leT, z_leF, z_ltT, z_ltF, z_eqT, z_eqF, i_leT, i_leF, i_ltT, i_ltF, i_eqT, i_eqF, z_le, z_lt, z_eq, z_ite, z_at, z_pt, z_up, z_wr, z_wi1, z_wi0, z_wi, z_inS, z_toInt, z_nb0, z_nb1, Int.cast_ofNat_Int, true_and, and_true, not_true_eq_false, not_false_eq_true, false_imp_iff, true_imp_iff, aup_o, aup_k, ite_true, ite_false, z_fa000, z_fa001, z_fa010, z_fa011, z_fa100, z_fa101, z_fa110, z_fa111, if_true, if_false]
        exact ih h _ (by omega) (by omega) hQ
  · simp +contextual (disch := omega) only [z_app, z_rd, z_cl, z_add, z_sub, z_mul, z_neg, z_lit, z_leT, z_leF, z_ltT, z_ltF, z_eqT, z_eqF, i_leT, i_leF, i_ltT, i_ltF, i_eqT, i_eqF, z_le, z_lt, z_eq, z_ite, z_at, z_pt, z_up, z_wr, z_wi1, z_wi0, z_wi, z_inS, z_toInt, z_nb0, z_nb1, Int.cast_ofNat_Int, true_and, and_true, not_true_eq_false, not_false_eq_true, false_imp_iff, true_imp_iff, aup_o, aup_k, ite_true, ite_false, z_fa000, z_fa001, z_fa010, z_fa011, z_fa100, z_fa101, z_fa110, z_fa111, if_true, if_false]
    rw [fI_e (by omega)] at hQ
    rw [show k = s 2 9 by omega] at hQ
    exact hQ
theorem k_leastNeeded (hw : qWF g) (hJ : jJ s) (hQ : Q (iI (lnS s)) (qi s)) : qC g (d + 1) mX2_leastNeeded [.inr 1] (qi s) Q T := by
  have B := jb hJ
  refine wX2_leastNeeded hw ?_
  simp +contextual (disch := omega) only [z_app, z_rd, z_cl, z_add, z_sub, z_mul, z_neg, z_lit, z_leT, z_leF, z_ltT, z_ltF, z_eqT, z_eqF, i_leT, i_leF, i_ltT, i_ltF, i_eqT, i_eqF, z_le, z_lt, z_eq, z_ite, z_at, z_pt, z_up, z_wr, z_wi1, z_wi0, z_wi, z_inS, z_toInt, z_nb0, z_nb1, Int.cast_ofNat_Int, true_and, and_true, not_true_eq_false, not_false_eq_true, false_imp_iff, true_imp_iff, aup_o, aup_k, ite_true, ite_false, z_fa000, z_fa001, z_fa010, z_fa011, z_fa100, z_fa101, z_fa110, z_fa111, if_true, if_false]
  exact k_leastNeeded_l hw hJ _ _ (by omega) (by omega) hQ
theorem k_holdWithout_l (hw : qWF g) (hJ : jJ s) {w : Int} (w1 : -2147483648 ≤ w) (w2 : w < 2147483648) : ∀ c x : Int, 0 ≤ c → c ≤ s 26 6 → 0 ≤ x → x ≤ s 2 9 → Q (iI (mI (fun c => if c = w then s 2 9 else hdS s c) c (s 26 6) x)) (qi s) → qV g mX2_holdWithout (d + 2) 0 26 [some (.inr 1), some (.inl (iI w)), some (.inl (iI x)), some (.inl (iI c))] [] (qi s) Q T := by
  have B := jb hJ
  refine stepUp (s 26 6) (fun c ih x c0 c1 x0 x1 hQ => wX2_holdWithout_26 hw ?_)
  by_cases h : c < s 26 6
  · have H := hd_b hJ c0 h
    rw [mI_f h] at hQ
    by_cases hb : c = w
    · simp +contextual (disch := omega) only [z_app, z_rd, z_cl, z_add, z_sub, z_mul, z_neg, z_lit, z_leT, z_leF, z_ltT, z_ltF, z_eqT, z_eqF, i_leT, i_leF, i_ltT, i_ltF, i_eqT, i_eqF, z_le, z_lt, z_eq, z_ite, z_at, z_pt, z_up, z_wr, z_wi1, z_wi0, z_wi, z_inS, z_toInt, z_nb0, z_nb1, Int.cast_ofNat_Int, true_and, and_true, not_true_eq_false, not_false_eq_true, false_imp_iff, true_imp_iff, aup_o, aup_k, ite_true, ite_false, z_fa000, z_fa001, z_fa010, z_fa011, z_fa100, z_fa101, z_fa110, z_fa111, if_true, if_false]
      rw [if_pos hb, show mn x (s 2 9) = x by unfold mn; split <;> omega] at hQ
      exact ih h _ (by omega) (by omega) x0 x1 hQ
    · simp +contextual (disch := omega) only [z_app, z_rd, z_cl, z_add, z_sub, z_mul, z_neg, z_lit, z_leT, z_leF, z_ltT, z_ltF, z_eqT, z_eqF, i_leT, i_leF, i_ltT, i_ltF, i_eqT, i_eqF, z_le, z_lt, z_eq, z_ite, z_at, z_pt, z_up, z_wr, z_wi1, z_wi0, z_wi, z_inS, z_toInt, z_nb0, z_nb1, Int.cast_ofNat_Int, true_and, and_true, not_true_eq_false, not_false_eq_true, false_imp_iff, true_imp_iff, aup_o, aup_k, ite_true, ite_false, z_fa000, z_fa001, z_fa010, z_fa011, z_fa100, z_fa101, z_fa110, z_fa111, if_true, if_false]
      rw [if_neg hb] at hQ
      refine k_holdOf hw hJ c0 h ?_
      simp +contextual (disch := omega) only [z_app, z_rd, z_cl, z_add, z_sub, z_mul, z_neg, z_lit, z_le, z_lt, z_eq, z_ite, z_at, z_pt, z_up, z_wr, z_wi, z_inS, z_toInt, z_nb0, z_nb1, Int.cast_ofNat_Int, true_and, and_true, not_true_eq_false, not_false_eq_true, false_imp_iff, true_imp_iff, aup_o, aup_k, ite_true, ite_false]
      have e : mn x (hdS s c) = if hdS s c < x then hdS s c else x := by unfold mn; split <;> split <;> omega
      rw [e] at hQ
      exact ih h _ (by omega) (by omega) (by split <;> omega) (by split <;> omega) hQ
  · simp +contextual (disch := omega) only [z_app, z_rd, z_cl, z_add, z_sub, z_mul, z_neg, z_lit, z_leT, z_leF, z_ltT, z_ltF, z_eqT, z_eqF, i_leT, i_leF, i_ltT, i_ltF, i_eqT, i_eqF, z_le, z_lt, z_eq, z_ite, z_at, z_pt, z_up, z_wr, z_wi1, z_wi0, z_wi, z_inS, z_toInt, z_nb0, z_nb1, Int.cast_ofNat_Int, true_and, and_true, not_true_eq_false, not_false_eq_true, false_imp_iff, true_imp_iff, aup_o, aup_k, ite_true, ite_false, z_fa000, z_fa001, z_fa010, z_fa011, z_fa100, z_fa101, z_fa110, z_fa111, if_true, if_false]
    rw [mI_e (by omega)] at hQ
    exact hQ
theorem k_holdWithout (hw : qWF g) (hJ : jJ s) {w : Int} (w1 : -2147483648 ≤ w) (w2 : w < 2147483648) (hQ : Q (iI (hwS s w)) (qi s)) : qC g (d + 3) mX2_holdWithout [.inr 1, .inl (iI w)] (qi s) Q T := by
  have B := jb hJ
  have b1 := lb_b hJ
  have b2 := ln_b hJ
  refine wX2_holdWithout hw ?_
  refine k_leastBegin hw hJ ?_
  refine k_leastNeeded hw hJ ?_
  simp +contextual (disch := omega) only [z_app, z_rd, z_cl, z_add, z_sub, z_mul, z_neg, z_lit, z_le, z_lt, z_eq, z_ite, z_at, z_pt, z_up, z_wr, z_wi, z_inS, z_toInt, z_nb0, z_nb1, Int.cast_ofNat_Int, true_and, and_true, not_true_eq_false, not_false_eq_true, false_imp_iff, true_imp_iff, aup_o, aup_k, ite_true, ite_false]
  unfold hwS at hQ
  have e : mn (mn (s 2 10) (lbS s)) (lnS s) = (if lnS s < (if lbS s < s 2 10 then lbS s else s 2 10) then lnS s else (if lbS s < s 2 10 then lbS s else s 2 10)) := by
    unfold mn
    repeat' split
    all_goals omega
  rw [e] at hQ
  refine k_holdWithout_l hw hJ w1 w2 _ _ (by omega) (by omega) ?_ ?_ hQ
  · repeat' split
    all_goals omega
  · repeat' split
    all_goals omega
theorem k_firstNumber (hw : qWF g) (hJ : jJ s) (hQ : Q (iI (s 23 (s 21 2))) (qi s)) : qC g (d + 1) mX7_firstNumber [.inr 21] (qi s) Q T := by
  have B := jb hJ
  refine wX7_firstNumber hw ?_
  simp +contextual (disch := omega) only [z_app, z_rd, z_cl, z_add, z_sub, z_mul, z_neg, z_lit, z_leT, z_leF, z_ltT, z_ltF, z_eqT, z_eqF, i_leT, i_leF, i_ltT, i_ltF, i_eqT, i_eqF, z_le, z_lt, z_eq, z_ite, z_at, z_pt, z_up, z_wr, z_wi1, z_wi0, z_wi, z_inS, z_toInt, z_nb0, z_nb1, Int.cast_ofNat_Int, true_and, and_true, not_true_eq_false, not_false_eq_true, false_imp_iff, true_imp_iff, aup_o, aup_k, ite_true, ite_false, z_fa000, z_fa001, z_fa010, z_fa011, z_fa100, z_fa101, z_fa110, z_fa111, if_true, if_false]
  exact hQ
theorem k_hasRecord1 (hw : qWF g) (hJ : jJ s) {k : Int} (k0 : s 23 (s 21 2) ≤ k) (k1 : k < s 2 9) (hQ : Q (iI 1) (qi s)) : qC g (d + 2) mX2_hasRecord [.inr 1, .inl (iI k)] (qi s) Q T := by
  have B := jb hJ
  refine wX2_hasRecord hw (k_firstNumber hw hJ ?_)
  simp +contextual (disch := omega) only [z_app, z_rd, z_cl, z_add, z_sub, z_mul, z_neg, z_lit, z_leT, z_leF, z_ltT, z_ltF, z_eqT, z_eqF, i_leT, i_leF, i_ltT, i_ltF, i_eqT, i_eqF, z_le, z_lt, z_eq, z_ite, z_at, z_pt, z_up, z_wr, z_wi1, z_wi0, z_wi, z_inS, z_toInt, z_nb0, z_nb1, Int.cast_ofNat_Int, true_and, and_true, not_true_eq_false, not_false_eq_true, false_imp_iff, true_imp_iff, aup_o, aup_k, ite_true, ite_false, z_fa000, z_fa001, z_fa010, z_fa011, z_fa100, z_fa101, z_fa110, z_fa111, if_true, if_false]
  exact ⟨Or.inr trivial, hQ⟩
theorem k_hasRecord0 (hw : qWF g) (hJ : jJ s) {k : Int} (k2 : -2147483648 ≤ k) (k3 : k < 2147483648) (k1 : ¬ (s 23 (s 21 2) ≤ k ∧ k < s 2 9)) (hQ : Q (iI 0) (qi s)) : qC g (d + 2) mX2_hasRecord [.inr 1, .inl (iI k)] (qi s) Q T := by
  have B := jb hJ
  refine wX2_hasRecord hw (k_firstNumber hw hJ ?_)
  by_cases h : k < s 23 (s 21 2)
  · simp +contextual (disch := omega) only [z_app, z_rd, z_cl, z_add, z_sub, z_mul, z_neg, z_lit, z_leT, z_leF, z_ltT, z_ltF, z_eqT, z_eqF, i_leT, i_leF, i_ltT, i_ltF, i_eqT, i_eqF, z_le, z_lt, z_eq, z_ite, z_at, z_pt, z_up, z_wr, z_wi1, z_wi0, z_wi, z_inS, z_toInt, z_nb0, z_nb1, Int.cast_ofNat_Int, true_and, and_true, not_true_eq_false, not_false_eq_true, false_imp_iff, true_imp_iff, aup_o, aup_k, ite_true, ite_false, z_fa000, z_fa001, z_fa010, z_fa011, z_fa100, z_fa101, z_fa110, z_fa111, if_true, if_false]
    exact ⟨Or.inl trivial, hQ⟩
  · simp +contextual (disch := omega) only [z_app, z_rd, z_cl, z_add, z_sub, z_mul, z_neg, z_lit, z_leT, z_leF, z_ltT, z_ltF, z_eqT, z_eqF, i_leT, i_leF, i_ltT, i_ltF, i_eqT, i_eqF, z_le, z_lt, z_eq, z_ite, z_at, z_pt, z_up, z_wr, z_wi1, z_wi0, z_wi, z_inS, z_toInt, z_nb0, z_nb1, Int.cast_ofNat_Int, true_and, and_true, not_true_eq_false, not_false_eq_true, false_imp_iff, true_imp_iff, aup_o, aup_k, ite_true, ite_false, z_fa000, z_fa001, z_fa010, z_fa011, z_fa100, z_fa101, z_fa110, z_fa111, if_true, if_false]
    exact ⟨Or.inl trivial, hQ⟩
theorem k_isBefore (hw : qWF g) (hJ : jJ s) {i h : Int} (i0 : s 21 2 ≤ i) (i1 : i < s 21 3) (w1 : -2147483648 ≤ h) (w2 : h < 2147483648) (h0 : h < s 23 (i + 1) → Q (iI 0) (qi s)) (h1 : s 23 (i + 1) ≤ h → Q (iI 1) (qi s)) : qC g (d + 1) mX7_isBefore [.inr 21, .inl (iI i), .inl (iI h)] (qi s) Q T := by
  have B := jb hJ
  have E := e_b hJ (i := i + 1 - s 21 2) (by omega) (by omega)
  rw [show s 21 2 + (i + 1 - s 21 2) = i + 1 by omega] at E
  refine wX7_isBefore hw ?_
  by_cases hh : h < s 23 (i + 1)
  · simp +contextual (disch := omega) only [z_app, z_rd, z_cl, z_add, z_sub, z_mul, z_neg, z_lit, z_leT, z_leF, z_ltT, z_ltF, z_eqT, z_eqF, i_leT, i_leF, i_ltT, i_ltF, i_eqT, i_eqF, z_le, z_lt, z_eq, z_ite, z_at, z_pt, z_up, z_wr, z_wi1, z_wi0, z_wi, z_inS, z_toInt, z_nb0, z_nb1, Int.cast_ofNat_Int, true_and, and_true, not_true_eq_false, not_false_eq_true, false_imp_iff, true_imp_iff, aup_o, aup_k, ite_true, ite_false, z_fa000, z_fa001, z_fa010, z_fa011, z_fa100, z_fa101, z_fa110, z_fa111, if_true, if_false]
    exact ⟨Or.inl trivial, h0 hh⟩
  · simp +contextual (disch := omega) only [z_app, z_rd, z_cl, z_add, z_sub, z_mul, z_neg, z_lit, z_leT, z_leF, z_ltT, z_ltF, z_eqT, z_eqF, i_leT, i_leF, i_ltT, i_ltF, i_eqT, i_eqF, z_le, z_lt, z_eq, z_ite, z_at, z_pt, z_up, z_wr, z_wi1, z_wi0, z_wi, z_inS, z_toInt, z_nb0, z_nb1, Int.cast_ofNat_Int, true_and, and_true, not_true_eq_false, not_false_eq_true, false_imp_iff, true_imp_iff, aup_o, aup_k, ite_true, ite_false, z_fa000, z_fa001, z_fa010, z_fa011, z_fa100, z_fa101, z_fa110, z_fa111, if_true, if_false]
    exact ⟨Or.inr trivial, h1 (by omega)⟩
theorem k_bytesBefore_l (hw : qWF g) (hJ : jJ s) {h : Int} (w1 : -2147483648 ≤ h) (w2 : h < 2147483648) : ∀ i x : Int, s 21 2 ≤ i → i ≤ s 21 3 → Q (iI (x + sI (s 25) i (fI (fun i => decide (h < s 23 (i + 1))) i (s 21 3)))) (qi s) → qV g mX7_bytesBefore (d + 2) 0 7 [some (.inr 21), some (.inl (iI h)), some (.inl (iI x)), some (.inl (iI i))] [] (qi s) Q T := by
  have B := jb hJ
  refine stepUp (s 21 3) (fun i ih x i0 i1 hQ => wX7_bytesBefore_7 hw ?_)
  by_cases hi : i < s 21 3
  · have F := fI_b (p := fun i => decide (h < s 23 (i + 1))) (hi := s 21 3) (i + 1) (by omega)
    simp +contextual (disch := omega) only [z_app, z_rd, z_cl, z_add, z_sub, z_mul, z_neg, z_lit, z_leT, z_leF, z_ltT, z_ltF, z_eqT, z_eqF, i_leT, i_leF, i_ltT, i_ltF, i_eqT, i_eqF, z_le, z_lt, z_eq, z_ite, z_at, z_pt, z_up, z_wr, z_wi1, z_wi0, z_wi, z_inS, z_toInt, z_nb0, z_nb1, Int.cast_ofNat_Int, true_and, and_true, not_true_eq_false, not_false_eq_true, false_imp_iff, true_imp_iff, aup_o, aup_k, ite_true, ite_false, z_fa000, z_fa001, z_fa010, z_fa011, z_fa100, z_fa101, z_fa110, z_fa111, if_true, if_false]
    rw [fI_f hi] at hQ
    refine k_isBefore hw hJ i0 hi w1 w2 (fun hh => ?_) (fun hh => ?_)
    · rw [if_pos (decide_eq_true hh), sI_e (by omega), Int.add_zero] at hQ
      simp +contextual (disch := omega) only [z_app, z_rd, z_cl, z_add, z_sub, z_mul, z_neg, z_lit, z_leT, z_leF, z_ltT, z_ltF, z_eqT, z_eqF, i_leT, i_leF, i_ltT, i_ltF, i_eqT, i_eqF, z_le, z_lt, z_eq, z_ite, z_at, z_pt, z_up, z_wr, z_wi1, z_wi0, z_wi, z_inS, z_toInt, z_nb0, z_nb1, Int.cast_ofNat_Int, true_and, and_true, not_true_eq_false, not_false_eq_true, false_imp_iff, true_imp_iff, aup_o, aup_k, ite_true, ite_false, z_fa000, z_fa001, z_fa010, z_fa011, z_fa100, z_fa101, z_fa110, z_fa111, if_true, if_false]
      exact hQ
    · rw [if_neg (by simpa using hh), sI_f _ (by omega), ← Int.add_assoc] at hQ
      simp +contextual (disch := omega) only [z_app, z_rd, z_cl, z_add, z_sub, z_mul, z_neg, z_lit, z_leT, z_leF, z_ltT, z_ltF, z_eqT, z_eqF, i_leT, i_leF, i_ltT, i_ltF, i_eqT, i_eqF, z_le, z_lt, z_eq, z_ite, z_at, z_pt, z_up, z_wr, z_wi1, z_wi0, z_wi, z_inS, z_toInt, z_nb0, z_nb1, Int.cast_ofNat_Int, true_and, and_true, not_true_eq_false, not_false_eq_true, false_imp_iff, true_imp_iff, aup_o, aup_k, ite_true, ite_false, z_fa000, z_fa001, z_fa010, z_fa011, z_fa100, z_fa101, z_fa110, z_fa111, if_true, if_false]
      exact ih hi _ (by omega) (by omega) hQ
  · simp +contextual (disch := omega) only [z_app, z_rd, z_cl, z_add, z_sub, z_mul, z_neg, z_lit, z_leT, z_leF, z_ltT, z_ltF, z_eqT, z_eqF, i_leT, i_leF, i_ltT, i_ltF, i_eqT, i_eqF, z_le, z_lt, z_eq, z_ite, z_at, z_pt, z_up, z_wr, z_wi1, z_wi0, z_wi, z_inS, z_toInt, z_nb0, z_nb1, Int.cast_ofNat_Int, true_and, and_true, not_true_eq_false, not_false_eq_true, false_imp_iff, true_imp_iff, aup_o, aup_k, ite_true, ite_false, z_fa000, z_fa001, z_fa010, z_fa011, z_fa100, z_fa101, z_fa110, z_fa111, if_true, if_false]
    rw [fI_e (by omega), sI_e (by omega), Int.add_zero] at hQ
    exact hQ
theorem k_bytesBefore (hw : qWF g) (hJ : jJ s) {h : Int} (w1 : -2147483648 ≤ h) (w2 : h < 2147483648) (hQ : Q (iI (sI (s 25) (s 21 2) (tkS s h))) (qi s)) : qC g (d + 2) mX7_bytesBefore [.inr 21, .inl (iI h)] (qi s) Q T := by
  have B := jb hJ
  refine wX7_bytesBefore hw ⟨rfl, ?_⟩
  refine k_bytesBefore_l hw hJ w1 w2 (s 21 2) 0 (by omega) (by omega) ?_
  rw [Int.zero_add]
  exact hQ
theorem k_isOpen1 (hw : qWF g) (hJ : jJ s) {t : Int} (t0 : 0 ≤ t) (t1 : t < 4) (h : s 55 t ≠ -1) (hQ : Q (iI 1) (qi s)) : qC g (d + 1) mX2_isOpen [.inr 1, .inl (iI t)] (qi s) Q T := by
  have J := jt hJ t0 t1
  refine wX2_isOpen hw ?_
  simp +contextual (disch := omega) only [z_app, z_rd, z_cl, z_add, z_sub, z_mul, z_neg, z_lit, z_leT, z_leF, z_ltT, z_ltF, z_eqT, z_eqF, i_leT, i_leF, i_ltT, i_ltF, i_eqT, i_eqF, z_le, z_lt, z_eq, z_ite, z_at, z_pt, z_up, z_wr, z_wi1, z_wi0, z_wi, z_inS, z_toInt, z_nb0, z_nb1, Int.cast_ofNat_Int, true_and, and_true, not_true_eq_false, not_false_eq_true, false_imp_iff, true_imp_iff, aup_o, aup_k, ite_true, ite_false, z_fa000, z_fa001, z_fa010, z_fa011, z_fa100, z_fa101, z_fa110, z_fa111, if_true, if_false]
  exact ⟨Or.inr trivial, hQ⟩
theorem k_isOpen0 (hw : qWF g) (hJ : jJ s) {t : Int} (t0 : 0 ≤ t) (t1 : t < 4) (h : s 55 t = -1) (hQ : Q (iI 0) (qi s)) : qC g (d + 1) mX2_isOpen [.inr 1, .inl (iI t)] (qi s) Q T := by
  refine wX2_isOpen hw ?_
  simp +contextual (disch := omega) only [z_app, z_rd, z_cl, z_add, z_sub, z_mul, z_neg, z_lit, z_leT, z_leF, z_ltT, z_ltF, z_eqT, z_eqF, i_leT, i_leF, i_ltT, i_ltF, i_eqT, i_eqF, z_le, z_lt, z_eq, z_ite, z_at, z_pt, z_up, z_wr, z_wi1, z_wi0, z_wi, z_inS, z_toInt, z_nb0, z_nb1, Int.cast_ofNat_Int, true_and, and_true, not_true_eq_false, not_false_eq_true, false_imp_iff, true_imp_iff, aup_o, aup_k, ite_true, ite_false, z_fa000, z_fa001, z_fa010, z_fa011, z_fa100, z_fa101, z_fa110, z_fa111, if_true, if_false]
  exact ⟨Or.inl trivial, hQ⟩
end KR
