/-! ===== the reference's read ===== -/
section MRd
variable {g : qG} {s : aS} {d : Nat} {a b c tx : Int}
/-- the reference's numbers after i messages were read -/
def rdM (s m : aS) (c n i : Int) (q : aS) : Prop := mF m q ∧ (∀ x : Nat, x ≠ 86 → x ≠ 104 → x ≠ 108 → q x = m x) ∧ (∀ j, j ≠ 34 → q 86 j = m 86 j) ∧ q 86 34 = n ∧
  (∀ j, 0 ≤ j → j < i → q 108 (3 * j) = s 28 (400 * s 32 c + (s 34 c + j)) ∧ q 108 (3 * j + 1) = s 10 (s 28 (400 * s 32 c + (s 34 c + j))) ∧ q 108 (3 * j + 2) = s 12 (s 28 (400 * s 32 c + (s 34 c + j)))) ∧
  (∀ c' k', 0 ≤ c' → c' < 6 → 0 ≤ k' → k' < 400 → q 104 (400 * c' + k') = if c' = c ∧ s 34 c ≤ k' ∧ k' < s 34 c + i then 0 else m 104 (400 * c' + k'))
theorem rL_rd1 {m q : aS} (hJ : jJ s) (hr : rL s m) {k : Int} (c0 : 0 ≤ c) (c1 : c < s 26 6) (k0 : 1 ≤ k) (k1 : k ≤ 50) (h : rdM s m c (rdN s c k) (rdN s c k) q) : (rdN s c k = 0 → rL (rd1 s c k) q) ∧ rL (rd2 s c k) (aup q 103 c (s 34 c + rdN s c k)) := by
  have B := jb hJ
  have C := jc hJ c0 c1
  have R := rd_b hJ c0 c1 k0 k1
  obtain ⟨r1, r2, r3, r4, r5, r6, r7, r8, r9⟩ := id hr
  obtain ⟨hF, ho, h6, h34, hrow, hsp⟩ := h
  have o : ∀ x : Nat, x ≠ 1 → x ≠ 61 → rd1 s c k x = s x := fun x h1 h2 => rd1_o s c k h1 h2
  have o2 : ∀ x : Nat, x ≠ 1 → x ≠ 61 → x ≠ 34 → rd2 s c k x = s x := fun x h1 h2 h3 => by unfold rd2; rw [aup_o h3, o x h1 h2]
  have x1 : ∀ i, rd2 s c k 1 i = if i = 10 then rdN s c k else s 1 i := fun i => by unfold rd2; rw [aup_o (by decide), rd1_1]
  have x61 : rd2 s c k 61 = rd1 s c k 61 := by unfold rd2; rw [aup_o (by decide)]
  have x34 : ∀ j, rd2 s c k 34 j = if j = c then s 34 c + rdN s c k else s 34 j := fun j => by unfold rd2; rw [aup_k, o 34 (by decide) (by decide)]
  have q2 : rL (rd2 s c k) (aup q 103 c (s 34 c + rdN s c k)) := by
    have oq : ∀ x : Nat, x ≠ 86 → x ≠ 104 → x ≠ 108 → x ≠ 103 → aup q 103 c (s 34 c + rdN s c k) x = m x := fun x h1 h2 h3 h4 => by rw [aup_o h4, ho x h1 h2 h3]
    have o86 : ∀ j, j ≠ 34 → aup q 103 c (s 34 c + rdN s c k) 86 j = m 86 j := fun j hj => by rw [aup_o (by decide), h6 j hj]
    refine ⟨⟨?_, ?_, ?_, ?_, ?_, ?_, ?_, ?_, ?_, ?_⟩, ?_, ?_, ?_, ?_, ?_, ?_, ?_, ?_⟩
    · rw [o86 3 (by decide), o2 21 (by decide) (by decide) (by decide)]; exact r1.1
    · rw [o86 4 (by decide), x1, if_neg (by decide)]; exact r1.2.1
    · rw [o86 5 (by decide), x1, if_neg (by decide)]; exact r1.2.2.1
    · rw [o86 15 (by decide), o2 2 (by decide) (by decide) (by decide)]; exact r1.2.2.2.1
    · rw [o86 16 (by decide), o2 2 (by decide) (by decide) (by decide)]; exact r1.2.2.2.2.1
    · rw [o86 19 (by decide), o2 21 (by decide) (by decide) (by decide)]; exact r1.2.2.2.2.2.1
    · rw [o86 20 (by decide), o2 21 (by decide) (by decide) (by decide)]; exact r1.2.2.2.2.2.2.1
    · rw [o86 27 (by decide), o2 26 (by decide) (by decide) (by decide)]; exact r1.2.2.2.2.2.2.2.1
    · rw [o86 28 (by decide), x1, if_neg (by decide)]; exact r1.2.2.2.2.2.2.2.2.1
    · rw [aup_o (by decide), h34, x1, if_pos rfl]
    · unfold rR at r2 ⊢
      rw [o2 2 (by decide) (by decide) (by decide), o2 4 (by decide) (by decide) (by decide), o2 6 (by decide) (by decide) (by decide), o2 8 (by decide) (by decide) (by decide), o2 10 (by decide) (by decide) (by decide), o2 12 (by decide) (by decide) (by decide), o2 14 (by decide) (by decide) (by decide), o2 16 (by decide) (by decide) (by decide), o2 18 (by decide) (by decide) (by decide), o2 20 (by decide) (by decide) (by decide), oq 88 (by decide) (by decide) (by decide) (by decide), oq 89 (by decide) (by decide) (by decide) (by decide), oq 90 (by decide) (by decide) (by decide) (by decide), oq 91 (by decide) (by decide) (by decide) (by decide), oq 92 (by decide) (by decide) (by decide) (by decide), oq 93 (by decide) (by decide) (by decide) (by decide), oq 94 (by decide) (by decide) (by decide) (by decide), oq 95 (by decide) (by decide) (by decide) (by decide), oq 96 (by decide) (by decide) (by decide) (by decide)]
      exact r2
    · unfold rG at r3 ⊢
      rw [o2 21 (by decide) (by decide) (by decide), o2 23 (by decide) (by decide) (by decide), oq 97 (by decide) (by decide) (by decide) (by decide), oq 98 (by decide) (by decide) (by decide) (by decide)]
      exact r3
    · unfold rT at r4 ⊢
      rw [o2 55 (by decide) (by decide) (by decide), oq 99 (by decide) (by decide) (by decide) (by decide)]
      exact r4
    · unfold rV at r5 ⊢
      rw [o2 30 (by decide) (by decide) (by decide), o2 28 (by decide) (by decide) (by decide), oq 100 (by decide) (by decide) (by decide) (by decide), oq 101 (by decide) (by decide) (by decide) (by decide)]
      exact r5
    · intro j j0 j1
      rw [o2 26 (by decide) (by decide) (by decide)] at j1
      rw [oq 102 (by decide) (by decide) (by decide) (by decide), o2 32 (by decide) (by decide) (by decide), x34, aup_k, ho 103 (by decide) (by decide) (by decide)]
      have q := r6 j j0 j1
      refine ⟨q.1, ?_⟩
      split
      · rfl
      · exact q.2
    · intro c' k' p0 p1 p2 p3
      rw [aup_o (by decide), hsp c' k' p0 p1 p2 p3, r7 c' k' p0 p1 p2 p3, o2 26 (by decide) (by decide) (by decide), o2 36 (by decide) (by decide) (by decide), x34]
      by_cases h1 : c' = c
      · subst h1
        rw [if_pos rfl]
        by_cases h2 : s 34 c' ≤ k' ∧ k' < s 34 c' + rdN s c' k
        · rw [if_pos ⟨rfl, h2⟩, if_neg (by omega)]
        · rw [if_neg (fun y => h2 y.2)]
          by_cases h3 : c' < s 26 6 ∧ s 34 c' ≤ k' ∧ k' < s 36 c'
          · rw [if_pos h3, if_pos (by omega)]
          · rw [if_neg h3, if_neg (by omega)]
      · rw [if_neg (fun y => h1 y.1), if_neg h1]
    · unfold rK at r8 ⊢
      rw [aup_o (k' := 86) (by decide), h6 29 (by decide), x1, if_neg (by decide), o2 46 (by decide) (by decide) (by decide), o2 48 (by decide) (by decide) (by decide), o2 38 (by decide) (by decide) (by decide), o2 26 (by decide) (by decide) (by decide), oq 105 (by decide) (by decide) (by decide) (by decide), oq 106 (by decide) (by decide) (by decide) (by decide), oq 107 (by decide) (by decide) (by decide) (by decide)]
      exact r8
    · intro i i0 i1
      rw [x1, if_pos rfl] at i1
      rw [aup_o (by decide), x61, rd_61 hJ R.1 i0 i1, o2 10 (by decide) (by decide) (by decide), o2 12 (by decide) (by decide) (by decide)]
      exact hrow i i0 i1
  refine ⟨fun hz => ?_, q2⟩
  -- nothing was read: the position is as it was
  have e103 : aup q 103 c (s 34 c + rdN s c k) = q := by
    rw [hz, Int.add_zero]
    have : q 103 c = s 34 c := by rw [ho 103 (by decide) (by decide) (by decide)]; exact (r6 c c0 c1).2
    rw [← this]
    exact aup_id q 103 c
  have e34 : rd2 s c k = rd1 s c k := by
    unfold rd2
    rw [hz, Int.add_zero]
    have : rd1 s c k 34 c = s 34 c := by rw [o 34 (by decide) (by decide)]
    rw [← this]
    exact aup_id _ 34 c
  rw [e103, e34] at q2
  exact q2
theorem m_read_l (hw : qWF g) {m : aS} {Q : Int32 → qS → Prop} {T : String → qS → Prop} (hJ : jJ s) (hr : rL s m) (n1 : s 2 9 < 400) {k : Int} (c0 : 0 ≤ a) (c1 : a < s 26 6) (k0 : 1 ≤ k) (k1 : k ≤ 50) (J1 : jJ (opS s 264 a k c tx)) (hQ : ∀ b', rL (stS (opS s 264 a k c tx)) b' → mF m b' → Q (iI (rdN s a k)) (qi b')) : ∀ (i : Int) (q : aS) (o6 o7 : Option qP), 0 ≤ i → i ≤ rdN s a k → rdM s m a (rdN s a k) i q → qV g mX10_read (d + 8) 0 68 [some (.inr 86), some (.inl (iI a)), some (.inl (iI k)), some (.inl (iI (s 32 a))), some (.inl (iI (rdN s a k))), some (.inl (iI i)), o6, o7] [] (qi q) Q T := by
  have B := jb hJ
  have C := jc hJ c0 c1
  have R := rd_b hJ c0 c1 k0 k1
  refine stepUp (rdN s a k) (fun i ih q o6 o7 i0 i1 hM => wX10_read_68 hw ?_)
  obtain ⟨hF, ho, h6, h34, hrow, hsp⟩ := id hM
  have e103 : q 103 a = s 34 a := by rw [ho 103 (by decide) (by decide) (by decide)]; exact rc_103 hr c0 c1
  by_cases h : i < rdN s a k
  · have V := jv hJ (t := s 32 a) (i := s 34 a + i) C.1 C.2.1 (by omega) (by omega)
    have e100 : q 100 (400 * s 32 a + (s 34 a + i)) = s 28 (400 * s 32 a + (s 34 a + i)) := by rw [ho 100 (by decide) (by decide) (by decide)]; exact rv_100 hr C.1 C.2.1 (by omega) (by omega)
    have e91 : q 91 (s 28 (400 * s 32 a + (s 34 a + i))) = s 10 (s 28 (400 * s 32 a + (s 34 a + i))) := by rw [ho 91 (by decide) (by decide) (by decide)]; exact rr_91 hr V.1 V.2
    have e92 : q 92 (s 28 (400 * s 32 a + (s 34 a + i))) = s 12 (s 28 (400 * s 32 a + (s 34 a + i))) := by rw [ho 92 (by decide) (by decide) (by decide)]; exact rr_92 hr V.1 V.2
    simp (disch := omega) only [z_app, z_rd, z_cl, z_add, z_sub, z_mul, z_neg, z_lit, z_leT, z_leF, z_ltT, z_ltF, z_eqT, z_eqF, i_leT, i_leF, i_ltT, i_ltF, i_eqT, i_eqF, z_le, z_lt, z_eq, z_ite, z_at, z_pt, z_up, z_wr, z_wi1, z_wi0, z_wi, z_inS, z_toInt, z_nb0, z_nb1, Int.cast_ofNat_Int, true_and, and_true, not_true_eq_false, not_false_eq_true, false_imp_iff, true_imp_iff, aup_o, aup_k, ite_true, ite_false, z_fa000, z_fa001, z_fa010, z_fa011, z_fa100, z_fa101, z_fa110, z_fa111, if_true, if_false, e103]
    refine wX10_recordOf hw ?_
    simp (disch := omega) only [z_app, z_rd, z_cl, z_add, z_sub, z_mul, z_neg, z_lit, z_leT, z_leF, z_ltT, z_ltF, z_eqT, z_eqF, i_leT, i_leF, i_ltT, i_ltF, i_eqT, i_eqF, z_le, z_lt, z_eq, z_ite, z_at, z_pt, z_up, z_wr, z_wi1, z_wi0, z_wi, z_inS, z_toInt, z_nb0, z_nb1, Int.cast_ofNat_Int, true_and, and_true, not_true_eq_false, not_false_eq_true, false_imp_iff, true_imp_iff, aup_o, aup_k, ite_true, ite_false, z_fa000, z_fa001, z_fa010, z_fa011, z_fa100, z_fa101, z_fa110, z_fa111, if_true, if_false, e100, e91, e92]
    refine ih h _ _ _ (by omega) (by omega) ⟨mF_tr hF (mF_tr (mF_up (by decide) (by decide)) (mF_tr (mF_up (by decide) (by decide)) (mF_tr (mF_up (by decide) (by decide)) (mF_up (by decide) (by decide))))), ?_, ?_, ?_, ?_, ?_⟩
    · intro x x1 x2 x3
      rw [aup_o x2, aup_o x3, aup_o x3, aup_o x3, ho x x1 x2 x3]
    · intro j hj
      rw [aup_o (by decide), aup_o (by decide), aup_o (by decide), aup_o (by decide), h6 j hj]
    · rw [aup_o (by decide), aup_o (by decide), aup_o (by decide), aup_o (by decide), h34]
    · intro j j0 j1
      rw [aup_o (k' := 108) (by decide)]
      simp only [aup_k]
      by_cases hj : j = i
      · subst hj
        rw [if_neg (by omega), if_neg (by omega), if_pos rfl, if_neg (by omega), if_pos rfl, if_pos rfl]
        exact ⟨rfl, rfl, rfl⟩
      · rw [if_neg (by omega), if_neg (by omega), if_neg (by omega), if_neg (by omega), if_neg (by omega), if_neg (by omega), if_neg (by omega), if_neg (by omega), if_neg (by omega)]
        exact hrow j j0 (by omega)
    · intro c' k' p0 p1 p2 p3
      rw [aup_k, aup_o (k' := 104) (by decide), aup_o (k' := 104) (by decide), aup_o (k' := 104) (by decide), hsp c' k' p0 p1 p2 p3]
      by_cases hh : c' = a ∧ k' = s 34 a + i
      · rw [if_pos (by omega), if_pos (by omega)]
      · rw [if_neg (by omega)]
        by_cases h2 : c' = a ∧ s 34 a ≤ k' ∧ k' < s 34 a + i
        · rw [if_pos h2, if_pos (by omega)]
        · rw [if_neg h2, if_neg (by omega)]
  · have ei : i = rdN s a k := by omega
    subst ei
    have L := rL_rd1 hJ hr c0 c1 k0 k1 hM
    by_cases hz : rdN s a k = 0
    · have hr1 := L.1 hz
      rw [op_264z hz] at J1 hQ
      simp (disch := omega) only [z_app, z_rd, z_cl, z_add, z_sub, z_mul, z_neg, z_lit, z_leT, z_leF, z_ltT, z_ltF, z_eqT, z_eqF, i_leT, i_leF, i_ltT, i_ltF, i_eqT, i_eqF, z_le, z_lt, z_eq, z_ite, z_at, z_pt, z_up, z_wr, z_wi1, z_wi0, z_wi, z_inS, z_toInt, z_nb0, z_nb1, Int.cast_ofNat_Int, true_and, and_true, not_true_eq_false, not_false_eq_true, false_imp_iff, true_imp_iff, aup_o, aup_k, ite_true, ite_false, z_fa000, z_fa001, z_fa010, z_fa011, z_fa100, z_fa101, z_fa110, z_fa111, if_true, if_false]
      refine wX10_read_199 hw ?_
      exact m_settle hw J1 hr1 (fun b2 h2 f2 => hQ b2 h2 (mF_tr hF f2))
    · rw [op_264p hz] at J1 hQ
      have ho7 : okR s 7 (-1) a (s 34 a + rdN s a k) (s 32 a) := ⟨by omega, by omega, by omega, by omega, by omega, by omega, by omega, by omega, by omega, by omega, by omega, by omega, fun h => by omega⟩
      have ag : agR s (rd2 s a k) := by
        refine agR_up ?_ (Or.inl (by decide)) (by decide)
        refine ⟨by rw [rd1_o s a k (by decide) (by decide)], fun x hx => rd1_o s a k (by omega) (by omega)⟩
      have x2 : rd2 s a k 2 = s 2 := by unfold rd2; rw [aup_o (by decide), rd1_o s a k (by decide) (by decide)]
      have x20 : rd2 s a k 20 = s 20 := by unfold rd2; rw [aup_o (by decide), rd1_o s a k (by decide) (by decide)]
      have hy : ∀ i, 0 ≤ i → i < rd2 s a k 1 10 → rd2 s a k 61 i < rd2 s a k 2 9 := by
        intro i i0 i1
        have e1 : rd2 s a k 1 10 = rdN s a k := by unfold rd2; rw [aup_o (by decide), rd1_1, if_pos rfl]
        have e61 : rd2 s a k 61 = rd1 s a k 61 := by unfold rd2; rw [aup_o (by decide)]
        rw [e1] at i1
        rw [e61, rd_61 hJ R.1 i0 i1, x2]
        exact (jv hJ (t := s 32 a) (i := s 34 a + i) C.1 C.2.1 (by omega) (by omega)).2
      simp (disch := omega) only [z_app, z_rd, z_cl, z_add, z_sub, z_mul, z_neg, z_lit, z_leT, z_leF, z_ltT, z_ltF, z_eqT, z_eqF, i_leT, i_leF, i_ltT, i_ltF, i_eqT, i_eqF, z_le, z_lt, z_eq, z_ite, z_at, z_pt, z_up, z_wr, z_wi1, z_wi0, z_wi, z_inS, z_toInt, z_nb0, z_nb1, Int.cast_ofNat_Int, true_and, and_true, not_true_eq_false, not_false_eq_true, false_imp_iff, true_imp_iff, aup_o, aup_k, ite_true, ite_false, z_fa000, z_fa001, z_fa010, z_fa011, z_fa100, z_fa101, z_fa110, z_fa111, if_true, if_false, e103]
      refine m_effFlush (t := rd2 s a k) (Q := fun _ s4 => qV g mX10_read (d + 8) 0 199 [some (.inr 86), some (.inl (iI a)), some (.inl (iI k)), some (.inl (iI (s 32 a))), some (.inl (iI (rdN s a k))), some (.inl (iI (rdN s a k))), o6, o7] [] s4 Q T) hw hJ ag (by rw [x2]) x20 hy L.2 n1 ho7 (fun b1 h1 f1 => ⟨0, wX10_read_199 hw (m_settle hw J1 h1 (fun b2 h2 f2 => hQ b2 h2 (mF_tr hF (mF_tr (mF_up (by decide) (by decide)) (mF_tr f1 f2)))))⟩) (fun _ _ _ h => h)
theorem mw_264i (hw : qWF g) (hJ : jJ s) (ia : i32 a) (ib : i32 b) (hI : bI s 264 a b (-1)) : mO g (d + 10) mX10_read [.inl (iI a), .inl (iI b)] s s (.inr 0) := by
  have B : 0 ≤ s 26 6 ∧ s 26 6 ≤ 6 ∧ 0 ≤ s 2 9 ∧ s 2 9 ≤ 400 := by have := jb hJ; omega
  have hx : ¬ (0 ≤ a ∧ a < s 26 6) := by unfold bI at hI; omega
  clear hI
  unfold i32 at ia ib
  refine m_thr fun m Q hrJ hQ => wX10_read hw (wX10_isConsumer hw ?_)
  have e27 := rs_27 hrJ.1
  have e15 := rs_15 hrJ.1
  by_cases hb : 1 ≤ b ∧ b ≤ 50
  · simp (disch := omega) only [z_app, z_rd, z_cl, z_add, z_sub, z_mul, z_neg, z_lit, z_leT, z_leF, z_ltT, z_ltF, z_eqT, z_eqF, i_leT, i_leF, i_ltT, i_ltF, i_eqT, i_eqF, z_le, z_lt, z_eq, z_ite, z_at, z_pt, z_up, z_wr, z_wi1, z_wi0, z_wi, z_inS, z_toInt, z_nb0, z_nb1, Int.cast_ofNat_Int, true_and, and_true, not_true_eq_false, not_false_eq_true, false_imp_iff, true_imp_iff, aup_o, aup_k, ite_true, ite_false, z_fa000, z_fa001, z_fa010, z_fa011, z_fa100, z_fa101, z_fa110, z_fa111, if_true, if_false, e27]
    refine ⟨Or.inl trivial, wX10_read_29 hw ?_⟩
    by_cases hf : s 2 9 = 400
    · simp (disch := omega) only [z_app, z_rd, z_cl, z_add, z_sub, z_mul, z_neg, z_lit, z_leT, z_leF, z_ltT, z_ltF, z_eqT, z_eqF, i_leT, i_leF, i_ltT, i_ltF, i_eqT, i_eqF, z_le, z_lt, z_eq, z_ite, z_at, z_pt, z_up, z_wr, z_wi1, z_wi0, z_wi, z_inS, z_toInt, z_nb0, z_nb1, Int.cast_ofNat_Int, true_and, and_true, not_true_eq_false, not_false_eq_true, false_imp_iff, true_imp_iff, aup_o, aup_k, ite_true, ite_false, z_fa000, z_fa001, z_fa010, z_fa011, z_fa100, z_fa101, z_fa110, z_fa111, if_true, if_false, e15]
      exact hQ 0
    · simp (disch := omega) only [z_app, z_rd, z_cl, z_add, z_sub, z_mul, z_neg, z_lit, z_leT, z_leF, z_ltT, z_ltF, z_eqT, z_eqF, i_leT, i_leF, i_ltT, i_ltF, i_eqT, i_eqF, z_le, z_lt, z_eq, z_ite, z_at, z_pt, z_up, z_wr, z_wi1, z_wi0, z_wi, z_inS, z_toInt, z_nb0, z_nb1, Int.cast_ofNat_Int, true_and, and_true, not_true_eq_false, not_false_eq_true, false_imp_iff, true_imp_iff, aup_o, aup_k, ite_true, ite_false, z_fa000, z_fa001, z_fa010, z_fa011, z_fa100, z_fa101, z_fa110, z_fa111, if_true, if_false, e15]
      exact hQ 0
  · simp (disch := omega) only [z_app, z_rd, z_cl, z_add, z_sub, z_mul, z_neg, z_lit, z_leT, z_leF, z_ltT, z_ltF, z_eqT, z_eqF, i_leT, i_leF, i_ltT, i_ltF, i_eqT, i_eqF, z_le, z_lt, z_eq, z_ite, z_at, z_pt, z_up, z_wr, z_wi1, z_wi0, z_wi, z_inS, z_toInt, z_nb0, z_nb1, Int.cast_ofNat_Int, true_and, and_true, not_true_eq_false, not_false_eq_true, false_imp_iff, true_imp_iff, aup_o, aup_k, ite_true, ite_false, z_fa000, z_fa001, z_fa010, z_fa011, z_fa100, z_fa101, z_fa110, z_fa111, if_true, if_false, e27]
    refine ⟨Or.inl trivial, wX10_read_29 hw ?_⟩
    by_cases hf : s 2 9 = 400
    · simp (disch := omega) only [z_app, z_rd, z_cl, z_add, z_sub, z_mul, z_neg, z_lit, z_leT, z_leF, z_ltT, z_ltF, z_eqT, z_eqF, i_leT, i_leF, i_ltT, i_ltF, i_eqT, i_eqF, z_le, z_lt, z_eq, z_ite, z_at, z_pt, z_up, z_wr, z_wi1, z_wi0, z_wi, z_inS, z_toInt, z_nb0, z_nb1, Int.cast_ofNat_Int, true_and, and_true, not_true_eq_false, not_false_eq_true, false_imp_iff, true_imp_iff, aup_o, aup_k, ite_true, ite_false, z_fa000, z_fa001, z_fa010, z_fa011, z_fa100, z_fa101, z_fa110, z_fa111, if_true, if_false, e15]
      exact hQ 0
    · simp (disch := omega) only [z_app, z_rd, z_cl, z_add, z_sub, z_mul, z_neg, z_lit, z_leT, z_leF, z_ltT, z_ltF, z_eqT, z_eqF, i_leT, i_leF, i_ltT, i_ltF, i_eqT, i_eqF, z_le, z_lt, z_eq, z_ite, z_at, z_pt, z_up, z_wr, z_wi1, z_wi0, z_wi, z_inS, z_toInt, z_nb0, z_nb1, Int.cast_ofNat_Int, true_and, and_true, not_true_eq_false, not_false_eq_true, false_imp_iff, true_imp_iff, aup_o, aup_k, ite_true, ite_false, z_fa000, z_fa001, z_fa010, z_fa011, z_fa100, z_fa101, z_fa110, z_fa111, if_true, if_false, e15]
      exact hQ 0
theorem mw_264a (hw : qWF g) (hJ : jJ s) (ib : i32 b) (hI : ¬ bI s 264 a b (-1)) (hA : bA 264 a b c) : mO g (d + 10) mX10_read [.inl (iI a), .inl (iI b)] s s (.inr 1) := by
  have B : 0 ≤ s 26 6 ∧ s 26 6 ≤ 6 ∧ 0 ≤ s 2 9 ∧ s 2 9 ≤ 400 := by have := jb hJ; omega
  have hx : 0 ≤ a ∧ a < s 26 6 := by unfold bI at hI; omega
  have hb : ¬ (1 ≤ b ∧ b ≤ 50) := by unfold bA at hA; omega
  clear hI hA
  unfold i32 at ib
  refine m_thr fun m Q hrJ hQ => wX10_read hw (wX10_isConsumer hw ?_)
  have e27 := rs_27 hrJ.1
  have e15 := rs_15 hrJ.1
  simp (disch := omega) only [z_app, z_rd, z_cl, z_add, z_sub, z_mul, z_neg, z_lit, z_leT, z_leF, z_ltT, z_ltF, z_eqT, z_eqF, i_leT, i_leF, i_ltT, i_ltF, i_eqT, i_eqF, z_le, z_lt, z_eq, z_ite, z_at, z_pt, z_up, z_wr, z_wi1, z_wi0, z_wi, z_inS, z_toInt, z_nb0, z_nb1, Int.cast_ofNat_Int, true_and, and_true, not_true_eq_false, not_false_eq_true, false_imp_iff, true_imp_iff, aup_o, aup_k, ite_true, ite_false, z_fa000, z_fa001, z_fa010, z_fa011, z_fa100, z_fa101, z_fa110, z_fa111, if_true, if_false, e27]
  refine ⟨Or.inr trivial, wX10_read_29 hw ?_⟩
  by_cases hf : s 2 9 = 400
  · simp (disch := omega) only [z_app, z_rd, z_cl, z_add, z_sub, z_mul, z_neg, z_lit, z_leT, z_leF, z_ltT, z_ltF, z_eqT, z_eqF, i_leT, i_leF, i_ltT, i_ltF, i_eqT, i_eqF, z_le, z_lt, z_eq, z_ite, z_at, z_pt, z_up, z_wr, z_wi1, z_wi0, z_wi, z_inS, z_toInt, z_nb0, z_nb1, Int.cast_ofNat_Int, true_and, and_true, not_true_eq_false, not_false_eq_true, false_imp_iff, true_imp_iff, aup_o, aup_k, ite_true, ite_false, z_fa000, z_fa001, z_fa010, z_fa011, z_fa100, z_fa101, z_fa110, z_fa111, if_true, if_false, e15]
    exact hQ 0
  · simp (disch := omega) only [z_app, z_rd, z_cl, z_add, z_sub, z_mul, z_neg, z_lit, z_leT, z_leF, z_ltT, z_ltF, z_eqT, z_eqF, i_leT, i_leF, i_ltT, i_ltF, i_eqT, i_eqF, z_le, z_lt, z_eq, z_ite, z_at, z_pt, z_up, z_wr, z_wi1, z_wi0, z_wi, z_inS, z_toInt, z_nb0, z_nb1, Int.cast_ofNat_Int, true_and, and_true, not_true_eq_false, not_false_eq_true, false_imp_iff, true_imp_iff, aup_o, aup_k, ite_true, ite_false, z_fa000, z_fa001, z_fa010, z_fa011, z_fa100, z_fa101, z_fa110, z_fa111, if_true, if_false, e15]
    exact hQ 0
theorem mw_264s (hw : qWF g) (hJ : jJ s) (hI : ¬ bI s 264 a b (-1)) (hA : ¬ bA 264 a b c) (hS : bS s 264 a (-1)) : mO g (d + 10) mX10_read [.inl (iI a), .inl (iI b)] s s (.inr 2) := by
  have B : 0 ≤ s 26 6 ∧ s 26 6 ≤ 6 ∧ 0 ≤ s 2 9 ∧ s 2 9 ≤ 400 := by have := jb hJ; omega
  have hx : 0 ≤ a ∧ a < s 26 6 := by unfold bI at hI; omega
  have hb : 1 ≤ b ∧ b ≤ 50 := by unfold bA at hA; omega
  have hf : s 2 9 = 400 := by unfold bS at hS; omega
  clear hI hA hS
  refine m_thr fun m Q hrJ hQ => wX10_read hw (wX10_isConsumer hw ?_)
  have e27 := rs_27 hrJ.1
  have e15 := rs_15 hrJ.1
  simp (disch := omega) only [z_app, z_rd, z_cl, z_add, z_sub, z_mul, z_neg, z_lit, z_leT, z_leF, z_ltT, z_ltF, z_eqT, z_eqF, i_leT, i_leF, i_ltT, i_ltF, i_eqT, i_eqF, z_le, z_lt, z_eq, z_ite, z_at, z_pt, z_up, z_wr, z_wi1, z_wi0, z_wi, z_inS, z_toInt, z_nb0, z_nb1, Int.cast_ofNat_Int, true_and, and_true, not_true_eq_false, not_false_eq_true, false_imp_iff, true_imp_iff, aup_o, aup_k, ite_true, ite_false, z_fa000, z_fa001, z_fa010, z_fa011, z_fa100, z_fa101, z_fa110, z_fa111, if_true, if_false, e27]
  refine ⟨Or.inr trivial, wX10_read_29 hw ?_⟩
  simp (disch := omega) only [z_app, z_rd, z_cl, z_add, z_sub, z_mul, z_neg, z_lit, z_leT, z_leF, z_ltT, z_ltF, z_eqT, z_eqF, i_leT, i_leF, i_ltT, i_ltF, i_eqT, i_eqF, z_le, z_lt, z_eq, z_ite, z_at, z_pt, z_up, z_wr, z_wi1, z_wi0, z_wi, z_inS, z_toInt, z_nb0, z_nb1, Int.cast_ofNat_Int, true_and, and_true, not_true_eq_false, not_false_eq_true, false_imp_iff, true_imp_iff, aup_o, aup_k, ite_true, ite_false, z_fa000, z_fa001, z_fa010, z_fa011, z_fa100, z_fa101, z_fa110, z_fa111, if_true, if_false, e15]
  exact hQ 0
theorem mw_264r (hw : qWF g) (hJ : jJ s) (hI : ¬ bI s 264 a b (-1)) (hA : ¬ bA 264 a b c) (hS : ¬ bS s 264 a (-1)) : mO g (d + 10) mX10_read [.inl (iI a), .inl (iI b)] s (stS (opS s 264 a b c (-1))) (.inl (opA s 264 a b c (-1))) := by
  have B : 0 ≤ s 26 6 ∧ s 26 6 ≤ 6 ∧ 0 ≤ s 2 9 ∧ s 2 9 ≤ 400 := by have := jb hJ; omega
  have hx : 0 ≤ a ∧ a < s 26 6 := by unfold bI at hI; omega
  have hb : 1 ≤ b ∧ b ≤ 50 := by unfold bA at hA; omega
  have n1 : s 2 9 < 400 := by unfold bS at hS; omega
  have J1 := (p_264 (c := c) hw hJ hI hA hS).1
  clear hI hA hS
  have C := jc hJ hx.1 hx.2
  have R := rd_b hJ hx.1 hx.2 hb.1 hb.2
  refine m_op_ret (fun x hx => sto s _ _ _ _ _ hx) fun m Q hr0 hQ hr => wX10_read hw (wX10_isConsumer hw ?_)
  have e27 := rs_27 hr
  have e15 := rs_15 hr
  have e102 := rc_102 hr hx.1 hx.2
  simp (disch := omega) only [z_app, z_rd, z_cl, z_add, z_sub, z_mul, z_neg, z_lit, z_leT, z_leF, z_ltT, z_ltF, z_eqT, z_eqF, i_leT, i_leF, i_ltT, i_ltF, i_eqT, i_eqF, z_le, z_lt, z_eq, z_ite, z_at, z_pt, z_up, z_wr, z_wi1, z_wi0, z_wi, z_inS, z_toInt, z_nb0, z_nb1, Int.cast_ofNat_Int, true_and, and_true, not_true_eq_false, not_false_eq_true, false_imp_iff, true_imp_iff, aup_o, aup_k, ite_true, ite_false, z_fa000, z_fa001, z_fa010, z_fa011, z_fa100, z_fa101, z_fa110, z_fa111, if_true, if_false, e27]
  refine ⟨Or.inr trivial, wX10_read_29 hw ?_⟩
  simp (disch := omega) only [z_app, z_rd, z_cl, z_add, z_sub, z_mul, z_neg, z_lit, z_leT, z_leF, z_ltT, z_ltF, z_eqT, z_eqF, i_leT, i_leF, i_ltT, i_ltF, i_eqT, i_eqF, z_le, z_lt, z_eq, z_ite, z_at, z_pt, z_up, z_wr, z_wi1, z_wi0, z_wi, z_inS, z_toInt, z_nb0, z_nb1, Int.cast_ofNat_Int, true_and, and_true, not_true_eq_false, not_false_eq_true, false_imp_iff, true_imp_iff, aup_o, aup_k, ite_true, ite_false, z_fa000, z_fa001, z_fa010, z_fa011, z_fa100, z_fa101, z_fa110, z_fa111, if_true, if_false, e15, e102]
  refine m_unreadOf hw hJ hr0 hx.1 hx.2 ?_
  have en : (if b < s 30 (s 32 a) - s 34 a then b else s 30 (s 32 a) - s 34 a) = rdN s a b := by
    unfold rdN
    split <;> split <;> omega
  simp +contextual (disch := omega) only [z_app, z_rd, z_cl, z_add, z_sub, z_mul, z_neg, z_lit, z_le, z_lt, z_eq, z_ite, z_at, z_pt, z_up, z_wr, z_wi, z_inS, z_toInt, z_nb0, z_nb1, Int.cast_ofNat_Int, true_and, and_true, not_true_eq_false, not_false_eq_true, false_imp_iff, true_imp_iff, aup_o, aup_k, ite_true, ite_false, en]
  refine m_read_l (c := c) (tx := -1) hw hJ hr0 n1 hx.1 hx.2 hb.1 hb.2 J1 hQ 0 _ _ _ (by omega) R.1 ⟨mF_86 (by decide) (by decide) (by decide), fun x x1 _ _ => aup_o x1, fun j hj => by rw [aup_k, if_neg hj], aup_s _ _ _ _, fun j j0 j1 => by omega, fun c' k' p0 p1 p2 p3 => ?_⟩
  rw [aup_o (by decide), if_neg (by omega)]
end MRd
