/-! ===== the reference's parser: commands, scripts ===== -/
def cmF (w m v : aS) (k j : Int) : Prop := mPF m v ∧ (v 86 45 = 0 ∧ v 86 46 = m 86 46) ∧ v 86 51 = k + 1 ∧ (∀ i, i ≠ k → v 112 i = m 112 i ∧ v 113 i = m 113 i ∧ v 115 i = m 115 i) ∧ (v 112 k = w 80 j - 256 ∧ v 113 k = w 82 j ∧ v 115 k = k + 1) ∧ (∀ i, i < 4 * k ∨ 4 * k + 3 < i → v 114 i = m 114 i) ∧ (∀ i, i < m 86 55 → v 116 i = m 116 i ∧ v 117 i = m 117 i ∧ v 118 i = m 118 i) ∧ m 86 55 ≤ v 86 55 ∧ (∀ i, i < m 86 57 → v 119 i = m 119 i)
theorem cmF_mk {w m v u v2 : aS} {k j : Int} (h45 : m 86 45 = 0) (hu : u = aup (aup (aup (aup m 86 51 (k + 1)) 112 k (w 80 j - 256)) 113 k (w 82 j)) 115 k (k + 1)) (f1 : scF u v2) (f2 : cF v2 v k) : cmF w m v k j := by
  have u86 : ∀ i, i ≠ 51 → u 86 i = m 86 i := fun i hi => by rw [hu, aup_o (by decide), aup_o (by decide), aup_o (by decide), aup_i hi]
  have ux : ∀ x : Nat, x ≠ 86 → x ≠ 112 → x ≠ 113 → x ≠ 115 → u x = m x := fun x x1 x2 x3 x4 => by rw [hu, aup_o x4, aup_o x3, aup_o x2, aup_o x1]
  have vx : ∀ x : Nat, x ≠ 86 → x ≠ 114 → x ≠ 116 → x ≠ 117 → x ≠ 118 → x ≠ 119 → v x = u x := fun x x1 x2 x3 x4 x5 x6 => by rw [f2.1 x x1 x2 x3 x4 x5 x6, f1.1 x x1]
  have e55 : v2 86 55 = m 86 55 := by rw [f1.2 55 (by omega), u86 55 (by decide)]
  have e57 : v2 86 57 = m 86 57 := by rw [f1.2 57 (by omega), u86 57 (by decide)]
  obtain ⟨b1, b2, b3, b4, b5, b6⟩ := f2
  rw [e55] at b4 b5
  rw [e57] at b6
  refine ⟨mPF_tr (b := u) (by rw [hu]; exact mPF_tr (mPF_86 (by decide) (by decide)) (mPF_tr (mPF_up (by decide) (by decide)) (mPF_tr (mPF_up (by decide) (by decide)) (mPF_up (by decide) (by decide))))) (mPF_tr (mPF_sc f1) (mPF_cF ⟨b1, b2, b3, by rw [e55]; exact b4, by rw [e55]; exact b5, by rw [e57]; exact b6⟩)), ?_, ?_, fun i hi => ?_, ?_, fun i hi => ?_, fun i hi => ?_, b5, fun i hi => ?_⟩
  · exact ⟨by rw [b2 45 (by omega) (by decide) (by decide), f1.2 45 (by omega), u86 45 (by decide)]; exact h45, by rw [b2 46 (by omega) (by decide) (by decide), f1.2 46 (by omega), u86 46 (by decide)]⟩
  · rw [b2 51 (by omega) (by decide) (by decide), f1.2 51 (by omega), hu, aup_o (by decide), aup_o (by decide), aup_o (by decide), aup_s]
  · rw [vx 112 (by decide) (by decide) (by decide) (by decide) (by decide) (by decide), vx 113 (by decide) (by decide) (by decide) (by decide) (by decide) (by decide), vx 115 (by decide) (by decide) (by decide) (by decide) (by decide) (by decide), hu]
    refine ⟨?_, ?_, ?_⟩
    · rw [aup_o (by decide), aup_o (by decide), aup_i hi, aup_o (by decide)]
    · rw [aup_o (by decide), aup_i hi, aup_o (by decide), aup_o (by decide)]
    · rw [aup_i hi, aup_o (by decide), aup_o (by decide), aup_o (by decide)]
  · rw [vx 112 (by decide) (by decide) (by decide) (by decide) (by decide) (by decide), vx 113 (by decide) (by decide) (by decide) (by decide) (by decide) (by decide), vx 115 (by decide) (by decide) (by decide) (by decide) (by decide) (by decide), hu]
    refine ⟨?_, ?_, ?_⟩
    · rw [aup_o (by decide), aup_o (by decide), aup_s]
    · rw [aup_o (by decide), aup_s]
    · rw [aup_s]
  · rw [b3 i hi, f1.1 114 (by decide), ux 114 (by decide) (by decide) (by decide) (by decide)]
  · obtain ⟨p1, p2, p3⟩ := b4 i hi
    rw [p1, p2, p3, f1.1 116 (by decide), f1.1 117 (by decide), f1.1 118 (by decide), ux 116 (by decide) (by decide) (by decide) (by decide), ux 117 (by decide) (by decide) (by decide) (by decide), ux 118 (by decide) (by decide) (by decide) (by decide)]
    exact ⟨rfl, rfl, rfl⟩
  · rw [b6 i hi, f1.1 119 (by decide), ux 119 (by decide) (by decide) (by decide) (by decide)]
theorem cmA_c {w m v : aS} {a j : Int} (h : cmA w m a j) (h114 : ∀ i, 4 * a ≤ i → i ≤ 4 * a + 3 → v 114 i = m 114 i) (hat : ∀ i, i < m 86 55 → v 116 i = m 116 i ∧ v 117 i = m 117 i ∧ v 118 i = m 118 i) (h55 : m 86 55 ≤ v 86 55) : cmA w v a j := by
  obtain ⟨c1, c2, c3⟩ := h
  have n3 := nbs_3 (w 80 j - 256)
  refine ⟨fun h => ?_, fun h => by rw [h114 (4 * a) (by omega) (by omega)]; exact c2 h, fun h => ?_⟩
  · obtain ⟨d1, d2⟩ := c1 h
    exact ⟨fun i hi => by rw [h114 (4 * a + i) (by omega) (by omega)]; exact d1 i hi, by rw [h114 (4 * a + 3) (by omega) (by omega)]; exact d2⟩
  · obtain ⟨x, y, A, d1, d2, d3, d4, d5, d6, d7, d8, d9, d10⟩ := c3 h
    refine ⟨x, y, A, d1, d2, d3, ?_, aL_c _ _ (fun i i0 i1 => hat i (by omega)) d5, ?_, aL_c _ _ (fun i i0 i1 => hat i (by omega)) d7, ?_, ?_, ?_⟩
    · rw [h114 (4 * a) (by omega) (by omega)]; exact d4
    · rw [h114 (4 * a + 1) (by omega) (by omega)]; exact d6
    · rw [h114 (4 * a + 2) (by omega) (by omega)]; exact d8
    · rw [h114 (4 * a + 2) (by omega) (by omega)]; omega
    · rw [h114 (4 * a + 3) (by omega) (by omega)]; exact d10
section MC
variable {g : qG} {d : Nat} {Q : Int32 → qS → Prop} {T : String → qS → Prop} {m w : aS} {b : Int → Int} {n c j : Int} {e : Int → Int}
theorem m_c26B (hw : qWF g) {f : Int} {o1 : Option qP} (h45 : m 86 45 = f) (f1 : 1 ≤ f) (f3 : f ≤ 3) (hQ : Q (iI 0) (qi m)) : qV g mX10_parseCommand (d + 1) 0 26 [some (.inr 86), o1] [] (qi m) Q T := by
  have h40 : qV g mX10_parseCommand (d + 1) 0 40 [some (.inr 86), o1] [] (qi m) Q T := by
    refine wX10_parseCommand_40 hw ?_
    simp (disch := omega) only [z_app, z_rd, z_cl, z_add, z_sub, z_mul, z_neg, z_lit, z_leT, z_leF, z_ltT, z_ltF, z_eqT, z_eqF, i_leT, i_leF, i_ltT, i_ltF, i_eqT, i_eqF, z_le, z_lt, z_eq, z_ite, z_at, z_pt, z_up, z_wr, z_wi1, z_wi0, z_wi, z_inS, z_toInt, z_nb0, z_nb1, Int.cast_ofNat_Int, true_and, and_true, not_true_eq_false, not_false_eq_true, false_imp_iff, true_imp_iff, aup_o, aup_k, ite_true, ite_false, z_fa000, z_fa001, z_fa010, z_fa011, z_fa100, z_fa101, z_fa110, z_fa111, if_true, if_false, h45]
    exact ⟨Or.inl trivial, hQ⟩
  have hc0 : ¬ qi m 86 45 = (0 : Int32) := nz_45 h45 f1 f3
  refine wX10_parseCommand_26 hw ?_
  simp only [if_neg hc0]
  exact ⟨fun _ => ⟨trivial, h40⟩, fun _ => ⟨trivial, h40⟩⟩
theorem m_c141 (hw : qWF g) {k z : Int} (k0 : 0 ≤ k) (k1 : k < 60) (hz : m 112 k = z) (z0 : 0 ≤ z) (z1 : z ≤ 12) (h0 : z < 11 → Q (iI 0) (qi m)) (h1 : 11 ≤ z → Q (iI 1) (qi m)) : qV g mX10_parseCommand (d + 1) 0 141 [some (.inr 86), some (.inl (iI k))] [] (qi m) Q T := by
  refine wX10_parseCommand_141 hw ?_
  by_cases z12 : z = 12
  · have q := h1 (by omega)
    clear h0 h1
    simp (disch := omega) only [z_app, z_rd, z_cl, z_add, z_sub, z_mul, z_neg, z_lit, z_leT, z_leF, z_ltT, z_ltF, z_eqT, z_eqF, i_leT, i_leF, i_ltT, i_ltF, i_eqT, i_eqF, z_le, z_lt, z_eq, z_ite, z_at, z_pt, z_up, z_wr, z_wi1, z_wi0, z_wi, z_inS, z_toInt, z_nb0, z_nb1, Int.cast_ofNat_Int, true_and, and_true, not_true_eq_false, not_false_eq_true, false_imp_iff, true_imp_iff, aup_o, aup_k, ite_true, ite_false, z_fa000, z_fa001, z_fa010, z_fa011, z_fa100, z_fa101, z_fa110, z_fa111, if_true, if_false, hz]
    exact ⟨Or.inr trivial, q⟩
  · by_cases z11 : z = 11
    · have q := h1 (by omega)
      clear h0 h1
      simp (disch := omega) only [z_app, z_rd, z_cl, z_add, z_sub, z_mul, z_neg, z_lit, z_leT, z_leF, z_ltT, z_ltF, z_eqT, z_eqF, i_leT, i_leF, i_ltT, i_ltF, i_eqT, i_eqF, z_le, z_lt, z_eq, z_ite, z_at, z_pt, z_up, z_wr, z_wi1, z_wi0, z_wi, z_inS, z_toInt, z_nb0, z_nb1, Int.cast_ofNat_Int, true_and, and_true, not_true_eq_false, not_false_eq_true, false_imp_iff, true_imp_iff, aup_o, aup_k, ite_true, ite_false, z_fa000, z_fa001, z_fa010, z_fa011, z_fa100, z_fa101, z_fa110, z_fa111, if_true, if_false, hz]
      exact ⟨Or.inr trivial, q⟩
    · have q := h0 (by omega)
      clear h0 h1
      simp (disch := omega) only [z_app, z_rd, z_cl, z_add, z_sub, z_mul, z_neg, z_lit, z_leT, z_leF, z_ltT, z_ltF, z_eqT, z_eqF, i_leT, i_leF, i_ltT, i_ltF, i_eqT, i_eqF, z_le, z_lt, z_eq, z_ite, z_at, z_pt, z_up, z_wr, z_wi1, z_wi0, z_wi, z_inS, z_toInt, z_nb0, z_nb1, Int.cast_ofNat_Int, true_and, and_true, not_true_eq_false, not_false_eq_true, false_imp_iff, true_imp_iff, aup_o, aup_k, ite_true, ite_false, z_fa000, z_fa001, z_fa010, z_fa011, z_fa100, z_fa101, z_fa110, z_fa111, if_true, if_false, hz]
      exact ⟨Or.inl trivial, q⟩
theorem m_c141B (hw : qWF g) {k : Int} (k0 : 0 ≤ k) (k1 : k < 60) (hQ : ∀ r : Int, r = 0 ∨ r = 1 → Q (iI r) (qi m)) : qV g mX10_parseCommand (d + 1) 0 141 [some (.inr 86), some (.inl (iI k))] [] (qi m) Q T := by
  have q0 := hQ 0 (Or.inl rfl)
  have q1 := hQ 1 (Or.inr rfl)
  refine wX10_parseCommand_141 hw ?_
  by_cases z12 : iI (m 112 k) = iI 12
  · simp (disch := omega) only [z_app, z_rd, z_cl, z_add, z_sub, z_mul, z_neg, z_lit, z_leT, z_leF, z_ltT, z_ltF, z_eqT, z_eqF, i_leT, i_leF, i_ltT, i_ltF, i_eqT, i_eqF, z_le, z_lt, z_eq, z_ite, z_at, z_pt, z_up, z_wr, z_wi1, z_wi0, z_wi, z_inS, z_toInt, z_nb0, z_nb1, Int.cast_ofNat_Int, true_and, and_true, not_true_eq_false, not_false_eq_true, false_imp_iff, true_imp_iff, aup_o, aup_k, ite_true, ite_false, z_fa000, z_fa001, z_fa010, z_fa011, z_fa100, z_fa101, z_fa110, z_fa111, if_true, if_false, z12]
    exact ⟨Or.inr trivial, q1⟩
  · by_cases z11 : iI (m 112 k) = iI 11
    · simp (disch := omega) only [z_app, z_rd, z_cl, z_add, z_sub, z_mul, z_neg, z_lit, z_leT, z_leF, z_ltT, z_ltF, z_eqT, z_eqF, i_leT, i_leF, i_ltT, i_ltF, i_eqT, i_eqF, z_le, z_lt, z_eq, z_ite, z_at, z_pt, z_up, z_wr, z_wi1, z_wi0, z_wi, z_inS, z_toInt, z_nb0, z_nb1, Int.cast_ofNat_Int, true_and, and_true, not_true_eq_false, not_false_eq_true, false_imp_iff, true_imp_iff, aup_o, aup_k, ite_true, ite_false, z_fa000, z_fa001, z_fa010, z_fa011, z_fa100, z_fa101, z_fa110, z_fa111, if_true, if_false, z11]
      exact ⟨Or.inr trivial, q1⟩
    · simp (disch := omega) only [z_app, z_rd, z_cl, z_add, z_sub, z_mul, z_neg, z_lit, z_leT, z_leF, z_ltT, z_ltF, z_eqT, z_eqF, i_leT, i_leF, i_ltT, i_ltF, i_eqT, i_eqF, z_le, z_lt, z_eq, z_ite, z_at, z_pt, z_up, z_wr, z_wi1, z_wi0, z_wi, z_inS, z_toInt, z_nb0, z_nb1, Int.cast_ofNat_Int, true_and, and_true, not_true_eq_false, not_false_eq_true, false_imp_iff, true_imp_iff, aup_o, aup_k, ite_true, ite_false, z_fa000, z_fa001, z_fa010, z_fa011, z_fa100, z_fa101, z_fa110, z_fa111, if_true, if_false, z12, z11]
      exact ⟨Or.inl trivial, q0⟩
def pBad (C V : Int → Int) (j k L f x : Int) : Prop := (¬ (256 ≤ C j ∧ C j ≤ 268) ∧ f = 1 ∧ x = j) ∨ ((256 ≤ C j ∧ C j ≤ 268) ∧ k = 60 ∧ f = 3 ∧ x = j) ∨ ((256 ≤ C j ∧ C j ≤ 268) ∧ k < 60 ∧ (pbody C V j = .inr (f, x) ∨ (267 ≤ C j ∧ pbody C V j = .inl x ∧ ((f = 1 ∧ C x ≠ 40) ∨ (f = 3 ∧ C x = 40 ∧ L = 4)))))
theorem m_command (hw : qWF g) (hs : kSW g) (hF : tkF w b n c e) (hB : tB (w 80) (w 84) c) (ht : scT m b n) (j0 : 0 ≤ j) (j1 : j ≤ c) (h : scA m w e c j) (h45 : m 86 45 = 0) {k L A : Int} (h51 : m 86 51 = k) (k0 : 0 ≤ k) (k1 : k ≤ 60) (hL : m 86 57 = L) (L0 : 0 ≤ L) (L1 : L ≤ 4) (hA : m 86 55 = A) (a0 : 0 ≤ A) (a1 : 2 * A ≤ w 82 j)
    (h1 : ∀ v x, 256 ≤ w 80 j → w 80 j < 267 → k < 60 → pbody (w 80) (w 84) j = .inl x → cmF w m v k j → v 86 57 = L → 0 ≤ v 86 55 → 2 * v 86 55 ≤ w 82 x → scA v w e c x → cmA w v k j → Q (iI 0) (qi v))
    (h2 : ∀ v x, 267 ≤ w 80 j → w 80 j ≤ 268 → k < 60 → pbody (w 80) (w 84) j = .inl x → w 80 x = 40 → L < 4 → cmF w m v k j → v 119 L = k → v 86 57 = L + 1 → 0 ≤ v 86 55 → 2 * v 86 55 ≤ w 82 x → scA v w e c (x + 1) → cmA w v k j → Q (iI 1) (qi v))
    (h0 : ∀ v r f x, pBad (w 80) (w 84) j k L f x → mBd w m v f x → (r = 0 ∨ r = 1) → Q (iI r) (qi v)) : qC g (d + 9) mX10_parseCommand [.inr 86] (qi m) Q T := by
  have c9 := hB.1
  by_cases hw2 : 256 ≤ w 80 j ∧ w 80 j ≤ 268
  · obtain ⟨t40, t44⟩ := tt_w h hw2.1 (by omega)
    have jc := tB_lt hB j0 j1 (by omega)
    have mo := st_mono hF j0 jc
    have n9 := ht.2.1
    by_cases h60 : k = 60
    · have bad : mBd w m (aup (aup m 86 45 3) 86 46 (m 86 41)) 3 j := mBd_fail h.1 (by decide) (by decide)
      have q := h0 _ 0 3 j (Or.inr (Or.inl ⟨hw2, h60, rfl, rfl⟩)) bad (Or.inl rfl)
      have hc0 : qi m 86 45 = (0 : Int32) := congrArg iI h45
      have l40 : qV g mX10_parseCommand (d + 9) 0 40 [some (.inr 86), none] [] (qi (aup (aup m 86 45 3) 86 46 (m 86 41))) Q T := by
        have e45 := bad.2.1
        refine wX10_parseCommand_40 hw ?_
        clear h0 h1 h2 bad
        simp (disch := omega) only [z_app, z_rd, z_cl, z_add, z_sub, z_mul, z_neg, z_lit, z_leT, z_leF, z_ltT, z_ltF, z_eqT, z_eqF, i_leT, i_leF, i_ltT, i_ltF, i_eqT, i_eqF, z_le, z_lt, z_eq, z_ite, z_at, z_pt, z_up, z_wr, z_wi1, z_wi0, z_wi, z_inS, z_toInt, z_nb0, z_nb1, Int.cast_ofNat_Int, true_and, and_true, not_true_eq_false, not_false_eq_true, false_imp_iff, true_imp_iff, aup_o, aup_k, ite_true, ite_false, z_fa000, z_fa001, z_fa010, z_fa011, z_fa100, z_fa101, z_fa110, z_fa111, if_true, if_false, e45]
        exact ⟨Or.inl trivial, q⟩
      have l26 : qV g mX10_parseCommand (d + 9) 0 26 [some (.inr 86), none] [] (qi m) Q T := by
        refine wX10_parseCommand_26 hw ?_
        simp only [if_pos hc0]
        clear h0 h1 h2 bad
        simp (disch := omega) only [z_app, z_rd, z_cl, z_add, z_sub, z_mul, z_neg, z_lit, z_leT, z_leF, z_ltT, z_ltF, z_eqT, z_eqF, i_leT, i_leF, i_ltT, i_ltF, i_eqT, i_eqF, z_le, z_lt, z_eq, z_ite, z_at, z_pt, z_up, z_wr, z_wi1, z_wi0, z_wi, z_inS, z_toInt, z_nb0, z_nb1, Int.cast_ofNat_Int, true_and, and_true, not_true_eq_false, not_false_eq_true, false_imp_iff, true_imp_iff, aup_o, aup_k, ite_true, ite_false, z_fa000, z_fa001, z_fa010, z_fa011, z_fa100, z_fa101, z_fa110, z_fa111, if_true, if_false, h51]
        exact l40
      refine wX10_parseCommand hw ?_
      clear h0 h1 h2 bad l40 q
      simp (disch := omega) only [z_app, z_rd, z_cl, z_add, z_sub, z_mul, z_neg, z_lit, z_leT, z_leF, z_ltT, z_ltF, z_eqT, z_eqF, i_leT, i_leF, i_ltT, i_ltF, i_eqT, i_eqF, z_le, z_lt, z_eq, z_ite, z_at, z_pt, z_up, z_wr, z_wi1, z_wi0, z_wi, z_inS, z_toInt, z_nb0, z_nb1, Int.cast_ofNat_Int, true_and, and_true, not_true_eq_false, not_false_eq_true, false_imp_iff, true_imp_iff, aup_o, aup_k, ite_true, ite_false, z_fa000, z_fa001, z_fa010, z_fa011, z_fa100, z_fa101, z_fa110, z_fa111, if_true, if_false, t40, t44]
      exact l26
    · obtain ⟨u, hu⟩ : ∃ u, u = aup (aup (aup (aup m 86 51 (k + 1)) 112 k (w 80 j - 256)) 113 k (w 82 j)) 115 k (k + 1) := ⟨_, rfl⟩
      have u86 : ∀ i, i ≠ 51 → u 86 i = m 86 i := fun i hi => by rw [hu, aup_o (by decide), aup_o (by decide), aup_o (by decide), aup_i hi]
      have P1 : mPF m u := by rw [hu]; exact mPF_tr (mPF_86 (by decide) (by decide)) (mPF_tr (mPF_up (by decide) (by decide)) (mPF_tr (mPF_up (by decide) (by decide)) (mPF_up (by decide) (by decide))))
      have u112 : u 112 k = w 80 j - 256 := by rw [hu, aup_o (by decide), aup_o (by decide), aup_s]
      have hu2 : scA u w e c j := scA_86 h (fun y y0 y1 => u86 y (by omega))
      have B0 : ∀ v f x, (pbody (w 80) (w 84) j = .inr (f, x) ∨ (267 ≤ w 80 j ∧ pbody (w 80) (w 84) j = .inl x ∧ ((f = 1 ∧ w 80 x ≠ 40) ∨ (f = 3 ∧ w 80 x = 40 ∧ L = 4)))) → mBd w m v f x → qV g mX10_parseCommand (d + 9) 0 141 [some (.inr 86), some (.inl (iI k))] [] (qi v) Q T := fun v f x hp hb => m_c141B hw k0 (by omega) (fun r hr => h0 v r f x (Or.inr (Or.inr ⟨hw2, by omega, hp⟩)) hb hr)
      have st : ∀ Q' : Int32 → qS → Prop,
          (∀ v2, v2 112 k = w 80 j - 256 → w 80 j < 267 → qC g (d + 8) mX10_parsePlain [.inr 86, .inl (iI k)] (qi v2) (fun _ s4 => qV g mX10_parseCommand (d + 9) 0 141 [some (.inr 86), some (.inl (iI k))] [] s4 Q T) T → Q' (iI 0) (qi v2)) →
          (∀ v2, v2 112 k = w 80 j - 256 → w 80 j = 267 → qC g (d + 8) mX10_parseRepeat [.inr 86, .inl (iI k)] (qi v2) (fun _ s4 => qV g mX10_parseCommand (d + 9) 0 141 [some (.inr 86), some (.inl (iI k))] [] s4 Q T) T → Q' (iI 0) (qi v2)) →
          (∀ v2, v2 112 k = w 80 j - 256 → w 80 j = 268 → qC g (d + 8) mX10_parseWhen [.inr 86, .inl (iI k)] (qi v2) (fun _ s4 => qV g mX10_parseCommand (d + 9) 0 141 [some (.inr 86), some (.inl (iI k))] [] s4 Q T) T → Q' (iI 0) (qi v2)) → qC g (d + 8) mX10_scan [.inr 86] (qi u) Q' T := by
        intro Q' q1 q2 q3
        refine m_next (d := d + 4) hw hs hF (scT_P ht P1) hu2 j0 jc (fun v2 f1 f2 => ?_)
        have v112 : v2 112 k = w 80 j - 256 := by rw [f1.1 112 (by decide)]; exact u112
        have P2 := mPF_tr P1 (mPF_sc f1)
        have ht2 := scT_P ht P2
        have v45 : v2 86 45 = 0 := by rw [f1.2 45 (by omega), u86 45 (by decide)]; exact h45
        have v57 : v2 86 57 = L := by rw [f1.2 57 (by omega), u86 57 (by decide)]; exact hL
        have v55 : v2 86 55 = A := by rw [f1.2 55 (by omega), u86 55 (by decide)]; exact hA
        have c141 : ∀ v, cF v2 v k → v 112 k = w 80 j - 256 := fun v hv => by rw [hv.1 112 (by decide) (by decide) (by decide) (by decide) (by decide) (by decide)]; exact v112
        by_cases k7 : w 80 j < 267
        · refine q1 v2 v112 k7 (m_plain (d := d + 2) hw hs hF hB ht2 j0 jc f2 v45 k0 (by omega) hw2.1 k7 v112 (fun v x r1 r2 r3 r4 r5 r6 => ?_) (fun v f x r1 r2 _ => B0 v f x (Or.inl r1) (mBd_tr P2 r2)))
          have xb := pbody_b hB j0 jc x r1
          have mo2 := st_up hF j0 x xb.1 xb.2
          exact m_c141 hw k0 (by omega) (c141 v r2) (by omega) (by omega) (fun _ => h1 v x hw2.1 k7 (by omega) r1 (cmF_mk h45 hu f1 r2) (by rw [r3]; exact v57) (by omega) (by omega) r5 r6) (fun hh => by omega)
        · by_cases k8 : w 80 j = 267
          · refine q2 v2 v112 k8 (m_repeat (d := d + 2) hw hs hF hB ht2 j0 jc f2 v45 k0 (by omega) k8 v57 L0 L1 (fun v x r1 rc rL r2 r3 r4 r5 r6 r7 => ?_) (fun v f x r1 r2 => B0 v f x (by
              rcases r1 with r1 | ⟨r1, r3⟩
              · exact Or.inl r1
              · exact Or.inr ⟨by omega, r1, r3⟩) (mBd_tr P2 r2)))
            have xb := pbody_b hB j0 jc x r1
            have mo2 := st_up hF j0 x xb.1 xb.2
            exact m_c141 hw k0 (by omega) (c141 v r2) (by omega) (by omega) (fun hh => by omega) (fun _ => h2 v x (by omega) (by omega) (by omega) r1 rc rL (cmF_mk h45 hu f1 r2) r3 r4 (by omega) (by omega) r6 r7)
          · have k9 : w 80 j = 268 := by omega
            refine q3 v2 v112 k9 (m_when hw hs hF hB ht2 j0 jc f2 v45 k0 (by omega) k9 v57 L0 L1 v55 a0 (by omega) (fun v x r1 rc rL r2 r3 r4 r5 r8 r6 r7 => ?_) (fun v f x r1 r2 => B0 v f x (by
              rcases r1 with r1 | ⟨r1, r3⟩
              · exact Or.inl r1
              · exact Or.inr ⟨by omega, r1, r3⟩) (mBd_tr P2 r2)))
            exact m_c141 hw k0 (by omega) (c141 v r2) (by omega) (by omega) (fun hh => by omega) (fun _ => h2 v x (by omega) (by omega) (by omega) r1 rc rL (cmF_mk h45 hu f1 r2) r3 r4 r5 r8 r6 r7)
      have l26 : qV g mX10_parseCommand (d + 9) 0 26 [some (.inr 86), none] [] (qi m) Q T := by
        have h41 := h.1
        clear h0 h1 h2 B0 u86 P1 u112 hu2
        rw [hu] at st
        refine wX10_parseCommand_26 hw ?_
        refine ⟨fun _ => ?_, fun hh => ?_⟩
        · refine ⟨rfl, wX10_parseCommand_40 hw ?_⟩
          simp (disch := omega) only [z_app, z_rd, z_cl, z_add, z_sub, z_mul, z_neg, z_lit, z_leT, z_leF, z_ltT, z_ltF, z_eqT, z_eqF, i_leT, i_leF, i_ltT, i_ltF, i_eqT, i_eqF, z_le, z_lt, z_eq, z_ite, z_at, z_pt, z_up, z_wr, z_wi1, z_wi0, z_wi, z_inS, z_toInt, z_nb0, z_nb1, Int.cast_ofNat_Int, true_and, and_true, not_true_eq_false, not_false_eq_true, false_imp_iff, true_imp_iff, aup_o, aup_k, ite_true, ite_false, z_fa000, z_fa001, z_fa010, z_fa011, z_fa100, z_fa101, z_fa110, z_fa111, if_true, if_false, h45, h51, t44, h41]
          refine st _ (fun v2 e1 e2 e3 => ?_) (fun v2 e1 e2 e3 => ?_) (fun v2 e1 e2 e3 => ?_)
          · clear st
            simp (disch := omega) only [z_app, z_rd, z_cl, z_add, z_sub, z_mul, z_neg, z_lit, z_leT, z_leF, z_ltT, z_ltF, z_eqT, z_eqF, i_leT, i_leF, i_ltT, i_ltF, i_eqT, i_eqF, z_le, z_lt, z_eq, z_ite, z_at, z_pt, z_up, z_wr, z_wi1, z_wi0, z_wi, z_inS, z_toInt, z_nb0, z_nb1, Int.cast_ofNat_Int, true_and, and_true, not_true_eq_false, not_false_eq_true, false_imp_iff, true_imp_iff, aup_o, aup_k, ite_true, ite_false, z_fa000, z_fa001, z_fa010, z_fa011, z_fa100, z_fa101, z_fa110, z_fa111, if_true, if_false, e1]
            exact e3
          · clear st
            simp (disch := omega) only [z_app, z_rd, z_cl, z_add, z_sub, z_mul, z_neg, z_lit, z_leT, z_leF, z_ltT, z_ltF, z_eqT, z_eqF, i_leT, i_leF, i_ltT, i_ltF, i_eqT, i_eqF, z_le, z_lt, z_eq, z_ite, z_at, z_pt, z_up, z_wr, z_wi1, z_wi0, z_wi, z_inS, z_toInt, z_nb0, z_nb1, Int.cast_ofNat_Int, true_and, and_true, not_true_eq_false, not_false_eq_true, false_imp_iff, true_imp_iff, aup_o, aup_k, ite_true, ite_false, z_fa000, z_fa001, z_fa010, z_fa011, z_fa100, z_fa101, z_fa110, z_fa111, if_true, if_false, e1]
            exact e3
          · clear st
            simp (disch := omega) only [z_app, z_rd, z_cl, z_add, z_sub, z_mul, z_neg, z_lit, z_leT, z_leF, z_ltT, z_ltF, z_eqT, z_eqF, i_leT, i_leF, i_ltT, i_ltF, i_eqT, i_eqF, z_le, z_lt, z_eq, z_ite, z_at, z_pt, z_up, z_wr, z_wi1, z_wi0, z_wi, z_inS, z_toInt, z_nb0, z_nb1, Int.cast_ofNat_Int, true_and, and_true, not_true_eq_false, not_false_eq_true, false_imp_iff, true_imp_iff, aup_o, aup_k, ite_true, ite_false, z_fa000, z_fa001, z_fa010, z_fa011, z_fa100, z_fa101, z_fa110, z_fa111, if_true, if_false, e1]
            exact e3
        · exfalso
          refine hh (fun h6 => ?_)
          have h7 : iI (m 86 51) = iI 60 := h6
          rw [h51] at h7
          have := (z_eq (x := k) (y := 60) (by omega) (by omega) (by omega) (by omega)).mp h7
          exact h60 this
      refine wX10_parseCommand hw ?_
      clear h0 h1 h2 B0 st
      simp (disch := omega) only [z_app, z_rd, z_cl, z_add, z_sub, z_mul, z_neg, z_lit, z_leT, z_leF, z_ltT, z_ltF, z_eqT, z_eqF, i_leT, i_leF, i_ltT, i_ltF, i_eqT, i_eqF, z_le, z_lt, z_eq, z_ite, z_at, z_pt, z_up, z_wr, z_wi1, z_wi0, z_wi, z_inS, z_toInt, z_nb0, z_nb1, Int.cast_ofNat_Int, true_and, and_true, not_true_eq_false, not_false_eq_true, false_imp_iff, true_imp_iff, aup_o, aup_k, ite_true, ite_false, z_fa000, z_fa001, z_fa010, z_fa011, z_fa100, z_fa101, z_fa110, z_fa111, if_true, if_false, t40, t44]
      exact l26
  · have bad : mBd w m (aup (aup m 86 45 1) 86 46 (m 86 41)) 1 j := mBd_fail h.1 (by decide) (by decide)
    have q := h0 _ 0 1 j (Or.inl ⟨hw2, rfl, rfl⟩) bad (Or.inl rfl)
    have hc0 : qi m 86 45 = (0 : Int32) := congrArg iI h45
    have l26 : qV g mX10_parseCommand (d + 9) 0 26 [some (.inr 86), none] [] (qi (aup (aup m 86 45 1) 86 46 (m 86 41))) Q T := m_c26B hw bad.2.1 (by decide) (by decide) q
    refine wX10_parseCommand hw ?_
    simp only [if_pos hc0]
    clear h0 h1 h2 bad q
    by_cases h273 : 256 ≤ w 80 j ∧ w 80 j ≤ 273
    · obtain ⟨t40, t44⟩ := tt_w h h273.1 h273.2
      simp (disch := omega) only [z_app, z_rd, z_cl, z_add, z_sub, z_mul, z_neg, z_lit, z_leT, z_leF, z_ltT, z_ltF, z_eqT, z_eqF, i_leT, i_leF, i_ltT, i_ltF, i_eqT, i_eqF, z_le, z_lt, z_eq, z_ite, z_at, z_pt, z_up, z_wr, z_wi1, z_wi0, z_wi, z_inS, z_toInt, z_nb0, z_nb1, Int.cast_ofNat_Int, true_and, and_true, not_true_eq_false, not_false_eq_true, false_imp_iff, true_imp_iff, aup_o, aup_k, ite_true, ite_false, z_fa000, z_fa001, z_fa010, z_fa011, z_fa100, z_fa101, z_fa110, z_fa111, if_true, if_false, t40, t44]
      exact l26
    · obtain ⟨t4, tn⟩ := tt_nw h h273
      rcases tn with tn | ⟨t40, t44⟩
      · simp (disch := omega) only [z_app, z_rd, z_cl, z_add, z_sub, z_mul, z_neg, z_lit, z_leT, z_leF, z_ltT, z_ltF, z_eqT, z_eqF, i_leT, i_leF, i_ltT, i_ltF, i_eqT, i_eqF, z_le, z_lt, z_eq, z_ite, z_at, z_pt, z_up, z_wr, z_wi1, z_wi0, z_wi, z_inS, z_toInt, z_nb0, z_nb1, Int.cast_ofNat_Int, true_and, and_true, not_true_eq_false, not_false_eq_true, false_imp_iff, true_imp_iff, aup_o, aup_k, ite_true, ite_false, z_fa000, z_fa001, z_fa010, z_fa011, z_fa100, z_fa101, z_fa110, z_fa111, if_true, if_false]
        exact l26
      · simp (disch := omega) only [z_app, z_rd, z_cl, z_add, z_sub, z_mul, z_neg, z_lit, z_leT, z_leF, z_ltT, z_ltF, z_eqT, z_eqF, i_leT, i_leF, i_ltT, i_ltF, i_eqT, i_eqF, z_le, z_lt, z_eq, z_ite, z_at, z_pt, z_up, z_wr, z_wi1, z_wi0, z_wi, z_inS, z_toInt, z_nb0, z_nb1, Int.cast_ofNat_Int, true_and, and_true, not_true_eq_false, not_false_eq_true, false_imp_iff, true_imp_iff, aup_o, aup_k, ite_true, ite_false, z_fa000, z_fa001, z_fa010, z_fa011, z_fa100, z_fa101, z_fa110, z_fa111, if_true, if_false, t40, t44]
        exact l26
/-! scripts -/
def skR (m : aS) : List Int → Prop
  | [] => True
  | o :: r => m 119 (r.length : Nat) = o ∧ skR m r
theorem skR_c {m v : aS} : ∀ (l : List Int), (∀ i : Int, i < (l.length : Nat) → v 119 i = m 119 i) → skR m l → skR v l := by
  intro l
  induction l with
  | nil => intro _ _; trivial
  | cons o r ih =>
    intro hh h
    rw [List.length_cons] at hh
    exact ⟨by rw [hh _ (by omega)]; exact h.1, ih (fun i hi => hh i (by omega)) h.2⟩
def mCs (w m : aS) (c k : Int) (J E : Int → Int) : Prop := ∀ a, 0 ≤ a → a < k → cmA w m a (J a) ∧ (m 112 a = w 80 (J a) - 256 ∧ m 113 a = w 82 (J a) ∧ m 115 a = E a) ∧ (0 ≤ J a ∧ J a < c) ∧ (256 ≤ w 80 (J a) ∧ w 80 (J a) ≤ 268)
def mPr (w m : aS) (e : Int → Int) (c j k : Int) (st : List Int) (J E : Int → Int) : Prop := scA m w e c j ∧ (0 ≤ j ∧ j ≤ c) ∧ m 86 45 = 0 ∧ (m 86 51 = k ∧ 0 ≤ k ∧ k ≤ 60) ∧ (m 86 57 = (st.length : Nat) ∧ st.length ≤ 4) ∧ (0 ≤ m 86 55 ∧ 2 * m 86 55 ≤ w 82 j ∧ m 86 46 = -1) ∧ mCs w m c k J E ∧ skR m st ∧ (∀ o ∈ st, 0 ≤ o ∧ o < k)
theorem mCs_n {w m v : aS} {c j k : Int} {J E : Int → Int} (hM : mCs w m c k J E) (hv : cmF w m v k j) (hc : cmA w v k j) (j0 : 0 ≤ j) (j1 : j < c) (w0 : 256 ≤ w 80 j) (w1 : w 80 j ≤ 268) : mCs w v c (k + 1) (fup J k j) (fup E k (k + 1)) := by
  obtain ⟨-, -, -, v4, v5, v6, v7, v8, -⟩ := hv
  intro a a0 a1
  unfold fup
  by_cases ea : a = k
  · subst ea
    rw [if_pos rfl, if_pos rfl]
    exact ⟨hc, v5, ⟨j0, j1⟩, w0, w1⟩
  · rw [if_neg ea, if_neg ea]
    obtain ⟨x1, x2, x3, x4⟩ := hM a a0 (by omega)
    obtain ⟨y1, y2, y3⟩ := v4 a ea
    rw [y1, y2, y3]
    exact ⟨cmA_c x1 (fun i i0 i1 => v6 i (by omega)) v7 v8, x2, x3, x4⟩
theorem mCs_c {w m v : aS} {c k : Int} {J E : Int → Int} (hM : mCs w m c k J E) (hx : ∀ x : Nat, x ≠ 86 → v x = m x) (h55 : v 86 55 = m 86 55) : mCs w v c k J E := by
  intro a a0 a1
  obtain ⟨x1, x2, x3, x4⟩ := hM a a0 a1
  rw [hx 112 (by decide), hx 113 (by decide), hx 115 (by decide)]
  exact ⟨cmA_c x1 (fun i i0 i1 => by rw [hx 114 (by decide)]) (fun i _ => by rw [hx 116 (by decide), hx 117 (by decide), hx 118 (by decide)]; exact ⟨rfl, rfl, rfl⟩) (by rw [h55]; exact Int.le_refl _), x2, x3, x4⟩
theorem m_15B (hw : qWF g) {f : Int} {o1 o2 : Option qP} (h45 : m 86 45 = f) (f1 : 1 ≤ f) (f3 : f ≤ 3) (hQ : Q (iI 0) (qi m)) : qV g mX10_parseScript (d + 1) 0 15 [some (.inr 86), o1, o2] [] (qi m) Q T := by
  refine wX10_parseScript_15 hw ?_
  simp (disch := omega) only [z_app, z_rd, z_cl, z_add, z_sub, z_mul, z_neg, z_lit, z_leT, z_leF, z_ltT, z_ltF, z_eqT, z_eqF, i_leT, i_leF, i_ltT, i_ltF, i_eqT, i_eqF, z_le, z_lt, z_eq, z_ite, z_at, z_pt, z_up, z_wr, z_wi1, z_wi0, z_wi, z_inS, z_toInt, z_nb0, z_nb1, Int.cast_ofNat_Int, true_and, and_true, not_true_eq_false, not_false_eq_true, false_imp_iff, true_imp_iff, aup_o, aup_k, ite_true, ite_false, z_fa000, z_fa001, z_fa010, z_fa011, z_fa100, z_fa101, z_fa110, z_fa111, if_true, if_false, h45]
  exact hQ
theorem m_c59 (hw : qWF g) (hs : kSW g) (hF : tkF w b n c e) (hB : tB (w 80) (w 84) c) (ht : scT m b n) {k : Int} {st : List Int} {J E : Int → Int} {o2 : Option qP} (hM : mPr w m e c j k st J E)
    (K1 : ∀ v j' k' st' J' E' o1 o2, pcmd (w 80) (w 84) j k st J E = .inl (j', k', st', J', E') → mPF m v → mPr w v e c j' k' st' J' E' → qV g mX10_parseScript (d + 10) 0 15 [some (.inr 86), o1, o2] [] (qi v) Q T)
    (K0 : ∀ v f x, pcmd (w 80) (w 84) j k st J E = .inr (.inr (f, x)) → mBd w m v f x → Q (iI 0) (qi v)) : qV g mX10_parseScript (d + 10) 0 59 [some (.inr 86), some (.inl (iI 0)), o2] [.inl (iI 0)] (qi m) Q T := by
  obtain ⟨M1, M2, M3, M4, M5, M6, M7, M8, M9⟩ := hM
  have B15 : ∀ v f x o1 o2, pcmd (w 80) (w 84) j k st J E = .inr (.inr (f, x)) → mBd w m v f x → qV g mX10_parseScript (d + 10) 0 15 [some (.inr 86), o1, o2] [] (qi v) Q T := fun v f x o1 o2 hp hb => m_15B hw hb.2.1 hb.2.2.2.1 hb.2.2.2.2 (K0 v f x hp hb)
  have cmd : ∀ Q' : Int32 → qS → Prop,
      (∀ v, qC g (d + 9) mX10_requireSign [.inr 86, .inl (iI 59)] (qi v) (fun _ s4 => ∀ o1 o2, qV g mX10_parseScript (d + 10) 0 15 [some (.inr 86), o1, o2] [] s4 Q T) T → Q' (iI 0) (qi v)) →
      (∀ v, (∀ o1 o2, qV g mX10_parseScript (d + 10) 0 15 [some (.inr 86), o1, o2] [] (qi v) Q T) → Q' (iI 1) (qi v)) → qC g (d + 9) mX10_parseCommand [.inr 86] (qi m) Q' T := by
    intro Q' q0 q1
    refine m_command hw hs hF hB ht M2.1 M2.2 M1 M3 M4.1 M4.2.1 M4.2.2 M5.1 (by omega) (by omega) rfl M6.1 M6.2.1 (fun v x w0 w1 k6 r1 r2 r3 r4 r5 r6 r7 => q0 v ?_) (fun v x w0 w1 k6 r1 rc rL r2 r8 r3 r4 r5 r6 r7 => q1 v (fun o1 o2 => ?_)) (fun v r f x hp hb hr => ?_)
    · have jc := tB_lt hB M2.1 M2.2 (by omega)
      have xb := pbody_b hB M2.1 jc x r1
      have v45 := r2.2.1.1
      by_cases h59 : w 80 x = 59
      · have xc := tB_lt hB (j := x) (by omega) xb.2 (by omega)
        have mo := st_mono hF (j := x) (by omega) xc
        refine m_req1 (d := d + 4) hw hs hF (scT_P ht r2.1) r6 (by omega) xc v45 (by decide) (by decide) h59 (fun v2 f1 f2 o1 o2 => ?_)
        refine K1 v2 (x + 1) (k + 1) st (fup J k j) (fup E k (k + 1)) o1 o2 ?_ (mPF_tr r2.1 (mPF_sc f1)) ⟨f2, ⟨by omega, by omega⟩, ?_, ⟨?_, by omega, by omega⟩, ⟨?_, M5.2⟩, ⟨?_, ?_, ?_⟩, mCs_c (mCs_n M7 r2 r7 M2.1 jc w0 (by omega)) (fun y hy => f1.1 y hy) (f1.2 55 (by omega)), skR_c st (fun i hi => ?_) M8, fun o ho => ?_⟩
        · unfold pcmd
          rw [if_pos ⟨w0, by omega⟩, if_neg (by omega), r1]
          show (if 267 ≤ w 80 j then _ else _) = _
          rw [if_neg (by omega), if_pos h59]
        · rw [f1.2 45 (by omega)]; exact v45
        · rw [f1.2 51 (by omega)]; exact r2.2.2.1
        · rw [f1.2 57 (by omega)]; exact r3
        · rw [f1.2 55 (by omega)]; exact r4
        · rw [f1.2 55 (by omega)]; omega
        · rw [f1.2 46 (by omega), r2.2.1.2]; exact M6.2.2
        · rw [f1.1 119 (by decide)]
          exact r2.2.2.2.2.2.2.2.2 i (by rw [M5.1]; exact hi)
        · have := M9 o ho; omega
      · refine m_req0 (d := d + 8) hw r6 v45 (by decide) (by decide) h59 (fun v2 hb o1 o2 => ?_)
        refine B15 v2 1 x o1 o2 ?_ (mBd_tr r2.1 hb)
        unfold pcmd
        rw [if_pos ⟨w0, by omega⟩, if_neg (by omega), r1]
        show (if 267 ≤ w 80 j then _ else _) = _
        rw [if_neg (by omega), if_neg h59]
    · have jc := tB_lt hB M2.1 M2.2 (by omega)
      have xb := pbody_b hB M2.1 jc x r1
      have xc := tB_lt hB (j := x) (by omega) xb.2 (by omega)
      have mo := st_mono hF (j := x) (by omega) xc
      refine K1 v (x + 1) (k + 1) (k :: st) (fup J k j) (fup E k (k + 1)) o1 o2 ?_ r2.1 ⟨r6, ⟨by omega, by omega⟩, r2.2.1.1, ⟨r2.2.2.1, by omega, by omega⟩, ⟨?_, ?_⟩, ⟨r4, by omega, by rw [r2.2.1.2]; exact M6.2.2⟩, mCs_n M7 r2 r7 M2.1 jc (by omega) w1, ⟨r8, skR_c st (fun i hi => r2.2.2.2.2.2.2.2.2 i (by rw [M5.1]; exact hi)) M8⟩, fun o ho => ?_⟩
      · unfold pcmd
        rw [if_pos ⟨by omega, w1⟩, if_neg (by omega), r1]
        show (if 267 ≤ w 80 j then _ else _) = _
        rw [if_pos w0, if_pos rc, if_neg (by omega)]
      · rw [r3, List.length_cons]; omega
      · rw [List.length_cons]; omega
      · rcases List.mem_cons.mp ho with ho | ho
        · omega
        · have := M9 o ho; omega
    · have hp2 : pcmd (w 80) (w 84) j k st J E = .inr (.inr (f, x)) := by
        unfold pcmd
        rcases hp with ⟨p1, p2, p3⟩ | ⟨p1, p2, p3, p4⟩ | ⟨p1, p2, p3 | ⟨p3, p4, p5⟩⟩
        · rw [if_neg p1, p2, p3]
        · rw [if_pos p1, if_pos p2, p3, p4]
        · rw [if_pos p1, if_neg (by omega), p3]
        · rw [if_pos p1, if_neg (by omega), p4]
          show (if 267 ≤ w 80 j then _ else _) = _
          rw [if_pos p3]
          rcases p5 with ⟨p5, p6⟩ | ⟨p5, p6, p7⟩
          · rw [if_neg p6, p5]
          · rw [if_pos p6, if_pos (by omega), p5]
      rcases hr with hr | hr
      · subst hr
        exact q0 v (m_reqB (d := d + 8) hw hb.2.1 hb.2.2.2.1 hb.2.2.2.2 (fun o1 o2 => B15 v f x o1 o2 hp2 hb))
      · subst hr
        exact q1 v (fun o1 o2 => B15 v f x o1 o2 hp2 hb)
  have re : ∀ (v : aS) (r t : Int32), qC g (d + 9) mX10_requireSign [.inr 86, .inl (iI 59)] (qi v) (fun _ s4 => ∀ o1 o2, qV g mX10_parseScript (d + 10) 0 15 [some (.inr 86), o1, o2] [] s4 Q T) T → qC g (d + 9) mX10_requireSign [.inr 86, .inl (iI 59)] (qi v) (fun _ s4 => qV g mX10_parseScript (d + 10) 0 114 [some (.inr 86), some (.inl r), some (.inl t)] [] s4 Q T) T := fun v r t hh => qC_mono hh (fun _ s4 h4 => wX10_parseScript_114 hw ⟨rfl, h4 _ _⟩) (fun _ _ h => h)
  refine wX10_parseScript_59 hw ?_
  clear K1 K0 B15
  simp (disch := omega) only [z_app, z_rd, z_cl, z_add, z_sub, z_mul, z_neg, z_lit, z_leT, z_leF, z_ltT, z_ltF, z_eqT, z_eqF, i_leT, i_leF, i_ltT, i_ltF, i_eqT, i_eqF, z_le, z_lt, z_eq, z_ite, z_at, z_pt, z_up, z_wr, z_wi1, z_wi0, z_wi, z_inS, z_toInt, z_nb0, z_nb1, Int.cast_ofNat_Int, true_and, and_true, not_true_eq_false, not_false_eq_true, false_imp_iff, true_imp_iff, aup_o, aup_k, ite_true, ite_false, z_fa000, z_fa001, z_fa010, z_fa011, z_fa100, z_fa101, z_fa110, z_fa111, if_true, if_false]
  refine cmd _ (fun v hv => ?_) (fun v hv => ?_)
  · have r := re v (iI 0) (iI 0) hv
    clear cmd re
    simp (disch := omega) only [z_app, z_rd, z_cl, z_add, z_sub, z_mul, z_neg, z_lit, z_leT, z_leF, z_ltT, z_ltF, z_eqT, z_eqF, i_leT, i_leF, i_ltT, i_ltF, i_eqT, i_eqF, z_le, z_lt, z_eq, z_ite, z_at, z_pt, z_up, z_wr, z_wi1, z_wi0, z_wi, z_inS, z_toInt, z_nb0, z_nb1, Int.cast_ofNat_Int, true_and, and_true, not_true_eq_false, not_false_eq_true, false_imp_iff, true_imp_iff, aup_o, aup_k, ite_true, ite_false, z_fa000, z_fa001, z_fa010, z_fa011, z_fa100, z_fa101, z_fa110, z_fa111, if_true, if_false]
    exact r
  · have r : qV g mX10_parseScript (d + 10) 0 114 [some (.inr 86), some (.inl (iI 1)), some (.inl (iI 0))] [] (qi v) Q T := wX10_parseScript_114 hw ⟨rfl, hv _ _⟩
    clear cmd re
    simp (disch := omega) only [z_app, z_rd, z_cl, z_add, z_sub, z_mul, z_neg, z_lit, z_leT, z_leF, z_ltT, z_ltF, z_eqT, z_eqF, i_leT, i_leF, i_ltT, i_ltF, i_eqT, i_eqF, z_le, z_lt, z_eq, z_ite, z_at, z_pt, z_up, z_wr, z_wi1, z_wi0, z_wi, z_inS, z_toInt, z_nb0, z_nb1, Int.cast_ofNat_Int, true_and, and_true, not_true_eq_false, not_false_eq_true, false_imp_iff, true_imp_iff, aup_o, aup_k, ite_true, ite_false, z_fa000, z_fa001, z_fa010, z_fa011, z_fa100, z_fa101, z_fa110, z_fa111, if_true, if_false]
    exact r
theorem m_script_l (hw : qWF g) (hs : kSW g) (hF : tkF w b n c e) (hB : tB (w 80) (w 84) c) : ∀ (N : Nat) (m : aS) (j k : Int) (st : List Int) (J E : Int → Int) (r : pR) (o1 o2 : Option qP), prun (w 80) (w 84) N (j, k, st, J, E) = some r → scT m b n → mPr w m e c j k st J E →
    (∀ v k' J' E', r = .inl (k', J', E') → mPF m v → v 86 45 = 0 → (v 86 51 = k' ∧ 0 ≤ k' ∧ k' ≤ 60) → 0 ≤ v 86 55 → 2 * v 86 55 ≤ 900 → v 86 46 = -1 → mCs w v c k' J' E' → Q (iI 0) (qi v)) →
    (∀ v f x, r = .inr (f, x) → mBd w m v f x → Q (iI 0) (qi v)) → qV g mX10_parseScript (d + 10) 0 15 [some (.inr 86), o1, o2] [] (qi m) Q T := by
  have c9 := hB.1
  intro N
  induction N with
  | zero => intro m j k st J E r o1 o2 hp; cases hp
  | succ N ih =>
    intro m j k st J E r o1 o2 hp ht hM K1 K0
    have hM0 := hM
    obtain ⟨M1, M2, M3, M4, M5, M6, M7, M8, M9⟩ := hM
    have hp : (match pstep (w 80) (w 84) (j, k, st, J, E) with | .inl Y => prun (w 80) (w 84) N Y | .inr r => some r) = some r := hp
    have B := (hB.2 j M2.1 M2.2).1
    have t0 := tt_0 M1
    have t41 := tt_3 M1 (x := 41) (by decide) (by decide)
    have nx : ∀ (v : aS) (j' k' : Int) (st' : List Int) (J' E' : Int → Int) (o1 o2 : Option qP), prun (w 80) (w 84) N (j', k', st', J', E') = some r → mPF m v → mPr w v e c j' k' st' J' E' → qV g mX10_parseScript (d + 10) 0 15 [some (.inr 86), o1, o2] [] (qi v) Q T := fun v j' k' st' J' E' o1 o2 p1 p2 p3 => ih v j' k' st' J' E' r o1 o2 p1 (scT_P ht p2) p3 (fun v2 k2 J2 E2 q1 q2 q3 q4 q5 q6 q7 q8 => K1 v2 k2 J2 E2 q1 (mPF_tr p2 q2) q3 q4 q5 q6 q7 q8) (fun v2 f x q1 q2 => K0 v2 f x q1 (mBd_tr p2 q2))
    have cmd : pstep (w 80) (w 84) (j, k, st, J, E) = pcmd (w 80) (w 84) j k st J E → ∀ o2, qV g mX10_parseScript (d + 10) 0 59 [some (.inr 86), some (.inl (iI 0)), o2] [.inl (iI 0)] (qi m) Q T := fun hq o2 => by
      rw [hq] at hp
      refine m_c59 hw hs hF hB ht hM0 (fun v j' k' st' J' E' o1 o2 q1 q2 q3 => nx v j' k' st' J' E' o1 o2 ?_ q2 q3) (fun v f x q1 q2 => K0 v f x ?_ q2)
      · rw [q1] at hp
        exact hp
      · rw [q1] at hp
        exact (Option.some.inj hp).symm
    have wn : w 82 j ≤ n := by
      by_cases hh : j = c
      · rw [hh, hF.1.2.2.2.2]; exact Int.le_refl _
      · have := st_mono hF M2.1 (show j < c by omega); omega
    have n9 := ht.2.1
    cases st with
    | nil =>
      have L0 : m 86 57 = 0 := M5.1
      by_cases h3 : w 80 j = 303
      · have e1 : pstep (w 80) (w 84) (j, k, [], J, E) = .inr (.inl (k, J, E)) := if_pos h3
        rw [e1] at hp
        have q := K1 m k J E (Option.some.inj hp).symm (mPF_rf m) M3 M4 M6.1 (by omega) M6.2.2 M7
        refine wX10_parseScript_15 hw ?_
        clear K1 K0 nx cmd ih
        simp (disch := omega) only [z_app, z_rd, z_cl, z_add, z_sub, z_mul, z_neg, z_lit, z_leT, z_leF, z_ltT, z_ltF, z_eqT, z_eqF, i_leT, i_leF, i_ltT, i_ltF, i_eqT, i_eqF, z_le, z_lt, z_eq, z_ite, z_at, z_pt, z_up, z_wr, z_wi1, z_wi0, z_wi, z_inS, z_toInt, z_nb0, z_nb1, Int.cast_ofNat_Int, true_and, and_true, not_true_eq_false, not_false_eq_true, false_imp_iff, true_imp_iff, aup_o, aup_k, ite_true, ite_false, z_fa000, z_fa001, z_fa010, z_fa011, z_fa100, z_fa101, z_fa110, z_fa111, if_true, if_false, M3, t0, L0]
        exact q
      · have cc := cmd (if_neg h3)
        refine wX10_parseScript_15 hw ?_
        clear K1 K0 nx cmd ih
        simp (disch := omega) only [z_app, z_rd, z_cl, z_add, z_sub, z_mul, z_neg, z_lit, z_leT, z_leF, z_ltT, z_ltF, z_eqT, z_eqF, i_leT, i_leF, i_ltT, i_ltF, i_eqT, i_eqF, z_le, z_lt, z_eq, z_ite, z_at, z_pt, z_up, z_wr, z_wi1, z_wi0, z_wi, z_inS, z_toInt, z_nb0, z_nb1, Int.cast_ofNat_Int, true_and, and_true, not_true_eq_false, not_false_eq_true, false_imp_iff, true_imp_iff, aup_o, aup_k, ite_true, ite_false, z_fa000, z_fa001, z_fa010, z_fa011, z_fa100, z_fa101, z_fa110, z_fa111, if_true, if_false, M3, t0, L0]
        exact cc _
    | cons o rs =>
      have M5' : m 86 57 = ((rs.length + 1 : Nat) : Int) := M5.1
      have M5'' : rs.length + 1 ≤ 4 := M5.2
      by_cases h41 : w 80 j = 41
      · have jc := tB_lt hB M2.1 M2.2 (by omega)
        have mo := st_mono hF M2.1 jc
        have e0 : pstep (w 80) (w 84) (j, k, o :: rs, J, E) = if w 80 (j + 1) = 59 then .inl (j + 2, k, rs, J, fup E o k) else .inr (.inr (1, j + 1)) := if_pos h41
        obtain ⟨o0, ok⟩ := M9 o (List.mem_cons_self ..)
        have M8a : m 119 (rs.length : Nat) = o := M8.1
        obtain ⟨ln, hln⟩ : ∃ ln : Int, ln = (rs.length : Nat) := ⟨_, rfl⟩
        have ln0 : 0 ≤ ln := by omega
        have L57 : m 86 57 = ln + 1 := by omega
        rw [← hln] at M8a
        have ln4 : ln ≤ 3 := by omega
        have st : ∀ Q' : Int32 → qS → Prop, (∀ v, qC g (d + 9) mX10_requireSign [.inr 86, .inl (iI 59)] (qi v) (fun _ s4 => ∀ o1 o2, qV g mX10_parseScript (d + 10) 0 15 [some (.inr 86), o1, o2] [] s4 Q T) T → Q' (iI 0) (qi v)) → qC g (d + 9) mX10_scan [.inr 86] (qi (aup (aup m 86 57 ln) 115 o k)) Q' T := by
          intro Q' hQ'
          have P1 : mPF m (aup (aup m 86 57 ln) 115 o k) := mPF_tr (mPF_86 (by decide) (by decide)) (mPF_up (by decide) (by decide))
          refine m_next (d := d + 5) hw hs hF (scT_P ht P1) (scA_86 M1 (fun y _ _ => by rw [aup_o (by decide), aup_i (by omega)])) M2.1 jc (fun v f1 f2 => hQ' v ?_)
          have P2 := mPF_tr P1 (mPF_sc f1)
          have v86 : ∀ i, 45 ≤ i → i ≠ 57 → v 86 i = m 86 i := fun i hi h7 => by rw [f1.2 i (by omega), aup_o (by decide), aup_i h7]
          have v45 : v 86 45 = 0 := by rw [v86 45 (by omega) (by decide)]; exact M3
          by_cases h59 : w 80 (j + 1) = 59
          · have jc2 := tB_lt hB (j := j + 1) (by omega) (by omega) (by omega)
            have mo2 := st_mono hF (j := j + 1) (by omega) jc2
            refine m_req1 (d := d + 4) hw hs hF (scT_P ht P2) f2 (by omega) jc2 v45 (by decide) (by decide) h59 (fun v2 g1 g2 p1 p2 => ?_)
            have w86 : ∀ i, 45 ≤ i → i ≠ 57 → v2 86 i = m 86 i := fun i hi h7 => by rw [g1.2 i (by omega), v86 i hi h7]
            have wx : ∀ x : Nat, x ≠ 86 → x ≠ 115 → v2 x = m x := fun x x1 x2 => by rw [g1.1 x x1, f1.1 x x1, aup_o x2, aup_o x1]
            have w115 : ∀ i, v2 115 i = if i = o then k else m 115 i := fun i => by rw [g1.1 115 (by decide), f1.1 115 (by decide), aup_k, aup_o (by decide)]
            refine nx v2 (j + 2) k rs J (fup E o k) p1 p2 ?_ (mPF_tr P2 (mPF_sc g1)) ⟨by rw [show j + 2 = j + 1 + 1 by omega]; exact g2, ⟨by omega, by omega⟩, ?_, ⟨?_, M4.2⟩, ⟨?_, by omega⟩, ⟨?_, ?_, ?_⟩, fun a a0 a1 => ?_, skR_c rs (fun i _ => by rw [wx 119 (by decide) (by decide)]) M8.2, fun y hy => M9 y (List.mem_cons_of_mem _ hy)⟩
            · rw [e0, if_pos h59] at hp
              exact hp
            · rw [w86 45 (by decide) (by decide)]; exact M3
            · rw [w86 51 (by decide) (by decide)]; exact M4.1
            · rw [g1.2 57 (by omega), f1.2 57 (by omega), aup_o (by decide), aup_s]; exact hln
            · rw [w86 55 (by decide) (by decide)]; exact M6.1
            · rw [w86 55 (by decide) (by decide), show j + 2 = j + 1 + 1 by omega]; omega
            · rw [w86 46 (by decide) (by decide)]; exact M6.2.2
            · obtain ⟨x1, x2, x3, x4⟩ := M7 a a0 a1
              rw [wx 112 (by decide) (by decide), wx 113 (by decide) (by decide), w115 a]
              refine ⟨cmA_c x1 (fun i i0 i1 => by rw [wx 114 (by decide) (by decide)]) (fun i _ => by rw [wx 116 (by decide) (by decide), wx 117 (by decide) (by decide), wx 118 (by decide) (by decide)]; exact ⟨rfl, rfl, rfl⟩) (by rw [w86 55 (by decide) (by decide)]; exact Int.le_refl _), ⟨x2.1, x2.2.1, ?_⟩, x3, x4⟩
              unfold fup
              rw [x2.2.2]
          · refine m_req0 (d := d + 8) hw f2 v45 (by decide) (by decide) h59 (fun v2 hb p1 p2 => ?_)
            have hb2 := mBd_tr P2 hb
            refine m_15B hw hb2.2.1 (by decide) (by decide) (K0 v2 1 (j + 1) ?_ hb2)
            rw [e0, if_neg h59] at hp
            exact (Option.some.inj hp).symm
        have re : ∀ (v : aS) (r t : Int32), qC g (d + 9) mX10_requireSign [.inr 86, .inl (iI 59)] (qi v) (fun _ s4 => ∀ o1 o2, qV g mX10_parseScript (d + 10) 0 15 [some (.inr 86), o1, o2] [] s4 Q T) T → qC g (d + 9) mX10_requireSign [.inr 86, .inl (iI 59)] (qi v) (fun _ s4 => qV g mX10_parseScript (d + 10) 0 114 [some (.inr 86), some (.inl r), some (.inl t)] [] s4 Q T) T := fun v r t hh => qC_mono hh (fun _ s4 h4 => wX10_parseScript_114 hw ⟨rfl, h4 _ _⟩) (fun _ _ h => h)
        have l59 : ∀ o2, qV g mX10_parseScript (d + 10) 0 59 [some (.inr 86), some (.inl (iI 0)), o2] [.inl (iI 1)] (qi m) Q T := fun o2 => by
          refine wX10_parseScript_59 hw ?_
          clear K1 K0 nx cmd ih B
          simp (disch := omega) only [z_app, z_rd, z_cl, z_add, z_sub, z_mul, z_neg, z_lit, z_leT, z_leF, z_ltT, z_ltF, z_eqT, z_eqF, i_leT, i_leF, i_ltT, i_ltF, i_eqT, i_eqF, z_le, z_lt, z_eq, z_ite, z_at, z_pt, z_up, z_wr, z_wi1, z_wi0, z_wi, z_inS, z_toInt, z_nb0, z_nb1, Int.cast_ofNat_Int, true_and, and_true, not_true_eq_false, not_false_eq_true, false_imp_iff, true_imp_iff, aup_o, aup_k, ite_true, ite_false, z_fa000, z_fa001, z_fa010, z_fa011, z_fa100, z_fa101, z_fa110, z_fa111, if_true, if_false, L57, M8a, M4.1, show ln + 1 - 1 = ln by omega]
          refine st _ (fun v hv => ?_)
          exact re v (iI 0) (iI 1) hv
        refine wX10_parseScript_15 hw ?_
        clear K1 K0 nx cmd ih st re B
        simp (disch := omega) only [z_app, z_rd, z_cl, z_add, z_sub, z_mul, z_neg, z_lit, z_leT, z_leF, z_ltT, z_ltF, z_eqT, z_eqF, i_leT, i_leF, i_ltT, i_ltF, i_eqT, i_eqF, z_le, z_lt, z_eq, z_ite, z_at, z_pt, z_up, z_wr, z_wi1, z_wi0, z_wi, z_inS, z_toInt, z_nb0, z_nb1, Int.cast_ofNat_Int, true_and, and_true, not_true_eq_false, not_false_eq_true, false_imp_iff, true_imp_iff, aup_o, aup_k, ite_true, ite_false, z_fa000, z_fa001, z_fa010, z_fa011, z_fa100, z_fa101, z_fa110, z_fa111, if_true, if_false, M3, t0, L57, t41]
        exact l59 _
      · have cc := cmd (if_neg h41)
        refine wX10_parseScript_15 hw ?_
        obtain ⟨ln, hln⟩ : ∃ ln : Int, ln = (rs.length : Nat) := ⟨_, rfl⟩
        have L57 : m 86 57 = ln + 1 := by omega
        have ln4 : ln ≤ 3 := by omega
        have ln0 : 0 ≤ ln := by omega
        clear K1 K0 nx cmd ih B
        by_cases h3 : w 80 j = 303
        · simp (disch := omega) only [z_app, z_rd, z_cl, z_add, z_sub, z_mul, z_neg, z_lit, z_leT, z_leF, z_ltT, z_ltF, z_eqT, z_eqF, i_leT, i_leF, i_ltT, i_ltF, i_eqT, i_eqF, z_le, z_lt, z_eq, z_ite, z_at, z_pt, z_up, z_wr, z_wi1, z_wi0, z_wi, z_inS, z_toInt, z_nb0, z_nb1, Int.cast_ofNat_Int, true_and, and_true, not_true_eq_false, not_false_eq_true, false_imp_iff, true_imp_iff, aup_o, aup_k, ite_true, ite_false, z_fa000, z_fa001, z_fa010, z_fa011, z_fa100, z_fa101, z_fa110, z_fa111, if_true, if_false, M3, t0, L57, t41]
          exact cc _
        · simp (disch := omega) only [z_app, z_rd, z_cl, z_add, z_sub, z_mul, z_neg, z_lit, z_leT, z_leF, z_ltT, z_ltF, z_eqT, z_eqF, i_leT, i_leF, i_ltT, i_ltF, i_eqT, i_eqF, z_le, z_lt, z_eq, z_ite, z_at, z_pt, z_up, z_wr, z_wi1, z_wi0, z_wi, z_inS, z_toInt, z_nb0, z_nb1, Int.cast_ofNat_Int, true_and, and_true, not_true_eq_false, not_false_eq_true, false_imp_iff, true_imp_iff, aup_o, aup_k, ite_true, ite_false, z_fa000, z_fa001, z_fa010, z_fa011, z_fa100, z_fa101, z_fa110, z_fa111, if_true, if_false, M3, t0, L57, t41]
          exact cc _
theorem m_script (hw : qWF g) (hs : kSW g) (hF : tkF w b n c e) (hB : tB (w 80) (w 84) c) (ht : scT m b n) (h : scA m w e c 0) (h45 : m 86 45 = 0) (h46 : m 86 46 = -1) {r : pR} (hp : pfin (w 80) (w 84) pX0 r)
    (K1 : ∀ v k' J' E', r = .inl (k', J', E') → mPF m v → v 86 45 = 0 → (v 86 51 = k' ∧ 0 ≤ k' ∧ k' ≤ 60) → 0 ≤ v 86 55 → 2 * v 86 55 ≤ 900 → v 86 46 = -1 → mCs w v c k' J' E' → Q (iI 0) (qi v))
    (K0 : ∀ v f x, r = .inr (f, x) → mBd w m v f x → Q (iI 0) (qi v)) : qC g (d + 10) mX10_parseScript [.inr 86] (qi m) Q T := by
  obtain ⟨N, hN⟩ := hp
  have P1 : mPF m (aup (aup (aup m 86 51 0) 86 55 0) 86 57 0) := mPF_tr (mPF_86 (by decide) (by decide)) (mPF_tr (mPF_86 (by decide) (by decide)) (mPF_86 (by decide) (by decide)))
  have w820 : 0 ≤ w 82 0 := by
    have := hF.2.1 0 (by decide) hB.1.1
    omega
  have l := m_script_l (d := d) (T := T) (Q := Q) hw hs hF hB N (aup (aup (aup m 86 51 0) 86 55 0) 86 57 0) 0 0 [] (fun _ => 0) (fun _ => 0) r none none hN (scT_P ht P1) ⟨scA_86 h (fun y _ _ => by rw [aup_i (by omega), aup_i (by omega), aup_i (by omega)]), ⟨by decide, by have := hB.1; omega⟩, by rw [aup_i (by decide), aup_i (by decide), aup_i (by decide)]; exact h45, ⟨by rw [aup_i (by decide), aup_i (by decide), aup_s], by decide, by decide⟩, ⟨by rw [aup_s]; rfl, by decide⟩, ⟨by rw [aup_i (by decide), aup_s]; decide, by rw [aup_i (by decide), aup_s]; omega, by rw [aup_i (by decide), aup_i (by decide), aup_i (by decide)]; exact h46⟩, fun a a0 a1 => by omega, trivial, fun o ho => by cases ho⟩ (fun v k' J' E' q1 q2 q3 q4 q5 q6 q7 q8 => K1 v k' J' E' q1 (mPF_tr P1 q2) q3 q4 q5 q6 q7 q8) (fun v f x q1 q2 => K0 v f x q1 (mBd_tr P1 q2))
  refine wX10_parseScript hw ?_
  clear K1 K0
  simp (disch := omega) only [z_app, z_rd, z_cl, z_add, z_sub, z_mul, z_neg, z_lit, z_leT, z_leF, z_ltT, z_ltF, z_eqT, z_eqF, i_leT, i_leF, i_ltT, i_ltF, i_eqT, i_eqF, z_le, z_lt, z_eq, z_ite, z_at, z_pt, z_up, z_wr, z_wi1, z_wi0, z_wi, z_inS, z_toInt, z_nb0, z_nb1, Int.cast_ofNat_Int, true_and, and_true, not_true_eq_false, not_false_eq_true, false_imp_iff, true_imp_iff, aup_o, aup_k, ite_true, ite_false, z_fa000, z_fa001, z_fa010, z_fa011, z_fa100, z_fa101, z_fa110, z_fa111, if_true, if_false]
  exact l
end MC
