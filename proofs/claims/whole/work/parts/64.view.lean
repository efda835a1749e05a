/-! ===== the reference's view ===== -/
/-- a record of s done to the files in cells 110 and 109 of u -/
def chM (s u : aS) (k : Int) : aS := fun x i => if x = 110 then (fch s (u 110, u 109) k).1 i else if x = 109 then (fch s (u 110, u 109) k).2 i else u x i
def zvF (u : aS) (f o : Int) : aS := fun x i => if x = 109 ∧ 4 * f ≤ i ∧ i < 4 * f + o then 0 else u x i
def dvF (u : aS) (f t o : Int) : aS := fun x i => if x = 110 ∧ i = t then u 110 f else if x = 109 ∧ 4 * t ≤ i ∧ i < 4 * t + o then u 109 (4 * f + (i - 4 * t)) else u x i
theorem ch_o {s u : aS} {k : Int} {x : Nat} (h1 : x ≠ 110) (h2 : x ≠ 109) : chM s u k x = u x := by
  funext i
  unfold chM
  rw [if_neg h1, if_neg h2]
theorem ch_v (s u : aS) (k : Int) : (chM s u k 110, chM s u k 109) = fch s (u 110, u 109) k := by
  have a1 : chM s u k 110 = (fch s (u 110, u 109) k).1 := by funext i; unfold chM; rw [if_pos rfl]
  have a2 : chM s u k 109 = (fch s (u 110, u 109) k).2 := by funext i; unfold chM; rw [if_neg (by decide), if_pos rfl]
  rw [a1, a2]
theorem zv_s {u : aS} {f o : Int} (o0 : 0 ≤ o) : aup (zvF u f o) 109 (4 * f + o) 0 = zvF u f (o + 1) := by
  funext x i
  unfold aup zvF
  by_cases hx : x = 109
  · simp only [hx, true_and, if_true]
    by_cases h : i = 4 * f + o
    · rw [if_pos h, if_pos (by omega)]
    · rw [if_neg h]
      by_cases h2 : 4 * f ≤ i ∧ i < 4 * f + o
      · rw [if_pos h2, if_pos (by omega)]
      · rw [if_neg h2, if_neg (by omega)]
  · simp only [hx, false_and, if_false]
theorem dv_s {u : aS} {f t o : Int} (o0 : 0 ≤ o) (o1 : o < 4) : aup (dvF u f t o) 109 (4 * t + o) (dvF u f t o 109 (4 * f + o)) = dvF u f t (o + 1) := by
  have ev : dvF u f t o 109 (4 * f + o) = u 109 (4 * f + o) := by
    unfold dvF
    rw [if_neg (by simp), if_neg (by omega)]
  rw [ev]
  funext x i
  unfold aup dvF
  by_cases hx : x = 109
  · subst hx
    simp only [true_and, if_true]
    by_cases h : i = 4 * t + o
    · rw [if_pos h, if_neg (by simp), if_pos (by omega), show 4 * f + (i - 4 * t) = 4 * f + o by omega]
    · have hn : ¬ ((109 : Nat) = 110 ∧ i = t) := by simp
      rw [if_neg h, if_neg hn, if_neg hn]
      by_cases h2 : 4 * t ≤ i ∧ i < 4 * t + o
      · rw [if_pos h2, if_pos (by omega)]
      · rw [if_neg h2, if_neg (by omega)]
  · simp only [hx, if_false, false_and]
theorem cv_w1 {s u : aS} {k : Int} (h3 : s 4 k = 3) (hx : u 110 (s 8 k) = 1) : aup (aup u 110 (s 8 k) 1) 109 (4 * s 8 k + s 10 k) (s 12 k) = chM s u k := by
  funext x i
  unfold aup chM fch fwr fup
  rw [if_pos h3]
  dsimp only
  by_cases h1 : x = 110
  · subst h1
    simp
  · by_cases h2 : x = 109
    · subst h2
      simp [hx]
    · simp [h1, h2]
theorem cv_w0 {s u : aS} {k : Int} (h3 : s 4 k = 3) (hx : u 110 (s 8 k) ≠ 1) : aup (aup (zvF u (s 8 k) 4) 110 (s 8 k) 1) 109 (4 * s 8 k + s 10 k) (s 12 k) = chM s u k := by
  funext x i
  unfold aup chM fch fwr fup zvF
  rw [if_pos h3]
  dsimp only
  by_cases h1 : x = 110
  · subst h1
    simp
  · by_cases h2 : x = 109
    · subst h2
      simp [hx]
    · simp [h1, h2]
theorem cv_r {s u : aS} {k : Int} (h3 : s 4 k = 4) : aup u 110 (s 8 k) 0 = chM s u k := by
  funext x i
  unfold aup chM fch fup
  rw [if_neg (c := s 4 k = 3) (by omega), if_pos (c := s 4 k = 4) h3]
  dsimp only
  by_cases h1 : x = 110
  · subst h1
    simp
  · by_cases h2 : x = 109
    · subst h2; simp
    · simp [h1, h2]
theorem cv_c {s u : aS} {k : Int} (h3 : s 4 k = 5) : dvF u (s 8 k) (s 10 k) 4 = chM s u k := by
  funext x i
  unfold dvF chM fch fcp fup
  rw [if_neg (c := s 4 k = 3) (by omega), if_neg (c := s 4 k = 4) (by omega), if_pos (c := s 4 k = 5) h3]
  dsimp only
  by_cases h1 : x = 110
  · subst h1
    simp
  · by_cases h2 : x = 109
    · subst h2; simp
    · simp [h1, h2]
theorem cv_n {s u : aS} {k : Int} (h3 : s 4 k ≠ 3) (h4 : s 4 k ≠ 4) (h5 : s 4 k ≠ 5) : chM s u k = u := by
  funext x i
  unfold chM fch
  rw [if_neg h3, if_neg h4, if_neg h5]
  dsimp only
  by_cases h1 : x = 110
  · subst h1; simp
  · by_cases h2 : x = 109
    · subst h2; simp
    · simp [h1, h2]
/-- the cells that a view may change -/
def vF (m u : aS) : Prop := ∀ x : Nat, x ≠ 109 → x ≠ 110 → u x = m x
theorem vF_ch {s m u : aS} {k : Int} (h : vF m u) : vF m (chM s u k) := fun x h1 h2 => by rw [ch_o h2 h1, h x h1 h2]
section MV
variable {g : qG} {s m : aS} {d : Nat} {Q : Int32 → qS → Prop} {T : String → qS → Prop}
theorem m_change (hw : qWF g) {u : aS} (hr : rL s m) (hv : vF m u) (n1 : s 2 9 ≤ 400) {k : Int} (k0 : 0 ≤ k) (k1 : k < s 2 9) (hR : jR1 s k) (hx : f01 (u 110)) (hQ : Q (iI 0) (qi (chM s u k))) : qC g (d + 1) mX10_change [.inr 86, .inl (iI k)] (qi u) Q T := by
  obtain ⟨⟨t0, t1⟩, ⟨a0, a1⟩, ⟨b0, b1⟩, ⟨c0, c1⟩, -, h3, h4, h5, -, -⟩ := hR
  have e88 : u 88 k = s 4 k := by rw [hv 88 (by decide) (by decide)]; exact rr_88 hr k0 k1
  have e90 : u 90 k = s 8 k := by rw [hv 90 (by decide) (by decide)]; exact rr_90 hr k0 k1
  have e91 : u 91 k = s 10 k := by rw [hv 91 (by decide) (by decide)]; exact rr_91 hr k0 k1
  have e92 : u 92 k = s 12 k := by rw [hv 92 (by decide) (by decide)]; exact rr_92 hr k0 k1
  refine wX10_change hw ?_
  by_cases c3 : s 4 k = 3
  · have H := h3 c3
    have X := hx (s 8 k) a0 H.1
    simp (disch := omega) only [z_app, z_rd, z_cl, z_add, z_sub, z_mul, z_neg, z_lit, z_leT, z_leF, z_ltT, z_ltF, z_eqT, z_eqF, i_leT, i_leF, i_ltT, i_ltF, i_eqT, i_eqF, z_le, z_lt, z_eq, z_ite, z_at, z_pt, z_up, z_wr, z_wi1, z_wi0, z_wi, z_inS, z_toInt, z_nb0, z_nb1, Int.cast_ofNat_Int, true_and, and_true, not_true_eq_false, not_false_eq_true, false_imp_iff, true_imp_iff, aup_o, aup_k, ite_true, ite_false, z_fa000, z_fa001, z_fa010, z_fa011, z_fa100, z_fa101, z_fa110, z_fa111, if_true, if_false, e88, e90]
    by_cases hh : u 110 (s 8 k) = 1
    · refine wX10_change_19 hw ?_
      simp (disch := omega) only [z_app, z_rd, z_cl, z_add, z_sub, z_mul, z_neg, z_lit, z_leT, z_leF, z_ltT, z_ltF, z_eqT, z_eqF, i_leT, i_leF, i_ltT, i_ltF, i_eqT, i_eqF, z_le, z_lt, z_eq, z_ite, z_at, z_pt, z_up, z_wr, z_wi1, z_wi0, z_wi, z_inS, z_toInt, z_nb0, z_nb1, Int.cast_ofNat_Int, true_and, and_true, not_true_eq_false, not_false_eq_true, false_imp_iff, true_imp_iff, aup_o, aup_k, ite_true, ite_false, z_fa000, z_fa001, z_fa010, z_fa011, z_fa100, z_fa101, z_fa110, z_fa111, if_true, if_false, e91, e92, hh]
      rw [cv_w1 c3 hh]
      exact hQ
    · have key : ∀ o : Int, 0 ≤ o → o ≤ 4 → qV g mX10_change (d + 1) 0 19 [some (.inr 86), some (.inl (iI k)), some (.inl (iI (s 8 k))), some (.inl (iI o))] [] (qi (zvF u (s 8 k) o)) Q T := by
        refine stepUp 4 (fun o ih o0 o1 => wX10_change_19 hw ?_)
        have z110 : zvF u (s 8 k) o 110 (s 8 k) = 0 := by
          have : zvF u (s 8 k) o 110 (s 8 k) = u 110 (s 8 k) := by unfold zvF; rw [if_neg (by simp)]
          rw [this]; omega
        have z91 : zvF u (s 8 k) o 91 k = s 10 k := e91
        have z92 : zvF u (s 8 k) o 92 k = s 12 k := e92
        by_cases h : o < 4
        · simp (disch := omega) only [z_app, z_rd, z_cl, z_add, z_sub, z_mul, z_neg, z_lit, z_leT, z_leF, z_ltT, z_ltF, z_eqT, z_eqF, i_leT, i_leF, i_ltT, i_ltF, i_eqT, i_eqF, z_le, z_lt, z_eq, z_ite, z_at, z_pt, z_up, z_wr, z_wi1, z_wi0, z_wi, z_inS, z_toInt, z_nb0, z_nb1, Int.cast_ofNat_Int, true_and, and_true, not_true_eq_false, not_false_eq_true, false_imp_iff, true_imp_iff, aup_o, aup_k, ite_true, ite_false, z_fa000, z_fa001, z_fa010, z_fa011, z_fa100, z_fa101, z_fa110, z_fa111, if_true, if_false, z110]
          rw [zv_s o0]
          exact ih h (by omega) (by omega)
        · have e : o = 4 := by omega
          subst e
          simp (disch := omega) only [z_app, z_rd, z_cl, z_add, z_sub, z_mul, z_neg, z_lit, z_leT, z_leF, z_ltT, z_ltF, z_eqT, z_eqF, i_leT, i_leF, i_ltT, i_ltF, i_eqT, i_eqF, z_le, z_lt, z_eq, z_ite, z_at, z_pt, z_up, z_wr, z_wi1, z_wi0, z_wi, z_inS, z_toInt, z_nb0, z_nb1, Int.cast_ofNat_Int, true_and, and_true, not_true_eq_false, not_false_eq_true, false_imp_iff, true_imp_iff, aup_o, aup_k, ite_true, ite_false, z_fa000, z_fa001, z_fa010, z_fa011, z_fa100, z_fa101, z_fa110, z_fa111, if_true, if_false, z91, z92]
          rw [cv_w0 c3 hh]
          exact hQ
      have e0 : zvF u (s 8 k) 0 = u := by funext x i; unfold zvF; rw [if_neg (by omega)]
      have := key 0 (by omega) (by omega)
      rw [e0] at this
      exact this
  · by_cases c4 : s 4 k = 4
    · have H := h4 c4
      simp (disch := omega) only [z_app, z_rd, z_cl, z_add, z_sub, z_mul, z_neg, z_lit, z_leT, z_leF, z_ltT, z_ltF, z_eqT, z_eqF, i_leT, i_leF, i_ltT, i_ltF, i_eqT, i_eqF, z_le, z_lt, z_eq, z_ite, z_at, z_pt, z_up, z_wr, z_wi1, z_wi0, z_wi, z_inS, z_toInt, z_nb0, z_nb1, Int.cast_ofNat_Int, true_and, and_true, not_true_eq_false, not_false_eq_true, false_imp_iff, true_imp_iff, aup_o, aup_k, ite_true, ite_false, z_fa000, z_fa001, z_fa010, z_fa011, z_fa100, z_fa101, z_fa110, z_fa111, if_true, if_false, e88, e90]
      rw [cv_r c4]
      exact hQ
    · by_cases c5 : s 4 k = 5
      · have H := h5 c5
        have X := hx (s 8 k) a0 H.1
        have key : ∀ o : Int, 0 ≤ o → o ≤ 4 → qV g mX10_change (d + 1) 0 130 [some (.inr 86), some (.inl (iI k)), some (.inl (iI (s 8 k))), some (.inl (iI o))] [] (qi (dvF u (s 8 k) (s 10 k) o)) Q T := by
          refine stepUp 4 (fun o ih o0 o1 => wX10_change_130 hw ?_)
          have z91 : dvF u (s 8 k) (s 10 k) o 91 k = s 10 k := e91
          by_cases h : o < 4
          · simp (disch := omega) only [z_app, z_rd, z_cl, z_add, z_sub, z_mul, z_neg, z_lit, z_leT, z_leF, z_ltT, z_ltF, z_eqT, z_eqF, i_leT, i_leF, i_ltT, i_ltF, i_eqT, i_eqF, z_le, z_lt, z_eq, z_ite, z_at, z_pt, z_up, z_wr, z_wi1, z_wi0, z_wi, z_inS, z_toInt, z_nb0, z_nb1, Int.cast_ofNat_Int, true_and, and_true, not_true_eq_false, not_false_eq_true, false_imp_iff, true_imp_iff, aup_o, aup_k, ite_true, ite_false, z_fa000, z_fa001, z_fa010, z_fa011, z_fa100, z_fa101, z_fa110, z_fa111, if_true, if_false, z91]
            rw [dv_s o0 h]
            exact ih h (by omega) (by omega)
          · have e : o = 4 := by omega
            subst e
            simp (disch := omega) only [z_app, z_rd, z_cl, z_add, z_sub, z_mul, z_neg, z_lit, z_leT, z_leF, z_ltT, z_ltF, z_eqT, z_eqF, i_leT, i_leF, i_ltT, i_ltF, i_eqT, i_eqF, z_le, z_lt, z_eq, z_ite, z_at, z_pt, z_up, z_wr, z_wi1, z_wi0, z_wi, z_inS, z_toInt, z_nb0, z_nb1, Int.cast_ofNat_Int, true_and, and_true, not_true_eq_false, not_false_eq_true, false_imp_iff, true_imp_iff, aup_o, aup_k, ite_true, ite_false, z_fa000, z_fa001, z_fa010, z_fa011, z_fa100, z_fa101, z_fa110, z_fa111, if_true, if_false]
            rw [cv_c c5]
            exact hQ
        have e0 : ∀ v, v = u 110 (s 8 k) → aup u 110 (s 10 k) v = dvF u (s 8 k) (s 10 k) 0 := by
          intro v hv'
          funext x i
          unfold aup dvF
          by_cases h1 : x = 110
          · by_cases h2 : i = s 10 k
            · rw [if_pos h1, if_pos h2, if_pos ⟨h1, h2⟩, hv']
            · rw [if_pos h1, if_neg h2, if_neg (fun y => h2 y.2), if_neg (by omega)]
          · rw [if_neg h1, if_neg (fun y => h1 y.1), if_neg (by omega)]
        have K := key 0 (by omega) (by omega)
        rcases X with X | X
        · simp (disch := omega) only [z_app, z_rd, z_cl, z_add, z_sub, z_mul, z_neg, z_lit, z_leT, z_leF, z_ltT, z_ltF, z_eqT, z_eqF, i_leT, i_leF, i_ltT, i_ltF, i_eqT, i_eqF, z_le, z_lt, z_eq, z_ite, z_at, z_pt, z_up, z_wr, z_wi1, z_wi0, z_wi, z_inS, z_toInt, z_nb0, z_nb1, Int.cast_ofNat_Int, true_and, and_true, not_true_eq_false, not_false_eq_true, false_imp_iff, true_imp_iff, aup_o, aup_k, ite_true, ite_false, z_fa000, z_fa001, z_fa010, z_fa011, z_fa100, z_fa101, z_fa110, z_fa111, if_true, if_false, e88, e90, e91, X]
          rw [e0 0 X.symm]
          exact K
        · simp (disch := omega) only [z_app, z_rd, z_cl, z_add, z_sub, z_mul, z_neg, z_lit, z_leT, z_leF, z_ltT, z_ltF, z_eqT, z_eqF, i_leT, i_leF, i_ltT, i_ltF, i_eqT, i_eqF, z_le, z_lt, z_eq, z_ite, z_at, z_pt, z_up, z_wr, z_wi1, z_wi0, z_wi, z_inS, z_toInt, z_nb0, z_nb1, Int.cast_ofNat_Int, true_and, and_true, not_true_eq_false, not_false_eq_true, false_imp_iff, true_imp_iff, aup_o, aup_k, ite_true, ite_false, z_fa000, z_fa001, z_fa010, z_fa011, z_fa100, z_fa101, z_fa110, z_fa111, if_true, if_false, e88, e90, e91, X]
          rw [e0 1 X.symm]
          exact K
      · rw [cv_n c3 c4 c5] at hQ
        simp (disch := omega) only [z_app, z_rd, z_cl, z_add, z_sub, z_mul, z_neg, z_lit, z_leT, z_leF, z_ltT, z_ltF, z_eqT, z_eqF, i_leT, i_leF, i_ltT, i_ltF, i_eqT, i_eqF, z_le, z_lt, z_eq, z_ite, z_at, z_pt, z_up, z_wr, z_wi1, z_wi0, z_wi, z_inS, z_toInt, z_nb0, z_nb1, Int.cast_ofNat_Int, true_and, and_true, not_true_eq_false, not_false_eq_true, false_imp_iff, true_imp_iff, aup_o, aup_k, ite_true, ite_false, z_fa000, z_fa001, z_fa010, z_fa011, z_fa100, z_fa101, z_fa110, z_fa111, if_true, if_false, e88]
        exact hQ
/-- the loops over effects and records -/
theorem m_layView_k2 (hw : qWF g) (hJ : jJ s) (hr : rL s m) {p e : Int} (p1 : p ≤ s 2 9) (e0 : 0 ≤ e) (e1 : e < p) : ∀ (k : Int) (u : aS), 0 ≤ k → k ≤ 400 → vF m u → f01 (u 110) → (∀ (u' : aS) (k' : Int), vF m u' → f01 (u' 110) → (u' 110, u' 109) = (lI (fun k => decide (s 18 k = e)) k (e + 1)).foldl (fch s) (u 110, u 109) → qV g mX10_layView (d + 2) 0 72 [some (.inr 86), some (.inl (iI p)), some (.inl (iI (e + 1))), some (.inl (iI k'))] [] (qi u') Q T) → qV g mX10_layView (d + 2) 0 82 [some (.inr 86), some (.inl (iI p)), some (.inl (iI e)), some (.inl (iI k))] [] (qi u) Q T := by
  have B := jb hJ
  refine stepUp (e + 1) (fun k ih u k0 k1 hv hx hQ => wX10_layView_82 hw ?_)
  by_cases h : k < e + 1
  · have E := j_ef hJ k0 (by omega : k < s 2 9)
    have e94 : u 94 k = s 18 k := by rw [hv 94 (by decide) (by decide)]; exact rr_94 hr k0 (by omega)
    rw [lI_f _ h] at hQ
    by_cases hh : s 18 k = e
    · rw [if_pos (decide_eq_true hh)] at hQ
      have R := (hJ.2.1 k k0 (by omega)).1
      simp (disch := omega) only [z_app, z_rd, z_cl, z_add, z_sub, z_mul, z_neg, z_lit, z_leT, z_leF, z_ltT, z_ltF, z_eqT, z_eqF, i_leT, i_leF, i_ltT, i_ltF, i_eqT, i_eqF, z_le, z_lt, z_eq, z_ite, z_at, z_pt, z_up, z_wr, z_wi1, z_wi0, z_wi, z_inS, z_toInt, z_nb0, z_nb1, Int.cast_ofNat_Int, true_and, and_true, not_true_eq_false, not_false_eq_true, false_imp_iff, true_imp_iff, aup_o, aup_k, ite_true, ite_false, z_fa000, z_fa001, z_fa010, z_fa011, z_fa100, z_fa101, z_fa110, z_fa111, if_true, if_false, e94, hh]
      refine m_change hw hr hv (by omega) k0 (by omega) R hx ?_
      have hx2 : f01 (chM s u k 110) := by
        have := f01_ch (x := (u 110, u 109)) R hx
        rw [← ch_v s u k] at this
        exact this
      refine ih h _ (by omega) (by omega) (vF_ch hv) hx2 (fun u' k' a1 a2 a3 => hQ u' k' a1 a2 ?_)
      rw [a3, ch_v]
      rfl
    · rw [if_neg (by simpa using hh), List.nil_append] at hQ
      simp (disch := omega) only [z_app, z_rd, z_cl, z_add, z_sub, z_mul, z_neg, z_lit, z_leT, z_leF, z_ltT, z_ltF, z_eqT, z_eqF, i_leT, i_leF, i_ltT, i_ltF, i_eqT, i_eqF, z_le, z_lt, z_eq, z_ite, z_at, z_pt, z_up, z_wr, z_wi1, z_wi0, z_wi, z_inS, z_toInt, z_nb0, z_nb1, Int.cast_ofNat_Int, true_and, and_true, not_true_eq_false, not_false_eq_true, false_imp_iff, true_imp_iff, aup_o, aup_k, ite_true, ite_false, z_fa000, z_fa001, z_fa010, z_fa011, z_fa100, z_fa101, z_fa110, z_fa111, if_true, if_false, e94]
      exact ih h u (by omega) (by omega) hv hx hQ
  · rw [lI_e (by omega)] at hQ
    simp (disch := omega) only [z_app, z_rd, z_cl, z_add, z_sub, z_mul, z_neg, z_lit, z_leT, z_leF, z_ltT, z_ltF, z_eqT, z_eqF, i_leT, i_leF, i_ltT, i_ltF, i_eqT, i_eqF, z_le, z_lt, z_eq, z_ite, z_at, z_pt, z_up, z_wr, z_wi1, z_wi0, z_wi, z_inS, z_toInt, z_nb0, z_nb1, Int.cast_ofNat_Int, true_and, and_true, not_true_eq_false, not_false_eq_true, false_imp_iff, true_imp_iff, aup_o, aup_k, ite_true, ite_false, z_fa000, z_fa001, z_fa010, z_fa011, z_fa100, z_fa101, z_fa110, z_fa111, if_true, if_false]
    exact hQ u k hv hx rfl
/-- messages below the first record change no files -/
theorem fold_lo (hJ : jJ s) {e : Int} (e0 : s 1 11 ≤ e) (e1 : e < s 2 9) (x : fF) : (lI (fun k => decide (s 18 k = e)) 0 (e + 1)).foldl (fch s) x = (lI (fun k => decide (s 18 k = e)) (s 23 (s 21 2)) (e + 1)).foldl (fch s) x := by
  have B := jb hJ
  have key : ∀ (l : List Int) (x : fF), (∀ k ∈ l, (0 ≤ k ∧ k < s 23 (s 21 2)) ∧ s 18 k = e) → l.foldl (fch s) x = x := by
    intro l
    induction l with
    | nil => intro x _; rfl
    | cons k t ih =>
      intro x hl
      obtain ⟨⟨k0, k1⟩, k2⟩ := hl k List.mem_cons_self
      have H := hJ.2.2.2.2.2.2.2.2.1 k k0 k1
      have ef : fch s x k = x := by
        unfold fch
        rw [if_neg, if_neg, if_neg]
        · intro h; have := H (by omega); omega
        · intro h; have := H (by omega); omega
        · intro h; have := H (by omega); omega
      show t.foldl (fch s) (fch s x k) = x
      rw [ef]
      exact ih x (fun j hj => hl j (List.mem_cons_of_mem _ hj))
  by_cases h : s 23 (s 21 2) ≤ e + 1
  · rw [lI_s (mid := s 23 (s 21 2)) (by omega) _ h, List.foldl_append, key _ x]
    intro k hk
    have := (lI_m _).mp hk
    exact ⟨⟨this.1, this.2.1⟩, of_decide_eq_true this.2.2⟩
  · rw [lI_e (lo := s 23 (s 21 2)) (by omega), key _ x]
    · rfl
    · intro k hk
      have := (lI_m _).mp hk
      exact ⟨⟨this.1, by omega⟩, of_decide_eq_true this.2.2⟩
theorem m_layView_e (hw : qWF g) (hJ : jJ s) (hr : rL s m) {p : Int} (p0 : s 1 11 ≤ p) (p1 : p ≤ s 2 9) {z : fF} (hQ : ∀ u : aS, vF m u → f01 (u 110) → fEq ((eL s (s 1 11) p).foldl (fch s) z) (u 110, u 109) → Q (iI 0) (qi u)) : ∀ (e : Int) (u : aS) (o : Option qP), s 1 11 ≤ e → e ≤ p → vF m u → f01 (u 110) → fEq ((eL s (s 1 11) e).foldl (fch s) z) (u 110, u 109) → qV g mX10_layView (d + 2) 0 72 [some (.inr 86), some (.inl (iI p)), some (.inl (iI e)), o] [] (qi u) Q T := by
  have B := jb hJ
  refine stepUp p (fun e ih u o e0 e1 hv hx hf => wX10_layView_72 hw ?_)
  by_cases h : e < p
  · have e98 : u 98 0 = s 23 (s 21 2) := by
      rw [hv 98 (by decide) (by decide)]
      have := rg_98 hr (i := 0) (by omega) (by omega)
      rw [Int.add_zero] at this
      exact this
    simp (disch := omega) only [z_app, z_rd, z_cl, z_add, z_sub, z_mul, z_neg, z_lit, z_leT, z_leF, z_ltT, z_ltF, z_eqT, z_eqF, i_leT, i_leF, i_ltT, i_ltF, i_eqT, i_eqF, z_le, z_lt, z_eq, z_ite, z_at, z_pt, z_up, z_wr, z_wi1, z_wi0, z_wi, z_inS, z_toInt, z_nb0, z_nb1, Int.cast_ofNat_Int, true_and, and_true, not_true_eq_false, not_false_eq_true, false_imp_iff, true_imp_iff, aup_o, aup_k, ite_true, ite_false, z_fa000, z_fa001, z_fa010, z_fa011, z_fa100, z_fa101, z_fa110, z_fa111, if_true, if_false, e98]
    refine m_layView_k2 hw hJ hr p1 (by omega) h _ u (by omega) (by omega) hv hx (fun u' k' a1 a2 a3 => ?_)
    refine ih h u' _ (by omega) (by omega) a1 a2 ?_
    rw [a3, eL_l e0, List.foldl_append, fold_lo hJ e0 (by omega)]
    exact fEq_fold _ _ _ (fun k hk => (hJ.2.1 k (by have := (lI_m _).mp hk; omega) (by have := (lI_m _).mp hk; omega)).1) hf
  · have ee : e = p := by omega
    subst ee
    simp (disch := omega) only [z_app, z_rd, z_cl, z_add, z_sub, z_mul, z_neg, z_lit, z_leT, z_leF, z_ltT, z_ltF, z_eqT, z_eqF, i_leT, i_leF, i_ltT, i_ltF, i_eqT, i_eqF, z_le, z_lt, z_eq, z_ite, z_at, z_pt, z_up, z_wr, z_wi1, z_wi0, z_wi, z_inS, z_toInt, z_nb0, z_nb1, Int.cast_ofNat_Int, true_and, and_true, not_true_eq_false, not_false_eq_true, false_imp_iff, true_imp_iff, aup_o, aup_k, ite_true, ite_false, z_fa000, z_fa001, z_fa010, z_fa011, z_fa100, z_fa101, z_fa110, z_fa111, if_true, if_false]
    exact hQ u hv hx hf
theorem m_layView (hw : qWF g) (hJ : jJ s) (hr : rL s m) {p : Int} (p0 : s 1 11 ≤ p) (p1 : p ≤ s 2 9) (hQ : ∀ u : aS, vF m u → f01 (u 110) → fEq ((eL s (s 1 11) p).foldl (fch s) (s 46, s 48)) (u 110, u 109) → Q (iI 0) (qi u)) : qC g (d + 2) mX10_layView [.inr 86, .inl (iI p)] (qi m) Q T := by
  have B := jb hJ
  have K46 := f01_kept hJ
  have e28 := rs_28 hr
  have hK := hr.2.2.2.2.2.2.2.1
  -- the blocks
  have blocks : ∀ (j : Int) (u : aS) (o : Option qP), 0 ≤ j → j ≤ 32 → vF m u → (∀ f, 0 ≤ f → f < 8 → u 110 f = s 46 f) → (∀ i, 0 ≤ i → i < j → u 109 i = m 105 i) → qV g mX10_layView (d + 2) 0 43 [some (.inr 86), some (.inl (iI p)), some (.inl (iI j)), o] [] (qi u) Q T := by
    refine stepUp 32 (fun j ih u o j0 j1 hv h110 h109 => wX10_layView_43 hw ?_)
    have u105 : u 105 = m 105 := hv 105 (by decide) (by decide)
    have u28 : u 86 28 = s 1 11 := by rw [hv 86 (by decide) (by decide)]; exact e28
    by_cases h : j < 32
    · simp (disch := omega) only [z_app, z_rd, z_cl, z_add, z_sub, z_mul, z_neg, z_lit, z_leT, z_leF, z_ltT, z_ltF, z_eqT, z_eqF, i_leT, i_leF, i_ltT, i_ltF, i_eqT, i_eqF, z_le, z_lt, z_eq, z_ite, z_at, z_pt, z_up, z_wr, z_wi1, z_wi0, z_wi, z_inS, z_toInt, z_nb0, z_nb1, Int.cast_ofNat_Int, true_and, and_true, not_true_eq_false, not_false_eq_true, false_imp_iff, true_imp_iff, aup_o, aup_k, ite_true, ite_false, z_fa000, z_fa001, z_fa010, z_fa011, z_fa100, z_fa101, z_fa110, z_fa111, if_true, if_false, u105]
      refine ih h _ _ (by omega) (by omega) (fun x h1 h2 => by rw [aup_o h1, hv x h1 h2]) (fun f f0 f1 => by rw [aup_o (by decide)]; exact h110 f f0 f1) (fun i i0 i1 => ?_)
      rw [aup_k]
      split
      · rename_i hh; rw [hh]
      · exact h109 i i0 (by omega)
    · simp (disch := omega) only [z_app, z_rd, z_cl, z_add, z_sub, z_mul, z_neg, z_lit, z_leT, z_leF, z_ltT, z_ltF, z_eqT, z_eqF, i_leT, i_leF, i_ltT, i_ltF, i_eqT, i_eqF, z_le, z_lt, z_eq, z_ite, z_at, z_pt, z_up, z_wr, z_wi1, z_wi0, z_wi, z_inS, z_toInt, z_nb0, z_nb1, Int.cast_ofNat_Int, true_and, and_true, not_true_eq_false, not_false_eq_true, false_imp_iff, true_imp_iff, aup_o, aup_k, ite_true, ite_false, z_fa000, z_fa001, z_fa010, z_fa011, z_fa100, z_fa101, z_fa110, z_fa111, if_true, if_false, u28]
      refine m_layView_e hw hJ hr p0 p1 hQ _ u _ (Int.le_refl _) p0 hv (fun f f0 f1 => by rw [h110 f f0 f1]; exact K46 f f0 f1) ?_
      rw [eL_e (Int.le_refl _)]
      intro f f0 f1
      refine ⟨(h110 f f0 f1).symm, fun hx q q0 q1 => ?_⟩
      show s 48 (4 * f + q) = u 109 (4 * f + q)
      rw [h109 _ (by omega) (by omega)]
      rcases hK with ⟨k1, k2, k3, k4⟩ | ⟨k1, k2, k3⟩
      · have := k3 f f0 f1
        have hx' : s 46 f = 1 := hx
        omega
      · exact ((k2 f f0 f1).2 hx q q0 q1).symm
  have files : ∀ (j : Int) (u : aS) (o : Option qP), 0 ≤ j → j ≤ 8 → vF m u → (∀ f, 0 ≤ f → f < j → u 110 f = s 46 f) → qV g mX10_layView (d + 2) 0 2 [some (.inr 86), some (.inl (iI p)), some (.inl (iI j)), o] [] (qi u) Q T := by
    refine stepUp 8 (fun j ih u o j0 j1 hv h110 => wX10_layView_2 hw ?_)
    have u106 : u 106 = m 106 := hv 106 (by decide) (by decide)
    by_cases h : j < 8
    · have step : ∀ v, v = s 46 j → qV g mX10_layView (d + 2) 0 2 [some (.inr 86), some (.inl (iI p)), some (.inl (iI (j + 1))), o] [] (qi (aup u 110 j v)) Q T := by
        intro v hv'
        refine ih h _ _ (by omega) (by omega) (fun x h1 h2 => by rw [aup_o h2, hv x h1 h2]) (fun f f0 f1 => ?_)
        rw [aup_k]
        split
        · rename_i hh; rw [hh, hv']
        · exact h110 f f0 (by omega)
      have X := K46 j j0 h
      rcases hK with ⟨k1, k2, k3, k4⟩ | ⟨k1, k2, k3⟩
      · have u29 : u 86 29 = 0 := by rw [hv 86 (by decide) (by decide)]; exact k1
        simp (disch := omega) only [z_app, z_rd, z_cl, z_add, z_sub, z_mul, z_neg, z_lit, z_leT, z_leF, z_ltT, z_ltF, z_eqT, z_eqF, i_leT, i_leF, i_ltT, i_ltF, i_eqT, i_eqF, z_le, z_lt, z_eq, z_ite, z_at, z_pt, z_up, z_wr, z_wi1, z_wi0, z_wi, z_inS, z_toInt, z_nb0, z_nb1, Int.cast_ofNat_Int, true_and, and_true, not_true_eq_false, not_false_eq_true, false_imp_iff, true_imp_iff, aup_o, aup_k, ite_true, ite_false, z_fa000, z_fa001, z_fa010, z_fa011, z_fa100, z_fa101, z_fa110, z_fa111, if_true, if_false, u29]
        exact step 0 (k3 j j0 h).symm
      · have u29 : u 86 29 = 1 := by rw [hv 86 (by decide) (by decide)]; exact k1
        have m106 := (k2 j j0 h).1
        rcases X with X | X
        · simp (disch := omega) only [z_app, z_rd, z_cl, z_add, z_sub, z_mul, z_neg, z_lit, z_leT, z_leF, z_ltT, z_ltF, z_eqT, z_eqF, i_leT, i_leF, i_ltT, i_ltF, i_eqT, i_eqF, z_le, z_lt, z_eq, z_ite, z_at, z_pt, z_up, z_wr, z_wi1, z_wi0, z_wi, z_inS, z_toInt, z_nb0, z_nb1, Int.cast_ofNat_Int, true_and, and_true, not_true_eq_false, not_false_eq_true, false_imp_iff, true_imp_iff, aup_o, aup_k, ite_true, ite_false, z_fa000, z_fa001, z_fa010, z_fa011, z_fa100, z_fa101, z_fa110, z_fa111, if_true, if_false, u29, u106, m106, X]
          exact step 0 X.symm
        · simp (disch := omega) only [z_app, z_rd, z_cl, z_add, z_sub, z_mul, z_neg, z_lit, z_leT, z_leF, z_ltT, z_ltF, z_eqT, z_eqF, i_leT, i_leF, i_ltT, i_ltF, i_eqT, i_eqF, z_le, z_lt, z_eq, z_ite, z_at, z_pt, z_up, z_wr, z_wi1, z_wi0, z_wi, z_inS, z_toInt, z_nb0, z_nb1, Int.cast_ofNat_Int, true_and, and_true, not_true_eq_false, not_false_eq_true, false_imp_iff, true_imp_iff, aup_o, aup_k, ite_true, ite_false, z_fa000, z_fa001, z_fa010, z_fa011, z_fa100, z_fa101, z_fa110, z_fa111, if_true, if_false, u29, u106, m106, X]
          exact step 1 X.symm
    · have e : j = 8 := by omega
      subst e
      simp (disch := omega) only [z_app, z_rd, z_cl, z_add, z_sub, z_mul, z_neg, z_lit, z_leT, z_leF, z_ltT, z_ltF, z_eqT, z_eqF, i_leT, i_leF, i_ltT, i_ltF, i_eqT, i_eqF, z_le, z_lt, z_eq, z_ite, z_at, z_pt, z_up, z_wr, z_wi1, z_wi0, z_wi, z_inS, z_toInt, z_nb0, z_nb1, Int.cast_ofNat_Int, true_and, and_true, not_true_eq_false, not_false_eq_true, false_imp_iff, true_imp_iff, aup_o, aup_k, ite_true, ite_false, z_fa000, z_fa001, z_fa010, z_fa011, z_fa100, z_fa101, z_fa110, z_fa111, if_true, if_false]
      exact blocks 0 u _ (by omega) (by omega) hv h110 (fun i i0 i1 => by omega)
  exact wX10_layView hw ⟨rfl, files 0 m _ (by omega) (by omega) (fun _ _ _ => rfl) (fun f f0 f1 => by omega)⟩
end MV
