/-! ===== pairs: fill, lag ===== -/
section PFD
variable {g : qG}
theorem i32_e (x : Int32) : x = iI x.toInt := (Int32.ofInt_toInt x).symm
/-- what remains to be said of the reference's state -/
theorem lR_d {a : aS} (hJ : jJ a) (hr : rJ a a) {z v : Int} : lR (qi (aup (aup a 123 0 z) 86 0 v)) := by
  refine lR_of hJ (rJ_fr hr (fun k h1 h2 => by rw [aup_o (by omega), aup_o (by omega)]) (fun i hi => by rw [aup_i hi, aup_o (by decide)])) (fun k hk => by rw [aup_o (by omega), aup_o (by omega)])
theorem lR_e {a : aS} (hJ : jJ a) (hr : rJ a a) {v : Int} : lR (qi (aup a 86 0 v)) := lR_of hJ (rJ_t hr v) (fun k hk => aup_o (by omega))
theorem pf_26 (hw : qWF g) : ∀ (σ : qS) (a1 : Int32), lR σ → lPF g 20 lR mX9_fill mX10_fill a1 σ := by
  rintro σ x1 ⟨a, rfl, hJ, hr⟩
  obtain ⟨i, ⟨i1, i2⟩, rfl⟩ := z_of x1
  have B := jb hJ
  have hrl := hr.1
  have e3 := rs_3 hrl
  have e19 := rs_19 hrl
  unfold lPF
  by_cases hi : 0 ≤ i ∧ i ≤ a 21 3 - a 21 2
  · have ok : fOk (FP.fdiv (FP.i2f (iI (a 25 (a 21 2 + i)))) (FP.i2f (iI (a 21 4)))) := fdiv_ok (by omega) (by omega)
    obtain ⟨r, er⟩ : ∃ r : UInt32, r = FP.fdiv (FP.i2f (iI (a 25 (a 21 2 + i)))) (FP.i2f (iI (a 21 4))) := ⟨_, rfl⟩
    obtain ⟨z, ez⟩ : ∃ z : Int, z = r.toInt32.toInt := ⟨_, rfl⟩
    have ez2 : r.toInt32 = iI z := by rw [ez]; exact i32_e _
    have ok2 : fOk (iI z).toUInt32 := by rw [← ez2]; show fOk r; rw [er]; exact ok
    have fin : qC g 20 mX10_fill [.inr 86, .inl (iI i)] (qi (aup a 123 0 z)) (fun bv σ2 => lR σ2 ∧ σ2 86 0 = 0 ∧ bv = σ2 123 0 ∧ fOk bv.toUInt32) (fun _ _ => False) := by
      have hr2 : rJ a (aup (aup a 123 0 z) 86 0 0) := rJ_fr hr (fun k h1 h2 => by rw [aup_o (by omega), aup_o (by omega)]) (fun i hi => by rw [aup_i hi, aup_o (by decide)])
      have q : (fun bv σ2 => lR σ2 ∧ σ2 86 0 = 0 ∧ bv = σ2 123 0 ∧ fOk bv.toUInt32) (FP.fdiv (FP.i2f (iI (a 25 (a 21 2 + i)))) (FP.i2f (qi (aup (aup a 123 0 z) 86 0 0) 86 3))).toInt32 (qi (aup (aup a 123 0 z) 86 0 0)) := by
        have e4 : qi (aup (aup a 123 0 z) 86 0 0) 86 3 = iI (a 21 4) := by
          show iI (aup (aup a 123 0 z) 86 0 0 86 ((3 : Nat) : Int)) = _
          rw [aup_i (by decide), aup_o (by decide)]
          exact congrArg iI e3
        rw [e4, ← er, ez2]
        refine ⟨lR_d hJ hr, ?_, ?_, ok2⟩
        · show iI (aup (aup a 123 0 z) 86 0 0 86 ((0 : Nat) : Int)) = 0
          rw [show aup (aup a 123 0 z) 86 0 0 86 ((0 : Nat) : Int) = 0 from aup_s _ _ _ _]
          rfl
        · show iI z = iI (aup (aup a 123 0 z) 86 0 0 123 ((0 : Nat) : Int))
          rw [aup_o (by decide)]
          exact congrArg iI (aup_s _ _ _ _).symm
      have nn : vf_n32 (FP.fdiv (FP.i2f (iI (a 25 (a 21 2 + i)))) (FP.i2f (qi (aup (aup a 123 0 z) 86 0 0) 86 3))) := by
        have e4 : qi (aup (aup a 123 0 z) 86 0 0) 86 3 = iI (a 21 4) := by
          show iI (aup (aup a 123 0 z) 86 0 0 86 ((3 : Nat) : Int)) = _
          rw [aup_i (by decide), aup_o (by decide)]
          exact congrArg iI e3
        rw [e4]
        exact fOk_n ok
      have by9 := fun (Q' : Int32 → qS → Prop) => m_bytesOf (d := 17) (Q := Q') (T := fun _ _ => False) hw hJ hr2.1 hi.1 hi.2
      refine wX10_fill (d := 19) hw (wX10_isSegment (d := 18) hw ?_)
      simp (disch := omega) only [z_app, z_rd, z_cl, z_add, z_sub, z_mul, z_neg, z_lit, z_leT, z_leF, z_ltT, z_ltF, z_eqT, z_eqF, i_leT, i_leF, i_ltT, i_ltF, i_eqT, i_eqF, z_le, z_lt, z_eq, z_ite, z_at, z_pt, z_up, z_wr, z_wi1, z_wi0, z_wi, z_inS, z_toInt, z_nb0, z_nb1, Int.cast_ofNat_Int, true_and, and_true, not_true_eq_false, not_false_eq_true, false_imp_iff, true_imp_iff, aup_o, aup_k, ite_true, ite_false, z_fa000, z_fa001, z_fa010, z_fa011, z_fa100, z_fa101, z_fa110, z_fa111, if_true, if_false, e19]
      refine ⟨Or.inr trivial, by9 _ ?_⟩
      exact wX10_fill_29 nn q
    have q : (fun r σ1 => fOk r.toUInt32 ∧ qC g 20 mX10_fill [.inr 86, .inl (iI i)] (qup σ1 123 0 r) (fun bv σ2 => lR σ2 ∧ σ2 86 0 = 0 ∧ bv = σ2 123 0 ∧ fOk bv.toUInt32) (fun _ _ => False)) (FP.fdiv (FP.i2f (iI (a 25 (a 21 2 + i)))) (FP.i2f (qi a 21 4))).toInt32 (qi a) := by
      rw [show qi a 21 4 = iI (a 21 4) from rfl, ← er, ez2]
      refine ⟨ok2, ?_⟩
      rw [z_up]
      exact fin
    have nn : vf_n32 (FP.fdiv (FP.i2f (iI (a 25 (a 21 2 + i)))) (FP.i2f (qi a 21 4))) := fOk_n ok
    have sh : ∀ o1 : Option qP, qV g mX7_share 19 0 20 [some (.inr 21), o1] [.inl (iI (a 25 (a 21 2 + i)))] (qi a) (fun r σ1 => fOk r.toUInt32 ∧ qC g 20 mX10_fill [.inr 86, .inl (iI i)] (qup σ1 123 0 r) (fun bv σ2 => lR σ2 ∧ σ2 86 0 = 0 ∧ bv = σ2 123 0 ∧ fOk bv.toUInt32) (fun _ _ => False)) (fun E σ1 => E ∈ ["java/lang/IndexOutOfBoundsException"] ∧ qC g 20 mX10_fill [.inr 86, .inl (iI i)] σ1 (fun _ σ2 => lR σ2 ∧ σ2 86 0 = nI 1) (fun _ _ => False)) := fun o1 => wX7_share_20 nn q
    clear q fin nn ok ok2
    refine wX9_fill (d := 19) hw ?_
    refine ⟨fun h => ?_, fun _ => ⟨fun h => ?_, fun _ => ?_⟩⟩
    · exfalso
      have := (z_lt (x := i) (y := 0) (by omega) (by omega) (by omega) (by omega)).mp h
      omega
    · exfalso
      have h : iI (a 21 3) - iI (a 21 2) + iI 1 ≤ iI i := h
      rw [z_sub, z_add] at h
      have := (z_le (x := a 21 3 - a 21 2 + 1) (y := i) (by omega) (by omega) (by omega) (by omega)).mp h
      omega
    · refine k_rI1 (d := 18) hw ⟨rfl, wX9_fill_34 (d := 19) (wX7_share (d := 18) hw ?_)⟩
      clear hr
      simp (disch := omega) only [z_app, z_rd, z_cl, z_add, z_sub, z_mul, z_neg, z_lit, z_leT, z_leF, z_ltT, z_ltF, z_eqT, z_eqF, i_leT, i_leF, i_ltT, i_ltF, i_eqT, i_eqF, z_le, z_lt, z_eq, z_ite, z_at, z_pt, z_up, z_wr, z_wi1, z_wi0, z_wi, z_inS, z_toInt, z_nb0, z_nb1, Int.cast_ofNat_Int, true_and, and_true, not_true_eq_false, not_false_eq_true, false_imp_iff, true_imp_iff, aup_o, aup_k, ite_true, ite_false, z_fa000, z_fa001, z_fa010, z_fa011, z_fa100, z_fa101, z_fa110, z_fa111, if_true, if_false]
      exact sh _
  · have mB : qC g 20 mX10_fill [.inr 86, .inl (iI i)] (qi a) (fun _ σ2 => lR σ2 ∧ σ2 86 0 = nI 1) (fun _ _ => False) := by
      have q : lR (qi (aup a 86 0 1)) ∧ qi (aup a 86 0 1) 86 0 = nI 1 := by
        refine ⟨lR_e hJ hr, ?_⟩
        show iI (aup a 86 0 1 86 ((0 : Nat) : Int)) = nI 1
        rw [show aup a 86 0 1 86 ((0 : Nat) : Int) = 1 from aup_s _ _ _ _]
        rfl
      refine wX10_fill (d := 19) hw (wX10_isSegment (d := 18) hw ?_)
      by_cases h0 : i < 0
      · clear hi
        simp (disch := omega) only [z_app, z_rd, z_cl, z_add, z_sub, z_mul, z_neg, z_lit, z_leT, z_leF, z_ltT, z_ltF, z_eqT, z_eqF, i_leT, i_leF, i_ltT, i_ltF, i_eqT, i_eqF, z_le, z_lt, z_eq, z_ite, z_at, z_pt, z_up, z_wr, z_wi1, z_wi0, z_wi, z_inS, z_toInt, z_nb0, z_nb1, Int.cast_ofNat_Int, true_and, and_true, not_true_eq_false, not_false_eq_true, false_imp_iff, true_imp_iff, aup_o, aup_k, ite_true, ite_false, z_fa000, z_fa001, z_fa010, z_fa011, z_fa100, z_fa101, z_fa110, z_fa111, if_true, if_false, e19]
        exact ⟨Or.inl trivial, wX10_fill_22 q⟩
      · have h1 : a 21 3 - a 21 2 < i := by omega
        clear hi
        simp (disch := omega) only [z_app, z_rd, z_cl, z_add, z_sub, z_mul, z_neg, z_lit, z_leT, z_leF, z_ltT, z_ltF, z_eqT, z_eqF, i_leT, i_leF, i_ltT, i_ltF, i_eqT, i_eqF, z_le, z_lt, z_eq, z_ite, z_at, z_pt, z_up, z_wr, z_wi1, z_wi0, z_wi, z_inS, z_toInt, z_nb0, z_nb1, Int.cast_ofNat_Int, true_and, and_true, not_true_eq_false, not_false_eq_true, false_imp_iff, true_imp_iff, aup_o, aup_k, ite_true, ite_false, z_fa000, z_fa001, z_fa010, z_fa011, z_fa100, z_fa101, z_fa110, z_fa111, if_true, if_false, e19]
        exact ⟨Or.inl trivial, wX10_fill_22 q⟩
    have tE := And.intro (List.mem_cons_self (a := "java/lang/IndexOutOfBoundsException") (l := [])) mB
    refine wX9_fill (d := 19) hw ⟨fun _ => k_rI0 (d := 18) hw tE, fun h0 => ⟨fun _ => k_rI0 (d := 18) hw tE, fun h1 => ?_⟩⟩
    exfalso
    have h2 : ¬ i < 0 := fun h => h0 ((z_lt (x := i) (y := 0) (by omega) (by omega) (by omega) (by omega)).mpr h)
    have h3 : ¬ a 21 3 - a 21 2 + 1 ≤ i := fun h => h1 (by
      show iI (a 21 3) - iI (a 21 2) + iI 1 ≤ iI i
      rw [z_sub, z_add]
      exact (z_le (x := a 21 3 - a 21 2 + 1) (y := i) (by omega) (by omega) (by omega) (by omega)).mpr h)
    omega
theorem pf_35 (hw : qWF g) : ∀ (σ : qS) (a1 : Int32), lR σ → lPF g 20 lR mX9_lag mX10_lag a1 σ := by
  rintro σ x1 ⟨a, rfl, hJ, hr⟩
  obtain ⟨i, ⟨i1, i2⟩, rfl⟩ := z_of x1
  have B := jb hJ
  have hrl := hr.1
  have e27 := rs_27 hrl
  unfold lPF
  by_cases hi : 0 ≤ i ∧ i < a 26 6
  · have C := jc hJ hi.1 hi.2
    have c102 := rc_102 hrl hi.1 hi.2
    have c101 := rv_101 hrl (t := a 32 i) C.1 C.2.1
    obtain ⟨y, hy⟩ : ∃ y : Int, y = a 30 (a 32 i) := ⟨_, rfl⟩
    rw [← hy] at C c101
    -- the reference, given the float
    have fin : ∀ r : UInt32, fOk r → (y ≤ 0 → r = FP.fconst0) → (¬ y ≤ 0 → r = FP.fdiv (FP.i2f (iI (y - a 34 i))) (FP.i2f (iI y))) → ∀ z : Int, r.toInt32 = iI z → qC g 20 mX10_lag [.inr 86, .inl (iI i)] (qi (aup a 123 0 z)) (fun bv σ2 => lR σ2 ∧ σ2 86 0 = 0 ∧ bv = σ2 123 0 ∧ fOk bv.toUInt32) (fun _ _ => False) := by
      intro r ok r0 r1 z ez2
      have ok2 : fOk (iI z).toUInt32 := by rw [← ez2]; exact ok
      have hr2 : rJ a (aup (aup a 123 0 z) 86 0 0) := rJ_fr hr (fun k h1 h2 => by rw [aup_o (by omega), aup_o (by omega)]) (fun i hi => by rw [aup_i hi, aup_o (by decide)])
      have q : (fun bv σ2 => lR σ2 ∧ σ2 86 0 = 0 ∧ bv = σ2 123 0 ∧ fOk bv.toUInt32) r.toInt32 (qi (aup (aup a 123 0 z) 86 0 0)) := by
        rw [ez2]
        refine ⟨lR_d hJ hr, ?_, ?_, ok2⟩
        · show iI (aup (aup a 123 0 z) 86 0 0 86 ((0 : Nat) : Int)) = 0
          rw [show aup (aup a 123 0 z) 86 0 0 86 ((0 : Nat) : Int) = 0 from aup_s _ _ _ _]
          rfl
        · show iI z = iI (aup (aup a 123 0 z) 86 0 0 123 ((0 : Nat) : Int))
          rw [aup_o (by decide)]
          exact congrArg iI (aup_s _ _ _ _).symm
      have un := fun (Q' : Int32 → qS → Prop) => m_unreadOf (d := 18) (Q := Q') (T := fun _ _ => False) hw hJ hr2.1 hi.1 hi.2
      rw [← hy] at un
      refine wX10_lag (d := 19) hw (wX10_isConsumer (d := 18) hw ?_)
      by_cases hz : y ≤ 0
      · have e0 : y = 0 := by omega
        rw [r0 hz] at q
        clear r0 r1 un
        simp (disch := omega) only [z_app, z_rd, z_cl, z_add, z_sub, z_mul, z_neg, z_lit, z_leT, z_leF, z_ltT, z_ltF, z_eqT, z_eqF, i_leT, i_leF, i_ltT, i_ltF, i_eqT, i_eqF, z_le, z_lt, z_eq, z_ite, z_at, z_pt, z_up, z_wr, z_wi1, z_wi0, z_wi, z_inS, z_toInt, z_nb0, z_nb1, Int.cast_ofNat_Int, true_and, and_true, not_true_eq_false, not_false_eq_true, false_imp_iff, true_imp_iff, aup_o, aup_k, ite_true, ite_false, z_fa000, z_fa001, z_fa010, z_fa011, z_fa100, z_fa101, z_fa110, z_fa111, if_true, if_false, e27, c102, c101, e0]
        exact ⟨Or.inr trivial, wX10_lag_40 q⟩
      · have nn : vf_n32 (FP.fdiv (FP.i2f (iI (y - a 34 i))) (FP.i2f (iI y))) := by rw [← r1 hz]; exact fOk_n ok
        rw [r1 hz] at q
        clear r0 r1
        simp (disch := omega) only [z_app, z_rd, z_cl, z_add, z_sub, z_mul, z_neg, z_lit, z_leT, z_leF, z_ltT, z_ltF, z_eqT, z_eqF, i_leT, i_leF, i_ltT, i_ltF, i_eqT, i_eqF, z_le, z_lt, z_eq, z_ite, z_at, z_pt, z_up, z_wr, z_wi1, z_wi0, z_wi, z_inS, z_toInt, z_nb0, z_nb1, Int.cast_ofNat_Int, true_and, and_true, not_true_eq_false, not_false_eq_true, false_imp_iff, true_imp_iff, aup_o, aup_k, ite_true, ite_false, z_fa000, z_fa001, z_fa010, z_fa011, z_fa100, z_fa101, z_fa110, z_fa111, if_true, if_false, e27, c102, c101]
        refine ⟨Or.inr trivial, un _ ?_⟩
        exact wX10_lag_49 nn q
    have main : ∀ r : UInt32, fOk r → (y ≤ 0 → r = FP.fconst0) → (¬ y ≤ 0 → r = FP.fdiv (FP.i2f (iI (y - a 34 i))) (FP.i2f (iI y))) → qC g 20 mX9_lag [.inr 0, .inl (iI i)] (qi a) (fun r σ1 => fOk r.toUInt32 ∧ qC g 20 mX10_lag [.inr 86, .inl (iI i)] (qup σ1 123 0 r) (fun bv σ2 => lR σ2 ∧ σ2 86 0 = 0 ∧ bv = σ2 123 0 ∧ fOk bv.toUInt32) (fun _ _ => False)) (fun E σ1 => E ∈ ["java/lang/IndexOutOfBoundsException"] ∧ qC g 20 mX10_lag [.inr 86, .inl (iI i)] σ1 (fun _ σ2 => lR σ2 ∧ σ2 86 0 = nI 1) (fun _ _ => False)) := by
      intro r ok r0 r1
      obtain ⟨z, ez⟩ : ∃ z : Int, z = r.toInt32.toInt := ⟨_, rfl⟩
      have ez2 : r.toInt32 = iI z := by rw [ez]; exact i32_e _
      have q : (fun r σ1 => fOk r.toUInt32 ∧ qC g 20 mX10_lag [.inr 86, .inl (iI i)] (qup σ1 123 0 r) (fun bv σ2 => lR σ2 ∧ σ2 86 0 = 0 ∧ bv = σ2 123 0 ∧ fOk bv.toUInt32) (fun _ _ => False)) r.toInt32 (qi a) := by
        rw [ez2]
        refine ⟨by rw [← ez2]; exact ok, ?_⟩
        rw [z_up]
        exact fin r ok r0 r1 z ez2
      have sh : qC g 19 mX0_unreadShare [.inr 26, .inl (iI i)] (qi a) (fun r σ1 => fOk r.toUInt32 ∧ qC g 20 mX10_lag [.inr 86, .inl (iI i)] (qup σ1 123 0 r) (fun bv σ2 => lR σ2 ∧ σ2 86 0 = 0 ∧ bv = σ2 123 0 ∧ fOk bv.toUInt32) (fun _ _ => False)) (fun E σ1 => E ∈ ["java/lang/IndexOutOfBoundsException"] ∧ qC g 20 mX10_lag [.inr 86, .inl (iI i)] σ1 (fun _ σ2 => lR σ2 ∧ σ2 86 0 = nI 1) (fun _ _ => False)) := by
        have un := fun (Q' : Int32 → qS → Prop) => k_unreadOf (d := 17) (Q := Q') (T := fun E σ1 => E ∈ ["java/lang/IndexOutOfBoundsException"] ∧ qC g 20 mX10_lag [.inr 86, .inl (iI i)] σ1 (fun _ σ2 => lR σ2 ∧ σ2 86 0 = nI 1) (fun _ _ => False)) hw hJ hi.1 hi.2
        rw [← hy] at un
        have ky := hy.symm
        by_cases hz : y ≤ 0
        · rw [r0 hz] at q
          have l32 := fun (ls : List (Option qP)) => wX0_unreadShare_32 (g := g) (d := 19) (bu := 0) (ls := ls) (σ := qi a) (Q := fun r σ1 => fOk r.toUInt32 ∧ qC g 20 mX10_lag [.inr 86, .inl (iI i)] (qup σ1 123 0 r) (fun bv σ2 => lR σ2 ∧ σ2 86 0 = 0 ∧ bv = σ2 123 0 ∧ fOk bv.toUInt32) (fun _ _ => False)) (T := fun E σ1 => E ∈ ["java/lang/IndexOutOfBoundsException"] ∧ qC g 20 mX10_lag [.inr 86, .inl (iI i)] σ1 (fun _ σ2 => lR σ2 ∧ σ2 86 0 = nI 1) (fun _ _ => False)) q
          clear q fin r0 r1 un hr hrl
          refine wX0_unreadShare (d := 18) hw ?_
          simp (disch := omega) only [z_app, z_rd, z_cl, z_add, z_sub, z_mul, z_neg, z_lit, z_leT, z_leF, z_ltT, z_ltF, z_eqT, z_eqF, i_leT, i_leF, i_ltT, i_ltF, i_eqT, i_eqF, z_le, z_lt, z_eq, z_ite, z_at, z_pt, z_up, z_wr, z_wi1, z_wi0, z_wi, z_inS, z_toInt, z_nb0, z_nb1, Int.cast_ofNat_Int, true_and, and_true, not_true_eq_false, not_false_eq_true, false_imp_iff, true_imp_iff, aup_o, aup_k, ite_true, ite_false, z_fa000, z_fa001, z_fa010, z_fa011, z_fa100, z_fa101, z_fa110, z_fa111, if_true, if_false, ky]
          exact l32 _
        · have nn : vf_n32 (FP.fdiv (FP.i2f (iI (y - a 34 i))) (FP.i2f (iI y))) := by rw [← r1 hz]; exact fOk_n ok
          rw [r1 hz] at q
          clear fin r0 r1 hr hrl
          have l25 := fun (o0 o1 : Option qP) => wX0_unreadShare_25 (g := g) (d := 19) (bu := 0) (o0 := o0) (o1 := o1) (σ := qi a) (Q := fun r σ1 => fOk r.toUInt32 ∧ qC g 20 mX10_lag [.inr 86, .inl (iI i)] (qup σ1 123 0 r) (fun bv σ2 => lR σ2 ∧ σ2 86 0 = 0 ∧ bv = σ2 123 0 ∧ fOk bv.toUInt32) (fun _ _ => False)) (T := fun E σ1 => E ∈ ["java/lang/IndexOutOfBoundsException"] ∧ qC g 20 mX10_lag [.inr 86, .inl (iI i)] σ1 (fun _ σ2 => lR σ2 ∧ σ2 86 0 = nI 1) (fun _ _ => False)) nn q
          clear q nn
          refine wX0_unreadShare (d := 18) hw ?_
          simp (disch := omega) only [z_app, z_rd, z_cl, z_add, z_sub, z_mul, z_neg, z_lit, z_leT, z_leF, z_ltT, z_ltF, z_eqT, z_eqF, i_leT, i_leF, i_ltT, i_ltF, i_eqT, i_eqF, z_le, z_lt, z_eq, z_ite, z_at, z_pt, z_up, z_wr, z_wi1, z_wi0, z_wi, z_inS, z_toInt, z_nb0, z_nb1, Int.cast_ofNat_Int, true_and, and_true, not_true_eq_false, not_false_eq_true, false_imp_iff, true_imp_iff, aup_o, aup_k, ite_true, ite_false, z_fa000, z_fa001, z_fa010, z_fa011, z_fa100, z_fa101, z_fa110, z_fa111, if_true, if_false, ky]
          refine un _ ?_
          exact l25 _ _
      have ix : ¬ (i < 0 ∨ a 26 6 ≤ i) := by omega
      refine wX9_lag (d := 19) hw ?_
      clear fin q
      simp (disch := omega) only [z_app, z_rd, z_cl, z_add, z_sub, z_mul, z_neg, z_lit, z_leT, z_leF, z_ltT, z_ltF, z_eqT, z_eqF, i_leT, i_leF, i_ltT, i_ltF, i_eqT, i_eqF, z_le, z_lt, z_eq, z_ite, z_at, z_pt, z_up, z_wr, z_wi1, z_wi0, z_wi, z_inS, z_toInt, z_nb0, z_nb1, Int.cast_ofNat_Int, true_and, and_true, not_true_eq_false, not_false_eq_true, false_imp_iff, true_imp_iff, aup_o, aup_k, ite_true, ite_false, z_fa000, z_fa001, z_fa010, z_fa011, z_fa100, z_fa101, z_fa110, z_fa111, if_true, if_false, or_self, or_true, true_or, or_false, false_or]
      exact k_rI1 (d := 18) hw (wX9_lag_22 (d := 19) sh)
    by_cases hz : y ≤ 0
    · exact main FP.fconst0 f0_ok (fun _ => rfl) (fun h => (h hz).elim)
    · exact main _ (fdiv_ok (x := iI (y - a 34 i)) (y := y) (by omega) (by omega)) (fun h => (hz h).elim) (fun _ => rfl)
  · have mB : qC g 20 mX10_lag [.inr 86, .inl (iI i)] (qi a) (fun _ σ2 => lR σ2 ∧ σ2 86 0 = nI 1) (fun _ _ => False) := by
      have q : lR (qi (aup a 86 0 1)) ∧ qi (aup a 86 0 1) 86 0 = nI 1 := by
        refine ⟨lR_e hJ hr, ?_⟩
        show iI (aup a 86 0 1 86 ((0 : Nat) : Int)) = nI 1
        rw [show aup a 86 0 1 86 ((0 : Nat) : Int) = 1 from aup_s _ _ _ _]
        rfl
      refine wX10_lag (d := 19) hw (wX10_isConsumer (d := 18) hw ?_)
      by_cases h0 : i < 0
      · clear hi
        simp (disch := omega) only [z_app, z_rd, z_cl, z_add, z_sub, z_mul, z_neg, z_lit, z_leT, z_leF, z_ltT, z_ltF, z_eqT, z_eqF, i_leT, i_leF, i_ltT, i_ltF, i_eqT, i_eqF, z_le, z_lt, z_eq, z_ite, z_at, z_pt, z_up, z_wr, z_wi1, z_wi0, z_wi, z_inS, z_toInt, z_nb0, z_nb1, Int.cast_ofNat_Int, true_and, and_true, not_true_eq_false, not_false_eq_true, false_imp_iff, true_imp_iff, aup_o, aup_k, ite_true, ite_false, z_fa000, z_fa001, z_fa010, z_fa011, z_fa100, z_fa101, z_fa110, z_fa111, if_true, if_false, e27]
        exact ⟨Or.inl trivial, wX10_lag_22 q⟩
      · have h1 : a 26 6 ≤ i := by omega
        clear hi
        simp (disch := omega) only [z_app, z_rd, z_cl, z_add, z_sub, z_mul, z_neg, z_lit, z_leT, z_leF, z_ltT, z_ltF, z_eqT, z_eqF, i_leT, i_leF, i_ltT, i_ltF, i_eqT, i_eqF, z_le, z_lt, z_eq, z_ite, z_at, z_pt, z_up, z_wr, z_wi1, z_wi0, z_wi, z_inS, z_toInt, z_nb0, z_nb1, Int.cast_ofNat_Int, true_and, and_true, not_true_eq_false, not_false_eq_true, false_imp_iff, true_imp_iff, aup_o, aup_k, ite_true, ite_false, z_fa000, z_fa001, z_fa010, z_fa011, z_fa100, z_fa101, z_fa110, z_fa111, if_true, if_false, e27]
        exact ⟨Or.inl trivial, wX10_lag_22 q⟩
    have tE := And.intro (List.mem_cons_self (a := "java/lang/IndexOutOfBoundsException") (l := [])) mB
    refine wX9_lag (d := 19) hw ?_
    by_cases h0 : i < 0
    · clear hi hr hrl
      simp (disch := omega) only [z_app, z_rd, z_cl, z_add, z_sub, z_mul, z_neg, z_lit, z_leT, z_leF, z_ltT, z_ltF, z_eqT, z_eqF, i_leT, i_leF, i_ltT, i_ltF, i_eqT, i_eqF, z_le, z_lt, z_eq, z_ite, z_at, z_pt, z_up, z_wr, z_wi1, z_wi0, z_wi, z_inS, z_toInt, z_nb0, z_nb1, Int.cast_ofNat_Int, true_and, and_true, not_true_eq_false, not_false_eq_true, false_imp_iff, true_imp_iff, aup_o, aup_k, ite_true, ite_false, z_fa000, z_fa001, z_fa010, z_fa011, z_fa100, z_fa101, z_fa110, z_fa111, if_true, if_false, or_self, or_true, true_or, or_false, false_or]
      exact k_rI0 (d := 18) hw tE
    · have h1 : a 26 6 ≤ i := by omega
      clear hi hr hrl
      simp (disch := omega) only [z_app, z_rd, z_cl, z_add, z_sub, z_mul, z_neg, z_lit, z_leT, z_leF, z_ltT, z_ltF, z_eqT, z_eqF, i_leT, i_leF, i_ltT, i_ltF, i_eqT, i_eqF, z_le, z_lt, z_eq, z_ite, z_at, z_pt, z_up, z_wr, z_wi1, z_wi0, z_wi, z_inS, z_toInt, z_nb0, z_nb1, Int.cast_ofNat_Int, true_and, and_true, not_true_eq_false, not_false_eq_true, false_imp_iff, true_imp_iff, aup_o, aup_k, ite_true, ite_false, z_fa000, z_fa001, z_fa010, z_fa011, z_fa100, z_fa101, z_fa110, z_fa111, if_true, if_false, or_self, or_true, true_or, or_false, false_or]
      exact k_rI0 (d := 18) hw tE
end PFD
