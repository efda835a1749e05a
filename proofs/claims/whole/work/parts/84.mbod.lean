/-! ===== the reference's parser: what follows a command's word ===== -/
/-- what a command changes -/
def cF (m v : aS) (k : Int) : Prop := (∀ x : Nat, x ≠ 86 → x ≠ 114 → x ≠ 116 → x ≠ 117 → x ≠ 118 → x ≠ 119 → v x = m x) ∧ (∀ i, i < 39 ∨ 44 < i → i ≠ 55 → i ≠ 57 → v 86 i = m 86 i) ∧ (∀ i, i < 4 * k ∨ 4 * k + 3 < i → v 114 i = m 114 i) ∧ (∀ i, i < m 86 55 → v 116 i = m 116 i ∧ v 117 i = m 117 i ∧ v 118 i = m 118 i) ∧ m 86 55 ≤ v 86 55 ∧ (∀ i, i < m 86 57 → v 119 i = m 119 i)
theorem cF_tr {p q r : aS} {k : Int} (h1 : cF p q k) (h2 : cF q r k) (h57 : q 86 57 = p 86 57) : cF p r k := by
  obtain ⟨a1, a2, a3, a4, a5, a6⟩ := h1
  obtain ⟨b1, b2, b3, b4, b5, b6⟩ := h2
  refine ⟨fun x x1 x2 x3 x4 x5 x6 => by rw [b1 x x1 x2 x3 x4 x5 x6, a1 x x1 x2 x3 x4 x5 x6], fun i hi h5 h7 => by rw [b2 i hi h5 h7, a2 i hi h5 h7], fun i hi => by rw [b3 i hi, a3 i hi], fun i hi => ?_, by omega, fun i hi => by rw [b6 i (by omega), a6 i hi]⟩
  obtain ⟨p1, p2, p3⟩ := a4 i hi
  obtain ⟨q1, q2, q3⟩ := b4 i (by omega)
  exact ⟨by rw [q1, p1], by rw [q2, p2], by rw [q3, p3]⟩
theorem cF_sm {m v : aS} {k : Int} (h : mSm m v) : cF m v k := ⟨fun x x1 _ x3 x4 x5 _ => h.1 x x1 x3 x4 x5, fun i hi h5 _ => h.2.1 i hi h5, fun i _ => by rw [h.1 114 (by decide) (by decide) (by decide) (by decide)], h.2.2.1, h.2.2.2, fun i _ => by rw [h.1 119 (by decide) (by decide) (by decide) (by decide)]⟩
theorem cF_sc {m v : aS} {k : Int} (h : scF m v) : cF m v k := cF_sm (mSm_sc h)
theorem cF_rf (m : aS) (k : Int) : cF m m k := cF_sm (mSm_rf m)
theorem cF_up {m : aS} {k i v : Int} (h0 : 4 * k ≤ i) (h1 : i ≤ 4 * k + 3) : cF m (aup m 114 i v) k := ⟨fun x _ x2 _ _ _ _ => aup_o x2, fun _ _ _ _ => by rw [aup_o (by decide)], fun j hj => aup_i (by omega), fun j _ => by rw [aup_o (by decide), aup_o (by decide), aup_o (by decide)]; exact ⟨rfl, rfl, rfl⟩, by rw [aup_o (by decide)]; exact Int.le_refl _, fun j _ => by rw [aup_o (by decide)]⟩
theorem mPF_cF {m v : aS} {k : Int} (h : cF m v k) : mPF m v := ⟨fun x hx hx' => h.1 x hx (by omega) (by omega) (by omega) (by omega) (by omega), fun i hi => h.2.1 i (by omega) (by omega) (by omega)⟩
theorem scA_86 {m v w : aS} {e : Int → Int} {c j : Int} (h : scA m w e c j) (h86 : ∀ i, 39 ≤ i → i ≤ 44 → v 86 i = m 86 i) : scA v w e c j := by
  unfold scA tR at h ⊢
  rw [h86 39 (by decide) (by decide), h86 40 (by decide) (by decide), h86 41 (by decide) (by decide), h86 42 (by decide) (by decide), h86 43 (by decide) (by decide), h86 44 (by decide) (by decide)]
  exact h
/-- what the reference keeps of the command a, whose word is the token j -/
def cmA (w m : aS) (a j : Int) : Prop :=
  (w 80 j < 267 → (∀ i : Nat, i < nbs (w 80 j - 256) → m 114 (4 * a + i) = w 84 (j + 1 + i)) ∧ m 114 (4 * a + 3) = ptx (w 80) (w 84) j) ∧
  (w 80 j = 267 → m 114 (4 * a) = w 84 (j + 1)) ∧
  (w 80 j = 268 → ∃ x y A, psum (w 80) 900 (j + 1) = .inl x ∧ psum (w 80) 900 (x + 1) = .inl y ∧ 0 ≤ A ∧ m 114 (4 * a) = A ∧ aL m A (psl (w 80) (w 84) 900 1 (j + 1)) ∧ m 114 (4 * a + 1) = A + ((psl (w 80) (w 84) 900 1 (j + 1)).length : Nat) ∧ aL m (A + ((psl (w 80) (w 84) 900 1 (j + 1)).length : Nat)) (psl (w 80) (w 84) 900 1 (x + 1)) ∧ m 114 (4 * a + 2) = A + ((psl (w 80) (w 84) 900 1 (j + 1)).length : Nat) + ((psl (w 80) (w 84) 900 1 (x + 1)).length : Nat) ∧ m 114 (4 * a + 2) ≤ m 86 55 ∧ m 114 (4 * a + 3) = w 80 x)
section MB
variable {g : qG} {d : Nat} {Q : Int32 → qS → Prop} {T : String → qS → Prop} {m w : aS} {b : Int → Int} {n c j : Int} {e : Int → Int}
theorem m_numbersOf (hw : qWF g) {σ : qS} {k : Int} (k0 : 0 ≤ k) (k1 : k ≤ 10) (hQ : Q (iI ((nbs k : Nat) : Int)) σ) : qC g (d + 1) mX10_numbersOf [.inl (iI k)] σ Q T := by
  refine wX10_numbersOf hw ⟨rfl, ?_⟩
  rcases (show k = 0 ∨ k = 1 ∨ k = 2 ∨ k = 3 ∨ k = 4 ∨ k = 5 ∨ k = 6 ∨ k = 7 ∨ k = 8 ∨ k = 9 ∨ k = 10 by omega) with h | h | h | h | h | h | h | h | h | h | h
  · subst h
    have q : Q (iI 0) σ := hQ
    clear hQ
    simp only [show (iI 0).toInt = 0 from z_toInt (by decide) (by decide), Int.reduceEq, false_imp_iff, true_imp_iff, not_true_eq_false, not_false_eq_true, true_and, and_true]
    exact q
  · subst h
    have q : Q (iI 1) σ := hQ
    clear hQ
    simp only [show (iI 1).toInt = 1 from z_toInt (by decide) (by decide), Int.reduceEq, false_imp_iff, true_imp_iff, not_true_eq_false, not_false_eq_true, true_and, and_true]
    exact q
  · subst h
    have q : Q (iI 1) σ := hQ
    clear hQ
    simp only [show (iI 2).toInt = 2 from z_toInt (by decide) (by decide), Int.reduceEq, false_imp_iff, true_imp_iff, not_true_eq_false, not_false_eq_true, true_and, and_true]
    exact q
  · subst h
    have q : Q (iI 3) σ := hQ
    clear hQ
    simp only [show (iI 3).toInt = 3 from z_toInt (by decide) (by decide), Int.reduceEq, false_imp_iff, true_imp_iff, not_true_eq_false, not_false_eq_true, true_and, and_true]
    exact q
  · subst h
    have q : Q (iI 1) σ := hQ
    clear hQ
    simp only [show (iI 4).toInt = 4 from z_toInt (by decide) (by decide), Int.reduceEq, false_imp_iff, true_imp_iff, not_true_eq_false, not_false_eq_true, true_and, and_true]
    exact q
  · subst h
    have q : Q (iI 2) σ := hQ
    clear hQ
    simp only [show (iI 5).toInt = 5 from z_toInt (by decide) (by decide), Int.reduceEq, false_imp_iff, true_imp_iff, not_true_eq_false, not_false_eq_true, true_and, and_true]
    exact q
  · subst h
    have q : Q (iI 3) σ := hQ
    clear hQ
    simp only [show (iI 6).toInt = 6 from z_toInt (by decide) (by decide), Int.reduceEq, false_imp_iff, true_imp_iff, not_true_eq_false, not_false_eq_true, true_and, and_true]
    exact q
  · subst h
    have q : Q (iI 1) σ := hQ
    clear hQ
    simp only [show (iI 7).toInt = 7 from z_toInt (by decide) (by decide), Int.reduceEq, false_imp_iff, true_imp_iff, not_true_eq_false, not_false_eq_true, true_and, and_true]
    exact q
  · subst h
    have q : Q (iI 2) σ := hQ
    clear hQ
    simp only [show (iI 8).toInt = 8 from z_toInt (by decide) (by decide), Int.reduceEq, false_imp_iff, true_imp_iff, not_true_eq_false, not_false_eq_true, true_and, and_true]
    exact q
  · subst h
    have q : Q (iI 0) σ := hQ
    clear hQ
    simp only [show (iI 9).toInt = 9 from z_toInt (by decide) (by decide), Int.reduceEq, false_imp_iff, true_imp_iff, not_true_eq_false, not_false_eq_true, true_and, and_true]
    exact q
  · subst h
    have q : Q (iI 0) σ := hQ
    clear hQ
    simp only [show (iI 10).toInt = 10 from z_toInt (by decide) (by decide), Int.reduceEq, false_imp_iff, true_imp_iff, not_true_eq_false, not_false_eq_true, true_and, and_true]
    exact q
theorem m_pl33B (hw : qWF g) {f a k i : Int} (h45 : m 86 45 = f) (f1 : 1 ≤ f) (f3 : f ≤ 3) (k0 : 0 ≤ k) (k1 : k ≤ 10) (i0 : 0 ≤ i) (i1 : i ≤ 4) (hQ : Q (iI 0) (qi m)) : qV g mX10_parsePlain (d + 2) 0 33 [some (.inr 86), some (.inl (iI a)), some (.inl (iI k)), some (.inl (iI i))] [] (qi m) Q T := by
  refine wX10_parsePlain_33 hw (m_numbersOf hw k0 k1 ?_)
  have n3 := nbs_3 k
  have tx : ∀ Q' : Int32 → qS → Prop, (∀ r, Q' (iI r) (qi m)) → qC g (d + 1) mX10_takesTx [.inl (iI k)] (qi m) Q' T := fun Q' hq => by
    by_cases h : 3 ≤ k ∧ k ≤ 6
    · have q := hq 1
      refine wX10_takesTx hw ?_
      simp (disch := omega) only [z_app, z_rd, z_cl, z_add, z_sub, z_mul, z_neg, z_lit, z_leT, z_leF, z_ltT, z_ltF, z_eqT, z_eqF, i_leT, i_leF, i_ltT, i_ltF, i_eqT, i_eqF, z_le, z_lt, z_eq, z_ite, z_at, z_pt, z_up, z_wr, z_wi1, z_wi0, z_wi, z_inS, z_toInt, z_nb0, z_nb1, Int.cast_ofNat_Int, true_and, and_true, not_true_eq_false, not_false_eq_true, false_imp_iff, true_imp_iff, aup_o, aup_k, ite_true, ite_false, z_fa000, z_fa001, z_fa010, z_fa011, z_fa100, z_fa101, z_fa110, z_fa111, if_true, if_false]
      exact ⟨Or.inr trivial, q⟩
    · have q := hq 0
      refine wX10_takesTx hw ?_
      simp (disch := omega) only [z_app, z_rd, z_cl, z_add, z_sub, z_mul, z_neg, z_lit, z_leT, z_leF, z_ltT, z_ltF, z_eqT, z_eqF, i_leT, i_leF, i_ltT, i_ltF, i_eqT, i_eqF, z_le, z_lt, z_eq, z_ite, z_at, z_pt, z_up, z_wr, z_wi1, z_wi0, z_wi, z_inS, z_toInt, z_nb0, z_nb1, Int.cast_ofNat_Int, true_and, and_true, not_true_eq_false, not_false_eq_true, false_imp_iff, true_imp_iff, aup_o, aup_k, ite_true, ite_false, z_fa000, z_fa001, z_fa010, z_fa011, z_fa100, z_fa101, z_fa110, z_fa111, if_true, if_false]
      exact ⟨Or.inl trivial, q⟩
  have fin : ∀ r : Int, (iI r = iI 0 → Q (iI 0) (qi m)) ∧ (¬ iI r = iI 0 → Q (iI 0) (qi m)) := fun r => ⟨fun _ => hQ, fun _ => hQ⟩
  by_cases h : ((nbs k : Nat) : Int) ≤ i
  · simp (disch := omega) only [z_app, z_rd, z_cl, z_add, z_sub, z_mul, z_neg, z_lit, z_leT, z_leF, z_ltT, z_ltF, z_eqT, z_eqF, i_leT, i_leF, i_ltT, i_ltF, i_eqT, i_eqF, z_le, z_lt, z_eq, z_ite, z_at, z_pt, z_up, z_wr, z_wi1, z_wi0, z_wi, z_inS, z_toInt, z_nb0, z_nb1, Int.cast_ofNat_Int, true_and, and_true, not_true_eq_false, not_false_eq_true, false_imp_iff, true_imp_iff, aup_o, aup_k, ite_true, ite_false, z_fa000, z_fa001, z_fa010, z_fa011, z_fa100, z_fa101, z_fa110, z_fa111, if_true, if_false]
    refine tx _ (fun r => ?_)
    have q := fin r
    simp (disch := omega) only [z_app, z_rd, z_cl, z_add, z_sub, z_mul, z_neg, z_lit, z_leT, z_leF, z_ltT, z_ltF, z_eqT, z_eqF, i_leT, i_leF, i_ltT, i_ltF, i_eqT, i_eqF, z_le, z_lt, z_eq, z_ite, z_at, z_pt, z_up, z_wr, z_wi1, z_wi0, z_wi, z_inS, z_toInt, z_nb0, z_nb1, Int.cast_ofNat_Int, true_and, and_true, not_true_eq_false, not_false_eq_true, false_imp_iff, true_imp_iff, aup_o, aup_k, ite_true, ite_false, z_fa000, z_fa001, z_fa010, z_fa011, z_fa100, z_fa101, z_fa110, z_fa111, if_true, if_false, h45]
    exact q
  · simp (disch := omega) only [z_app, z_rd, z_cl, z_add, z_sub, z_mul, z_neg, z_lit, z_leT, z_leF, z_ltT, z_ltF, z_eqT, z_eqF, i_leT, i_leF, i_ltT, i_ltF, i_eqT, i_eqF, z_le, z_lt, z_eq, z_ite, z_at, z_pt, z_up, z_wr, z_wi1, z_wi0, z_wi, z_inS, z_toInt, z_nb0, z_nb1, Int.cast_ofNat_Int, true_and, and_true, not_true_eq_false, not_false_eq_true, false_imp_iff, true_imp_iff, aup_o, aup_k, ite_true, ite_false, z_fa000, z_fa001, z_fa010, z_fa011, z_fa100, z_fa101, z_fa110, z_fa111, if_true, if_false, h45]
    refine tx _ (fun r => ?_)
    have q := fin r
    simp (disch := omega) only [z_app, z_rd, z_cl, z_add, z_sub, z_mul, z_neg, z_lit, z_leT, z_leF, z_ltT, z_ltF, z_eqT, z_eqF, i_leT, i_leF, i_ltT, i_ltF, i_eqT, i_eqF, z_le, z_lt, z_eq, z_ite, z_at, z_pt, z_up, z_wr, z_wi1, z_wi0, z_wi, z_inS, z_toInt, z_nb0, z_nb1, Int.cast_ofNat_Int, true_and, and_true, not_true_eq_false, not_false_eq_true, false_imp_iff, true_imp_iff, aup_o, aup_k, ite_true, ite_false, z_fa000, z_fa001, z_fa010, z_fa011, z_fa100, z_fa101, z_fa110, z_fa111, if_true, if_false, h45]
    exact q
theorem m_plain (hw : qWF g) (hs : kSW g) (hF : tkF w b n c e) (hB : tB (w 80) (w 84) c) (ht : scT m b n) (j0 : 0 ≤ j) (j1 : j < c) (h : scA m w e c (j + 1)) (h45 : m 86 45 = 0) {k : Int} (k0 : 0 ≤ k) (k1 : k < 60) (w0 : 256 ≤ w 80 j) (w1 : w 80 j < 267) (h112 : m 112 k = w 80 j - 256)
    (h1 : ∀ v x, pbody (w 80) (w 84) j = .inl x → cF m v k → v 86 57 = m 86 57 → v 86 55 = m 86 55 → scA v w e c x → cmA w v k j → Q (iI 0) (qi v))
    (h0 : ∀ v f x, pbody (w 80) (w 84) j = .inr (f, x) → mBd w m v f x → v 112 = m 112 → Q (iI 0) (qi v)) : qC g (d + 6) mX10_parsePlain [.inr 86, .inl (iI k)] (qi m) Q T := by
  have c9 := hB.1
  have n3 := nbs_3 (w 80 j - 256)
  have pe := pbody_p (V := w 84) (show w 80 j ≠ 268 by omega) (show w 80 j ≠ 267 by omega)
  obtain ⟨K, hK⟩ : ∃ K, K = nbs (w 80 j - 256) := ⟨_, rfl⟩
  rw [← hK] at n3 pe
  have loop : ∀ (f i : Nat) (v : aS), i + f = K → pnums (w 80) K (j + 1) = pnums (w 80) f (j + 1 + i) → j + 1 + i ≤ c → scT v b n → scA v w e c (j + 1 + i) → cF m v k → v 86 57 = m 86 57 → v 86 55 = m 86 55 → v 86 45 = 0 → v 112 = m 112 → (∀ t : Nat, t < i → v 114 (4 * k + t) = w 84 (j + 1 + t)) → v 114 (4 * k + 3) = -1 → qV g mX10_parsePlain (d + 6) 0 33 [some (.inr 86), some (.inl (iI k)), some (.inl (iI (w 80 j - 256))), some (.inl (iI i))] [] (qi v) Q T := by
    intro f
    induction f with
    | zero =>
      intro i v hi he hc hv1 hv2 hv3 hv4 hv5 hv6 hv7 hv8 hv9
      have ei : i = K := by omega
      subst ei
      have he : pnums (w 80) i (j + 1) = .inl (j + 1 + i) := he
      have B := (hB.2 (j + 1 + i) (by omega) hc).1
      have t13 := tt_1 hv2 (x := 13) (by decide) (by decide)
      have nn : ∀ Q' : Int32 → qS → Prop, Q' (iI (i : Int)) (qi v) → qC g (d + 5) mX10_numbersOf [.inl (iI (w 80 j - 256))] (qi v) Q' T := fun Q' q => m_numbersOf hw (by omega) (by omega) (by rw [← hK]; exact q)
      refine wX10_parsePlain_33 hw (nn _ ?_)
      by_cases htx : 3 ≤ w 80 j - 256 ∧ w 80 j - 256 ≤ 6
      · have tk : ∀ Q' : Int32 → qS → Prop, Q' (iI 1) (qi v) → qC g (d + 5) mX10_takesTx [.inl (iI (w 80 j - 256))] (qi v) Q' T := fun Q' q => by
          refine wX10_takesTx hw ?_
          simp (disch := omega) only [z_app, z_rd, z_cl, z_add, z_sub, z_mul, z_neg, z_lit, z_leT, z_leF, z_ltT, z_ltF, z_eqT, z_eqF, i_leT, i_leF, i_ltT, i_ltF, i_eqT, i_eqF, z_le, z_lt, z_eq, z_ite, z_at, z_pt, z_up, z_wr, z_wi1, z_wi0, z_wi, z_inS, z_toInt, z_nb0, z_nb1, Int.cast_ofNat_Int, true_and, and_true, not_true_eq_false, not_false_eq_true, false_imp_iff, true_imp_iff, aup_o, aup_k, ite_true, ite_false, z_fa000, z_fa001, z_fa010, z_fa011, z_fa100, z_fa101, z_fa110, z_fa111, if_true, if_false]
          exact ⟨Or.inr trivial, q⟩
        by_cases hin : w 80 (j + 1 + i) = 269
        · have jc := tB_lt hB (j := j + 1 + i) (by omega) hc (by omega)
          have st : ∀ (Q' : Int32 → qS → Prop), (∀ v2, qC g (d + 5) mX10_takeNumber [.inr 86] (qi v2) (fun r s8 => Q (iI 0) (qup s8 114 (iI (4 * k + 3)).toNatClampNeg r)) T → Q' (iI 0) (qi v2)) → qC g (d + 5) mX10_scan [.inr 86] (qi v) Q' T := by
            intro Q' hQ'
            refine m_next (d := d + 1) hw hs hF hv1 hv2 (by omega) jc (fun v2 f1 f2 => hQ' v2 ?_)
            have v245 : v2 86 45 = 0 := by rw [f1.2 45 (by omega)]; exact hv6
            by_cases h3 : w 80 (j + 1 + i + 1) = 301
            · have jc2 := tB_lt hB (j := j + 1 + i + 1) (by omega) (by omega) (by omega)
              have pt : ptxe (w 80) (w 80 j - 256) (j + 1 + i) = .inl (j + 1 + i + 2) := by unfold ptxe; rw [if_pos ⟨htx.1, htx.2, hin⟩, if_pos h3]
              refine m_take1 hw hs hF (scT_F hv1 f1) f2 (by omega) jc2 v245 h3 (fun v3 f3 f4 => ?_)
              have q := h1 (aup v3 114 (4 * k + 3) (w 84 (j + 1 + i + 1))) (j + 1 + i + 2) (pe.2.2 _ _ he pt) (cF_tr hv3 (cF_tr (cF_sc f1) (cF_tr (cF_sc f3) (cF_up (by omega) (by omega)) (f3.2 57 (by omega))) (f1.2 57 (by omega))) hv4) (by rw [aup_o (by decide), f3.2 57 (by omega), f1.2 57 (by omega)]; exact hv4) (by rw [aup_o (by decide), f3.2 55 (by omega), f1.2 55 (by omega)]; exact hv5) (scA_86 (by rw [show j + 1 + (i : Int) + 2 = j + 1 + i + 1 + 1 by omega]; exact f4) (fun y _ _ => by rw [aup_o (by decide)])) ⟨fun _ => ⟨fun t ht' => ?_, ?_⟩, fun hh => by omega, fun hh => by omega⟩
              · clear h1 h0 pe nn tk
                simp (disch := omega) only [z_app, z_rd, z_cl, z_add, z_sub, z_mul, z_neg, z_lit, z_leT, z_leF, z_ltT, z_ltF, z_eqT, z_eqF, i_leT, i_leF, i_ltT, i_ltF, i_eqT, i_eqF, z_le, z_lt, z_eq, z_ite, z_at, z_pt, z_up, z_wr, z_wi1, z_wi0, z_wi, z_inS, z_toInt, z_nb0, z_nb1, Int.cast_ofNat_Int, true_and, and_true, not_true_eq_false, not_false_eq_true, false_imp_iff, true_imp_iff, aup_o, aup_k, ite_true, ite_false, z_fa000, z_fa001, z_fa010, z_fa011, z_fa100, z_fa101, z_fa110, z_fa111, if_true, if_false]
                exact q
              · rw [aup_i (by omega), f3.1 114 (by decide), f1.1 114 (by decide)]
                exact hv8 t (by omega)
              · rw [aup_s]
                unfold ptx
                rw [← hK, if_pos ⟨htx.1, htx.2, hin⟩, show j + 1 + (i : Int) + 1 = j + 2 + i by omega]
            · have pt : ptxe (w 80) (w 80 j - 256) (j + 1 + i) = .inr (j + 1 + i + 1) := by unfold ptxe; rw [if_pos ⟨htx.1, htx.2, hin⟩, if_neg h3]
              refine m_take0 hw f2 v245 h3 (fun v3 r hb3 ev => ?_)
              have q := h0 (aup v3 114 (4 * k + 3) r) 1 (j + 1 + i + 1) (pe.2.1 _ _ he pt) (mBd_k (mBd_tr (mPF_tr (mPF_cF hv3) (mPF_sc f1)) hb3) (mPF_up (by decide) (by decide)) (by rw [aup_o (by decide)]) (by rw [aup_o (by decide)])) (by rw [aup_o (by decide), ev, aup_o (by decide), aup_o (by decide), f1.1 112 (by decide)]; exact hv7)
              clear h1 h0 pe nn tk
              simp (disch := omega) only [z_app, z_rd, z_cl, z_add, z_sub, z_mul, z_neg, z_lit, z_leT, z_leF, z_ltT, z_ltF, z_eqT, z_eqF, i_leT, i_leF, i_ltT, i_ltF, i_eqT, i_eqF, z_le, z_lt, z_eq, z_ite, z_at, z_pt, z_up, z_wr, z_wi1, z_wi0, z_wi, z_inS, z_toInt, z_nb0, z_nb1, Int.cast_ofNat_Int, true_and, and_true, not_true_eq_false, not_false_eq_true, false_imp_iff, true_imp_iff, aup_o, aup_k, ite_true, ite_false, z_fa000, z_fa001, z_fa010, z_fa011, z_fa100, z_fa101, z_fa110, z_fa111, if_true, if_false]
              exact q
          clear h1 h0 pe nn
          simp (disch := omega) only [z_app, z_rd, z_cl, z_add, z_sub, z_mul, z_neg, z_lit, z_leT, z_leF, z_ltT, z_ltF, z_eqT, z_eqF, i_leT, i_leF, i_ltT, i_ltF, i_eqT, i_eqF, z_le, z_lt, z_eq, z_ite, z_at, z_pt, z_up, z_wr, z_wi1, z_wi0, z_wi, z_inS, z_toInt, z_nb0, z_nb1, Int.cast_ofNat_Int, true_and, and_true, not_true_eq_false, not_false_eq_true, false_imp_iff, true_imp_iff, aup_o, aup_k, ite_true, ite_false, z_fa000, z_fa001, z_fa010, z_fa011, z_fa100, z_fa101, z_fa110, z_fa111, if_true, if_false]
          refine tk _ ?_
          simp (disch := omega) only [z_app, z_rd, z_cl, z_add, z_sub, z_mul, z_neg, z_lit, z_leT, z_leF, z_ltT, z_ltF, z_eqT, z_eqF, i_leT, i_leF, i_ltT, i_ltF, i_eqT, i_eqF, z_le, z_lt, z_eq, z_ite, z_at, z_pt, z_up, z_wr, z_wi1, z_wi0, z_wi, z_inS, z_toInt, z_nb0, z_nb1, Int.cast_ofNat_Int, true_and, and_true, not_true_eq_false, not_false_eq_true, false_imp_iff, true_imp_iff, aup_o, aup_k, ite_true, ite_false, z_fa000, z_fa001, z_fa010, z_fa011, z_fa100, z_fa101, z_fa110, z_fa111, if_true, if_false, hv6, t13]
          exact st _ (fun v2 hv2 => hv2)
        · have pt : ptxe (w 80) (w 80 j - 256) (j + 1 + i) = .inl (j + 1 + i) := by unfold ptxe; rw [if_neg (fun hh => hin hh.2.2)]
          have q := h1 v (j + 1 + i) (pe.2.2 _ _ he pt) hv3 hv4 hv5 hv2 ⟨fun _ => ⟨fun t ht' => hv8 t (by omega), by rw [hv9]; unfold ptx; rw [← hK, if_neg (fun hh => hin hh.2.2)]⟩, fun hh => by omega, fun hh => by omega⟩
          clear h1 h0 pe nn
          simp (disch := omega) only [z_app, z_rd, z_cl, z_add, z_sub, z_mul, z_neg, z_lit, z_leT, z_leF, z_ltT, z_ltF, z_eqT, z_eqF, i_leT, i_leF, i_ltT, i_ltF, i_eqT, i_eqF, z_le, z_lt, z_eq, z_ite, z_at, z_pt, z_up, z_wr, z_wi1, z_wi0, z_wi, z_inS, z_toInt, z_nb0, z_nb1, Int.cast_ofNat_Int, true_and, and_true, not_true_eq_false, not_false_eq_true, false_imp_iff, true_imp_iff, aup_o, aup_k, ite_true, ite_false, z_fa000, z_fa001, z_fa010, z_fa011, z_fa100, z_fa101, z_fa110, z_fa111, if_true, if_false]
          refine tk _ ?_
          simp (disch := omega) only [z_app, z_rd, z_cl, z_add, z_sub, z_mul, z_neg, z_lit, z_leT, z_leF, z_ltT, z_ltF, z_eqT, z_eqF, i_leT, i_leF, i_ltT, i_ltF, i_eqT, i_eqF, z_le, z_lt, z_eq, z_ite, z_at, z_pt, z_up, z_wr, z_wi1, z_wi0, z_wi, z_inS, z_toInt, z_nb0, z_nb1, Int.cast_ofNat_Int, true_and, and_true, not_true_eq_false, not_false_eq_true, false_imp_iff, true_imp_iff, aup_o, aup_k, ite_true, ite_false, z_fa000, z_fa001, z_fa010, z_fa011, z_fa100, z_fa101, z_fa110, z_fa111, if_true, if_false, hv6, t13]
          exact q
      · have pt : ptxe (w 80) (w 80 j - 256) (j + 1 + i) = .inl (j + 1 + i) := by unfold ptxe; rw [if_neg (fun hh => htx ⟨hh.1, hh.2.1⟩)]
        have q := h1 v (j + 1 + i) (pe.2.2 _ _ he pt) hv3 hv4 hv5 hv2 ⟨fun _ => ⟨fun t ht' => hv8 t (by omega), by rw [hv9]; unfold ptx; rw [if_neg (fun hh => htx ⟨hh.1, hh.2.1⟩)]⟩, fun hh => by omega, fun hh => by omega⟩
        clear h1 h0 pe nn
        simp (disch := omega) only [z_app, z_rd, z_cl, z_add, z_sub, z_mul, z_neg, z_lit, z_leT, z_leF, z_ltT, z_ltF, z_eqT, z_eqF, i_leT, i_leF, i_ltT, i_ltF, i_eqT, i_eqF, z_le, z_lt, z_eq, z_ite, z_at, z_pt, z_up, z_wr, z_wi1, z_wi0, z_wi, z_inS, z_toInt, z_nb0, z_nb1, Int.cast_ofNat_Int, true_and, and_true, not_true_eq_false, not_false_eq_true, false_imp_iff, true_imp_iff, aup_o, aup_k, ite_true, ite_false, z_fa000, z_fa001, z_fa010, z_fa011, z_fa100, z_fa101, z_fa110, z_fa111, if_true, if_false]
        refine wX10_takesTx hw ?_
        simp (disch := omega) only [z_app, z_rd, z_cl, z_add, z_sub, z_mul, z_neg, z_lit, z_leT, z_leF, z_ltT, z_ltF, z_eqT, z_eqF, i_leT, i_leF, i_ltT, i_ltF, i_eqT, i_eqF, z_le, z_lt, z_eq, z_ite, z_at, z_pt, z_up, z_wr, z_wi1, z_wi0, z_wi, z_inS, z_toInt, z_nb0, z_nb1, Int.cast_ofNat_Int, true_and, and_true, not_true_eq_false, not_false_eq_true, false_imp_iff, true_imp_iff, aup_o, aup_k, ite_true, ite_false, z_fa000, z_fa001, z_fa010, z_fa011, z_fa100, z_fa101, z_fa110, z_fa111, if_true, if_false]
        exact ⟨Or.inl trivial, q⟩
    | succ f ih =>
      intro i v hi he hc hv1 hv2 hv3 hv4 hv5 hv6 hv7 hv8 hv9
      have he : pnums (w 80) K (j + 1) = if w 80 (j + 1 + i) = 301 then pnums (w 80) f (j + 1 + i + 1) else .inr (j + 1 + i) := he
      have B := (hB.2 (j + 1 + i) (by omega) hc).1
      have nn : ∀ Q' : Int32 → qS → Prop, Q' (iI (K : Int)) (qi v) → qC g (d + 5) mX10_numbersOf [.inl (iI (w 80 j - 256))] (qi v) Q' T := fun Q' q => m_numbersOf hw (by omega) (by omega) (by rw [← hK]; exact q)
      refine wX10_parsePlain_33 hw (nn _ ?_)
      by_cases h3 : w 80 (j + 1 + i) = 301
      · rw [if_pos h3] at he
        have jc := tB_lt hB (j := j + 1 + i) (by omega) hc (by omega)
        have st : ∀ (Q' : Int32 → qS → Prop), (∀ v2, qV g mX10_parsePlain (d + 6) 0 33 [some (.inr 86), some (.inl (iI k)), some (.inl (iI (w 80 j - 256))), some (.inl (iI ((i : Int) + 1)))] [] (qi (aup v2 114 (4 * k + i) (w 84 (j + 1 + i)))) Q T → Q' (iI (w 84 (j + 1 + i))) (qi v2)) → qC g (d + 5) mX10_takeNumber [.inr 86] (qi v) Q' T := by
          intro Q' hQ'
          refine m_take1 hw hs hF hv1 hv2 (by omega) jc hv6 h3 (fun v2 f1 f2 => hQ' v2 ?_)
          have st := ih (i + 1) (aup v2 114 (4 * k + i) (w 84 (j + 1 + i))) (by omega) (by rw [he, show j + 1 + ((i + 1 : Nat) : Int) = j + 1 + i + 1 by omega]) (by omega) (scT_P (scT_F hv1 f1) (mPF_up (by decide) (by decide))) (scA_86 (by rw [show j + 1 + ((i + 1 : Nat) : Int) = j + 1 + i + 1 by omega]; exact f2) (fun y _ _ => by rw [aup_o (by decide)])) (cF_tr hv3 (cF_tr (cF_sc f1) (cF_up (by omega) (by omega)) (f1.2 57 (by omega))) hv4) (by rw [aup_o (by decide), f1.2 57 (by omega)]; exact hv4) (by rw [aup_o (by decide), f1.2 55 (by omega)]; exact hv5) (by rw [aup_o (by decide), f1.2 45 (by omega)]; exact hv6) (by rw [aup_o (by decide), f1.1 112 (by decide)]; exact hv7) (fun t ht' => by
              rw [aup_k]
              by_cases et : t = i
              · rw [if_pos (by omega), et]
              · rw [if_neg (by omega), f1.1 114 (by decide)]
                exact hv8 t (by omega)) (by rw [aup_i (by omega), f1.1 114 (by decide)]; exact hv9)
          rw [show ((i + 1 : Nat) : Int) = (i : Int) + 1 by omega] at st
          exact st
        clear h1 h0 pe nn
        simp (disch := omega) only [z_app, z_rd, z_cl, z_add, z_sub, z_mul, z_neg, z_lit, z_leT, z_leF, z_ltT, z_ltF, z_eqT, z_eqF, i_leT, i_leF, i_ltT, i_ltF, i_eqT, i_eqF, z_le, z_lt, z_eq, z_ite, z_at, z_pt, z_up, z_wr, z_wi1, z_wi0, z_wi, z_inS, z_toInt, z_nb0, z_nb1, Int.cast_ofNat_Int, true_and, and_true, not_true_eq_false, not_false_eq_true, false_imp_iff, true_imp_iff, aup_o, aup_k, ite_true, ite_false, z_fa000, z_fa001, z_fa010, z_fa011, z_fa100, z_fa101, z_fa110, z_fa111, if_true, if_false, hv6]
        refine st _ (fun v2 q => ?_)
        clear st
        simp (disch := omega) only [z_app, z_rd, z_cl, z_add, z_sub, z_mul, z_neg, z_lit, z_leT, z_leF, z_ltT, z_ltF, z_eqT, z_eqF, i_leT, i_leF, i_ltT, i_ltF, i_eqT, i_eqF, z_le, z_lt, z_eq, z_ite, z_at, z_pt, z_up, z_wr, z_wi1, z_wi0, z_wi, z_inS, z_toInt, z_nb0, z_nb1, Int.cast_ofNat_Int, true_and, and_true, not_true_eq_false, not_false_eq_true, false_imp_iff, true_imp_iff, aup_o, aup_k, ite_true, ite_false, z_fa000, z_fa001, z_fa010, z_fa011, z_fa100, z_fa101, z_fa110, z_fa111, if_true, if_false]
        exact q
      · rw [if_neg h3] at he
        have st : ∀ (Q' : Int32 → qS → Prop), (∀ v2 r, qV g mX10_parsePlain (d + 6) 0 33 [some (.inr 86), some (.inl (iI k)), some (.inl (iI (w 80 j - 256))), some (.inl (iI ((i : Int) + 1)))] [] (qi (aup v2 114 (4 * k + i) r)) Q T → Q' (iI r) (qi v2)) → qC g (d + 5) mX10_takeNumber [.inr 86] (qi v) Q' T := by
          intro Q' hQ'
          refine m_take0 hw hv2 hv6 h3 (fun v2 r hb2 ev => hQ' v2 r ?_)
          have q := h0 (aup v2 114 (4 * k + i) r) 1 (j + 1 + i) (pe.1 _ he) (mBd_k (mBd_tr (mPF_cF hv3) hb2) (mPF_up (by decide) (by decide)) (by rw [aup_o (by decide)]) (by rw [aup_o (by decide)])) (by rw [aup_o (by decide), ev, aup_o (by decide), aup_o (by decide)]; exact hv7)
          exact m_pl33B (d := d + 4) (f := 1) hw (by rw [aup_o (by decide)]; exact hb2.2.1) (by decide) (by decide) (by omega) (by omega) (by omega) (by omega) q
        clear h1 h0 pe nn
        simp (disch := omega) only [z_app, z_rd, z_cl, z_add, z_sub, z_mul, z_neg, z_lit, z_leT, z_leF, z_ltT, z_ltF, z_eqT, z_eqF, i_leT, i_leF, i_ltT, i_ltF, i_eqT, i_eqF, z_le, z_lt, z_eq, z_ite, z_at, z_pt, z_up, z_wr, z_wi1, z_wi0, z_wi, z_inS, z_toInt, z_nb0, z_nb1, Int.cast_ofNat_Int, true_and, and_true, not_true_eq_false, not_false_eq_true, false_imp_iff, true_imp_iff, aup_o, aup_k, ite_true, ite_false, z_fa000, z_fa001, z_fa010, z_fa011, z_fa100, z_fa101, z_fa110, z_fa111, if_true, if_false, hv6]
        refine st _ (fun v2 r q => ?_)
        clear st
        simp (disch := omega) only [z_app, z_rd, z_cl, z_add, z_sub, z_mul, z_neg, z_lit, z_leT, z_leF, z_ltT, z_ltF, z_eqT, z_eqF, i_leT, i_leF, i_ltT, i_ltF, i_eqT, i_eqF, z_le, z_lt, z_eq, z_ite, z_at, z_pt, z_up, z_wr, z_wi1, z_wi0, z_wi, z_inS, z_toInt, z_nb0, z_nb1, Int.cast_ofNat_Int, true_and, and_true, not_true_eq_false, not_false_eq_true, false_imp_iff, true_imp_iff, aup_o, aup_k, ite_true, ite_false, z_fa000, z_fa001, z_fa010, z_fa011, z_fa100, z_fa101, z_fa110, z_fa111, if_true, if_false]
        exact q
  have l := loop K 0 (aup (aup (aup (aup m 114 (4 * k) (-1)) 114 (4 * k + 1) (-1)) 114 (4 * k + 2) (-1)) 114 (4 * k + 3) (-1)) (by omega) (by rw [show j + 1 + ((0 : Nat) : Int) = j + 1 by omega]) (by omega) (scT_P ht (mPF_tr (mPF_up (by decide) (by decide)) (mPF_tr (mPF_up (by decide) (by decide)) (mPF_tr (mPF_up (by decide) (by decide)) (mPF_up (by decide) (by decide)))))) (scA_86 (by rw [show j + 1 + ((0 : Nat) : Int) = j + 1 by omega]; exact h) (fun y _ _ => by rw [aup_o (by decide), aup_o (by decide), aup_o (by decide), aup_o (by decide)])) (cF_tr (cF_up (by omega) (by omega)) (cF_tr (cF_up (by omega) (by omega)) (cF_tr (cF_up (by omega) (by omega)) (cF_up (by omega) (by omega)) (by rw [aup_o (by decide)])) (by rw [aup_o (by decide)])) (by rw [aup_o (by decide)])) (by rw [aup_o (by decide), aup_o (by decide), aup_o (by decide), aup_o (by decide)]) (by rw [aup_o (by decide), aup_o (by decide), aup_o (by decide), aup_o (by decide)]) (by rw [aup_o (by decide), aup_o (by decide), aup_o (by decide), aup_o (by decide)]; exact h45) (by rw [aup_o (by decide), aup_o (by decide), aup_o (by decide), aup_o (by decide)]) (fun t ht' => by omega) (aup_s _ _ _ _)
  clear h1 h0 pe loop
  refine wX10_parsePlain hw ?_
  simp (disch := omega) only [z_app, z_rd, z_cl, z_add, z_sub, z_mul, z_neg, z_lit, z_leT, z_leF, z_ltT, z_ltF, z_eqT, z_eqF, i_leT, i_leF, i_ltT, i_ltF, i_eqT, i_eqF, z_le, z_lt, z_eq, z_ite, z_at, z_pt, z_up, z_wr, z_wi1, z_wi0, z_wi, z_inS, z_toInt, z_nb0, z_nb1, Int.cast_ofNat_Int, true_and, and_true, not_true_eq_false, not_false_eq_true, false_imp_iff, true_imp_iff, aup_o, aup_k, ite_true, ite_false, z_fa000, z_fa001, z_fa010, z_fa011, z_fa100, z_fa101, z_fa110, z_fa111, if_true, if_false, h112]
  refine wX10_parsePlain_9 hw ?_
  simp (disch := omega) only [z_app, z_rd, z_cl, z_add, z_sub, z_mul, z_neg, z_lit, z_leT, z_leF, z_ltT, z_ltF, z_eqT, z_eqF, i_leT, i_leF, i_ltT, i_ltF, i_eqT, i_eqF, z_le, z_lt, z_eq, z_ite, z_at, z_pt, z_up, z_wr, z_wi1, z_wi0, z_wi, z_inS, z_toInt, z_nb0, z_nb1, Int.cast_ofNat_Int, true_and, and_true, not_true_eq_false, not_false_eq_true, false_imp_iff, true_imp_iff, aup_o, aup_k, ite_true, ite_false, z_fa000, z_fa001, z_fa010, z_fa011, z_fa100, z_fa101, z_fa110, z_fa111, if_true, if_false, Int.add_zero]
  refine wX10_parsePlain_9 hw ?_
  simp (disch := omega) only [z_app, z_rd, z_cl, z_add, z_sub, z_mul, z_neg, z_lit, z_leT, z_leF, z_ltT, z_ltF, z_eqT, z_eqF, i_leT, i_leF, i_ltT, i_ltF, i_eqT, i_eqF, z_le, z_lt, z_eq, z_ite, z_at, z_pt, z_up, z_wr, z_wi1, z_wi0, z_wi, z_inS, z_toInt, z_nb0, z_nb1, Int.cast_ofNat_Int, true_and, and_true, not_true_eq_false, not_false_eq_true, false_imp_iff, true_imp_iff, aup_o, aup_k, ite_true, ite_false, z_fa000, z_fa001, z_fa010, z_fa011, z_fa100, z_fa101, z_fa110, z_fa111, if_true, if_false]
  refine wX10_parsePlain_9 hw ?_
  simp (disch := omega) only [z_app, z_rd, z_cl, z_add, z_sub, z_mul, z_neg, z_lit, z_leT, z_leF, z_ltT, z_ltF, z_eqT, z_eqF, i_leT, i_leF, i_ltT, i_ltF, i_eqT, i_eqF, z_le, z_lt, z_eq, z_ite, z_at, z_pt, z_up, z_wr, z_wi1, z_wi0, z_wi, z_inS, z_toInt, z_nb0, z_nb1, Int.cast_ofNat_Int, true_and, and_true, not_true_eq_false, not_false_eq_true, false_imp_iff, true_imp_iff, aup_o, aup_k, ite_true, ite_false, z_fa000, z_fa001, z_fa010, z_fa011, z_fa100, z_fa101, z_fa110, z_fa111, if_true, if_false]
  refine wX10_parsePlain_9 hw ?_
  simp (disch := omega) only [z_app, z_rd, z_cl, z_add, z_sub, z_mul, z_neg, z_lit, z_leT, z_leF, z_ltT, z_ltF, z_eqT, z_eqF, i_leT, i_leF, i_ltT, i_ltF, i_eqT, i_eqF, z_le, z_lt, z_eq, z_ite, z_at, z_pt, z_up, z_wr, z_wi1, z_wi0, z_wi, z_inS, z_toInt, z_nb0, z_nb1, Int.cast_ofNat_Int, true_and, and_true, not_true_eq_false, not_false_eq_true, false_imp_iff, true_imp_iff, aup_o, aup_k, ite_true, ite_false, z_fa000, z_fa001, z_fa010, z_fa011, z_fa100, z_fa101, z_fa110, z_fa111, if_true, if_false]
  refine wX10_parsePlain_9 hw ?_
  simp (disch := omega) only [z_app, z_rd, z_cl, z_add, z_sub, z_mul, z_neg, z_lit, z_leT, z_leF, z_ltT, z_ltF, z_eqT, z_eqF, i_leT, i_leF, i_ltT, i_ltF, i_eqT, i_eqF, z_le, z_lt, z_eq, z_ite, z_at, z_pt, z_up, z_wr, z_wi1, z_wi0, z_wi, z_inS, z_toInt, z_nb0, z_nb1, Int.cast_ofNat_Int, true_and, and_true, not_true_eq_false, not_false_eq_true, false_imp_iff, true_imp_iff, aup_o, aup_k, ite_true, ite_false, z_fa000, z_fa001, z_fa010, z_fa011, z_fa100, z_fa101, z_fa110, z_fa111, if_true, if_false]
  exact l
end MB
