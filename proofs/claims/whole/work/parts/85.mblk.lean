/-! ===== the reference's parser: repeat and when ===== -/
theorem tt_s {m w : aS} {e : Int → Int} {c j : Int} (h : scA m w e c j) (h0 : 0 ≤ w 80 j) (h1 : w 80 j ≤ 255) : m 86 40 = 3 ∧ m 86 43 = w 80 j := by
  obtain ⟨-, -, h⟩ := h
  unfold tR at h
  rcases h with ⟨a1, a2, a3, a4⟩ | ⟨a1, a2, a3, a4⟩ | ⟨a1, a3, a4, a5, a6⟩ | ⟨a1, a3⟩ | ⟨a1, a3, a4⟩ | ⟨a1, a3⟩
  · exact ⟨a3, a4⟩
  · omega
  · omega
  · omega
  · omega
  · omega
theorem cF_bl {m v : aS} {k L z : Int} (hL : m 86 57 = L) (h : scF (aup (aup m 119 L z) 86 57 (L + 1)) v) : cF m v k := by
  refine ⟨fun x x1 _ _ _ _ x6 => by rw [h.1 x x1, aup_o x1, aup_o x6], fun i hi _ h7 => by rw [h.2 i hi, aup_i h7, aup_o (by decide)], fun i _ => by rw [h.1 114 (by decide), aup_o (by decide), aup_o (by decide)], fun i _ => ?_, ?_, fun i hi => ?_⟩
  · rw [h.1 116 (by decide), h.1 117 (by decide), h.1 118 (by decide), aup_o (by decide), aup_o (by decide), aup_o (by decide), aup_o (by decide), aup_o (by decide), aup_o (by decide)]
    exact ⟨rfl, rfl, rfl⟩
  · rw [h.2 55 (by omega), aup_i (by decide), aup_o (by decide)]; exact Int.le_refl _
  · rw [h.1 119 (by decide), aup_o (by decide), aup_i (by omega)]
section MK
variable {g : qG} {d : Nat} {Q : Int32 → qS → Prop} {T : String → qS → Prop} {m w : aS} {b : Int → Int} {n c j : Int} {e : Int → Int}
/-- the end of a head that opens a block -/
theorem m_blk (hw : qWF g) (hs : kSW g) (hF : tkF w b n c e) (hB : tB (w 80) (w 84) c) (ht : scT m b n) (h : scA m w e c j) (j0 : 0 ≤ j) (j1 : j ≤ c) (h45 : m 86 45 = 0) {k L : Int} (hL : m 86 57 = L) (L0 : 0 ≤ L) (L1 : L ≤ 4)
    (h1 : ∀ v : aS, w 80 j = 40 → L < 4 → scF (aup (aup m 119 L k) 86 57 (L + 1)) v → scA v w e c (j + 1) → Q (iI 0) (qi v))
    (h0 : ∀ (v : aS) (f : Int), (f = 1 ∧ w 80 j ≠ 40) ∨ (f = 3 ∧ w 80 j = 40 ∧ L = 4) → mBd w m v f j → Q (iI 0) (qi v)) : qC g (d + 5) mX10_parseBlock [.inr 86, .inl (iI k)] (qi m) Q T := by
  by_cases hc : w 80 j = 40
  · by_cases h4 : L = 4
    · exact m_blk3 (d := d + 4) hw h h45 (by omega) hc (fun v hv => h0 v 3 (Or.inr ⟨rfl, hc, h4⟩) hv)
    · exact m_blk1 hw hs hF ht h j0 (tB_lt hB j0 j1 (by omega)) h45 hc hL L0 (by omega) (fun v f1 f2 => h1 v hc (by omega) f1 f2)
  · exact m_blk0 (d := d + 4) hw h h45 hL L0 L1 hc (fun v hv => h0 v 1 (Or.inl ⟨rfl, hc⟩) hv)
theorem m_repeat (hw : qWF g) (hs : kSW g) (hF : tkF w b n c e) (hB : tB (w 80) (w 84) c) (ht : scT m b n) (j0 : 0 ≤ j) (j1 : j < c) (h : scA m w e c (j + 1)) (h45 : m 86 45 = 0) {k L : Int} (k0 : 0 ≤ k) (k1 : k < 60) (w0 : w 80 j = 267) (hL : m 86 57 = L) (L0 : 0 ≤ L) (L1 : L ≤ 4)
    (h1 : ∀ v x, pbody (w 80) (w 84) j = .inl x → w 80 x = 40 → L < 4 → cF m v k → v 119 L = k → v 86 57 = L + 1 → v 86 55 = m 86 55 → scA v w e c (x + 1) → cmA w v k j → Q (iI 0) (qi v))
    (h0 : ∀ v f x, (pbody (w 80) (w 84) j = .inr (f, x) ∨ (pbody (w 80) (w 84) j = .inl x ∧ ((f = 1 ∧ w 80 x ≠ 40) ∨ (f = 3 ∧ w 80 x = 40 ∧ L = 4)))) → mBd w m v f x → Q (iI 0) (qi v)) : qC g (d + 6) mX10_parseRepeat [.inr 86, .inl (iI k)] (qi m) Q T := by
  have c9 := hB.1
  have t2 := tt_2 h
  have pb : pbody (w 80) (w 84) j = if w 80 (j + 1) = 301 then (if 50 < w 84 (j + 1) then .inr (2, j + 1) else .inl (j + 2)) else .inr (1, j + 1) := by
    unfold pbody
    rw [if_neg (by omega), if_pos w0]
  rw [pb] at h1 h0
  clear pb
  by_cases h3 : w 80 (j + 1) = 301
  · rw [if_pos h3] at h1 h0
    have jc := tB_lt hB (j := j + 1) (by omega) (by omega) (by omega)
    obtain ⟨t40, t42, v0, v1⟩ := tt_n h h3
    have hc0 : qi m 86 45 = (0 : Int32) := congrArg iI h45
    by_cases h50 : 50 < w 84 (j + 1)
    · rw [if_pos h50] at h1 h0
      have bad : mBd w m (aup (aup m 86 45 2) 86 46 (m 86 41)) 2 (j + 1) := mBd_fail h.1 (by decide) (by decide)
      have e45 := bad.2.1
      have st : ∀ Q' : Int32 → qS → Prop, (∀ r, qC g (d + 5) mX10_parseBlock [.inr 86, .inl (iI k)] (qi (aup (aup (aup m 86 45 2) 86 46 (m 86 41)) 114 (4 * k) r)) (fun _ s8 => Q (iI 0) s8) T → Q' (iI r) (qi (aup (aup m 86 45 2) 86 46 (m 86 41)))) → qC g (d + 5) mX10_takeNumber [.inr 86] (qi (aup (aup m 86 45 2) 86 46 (m 86 41))) Q' T := fun Q' hQ' => by
        refine m_takeB (d := d + 4) hw e45 (by decide) (by decide) (fun r => hQ' r ?_)
        exact m_blkB (d := d + 4) (f := 2) hw (by rw [aup_o (by decide)]; exact e45) (by decide) (by decide) (h0 _ 2 (j + 1) (Or.inl rfl) (mBd_k bad (mPF_up (by decide) (by decide)) (by rw [aup_o (by decide)]) (by rw [aup_o (by decide)])))
      refine wX10_parseRepeat hw ?_
      simp only [if_pos hc0]
      clear h1 h0 hc0
      simp (disch := omega) only [z_app, z_rd, z_cl, z_add, z_sub, z_mul, z_neg, z_lit, z_leT, z_leF, z_ltT, z_ltF, z_eqT, z_eqF, i_leT, i_leF, i_ltT, i_ltF, i_eqT, i_eqF, z_le, z_lt, z_eq, z_ite, z_at, z_pt, z_up, z_wr, z_wi1, z_wi0, z_wi, z_inS, z_toInt, z_nb0, z_nb1, Int.cast_ofNat_Int, true_and, and_true, not_true_eq_false, not_false_eq_true, false_imp_iff, true_imp_iff, aup_o, aup_k, ite_true, ite_false, z_fa000, z_fa001, z_fa010, z_fa011, z_fa100, z_fa101, z_fa110, z_fa111, if_true, if_false, t40, t42]
      refine st _ (fun r hr => ?_)
      clear st
      simp (disch := omega) only [z_app, z_rd, z_cl, z_add, z_sub, z_mul, z_neg, z_lit, z_leT, z_leF, z_ltT, z_ltF, z_eqT, z_eqF, i_leT, i_leF, i_ltT, i_ltF, i_eqT, i_eqF, z_le, z_lt, z_eq, z_ite, z_at, z_pt, z_up, z_wr, z_wi1, z_wi0, z_wi, z_inS, z_toInt, z_nb0, z_nb1, Int.cast_ofNat_Int, true_and, and_true, not_true_eq_false, not_false_eq_true, false_imp_iff, true_imp_iff, aup_o, aup_k, ite_true, ite_false, z_fa000, z_fa001, z_fa010, z_fa011, z_fa100, z_fa101, z_fa110, z_fa111, if_true, if_false]
      exact hr
    · rw [if_neg h50] at h1 h0
      have st : ∀ Q' : Int32 → qS → Prop, (∀ v, qC g (d + 5) mX10_parseBlock [.inr 86, .inl (iI k)] (qi (aup v 114 (4 * k) (w 84 (j + 1)))) (fun _ s8 => Q (iI 0) s8) T → Q' (iI (w 84 (j + 1))) (qi v)) → qC g (d + 5) mX10_takeNumber [.inr 86] (qi m) Q' T := fun Q' hQ' => by
        refine m_take1 hw hs hF ht h (by omega) jc h45 h3 (fun v f1 f2 => hQ' v ?_)
        have sc2 : scA (aup v 114 (4 * k) (w 84 (j + 1))) w e c (j + 2) := scA_86 (by rw [show j + 2 = j + 1 + 1 by omega]; exact f2) (fun y _ _ => by rw [aup_o (by decide)])
        have e57 : aup v 114 (4 * k) (w 84 (j + 1)) 86 57 = L := by rw [aup_o (by decide), f1.2 57 (by omega)]; exact hL
        refine m_blk hw hs hF hB (scT_P (scT_F ht f1) (mPF_up (by decide) (by decide))) sc2 (by omega) (by omega) (by rw [aup_o (by decide), f1.2 45 (by omega)]; exact h45) e57 L0 L1 (fun v2 hc4 h4 g1 g2 => ?_) (fun v2 f hf hb2 => h0 v2 f (j + 2) (Or.inr ⟨rfl, hf⟩) (mBd_tr (mPF_tr (mPF_sc f1) (mPF_up (by decide) (by decide))) hb2))
        refine h1 v2 (j + 2) rfl hc4 h4 (cF_tr (cF_sc f1) (cF_tr (cF_up (by omega) (by omega)) (cF_bl e57 g1) (by rw [aup_o (by decide)])) (f1.2 57 (by omega))) ?_ ?_ ?_ g2 ⟨fun hh => by omega, fun _ => ?_, fun hh => by omega⟩
        · rw [g1.1 119 (by decide), aup_o (by decide), aup_s]
        · rw [g1.2 57 (by omega), aup_s]
        · rw [g1.2 55 (by omega), aup_i (by decide), aup_o (by decide), aup_o (by decide), f1.2 55 (by omega)]
        · rw [g1.1 114 (by decide), aup_o (by decide), aup_o (by decide), aup_s]
      refine wX10_parseRepeat hw ?_
      simp only [if_pos hc0]
      clear h1 h0 hc0
      simp (disch := omega) only [z_app, z_rd, z_cl, z_add, z_sub, z_mul, z_neg, z_lit, z_leT, z_leF, z_ltT, z_ltF, z_eqT, z_eqF, i_leT, i_leF, i_ltT, i_ltF, i_eqT, i_eqF, z_le, z_lt, z_eq, z_ite, z_at, z_pt, z_up, z_wr, z_wi1, z_wi0, z_wi, z_inS, z_toInt, z_nb0, z_nb1, Int.cast_ofNat_Int, true_and, and_true, not_true_eq_false, not_false_eq_true, false_imp_iff, true_imp_iff, aup_o, aup_k, ite_true, ite_false, z_fa000, z_fa001, z_fa010, z_fa011, z_fa100, z_fa101, z_fa110, z_fa111, if_true, if_false, t40, t42]
      refine st _ (fun v hv => ?_)
      clear st
      simp (disch := omega) only [z_app, z_rd, z_cl, z_add, z_sub, z_mul, z_neg, z_lit, z_leT, z_leF, z_ltT, z_ltF, z_eqT, z_eqF, i_leT, i_leF, i_ltT, i_ltF, i_eqT, i_eqF, z_le, z_lt, z_eq, z_ite, z_at, z_pt, z_up, z_wr, z_wi1, z_wi0, z_wi, z_inS, z_toInt, z_nb0, z_nb1, Int.cast_ofNat_Int, true_and, and_true, not_true_eq_false, not_false_eq_true, false_imp_iff, true_imp_iff, aup_o, aup_k, ite_true, ite_false, z_fa000, z_fa001, z_fa010, z_fa011, z_fa100, z_fa101, z_fa110, z_fa111, if_true, if_false]
      exact hv
  · rw [if_neg h3] at h1 h0
    have st : ∀ Q' : Int32 → qS → Prop, (∀ v r, qC g (d + 5) mX10_parseBlock [.inr 86, .inl (iI k)] (qi (aup v 114 (4 * k) r)) (fun _ s8 => Q (iI 0) s8) T → Q' (iI r) (qi v)) → qC g (d + 5) mX10_takeNumber [.inr 86] (qi m) Q' T := fun Q' hQ' => by
      refine m_take0 (d := d + 4) hw h h45 h3 (fun v r hb2 ev => hQ' v r ?_)
      exact m_blkB (d := d + 4) (f := 1) hw (by rw [aup_o (by decide)]; exact hb2.2.1) (by decide) (by decide) (h0 _ 1 (j + 1) (Or.inl rfl) (mBd_k hb2 (mPF_up (by decide) (by decide)) (by rw [aup_o (by decide)]) (by rw [aup_o (by decide)])))
    have hc0 : qi m 86 45 = (0 : Int32) := congrArg iI h45
    refine wX10_parseRepeat hw ?_
    simp only [if_pos hc0]
    clear h1 h0 hc0
    simp (disch := omega) only [z_app, z_rd, z_cl, z_add, z_sub, z_mul, z_neg, z_lit, z_leT, z_leF, z_ltT, z_ltF, z_eqT, z_eqF, i_leT, i_leF, i_ltT, i_ltF, i_eqT, i_eqF, z_le, z_lt, z_eq, z_ite, z_at, z_pt, z_up, z_wr, z_wi1, z_wi0, z_wi, z_inS, z_toInt, z_nb0, z_nb1, Int.cast_ofNat_Int, true_and, and_true, not_true_eq_false, not_false_eq_true, false_imp_iff, true_imp_iff, aup_o, aup_k, ite_true, ite_false, z_fa000, z_fa001, z_fa010, z_fa011, z_fa100, z_fa101, z_fa110, z_fa111, if_true, if_false, t2]
    refine st _ (fun v r hv => ?_)
    clear st
    simp (disch := omega) only [z_app, z_rd, z_cl, z_add, z_sub, z_mul, z_neg, z_lit, z_leT, z_leF, z_ltT, z_ltF, z_eqT, z_eqF, i_leT, i_leF, i_ltT, i_ltF, i_eqT, i_eqF, z_le, z_lt, z_eq, z_ite, z_at, z_pt, z_up, z_wr, z_wi1, z_wi0, z_wi, z_inS, z_toInt, z_nb0, z_nb1, Int.cast_ofNat_Int, true_and, and_true, not_true_eq_false, not_false_eq_true, false_imp_iff, true_imp_iff, aup_o, aup_k, ite_true, ite_false, z_fa000, z_fa001, z_fa010, z_fa011, z_fa100, z_fa101, z_fa110, z_fa111, if_true, if_false]
    exact hv
theorem m_when (hw : qWF g) (hs : kSW g) (hF : tkF w b n c e) (hB : tB (w 80) (w 84) c) (ht : scT m b n) (j0 : 0 ≤ j) (j1 : j < c) (h : scA m w e c (j + 1)) (h45 : m 86 45 = 0) {k L A : Int} (k0 : 0 ≤ k) (k1 : k < 60) (w0 : w 80 j = 268) (hL : m 86 57 = L) (L0 : 0 ≤ L) (L1 : L ≤ 4) (hA : m 86 55 = A) (a0 : 0 ≤ A) (a1 : 2 * A + 1 ≤ w 82 (j + 1))
    (h1 : ∀ v x, pbody (w 80) (w 84) j = .inl x → w 80 x = 40 → L < 4 → cF m v k → v 119 L = k → v 86 57 = L + 1 → 0 ≤ v 86 55 → 2 * v 86 55 ≤ w 82 x → scA v w e c (x + 1) → cmA w v k j → Q (iI 0) (qi v))
    (h0 : ∀ v f x, (pbody (w 80) (w 84) j = .inr (f, x) ∨ (pbody (w 80) (w 84) j = .inl x ∧ ((f = 1 ∧ w 80 x ≠ 40) ∨ (f = 3 ∧ w 80 x = 40 ∧ L = 4)))) → mBd w m v f x → Q (iI 0) (qi v)) : qC g (d + 8) mX10_parseWhen [.inr 86, .inl (iI k)] (qi m) Q T := by
  have c9 := hB.1
  have n9 := ht.2.1
  have pb : pbody (w 80) (w 84) j = pcmp (w 80) (j + 1) := by
    unfold pbody
    rw [if_pos w0]
  rw [pb] at h1 h0
  clear pb
  unfold pcmp at h1 h0
  -- the tail, in an error
  have tailB : ∀ (v : aS) (f x : Int), mBd w m v f x → (∀ v', mBd w m v' f x → Q (iI 0) (qi v')) → qC g (d + 7) mX10_parseSum [.inr 86] (qi v) (fun _ s4 => qC g (d + 7) mX10_parseBlock [.inr 86, .inl (iI k)] (qup s4 114 (iI (4 * k + 2)).toNatClampNeg (s4 86 55)) (fun _ s6 => Q (iI 0) s6) T) T := by
    intro v f x hb hq
    refine m_sumB (d := d + 5) hw hb.2.1 hb.2.2.2.1 hb.2.2.2.2 ?_
    have q := m_blkB (d := d + 6) (g := g) (T := T) (Q := fun _ s6 => Q (iI 0) s6) (k := iI k) (m := aup v 114 (4 * k + 2) (v 86 55)) (f := f) hw (by rw [aup_o (by decide)]; exact hb.2.1) hb.2.2.2.1 hb.2.2.2.2 (hq _ (mBd_k hb (mPF_up (by decide) (by decide)) (by rw [aup_o (by decide)]) (by rw [aup_o (by decide)])))
    clear h1 h0 hq
    simp (disch := omega) only [z_app, z_rd, z_cl, z_add, z_sub, z_mul, z_neg, z_lit, z_leT, z_leF, z_ltT, z_ltF, z_eqT, z_eqF, i_leT, i_leF, i_ltT, i_ltF, i_eqT, i_eqF, z_le, z_lt, z_eq, z_ite, z_at, z_pt, z_up, z_wr, z_wi1, z_wi0, z_wi, z_inS, z_toInt, z_nb0, z_nb1, Int.cast_ofNat_Int, true_and, and_true, not_true_eq_false, not_false_eq_true, false_imp_iff, true_imp_iff, aup_o, aup_k, ite_true, ite_false, z_fa000, z_fa001, z_fa010, z_fa011, z_fa100, z_fa101, z_fa110, z_fa111, if_true, if_false]
    exact q
  have sum1 : ∀ (Q' : Int32 → qS → Prop),
      (∀ v x, psum (w 80) 900 (j + 1) = .inl x → mSm (aup m 114 (4 * k) A) v → scA v w e c x → v 86 55 = A + ((psl (w 80) (w 84) 900 1 (j + 1)).length : Nat) → aL v A (psl (w 80) (w 84) 900 1 (j + 1)) → 2 * v 86 55 ≤ w 82 x → Q' (iI 0) (qi v)) →
      (∀ v x, psum (w 80) 900 (j + 1) = .inr x → mBd w m v 1 x → Q' (iI 0) (qi v)) → qC g (d + 7) mX10_parseSum [.inr 86] (qi (aup m 114 (4 * k) A)) Q' T := by
    intro Q' q1 q0
    have e55 : aup m 114 (4 * k) A 86 55 = A := by rw [aup_o (by decide)]; exact hA
    refine m_sum hw hs hF hB (scT_P ht (mPF_up (by decide) (by decide))) (scA_86 h (fun y _ _ => by rw [aup_o (by decide)])) (by omega) (by omega) (by rw [aup_o (by decide)]; exact h45) (by rw [e55]; exact a0) (by rw [e55]; exact a1) (fun v x p1 p2 p3 p4 p5 p6 => ?_) (fun v x p1 p2 => q0 v x p1 (mBd_tr (mPF_up (by decide) (by decide)) p2))
    rw [e55] at p4 p5
    exact q1 v x p1 p2 p3 p4 p5 p6
  -- behind the sign
  have sum2 : ∀ (v : aS) (x : Int), psum (w 80) 900 (j + 1) = .inl x → mSm (aup m 114 (4 * k) A) v → scA v w e c x → v 86 55 = A + ((psl (w 80) (w 84) 900 1 (j + 1)).length : Nat) → aL v A (psl (w 80) (w 84) 900 1 (j + 1)) → 2 * v 86 55 ≤ w 82 x → (w 80 x = 60 ∨ w 80 x = 61 ∨ w 80 x = 62) → 
      qC g (d + 7) mX10_scan [.inr 86] (qi (aup (aup v 114 (4 * k + 1) (v 86 55)) 114 (4 * k + 3) (w 80 x))) (fun _ s8 => qC g (d + 7) mX10_parseSum [.inr 86] s8 (fun _ s10 => qC g (d + 7) mX10_parseBlock [.inr 86, .inl (iI k)] (qup s10 114 (iI (4 * k + 2)).toNatClampNeg (s10 86 55)) (fun _ s12 => Q (iI 0) s12) T) T) T := by
    intro v x p1 p2 p3 p4 p5 p6 hsg
    simp only [p1, if_pos hsg] at h1 h0
    have xb := (psum_b hB 900 (j + 1) (by omega) (by omega)).1 x p1
    have xc := tB_lt hB (j := x) (by omega) xb.2 (by omega)
    have mo := st_mono hF (j := x) (by omega) xc
    have v57 : v 86 57 = L := by rw [p2.2.1 57 (by omega) (by decide), aup_o (by decide)]; exact hL
    have v45 : v 86 45 = 0 := by rw [p2.2.1 45 (by omega) (by decide), aup_o (by decide)]; exact h45
    have fr1 : ∀ y : Nat, y ≠ 114 → aup (aup v 114 (4 * k + 1) (v 86 55)) 114 (4 * k + 3) (w 80 x) y = v y := fun y hy => by rw [aup_o hy, aup_o hy]
    have P1 : mPF m (aup (aup v 114 (4 * k + 1) (v 86 55)) 114 (4 * k + 3) (w 80 x)) := mPF_tr (mPF_up (by decide) (by decide)) (mPF_tr (mPF_sm p2) (mPF_tr (mPF_up (by decide) (by decide)) (mPF_up (by decide) (by decide))))
    refine m_next (d := d + 3) hw hs hF (scT_P ht P1) (scA_86 p3 (fun y _ _ => by rw [fr1 86 (by decide)])) (by omega) xc (fun v2 f1 f2 => ?_)
    have v255 : v2 86 55 = A + ((psl (w 80) (w 84) 900 1 (j + 1)).length : Nat) := by rw [f1.2 55 (by omega), fr1 86 (by decide)]; exact p4
    have v257 : v2 86 57 = L := by rw [f1.2 57 (by omega), fr1 86 (by decide)]; exact v57
    have v245 : v2 86 45 = 0 := by rw [f1.2 45 (by omega), fr1 86 (by decide)]; exact v45
    have P2 := mPF_tr P1 (mPF_sc f1)
    refine m_sum hw hs hF hB (scT_P ht P2) f2 (by omega) (by omega) v245 (by omega) (by omega) (fun v3 y r1 r2 r3 r4 r5 r6 => ?_) (fun v3 y r1 r2 => ?_)
    · simp only [r1] at h1 h0
      have yb := (psum_b hB 900 (x + 1) (by omega) (by omega)).1 y r1
      have v357 : v3 86 57 = L := by rw [r2.2.1 57 (by omega) (by decide)]; exact v257
      have v345 : v3 86 45 = 0 := by rw [r2.2.1 45 (by omega) (by decide)]; exact v245
      have P3 := mPF_tr P2 (mPF_sm r2)
      have e57 : aup v3 114 (4 * k + 2) (v3 86 55) 86 57 = L := by rw [aup_o (by decide)]; exact v357
      have bl : qC g (d + 7) mX10_parseBlock [.inr 86, .inl (iI k)] (qi (aup v3 114 (4 * k + 2) (v3 86 55))) (fun _ s12 => Q (iI 0) s12) T := by
        refine m_blk (d := d + 2) hw hs hF hB (scT_P ht (mPF_tr P3 (mPF_up (by decide) (by decide)))) (scA_86 r3 (fun y _ _ => by rw [aup_o (by decide)])) (by omega) yb.2 (by rw [aup_o (by decide)]; exact v345) e57 L0 L1 (fun v4 hc4 h4 g1 g2 => ?_) (fun v4 f hf hb4 => h0 v4 f y (Or.inr ⟨rfl, hf⟩) (mBd_tr (mPF_tr P3 (mPF_up (by decide) (by decide))) hb4))
        have f4 : ∀ z : Nat, z ≠ 86 → z ≠ 119 → v4 z = aup v3 114 (4 * k + 2) (v3 86 55) z := fun z z1 z2 => by rw [g1.1 z z1, aup_o z1, aup_o z2]
        have e55 : v4 86 55 = v3 86 55 := by rw [g1.2 55 (by omega), aup_i (by decide), aup_o (by decide), aup_o (by decide)]
        have e1 : v3 114 (4 * k) = A := by
          rw [r2.1 114 (by decide) (by decide) (by decide) (by decide), f1.1 114 (by decide), aup_i (by omega), aup_i (by omega), p2.1 114 (by decide) (by decide) (by decide) (by decide), aup_s]
        have e2 : v3 114 (4 * k + 1) = v 86 55 := by
          rw [r2.1 114 (by decide) (by decide) (by decide) (by decide), f1.1 114 (by decide), aup_i (by omega), aup_s]
        have e3 : v3 114 (4 * k + 3) = w 80 x := by
          rw [r2.1 114 (by decide) (by decide) (by decide) (by decide), f1.1 114 (by decide), aup_s]
        refine h1 v4 y rfl hc4 h4 ?_ ?_ ?_ ?_ ?_ g2 ⟨fun hh => by omega, fun hh => by omega, fun _ => ⟨x, y, A, p1, r1, a0, ?_, ?_, ?_, ?_, ?_, ?_, ?_⟩⟩
        · refine cF_tr (cF_up (by omega) (by omega)) (cF_tr (cF_sm p2) (cF_tr (cF_up (by omega) (by omega)) (cF_tr (cF_up (by omega) (by omega)) (cF_tr (cF_sc f1) (cF_tr (cF_sm r2) (cF_tr (cF_up (by omega) (by omega)) (cF_bl e57 g1) ?_) ?_) ?_) ?_) ?_) ?_) ?_
          · rw [aup_o (by decide)]
          · rw [v357, v257]
          · exact f1.2 57 (by omega)
          · rw [aup_o (by decide)]
          · rw [aup_o (by decide)]
          · exact p2.2.1 57 (by omega) (by decide)
          · rw [aup_o (by decide)]
        · rw [g1.1 119 (by decide), aup_o (by decide), aup_s]
        · rw [g1.2 57 (by omega), aup_s]
        · rw [e55, r4]; omega
        · rw [e55]; exact r6
        · rw [f4 114 (by decide) (by decide), aup_i (by omega)]; exact e1
        · refine aL_c _ _ (fun i i0 i1 => ?_) p5
          obtain ⟨q1, q2, q3⟩ := r2.2.2.1 i (by omega)
          rw [f4 116 (by decide) (by decide), f4 117 (by decide) (by decide), f4 118 (by decide) (by decide), aup_o (by decide), aup_o (by decide), aup_o (by decide), q1, q2, q3, f1.1 116 (by decide), f1.1 117 (by decide), f1.1 118 (by decide), fr1 116 (by decide), fr1 117 (by decide), fr1 118 (by decide)]
          exact ⟨rfl, rfl, rfl⟩
        · rw [f4 114 (by decide) (by decide), aup_i (by omega), e2]; exact p4
        · rw [v255] at r5
          refine aL_c _ _ (fun i i0 i1 => ?_) r5
          rw [f4 116 (by decide) (by decide), f4 117 (by decide) (by decide), f4 118 (by decide) (by decide), aup_o (by decide), aup_o (by decide), aup_o (by decide)]
          exact ⟨rfl, rfl, rfl⟩
        · rw [f4 114 (by decide) (by decide), aup_s, r4, v255]
        · rw [f4 114 (by decide) (by decide), aup_s, e55]; exact Int.le_refl _
        · rw [f4 114 (by decide) (by decide), aup_i (by omega)]; exact e3
      clear h1 h0 tailB sum1 hsg
      simp (disch := omega) only [z_app, z_rd, z_cl, z_add, z_sub, z_mul, z_neg, z_lit, z_leT, z_leF, z_ltT, z_ltF, z_eqT, z_eqF, i_leT, i_leF, i_ltT, i_ltF, i_eqT, i_eqF, z_le, z_lt, z_eq, z_ite, z_at, z_pt, z_up, z_wr, z_wi1, z_wi0, z_wi, z_inS, z_toInt, z_nb0, z_nb1, Int.cast_ofNat_Int, true_and, and_true, not_true_eq_false, not_false_eq_true, false_imp_iff, true_imp_iff, aup_o, aup_k, ite_true, ite_false, z_fa000, z_fa001, z_fa010, z_fa011, z_fa100, z_fa101, z_fa110, z_fa111, if_true, if_false]
      exact bl
    · simp only [r1] at h1 h0
      have bd := mBd_tr P2 r2
      have q := m_blkB (d := d + 6) (g := g) (T := T) (Q := fun _ s6 => Q (iI 0) s6) (k := iI k) (m := aup v3 114 (4 * k + 2) (v3 86 55)) (f := 1) hw (by rw [aup_o (by decide)]; exact bd.2.1) (by decide) (by decide) (h0 _ 1 y (Or.inl rfl) (mBd_k bd (mPF_up (by decide) (by decide)) (by rw [aup_o (by decide)]) (by rw [aup_o (by decide)])))
      clear h1 h0 tailB sum1 hsg
      simp (disch := omega) only [z_app, z_rd, z_cl, z_add, z_sub, z_mul, z_neg, z_lit, z_leT, z_leF, z_ltT, z_ltF, z_eqT, z_eqF, i_leT, i_leF, i_ltT, i_ltF, i_eqT, i_eqF, z_le, z_lt, z_eq, z_ite, z_at, z_pt, z_up, z_wr, z_wi1, z_wi0, z_wi, z_inS, z_toInt, z_nb0, z_nb1, Int.cast_ofNat_Int, true_and, and_true, not_true_eq_false, not_false_eq_true, false_imp_iff, true_imp_iff, aup_o, aup_k, ite_true, ite_false, z_fa000, z_fa001, z_fa010, z_fa011, z_fa100, z_fa101, z_fa110, z_fa111, if_true, if_false]
      exact q
  have sumB : ∀ (v : aS) (x : Int), psum (w 80) 900 (j + 1) = .inr x → mBd w m v 1 x → qC g (d + 7) mX10_parseSum [.inr 86] (qi (aup (aup v 114 (4 * k + 1) (v 86 55)) 114 (4 * k + 3) (v 86 43))) (fun _ s4 => qC g (d + 7) mX10_parseBlock [.inr 86, .inl (iI k)] (qup s4 114 (iI (4 * k + 2)).toNatClampNeg (s4 86 55)) (fun _ s6 => Q (iI 0) s6) T) T := by
    intro v x p1 p2
    simp only [p1] at h1 h0
    exact tailB _ 1 x (mBd_k p2 (mPF_tr (mPF_up (by decide) (by decide)) (mPF_up (by decide) (by decide))) (by rw [aup_o (by decide), aup_o (by decide)]) (by rw [aup_o (by decide), aup_o (by decide)])) (fun v' hv' => h0 v' 1 x (Or.inl rfl) hv')
  have sumC : ∀ (v : aS) (x : Int), psum (w 80) 900 (j + 1) = .inl x → mSm (aup m 114 (4 * k) A) v → scA v w e c x → ¬ (w 80 x = 60 ∨ w 80 x = 61 ∨ w 80 x = 62) → qC g (d + 7) mX10_parseSum [.inr 86] (qi (aup (aup (aup (aup v 114 (4 * k + 1) (v 86 55)) 86 45 1) 86 46 (v 86 41)) 114 (4 * k + 3) (v 86 43))) (fun _ s4 => qC g (d + 7) mX10_parseBlock [.inr 86, .inl (iI k)] (qup s4 114 (iI (4 * k + 2)).toNatClampNeg (s4 86 55)) (fun _ s6 => Q (iI 0) s6) T) T := by
    intro v x p1 p2 p3 hsg
    simp only [p1, if_neg hsg] at h1 h0
    refine tailB _ 1 x (mBd_tr (mPF_tr (mPF_up (by decide) (by decide)) (mPF_tr (mPF_sm p2) (mPF_up (by decide) (by decide)))) (mBd_k (mBd_fail (m := aup v 114 (4 * k + 1) (v 86 55)) (by rw [aup_o (by decide)]; exact p3.1) (by decide) (by decide)) (mPF_up (by decide) (by decide)) ?_ ?_)) (fun v' hv' => h0 v' 1 x (Or.inl rfl) hv')
    · rw [aup_o (by decide), aup_i (by decide), aup_s, aup_i (by decide), aup_s]
    · rw [aup_o (by decide), aup_s, aup_s, aup_o (by decide)]
  clear h1 h0 tailB
  refine wX10_parseWhen hw ?_
  simp (disch := omega) only [z_app, z_rd, z_cl, z_add, z_sub, z_mul, z_neg, z_lit, z_leT, z_leF, z_ltT, z_ltF, z_eqT, z_eqF, i_leT, i_leF, i_ltT, i_ltF, i_eqT, i_eqF, z_le, z_lt, z_eq, z_ite, z_at, z_pt, z_up, z_wr, z_wi1, z_wi0, z_wi, z_inS, z_toInt, z_nb0, z_nb1, Int.cast_ofNat_Int, true_and, and_true, not_true_eq_false, not_false_eq_true, false_imp_iff, true_imp_iff, aup_o, aup_k, ite_true, ite_false, z_fa000, z_fa001, z_fa010, z_fa011, z_fa100, z_fa101, z_fa110, z_fa111, if_true, if_false, hA]
  refine sum1 _ (fun v x p1 p2 p3 p4 p5 p6 => ?_) (fun v x p1 p2 => ?_)
  · have v45 : v 86 45 = 0 := by rw [p2.2.1 45 (by omega) (by decide), aup_o (by decide)]; exact h45
    have hc0 : (qup (qi v) 114 (iI (4 * k + 1)).toNatClampNeg (qi v 86 55)) 86 45 = iI 0 := congrArg iI v45
    simp only [if_pos hc0]
    have t60 := tt_3 p3 (x := 60) (by decide) (by decide)
    have t61 := tt_3 p3 (x := 61) (by decide) (by decide)
    have t62 := tt_3 p3 (x := 62) (by decide) (by decide)
    clear sum1 sumB
    by_cases hsg : w 80 x = 60 ∨ w 80 x = 61 ∨ w 80 x = 62
    · have s2 := sum2 v x p1 p2 p3 p4 p5 p6 hsg
      have t43 := (tt_s p3 (by omega) (by omega)).2
      rw [← t43] at s2
      clear sum2 sumC t43
      rcases hsg with hh | hh | hh
      · simp (disch := omega) only [z_app, z_rd, z_cl, z_add, z_sub, z_mul, z_neg, z_lit, z_leT, z_leF, z_ltT, z_ltF, z_eqT, z_eqF, i_leT, i_leF, i_ltT, i_ltF, i_eqT, i_eqF, z_le, z_lt, z_eq, z_ite, z_at, z_pt, z_up, z_wr, z_wi1, z_wi0, z_wi, z_inS, z_toInt, z_nb0, z_nb1, Int.cast_ofNat_Int, true_and, and_true, not_true_eq_false, not_false_eq_true, false_imp_iff, true_imp_iff, aup_o, aup_k, ite_true, ite_false, z_fa000, z_fa001, z_fa010, z_fa011, z_fa100, z_fa101, z_fa110, z_fa111, if_true, if_false, v45, t60]
        exact s2
      · simp (disch := omega) only [z_app, z_rd, z_cl, z_add, z_sub, z_mul, z_neg, z_lit, z_leT, z_leF, z_ltT, z_ltF, z_eqT, z_eqF, i_leT, i_leF, i_ltT, i_ltF, i_eqT, i_eqF, z_le, z_lt, z_eq, z_ite, z_at, z_pt, z_up, z_wr, z_wi1, z_wi0, z_wi, z_inS, z_toInt, z_nb0, z_nb1, Int.cast_ofNat_Int, true_and, and_true, not_true_eq_false, not_false_eq_true, false_imp_iff, true_imp_iff, aup_o, aup_k, ite_true, ite_false, z_fa000, z_fa001, z_fa010, z_fa011, z_fa100, z_fa101, z_fa110, z_fa111, if_true, if_false, v45, t60, t61]
        exact s2
      · simp (disch := omega) only [z_app, z_rd, z_cl, z_add, z_sub, z_mul, z_neg, z_lit, z_leT, z_leF, z_ltT, z_ltF, z_eqT, z_eqF, i_leT, i_leF, i_ltT, i_ltF, i_eqT, i_eqF, z_le, z_lt, z_eq, z_ite, z_at, z_pt, z_up, z_wr, z_wi1, z_wi0, z_wi, z_inS, z_toInt, z_nb0, z_nb1, Int.cast_ofNat_Int, true_and, and_true, not_true_eq_false, not_false_eq_true, false_imp_iff, true_imp_iff, aup_o, aup_k, ite_true, ite_false, z_fa000, z_fa001, z_fa010, z_fa011, z_fa100, z_fa101, z_fa110, z_fa111, if_true, if_false, v45, t60, t61, t62]
        exact s2
    · have s2 := sumC v x p1 p2 p3 hsg
      have x1 : w 80 x ≠ 60 := fun hh => hsg (Or.inl hh)
      have x2 : w 80 x ≠ 61 := fun hh => hsg (Or.inr (Or.inl hh))
      have x3 : w 80 x ≠ 62 := fun hh => hsg (Or.inr (Or.inr hh))
      clear sum2 sumC hsg
      simp (disch := omega) only [z_app, z_rd, z_cl, z_add, z_sub, z_mul, z_neg, z_lit, z_leT, z_leF, z_ltT, z_ltF, z_eqT, z_eqF, i_leT, i_leF, i_ltT, i_ltF, i_eqT, i_eqF, z_le, z_lt, z_eq, z_ite, z_at, z_pt, z_up, z_wr, z_wi1, z_wi0, z_wi, z_inS, z_toInt, z_nb0, z_nb1, Int.cast_ofNat_Int, true_and, and_true, not_true_eq_false, not_false_eq_true, false_imp_iff, true_imp_iff, aup_o, aup_k, ite_true, ite_false, z_fa000, z_fa001, z_fa010, z_fa011, z_fa100, z_fa101, z_fa110, z_fa111, if_true, if_false, v45, t60, t61, t62]
      exact s2
  · have s2 := sumB v x p1 p2
    have v45 := p2.2.1
    clear sum1 sum2 sumC sumB
    simp (disch := omega) only [z_app, z_rd, z_cl, z_add, z_sub, z_mul, z_neg, z_lit, z_leT, z_leF, z_ltT, z_ltF, z_eqT, z_eqF, i_leT, i_leF, i_ltT, i_ltF, i_eqT, i_eqF, z_le, z_lt, z_eq, z_ite, z_at, z_pt, z_up, z_wr, z_wi1, z_wi0, z_wi, z_inS, z_toInt, z_nb0, z_nb1, Int.cast_ofNat_Int, true_and, and_true, not_true_eq_false, not_false_eq_true, false_imp_iff, true_imp_iff, aup_o, aup_k, ite_true, ite_false, z_fa000, z_fa001, z_fa010, z_fa011, z_fa100, z_fa101, z_fa110, z_fa111, if_true, if_false, v45]
    exact s2
end MK
