/-! ===== the reference's operations, with what they leave alone ===== -/
def mP (g : qG) (D : Nat) (M : qMd) (as : List qP) (s s' : aS) (o : Int ⊕ Nat) : Prop :=
  ∀ (a : aS) (Q : Int32 → qS → Prop), rJ s a → (∀ (b : aS) (r : Int), rJ s' b → (∀ k, k < 86 ∨ 111 ≤ k → b k = a k) → (∀ i, 38 ≤ i → b 86 i = a 86 i) → (∀ v, o = .inl v → b 86 0 = 0) → (∀ j : Nat, o = .inr j → b 86 0 = j + 1) → Q (iI r) (qi b)) → qC g D M (.inr 86 :: as) (qi a) Q (fun _ _ => False)
theorem m_thrP {g : qG} {D : Nat} {M : qMd} {as : List qP} {s : aS} {j : Nat} (h : ∀ (a : aS) (Q : Int32 → qS → Prop), rJ s a → (∀ r, Q (iI r) (qi (aup a 86 0 (j + 1)))) → qC g D M (.inr 86 :: as) (qi a) Q (fun _ _ => False)) : mP g D M as s s (.inr j) := by
  intro a Q hr hQ
  refine h a Q hr (fun r => hQ _ _ (rJ_t hr _) (fun k hk => aup_o (by omega)) (fun i hi => aup_i (by omega)) (fun v hv => by cases hv) (fun i hi => by cases hi; exact aup_s _ _ _ _))
theorem m_op_retP {g : qG} {D : Nat} {M : qMd} {as : List qP} {s t : aS} {r : Int} (ho : ∀ x : Nat, x = 0 ∨ 62 ≤ x → t x = s x) (h : ∀ (a : aS) (Q : Int32 → qS → Prop), rL s (aup a 86 0 0) → (∀ b, rL t b → mF (aup a 86 0 0) b → Q (iI r) (qi b)) → rL s a → qC g D M (.inr 86 :: as) (qi a) Q (fun _ _ => False)) : mP g D M as s t (.inl r) := by
  intro a Q hr hQ
  refine h a Q (rJ_t hr 0).1 (fun b hb hF => hQ b r ⟨hb, rX_F hr.2 hF ho⟩ (fun k hk => ?_) (fun i hi => ?_) (fun v hv => ?_) (fun j hj => by cases hj)) hr.1
  · rcases hk with hk | hk
    · rw [hF.1 k (by omega) (by omega), aup_o (by omega)]
    · rw [hF.2.1 k (by omega), aup_o (by omega)]
  · rw [hF.2.2 i (by omega), aup_i (by omega)]
  · rw [hF.2.2 0 (Or.inl rfl), aup_s]
section MX
variable {g : qG} {s : aS} {d : Nat} {a b c tx : Int}
theorem mx_256t (hw : qWF g) (hJ : jJ s) (hS : bS s 256 a (-1)) : mP g (d + 9) mX10_begin [] s s (.inr 0) := by
  refine m_thrP fun m Q hr hQ => wX10_begin hw (wX10_beginTx hw ⟨rfl, m_beginTx_l (a := a) (b := 0) (c := 0) (tx := -1) hw hJ hr.1 (rJ_t hr 0).1 (fun _ => ?_) (fun h => (h hS).elim) 0 (by omega) (by omega) rfl rfl⟩)
  exact hQ 0
theorem mx_256r (hw : qWF g) (hJ : jJ s) (hS : ¬ bS s 256 a (-1)) : mP g (d + 9) mX10_begin [] s (stS (opS s 256 a b c (-1))) (.inl (opA s 256 a b c (-1))) := by
  refine m_op_retP (fun x hx => sto s _ _ _ _ _ hx) fun m Q hr0 hQ hr => wX10_begin hw (wX10_beginTx hw ⟨rfl, m_beginTx_l (a := a) (b := b) (c := c) (tx := -1) hw hJ hr hr0 (fun h => (hS h).elim) (fun _ => hQ) 0 (by omega) (by omega) rfl rfl⟩)
/-- the commit's loop over the records of its transaction -/
theorem mx_257i (hw : qWF g) (hJ : jJ s) (ia : i32 a) (hI : bI s 257 a b (-1)) : mP g (d + 10) mX10_commit [.inl (iI a)] s s (.inr 0) := by
  have ha : a < 0 ∨ 3 < a := by unfold bI at hI; omega
  unfold i32 at ia
  refine m_thrP fun m Q hr hQ => wX10_commit hw (wX10_endTx hw ?_)
  simp (disch := omega) only [z_app, z_rd, z_cl, z_add, z_sub, z_mul, z_neg, z_lit, z_leT, z_leF, z_ltT, z_ltF, z_eqT, z_eqF, i_leT, i_leF, i_ltT, i_ltF, i_eqT, i_eqF, z_le, z_lt, z_eq, z_ite, z_at, z_pt, z_up, z_wr, z_wi1, z_wi0, z_wi, z_inS, z_toInt, z_nb0, z_nb1, Int.cast_ofNat_Int, true_and, and_true, not_true_eq_false, not_false_eq_true, false_imp_iff, true_imp_iff, aup_o, aup_k, ite_true, ite_false, z_fa000, z_fa001, z_fa010, z_fa011, z_fa100, z_fa101, z_fa110, z_fa111, if_true, if_false]
  refine wX10_endTx_41 hw ?_
  simp (disch := omega) only [z_app, z_rd, z_cl, z_add, z_sub, z_mul, z_neg, z_lit, z_leT, z_leF, z_ltT, z_ltF, z_eqT, z_eqF, i_leT, i_leF, i_ltT, i_ltF, i_eqT, i_eqF, z_le, z_lt, z_eq, z_ite, z_at, z_pt, z_up, z_wr, z_wi1, z_wi0, z_wi, z_inS, z_toInt, z_nb0, z_nb1, Int.cast_ofNat_Int, true_and, and_true, not_true_eq_false, not_false_eq_true, false_imp_iff, true_imp_iff, aup_o, aup_k, ite_true, ite_false, z_fa000, z_fa001, z_fa010, z_fa011, z_fa100, z_fa101, z_fa110, z_fa111, if_true, if_false]
  exact hQ 0
theorem mx_257s (hw : qWF g) (hJ : jJ s) (ia : i32 a) (hI : ¬ bI s 257 a b (-1)) (hS : bS s 257 a (-1)) : mP g (d + 10) mX10_commit [.inl (iI a)] s s (.inr 1) := by
  have ha : 0 ≤ a ∧ a ≤ 3 := by unfold bI at hI; omega
  have B : 0 ≤ s 2 9 ∧ s 2 9 ≤ 400 := by have := jb hJ; omega
  have hs : 400 ≤ s 2 9 ∨ s 55 a = -1 := by unfold bS at hS; omega
  unfold i32 at ia
  refine m_thrP fun m Q hr hQ => wX10_commit hw (wX10_endTx hw ?_)
  have e15 := rs_15 hr.1
  simp (disch := omega) only [z_app, z_rd, z_cl, z_add, z_sub, z_mul, z_neg, z_lit, z_leT, z_leF, z_ltT, z_ltF, z_eqT, z_eqF, i_leT, i_leF, i_ltT, i_ltF, i_eqT, i_eqF, z_le, z_lt, z_eq, z_ite, z_at, z_pt, z_up, z_wr, z_wi1, z_wi0, z_wi, z_inS, z_toInt, z_nb0, z_nb1, Int.cast_ofNat_Int, true_and, and_true, not_true_eq_false, not_false_eq_true, false_imp_iff, true_imp_iff, aup_o, aup_k, ite_true, ite_false, z_fa000, z_fa001, z_fa010, z_fa011, z_fa100, z_fa101, z_fa110, z_fa111, if_true, if_false]
  by_cases ho : s 55 a = -1
  · refine m_isOpen0 hw hr.1 ha.1 (by omega) ho ?_
    simp (disch := omega) only [z_app, z_rd, z_cl, z_add, z_sub, z_mul, z_neg, z_lit, z_leT, z_leF, z_ltT, z_ltF, z_eqT, z_eqF, i_leT, i_leF, i_ltT, i_ltF, i_eqT, i_eqF, z_le, z_lt, z_eq, z_ite, z_at, z_pt, z_up, z_wr, z_wi1, z_wi0, z_wi, z_inS, z_toInt, z_nb0, z_nb1, Int.cast_ofNat_Int, true_and, and_true, not_true_eq_false, not_false_eq_true, false_imp_iff, true_imp_iff, aup_o, aup_k, ite_true, ite_false, z_fa000, z_fa001, z_fa010, z_fa011, z_fa100, z_fa101, z_fa110, z_fa111, if_true, if_false]
    refine wX10_endTx_41 hw ?_
    simp (disch := omega) only [z_app, z_rd, z_cl, z_add, z_sub, z_mul, z_neg, z_lit, z_leT, z_leF, z_ltT, z_ltF, z_eqT, z_eqF, i_leT, i_leF, i_ltT, i_ltF, i_eqT, i_eqF, z_le, z_lt, z_eq, z_ite, z_at, z_pt, z_up, z_wr, z_wi1, z_wi0, z_wi, z_inS, z_toInt, z_nb0, z_nb1, Int.cast_ofNat_Int, true_and, and_true, not_true_eq_false, not_false_eq_true, false_imp_iff, true_imp_iff, aup_o, aup_k, ite_true, ite_false, z_fa000, z_fa001, z_fa010, z_fa011, z_fa100, z_fa101, z_fa110, z_fa111, if_true, if_false]
    exact hQ 0
  · have hf : 400 ≤ s 2 9 := by omega
    refine m_isOpen1 hw hJ hr.1 ha.1 (by omega) ho ?_
    simp (disch := omega) only [z_app, z_rd, z_cl, z_add, z_sub, z_mul, z_neg, z_lit, z_leT, z_leF, z_ltT, z_ltF, z_eqT, z_eqF, i_leT, i_leF, i_ltT, i_ltF, i_eqT, i_eqF, z_le, z_lt, z_eq, z_ite, z_at, z_pt, z_up, z_wr, z_wi1, z_wi0, z_wi, z_inS, z_toInt, z_nb0, z_nb1, Int.cast_ofNat_Int, true_and, and_true, not_true_eq_false, not_false_eq_true, false_imp_iff, true_imp_iff, aup_o, aup_k, ite_true, ite_false, z_fa000, z_fa001, z_fa010, z_fa011, z_fa100, z_fa101, z_fa110, z_fa111, if_true, if_false, e15]
    refine wX10_endTx_41 hw ?_
    simp (disch := omega) only [z_app, z_rd, z_cl, z_add, z_sub, z_mul, z_neg, z_lit, z_leT, z_leF, z_ltT, z_ltF, z_eqT, z_eqF, i_leT, i_leF, i_ltT, i_ltF, i_eqT, i_eqF, z_le, z_lt, z_eq, z_ite, z_at, z_pt, z_up, z_wr, z_wi1, z_wi0, z_wi, z_inS, z_toInt, z_nb0, z_nb1, Int.cast_ofNat_Int, true_and, and_true, not_true_eq_false, not_false_eq_true, false_imp_iff, true_imp_iff, aup_o, aup_k, ite_true, ite_false, z_fa000, z_fa001, z_fa010, z_fa011, z_fa100, z_fa101, z_fa110, z_fa111, if_true, if_false]
    exact hQ 0
theorem mx_257r (hw : qWF g) (hJ : jJ s) (hI : ¬ bI s 257 a b (-1)) (hS : ¬ bS s 257 a (-1)) : mP g (d + 10) mX10_commit [.inl (iI a)] s (stS (opS s 257 a b c (-1))) (.inl (opA s 257 a b c (-1))) := by
  have B := jb hJ
  have ha : 0 ≤ a ∧ a ≤ 3 := by unfold bI at hI; omega
  have hn : s 2 9 < 400 := by unfold bS at hS; omega
  have hf : s 55 a ≠ -1 := by unfold bS at hS; omega
  have q := j_lt hJ ha.1 (by omega) hf
  have J1 := (p_257 (c := c) hw hJ hI hS).1
  have ok := okR_cl hJ (kd := 1) ha.1 (by omega) hf (by omega)
  refine m_op_retP (fun x hx => sto s _ _ _ _ _ hx) fun m Q hr0 hQ hr => wX10_commit hw (wX10_endTx hw ?_)
  rw [op_257] at J1 hQ
  clear hI hS
  have e15 := rs_15 hr
  simp (disch := omega) only [z_app, z_rd, z_cl, z_add, z_sub, z_mul, z_neg, z_lit, z_leT, z_leF, z_ltT, z_ltF, z_eqT, z_eqF, i_leT, i_leF, i_ltT, i_ltF, i_eqT, i_eqF, z_le, z_lt, z_eq, z_ite, z_at, z_pt, z_up, z_wr, z_wi1, z_wi0, z_wi, z_inS, z_toInt, z_nb0, z_nb1, Int.cast_ofNat_Int, true_and, and_true, not_true_eq_false, not_false_eq_true, false_imp_iff, true_imp_iff, aup_o, aup_k, ite_true, ite_false, z_fa000, z_fa001, z_fa010, z_fa011, z_fa100, z_fa101, z_fa110, z_fa111, if_true, if_false]
  refine m_isOpen1 hw hJ hr ha.1 (by omega) hf ?_
  simp (disch := omega) only [z_app, z_rd, z_cl, z_add, z_sub, z_mul, z_neg, z_lit, z_leT, z_leF, z_ltT, z_ltF, z_eqT, z_eqF, i_leT, i_leF, i_ltT, i_ltF, i_eqT, i_eqF, z_le, z_lt, z_eq, z_ite, z_at, z_pt, z_up, z_wr, z_wi1, z_wi0, z_wi, z_inS, z_toInt, z_nb0, z_nb1, Int.cast_ofNat_Int, true_and, and_true, not_true_eq_false, not_false_eq_true, false_imp_iff, true_imp_iff, aup_o, aup_k, ite_true, ite_false, z_fa000, z_fa001, z_fa010, z_fa011, z_fa100, z_fa101, z_fa110, z_fa111, if_true, if_false, e15]
  refine wX10_endTx_41 hw ?_
  have e99 : aup m 86 0 0 99 a = s 55 a := rt_99 hr0 ha.1 (by omega)
  have e99' : m 99 a = s 55 a := rt_99 hr ha.1 (by omega)
  simp (disch := omega) only [z_app, z_rd, z_cl, z_add, z_sub, z_mul, z_neg, z_lit, z_leT, z_leF, z_ltT, z_ltF, z_eqT, z_eqF, i_leT, i_leF, i_ltT, i_ltF, i_eqT, i_eqF, z_le, z_lt, z_eq, z_ite, z_at, z_pt, z_up, z_wr, z_wi1, z_wi0, z_wi, z_inS, z_toInt, z_nb0, z_nb1, Int.cast_ofNat_Int, true_and, and_true, not_true_eq_false, not_false_eq_true, false_imp_iff, true_imp_iff, aup_o, aup_k, ite_true, ite_false, z_fa000, z_fa001, z_fa010, z_fa011, z_fa100, z_fa101, z_fa110, z_fa111, if_true, if_false, e99']
  refine m_recordsOf hw hJ hr0 ha.1 (by omega) hf ?_
  obtain ⟨r1, r2, r3, r4, r5, r6, r7, r8, r9⟩ := id hr0
  refine m_record0 (s := s) (k := 1) (ow := s 55 a) (x := a) (y := 0) (w := 0) hw hJ r1.1 r1.2.2.2.1 r1.2.2.2.2.2.1 r3 r2 hn (by omega) (by omega) (by omega) (Or.inl (by omega)) ?_
  have hrl := rL_ad (x := a) (y := 0) (w := 0) (ow' := s 55 a) (ow := s 55 a) (k := 1) (j_hy hJ) hr0 (by rw [if_neg (by decide)])
  have hFad := mF_ad s (aup m 86 0 0) 1 (s 55 a) a 0 0
  obtain ⟨x1, x2, x3, x4, x5, x6, x7, x8, x9⟩ := id hrl
  have hG := fi_gV hJ hn ok bs_cl
  have hl : lnk s 1 (s 55 a) = lI (fun j => decide (s 6 j = s 55 a)) (s 55 a + 1) (s 2 9) := if_pos rfl
  have mx0 : mx (s 55 a) (s 55 a + 1) = s 55 a + 1 := by unfold mx; rw [if_neg (by omega)]
  refine m_endTx_l hw hJ hn ha.1 (by omega) hf J1 hrl (fun b2 h2 f2 => hQ b2 h2 (mF_tr hFad f2)) (s 55 a) _ (Int.le_refl _) (by omega) (mF_rf _) (fun _ _ => rfl) ?_ ?_ ?_
  · rw [lI_e (by omega)]
    exact rR_59 x2
  · rw [lI_e (by omega)]
    exact rV_59 x5
  · rw [lI_e (lo := s 55 a + 1) (hi := s 55 a) (by omega), mx0, ← hl]
    exact hG
theorem mx_258i (hw : qWF g) (hJ : jJ s) (ia : i32 a) (hI : bI s 258 a b (-1)) : mP g (d + 10) mX10_abort [.inl (iI a)] s s (.inr 0) := by
  have ha : a < 0 ∨ 3 < a := by unfold bI at hI; omega
  unfold i32 at ia
  refine m_thrP fun m Q hr hQ => wX10_abort hw (wX10_endTx hw ?_)
  simp (disch := omega) only [z_app, z_rd, z_cl, z_add, z_sub, z_mul, z_neg, z_lit, z_leT, z_leF, z_ltT, z_ltF, z_eqT, z_eqF, i_leT, i_leF, i_ltT, i_ltF, i_eqT, i_eqF, z_le, z_lt, z_eq, z_ite, z_at, z_pt, z_up, z_wr, z_wi1, z_wi0, z_wi, z_inS, z_toInt, z_nb0, z_nb1, Int.cast_ofNat_Int, true_and, and_true, not_true_eq_false, not_false_eq_true, false_imp_iff, true_imp_iff, aup_o, aup_k, ite_true, ite_false, z_fa000, z_fa001, z_fa010, z_fa011, z_fa100, z_fa101, z_fa110, z_fa111, if_true, if_false]
  refine wX10_endTx_41 hw ?_
  simp (disch := omega) only [z_app, z_rd, z_cl, z_add, z_sub, z_mul, z_neg, z_lit, z_leT, z_leF, z_ltT, z_ltF, z_eqT, z_eqF, i_leT, i_leF, i_ltT, i_ltF, i_eqT, i_eqF, z_le, z_lt, z_eq, z_ite, z_at, z_pt, z_up, z_wr, z_wi1, z_wi0, z_wi, z_inS, z_toInt, z_nb0, z_nb1, Int.cast_ofNat_Int, true_and, and_true, not_true_eq_false, not_false_eq_true, false_imp_iff, true_imp_iff, aup_o, aup_k, ite_true, ite_false, z_fa000, z_fa001, z_fa010, z_fa011, z_fa100, z_fa101, z_fa110, z_fa111, if_true, if_false]
  exact hQ 0
theorem mx_258s (hw : qWF g) (hJ : jJ s) (ia : i32 a) (hI : ¬ bI s 258 a b (-1)) (hS : bS s 258 a (-1)) : mP g (d + 10) mX10_abort [.inl (iI a)] s s (.inr 1) := by
  have ha : 0 ≤ a ∧ a ≤ 3 := by unfold bI at hI; omega
  have B : 0 ≤ s 2 9 ∧ s 2 9 ≤ 400 := by have := jb hJ; omega
  have hs : 400 ≤ s 2 9 ∨ s 55 a = -1 := by unfold bS at hS; omega
  unfold i32 at ia
  refine m_thrP fun m Q hr hQ => wX10_abort hw (wX10_endTx hw ?_)
  have e15 := rs_15 hr.1
  simp (disch := omega) only [z_app, z_rd, z_cl, z_add, z_sub, z_mul, z_neg, z_lit, z_leT, z_leF, z_ltT, z_ltF, z_eqT, z_eqF, i_leT, i_leF, i_ltT, i_ltF, i_eqT, i_eqF, z_le, z_lt, z_eq, z_ite, z_at, z_pt, z_up, z_wr, z_wi1, z_wi0, z_wi, z_inS, z_toInt, z_nb0, z_nb1, Int.cast_ofNat_Int, true_and, and_true, not_true_eq_false, not_false_eq_true, false_imp_iff, true_imp_iff, aup_o, aup_k, ite_true, ite_false, z_fa000, z_fa001, z_fa010, z_fa011, z_fa100, z_fa101, z_fa110, z_fa111, if_true, if_false]
  by_cases ho : s 55 a = -1
  · refine m_isOpen0 hw hr.1 ha.1 (by omega) ho ?_
    simp (disch := omega) only [z_app, z_rd, z_cl, z_add, z_sub, z_mul, z_neg, z_lit, z_leT, z_leF, z_ltT, z_ltF, z_eqT, z_eqF, i_leT, i_leF, i_ltT, i_ltF, i_eqT, i_eqF, z_le, z_lt, z_eq, z_ite, z_at, z_pt, z_up, z_wr, z_wi1, z_wi0, z_wi, z_inS, z_toInt, z_nb0, z_nb1, Int.cast_ofNat_Int, true_and, and_true, not_true_eq_false, not_false_eq_true, false_imp_iff, true_imp_iff, aup_o, aup_k, ite_true, ite_false, z_fa000, z_fa001, z_fa010, z_fa011, z_fa100, z_fa101, z_fa110, z_fa111, if_true, if_false]
    refine wX10_endTx_41 hw ?_
    simp (disch := omega) only [z_app, z_rd, z_cl, z_add, z_sub, z_mul, z_neg, z_lit, z_leT, z_leF, z_ltT, z_ltF, z_eqT, z_eqF, i_leT, i_leF, i_ltT, i_ltF, i_eqT, i_eqF, z_le, z_lt, z_eq, z_ite, z_at, z_pt, z_up, z_wr, z_wi1, z_wi0, z_wi, z_inS, z_toInt, z_nb0, z_nb1, Int.cast_ofNat_Int, true_and, and_true, not_true_eq_false, not_false_eq_true, false_imp_iff, true_imp_iff, aup_o, aup_k, ite_true, ite_false, z_fa000, z_fa001, z_fa010, z_fa011, z_fa100, z_fa101, z_fa110, z_fa111, if_true, if_false]
    exact hQ 0
  · have hf : 400 ≤ s 2 9 := by omega
    refine m_isOpen1 hw hJ hr.1 ha.1 (by omega) ho ?_
    simp (disch := omega) only [z_app, z_rd, z_cl, z_add, z_sub, z_mul, z_neg, z_lit, z_leT, z_leF, z_ltT, z_ltF, z_eqT, z_eqF, i_leT, i_leF, i_ltT, i_ltF, i_eqT, i_eqF, z_le, z_lt, z_eq, z_ite, z_at, z_pt, z_up, z_wr, z_wi1, z_wi0, z_wi, z_inS, z_toInt, z_nb0, z_nb1, Int.cast_ofNat_Int, true_and, and_true, not_true_eq_false, not_false_eq_true, false_imp_iff, true_imp_iff, aup_o, aup_k, ite_true, ite_false, z_fa000, z_fa001, z_fa010, z_fa011, z_fa100, z_fa101, z_fa110, z_fa111, if_true, if_false, e15]
    refine wX10_endTx_41 hw ?_
    simp (disch := omega) only [z_app, z_rd, z_cl, z_add, z_sub, z_mul, z_neg, z_lit, z_leT, z_leF, z_ltT, z_ltF, z_eqT, z_eqF, i_leT, i_leF, i_ltT, i_ltF, i_eqT, i_eqF, z_le, z_lt, z_eq, z_ite, z_at, z_pt, z_up, z_wr, z_wi1, z_wi0, z_wi, z_inS, z_toInt, z_nb0, z_nb1, Int.cast_ofNat_Int, true_and, and_true, not_true_eq_false, not_false_eq_true, false_imp_iff, true_imp_iff, aup_o, aup_k, ite_true, ite_false, z_fa000, z_fa001, z_fa010, z_fa011, z_fa100, z_fa101, z_fa110, z_fa111, if_true, if_false]
    exact hQ 0
theorem mx_258r (hw : qWF g) (hJ : jJ s) (hI : ¬ bI s 258 a b (-1)) (hS : ¬ bS s 258 a (-1)) : mP g (d + 10) mX10_abort [.inl (iI a)] s (stS (opS s 258 a b c (-1))) (.inl (opA s 258 a b c (-1))) := by
  have B := jb hJ
  have ha : 0 ≤ a ∧ a ≤ 3 := by unfold bI at hI; omega
  have hn : s 2 9 < 400 := by unfold bS at hS; omega
  have hf : s 55 a ≠ -1 := by unfold bS at hS; omega
  have q := j_lt hJ ha.1 (by omega) hf
  have J1 := (p_258 (c := c) hw hJ hI hS).1
  have ok := okR_cl hJ (kd := 2) ha.1 (by omega) hf (by omega)
  refine m_op_retP (fun x hx => sto s _ _ _ _ _ hx) fun m Q hr0 hQ hr => wX10_abort hw (wX10_endTx hw ?_)
  rw [op_258] at J1 hQ
  clear hI hS
  have e15 := rs_15 hr
  simp (disch := omega) only [z_app, z_rd, z_cl, z_add, z_sub, z_mul, z_neg, z_lit, z_leT, z_leF, z_ltT, z_ltF, z_eqT, z_eqF, i_leT, i_leF, i_ltT, i_ltF, i_eqT, i_eqF, z_le, z_lt, z_eq, z_ite, z_at, z_pt, z_up, z_wr, z_wi1, z_wi0, z_wi, z_inS, z_toInt, z_nb0, z_nb1, Int.cast_ofNat_Int, true_and, and_true, not_true_eq_false, not_false_eq_true, false_imp_iff, true_imp_iff, aup_o, aup_k, ite_true, ite_false, z_fa000, z_fa001, z_fa010, z_fa011, z_fa100, z_fa101, z_fa110, z_fa111, if_true, if_false]
  refine m_isOpen1 hw hJ hr ha.1 (by omega) hf ?_
  simp (disch := omega) only [z_app, z_rd, z_cl, z_add, z_sub, z_mul, z_neg, z_lit, z_leT, z_leF, z_ltT, z_ltF, z_eqT, z_eqF, i_leT, i_leF, i_ltT, i_ltF, i_eqT, i_eqF, z_le, z_lt, z_eq, z_ite, z_at, z_pt, z_up, z_wr, z_wi1, z_wi0, z_wi, z_inS, z_toInt, z_nb0, z_nb1, Int.cast_ofNat_Int, true_and, and_true, not_true_eq_false, not_false_eq_true, false_imp_iff, true_imp_iff, aup_o, aup_k, ite_true, ite_false, z_fa000, z_fa001, z_fa010, z_fa011, z_fa100, z_fa101, z_fa110, z_fa111, if_true, if_false, e15]
  refine wX10_endTx_41 hw ?_
  have e99 : aup m 86 0 0 99 a = s 55 a := rt_99 hr0 ha.1 (by omega)
  have e99' : m 99 a = s 55 a := rt_99 hr ha.1 (by omega)
  simp (disch := omega) only [z_app, z_rd, z_cl, z_add, z_sub, z_mul, z_neg, z_lit, z_leT, z_leF, z_ltT, z_ltF, z_eqT, z_eqF, i_leT, i_leF, i_ltT, i_ltF, i_eqT, i_eqF, z_le, z_lt, z_eq, z_ite, z_at, z_pt, z_up, z_wr, z_wi1, z_wi0, z_wi, z_inS, z_toInt, z_nb0, z_nb1, Int.cast_ofNat_Int, true_and, and_true, not_true_eq_false, not_false_eq_true, false_imp_iff, true_imp_iff, aup_o, aup_k, ite_true, ite_false, z_fa000, z_fa001, z_fa010, z_fa011, z_fa100, z_fa101, z_fa110, z_fa111, if_true, if_false, e99']
  refine m_recordsOf hw hJ hr0 ha.1 (by omega) hf ?_
  obtain ⟨r1, r2, r3, r4, r5, r6, r7, r8, r9⟩ := id hr0
  refine m_record0 (s := s) (k := 2) (ow := s 55 a) (x := a) (y := 0) (w := 0) hw hJ r1.1 r1.2.2.2.1 r1.2.2.2.2.2.1 r3 r2 hn (by omega) (by omega) (by omega) (Or.inl (by omega)) ?_
  have hrl := rL_ad (x := a) (y := 0) (w := 0) (ow' := s 55 a) (ow := s 55 a) (k := 2) (j_hy hJ) hr0 (by rw [if_neg (by decide)])
  have hFad := mF_ad s (aup m 86 0 0) 2 (s 55 a) a 0 0
  refine wX10_endTx_81 hw ?_
  simp (disch := omega) only [z_app, z_rd, z_cl, z_add, z_sub, z_mul, z_neg, z_lit, z_leT, z_leF, z_ltT, z_ltF, z_eqT, z_eqF, i_leT, i_leF, i_ltT, i_ltF, i_eqT, i_eqF, z_le, z_lt, z_eq, z_ite, z_at, z_pt, z_up, z_wr, z_wi1, z_wi0, z_wi, z_inS, z_toInt, z_nb0, z_nb1, Int.cast_ofNat_Int, true_and, and_true, not_true_eq_false, not_false_eq_true, false_imp_iff, true_imp_iff, aup_o, aup_k, ite_true, ite_false, z_fa000, z_fa001, z_fa010, z_fa011, z_fa100, z_fa101, z_fa110, z_fa111, if_true, if_false]
  have hb1 : rL (clS s a 2) (aup (adM s (aup m 86 0 0) 2 (s 55 a) a 0 0) 99 a (-1)) := by
    have := rL_tx (t := a) (v := -1) (w := adS s 2 (s 55 a) a 0 0 57 a) hrl
    have e57 : aup (aup (adS s 2 (s 55 a) a 0 0) 55 a (-1)) 57 a (adS s 2 (s 55 a) a 0 0 57 a) = aup (adS s 2 (s 55 a) a 0 0) 55 a (-1) := by
      have h := aup_id (aup (adS s 2 (s 55 a) a 0 0) 55 a (-1)) 57 a
      rw [aup_o (k' := 57) (by decide)] at h
      exact h
    rw [e57] at this
    exact this
  have hfin := rL_ef hJ hn ok bs_cl hb1
  rw [lnk2] at hfin J1 hQ
  exact m_settle hw J1 hfin (fun b2 h2 f2 => hQ b2 h2 (mF_tr hFad (mF_tr (mF_up (by decide) (by decide)) f2)))
theorem mx_259i (hw : qWF g) (hJ : jJ s) (ia : i32 a) (ib : i32 b) (ic : i32 c) (it : i32 tx) (hI : bI s 259 a b tx) : mP g (d + 10) mX10_write [.inl (iI a), .inl (iI b), .inl (iI c), .inl (iI tx)] s s (.inr 0) := by
  have hx : ¬ ((0 ≤ a ∧ a ≤ 7) ∧ (0 ≤ b ∧ b ≤ 3) ∧ (-1 ≤ tx ∧ tx ≤ 3)) := by unfold bI at hI; omega
  clear hI
  have it0 := it
  unfold i32 at ia ib ic it
  refine m_thrP fun m Q hrJ hQ => wX10_write hw (wX10_isFile hw ?_)
  have hr := hrJ.1
  have key : ∀ (o5 o6 : Option qP), qV g mX10_write (d + 10) 0 30 [some (.inr 86), some (.inl (iI a)), some (.inl (iI b)), some (.inl (iI c)), some (.inl (iI tx)), o5, o6] [.inl (iI 0)] (qi m) Q (fun _ _ => False) := by
    intro o5 o6
    refine wX10_write_30 hw ?_
    by_cases hc : 0 ≤ c ∧ c ≤ 9999
    · simp (disch := omega) only [z_app, z_lit, z_neg, z_wi1, z_wi0, z_leT, z_leF, z_ltT, z_ltF, z_eqT, z_eqF, Int.cast_ofNat_Int, true_and, and_true, not_true_eq_false, not_false_eq_true, false_imp_iff, true_imp_iff, ite_true, ite_false, if_true, if_false]
      refine wX10_write_59 hw (m_cannot hw hJ hr it0 (fun h9 => ?_) (fun h9 => ?_))
      · clear h9; simp (disch := omega) only [z_app, z_rd, z_cl, z_add, z_sub, z_mul, z_neg, z_lit, z_leT, z_leF, z_ltT, z_ltF, z_eqT, z_eqF, i_leT, i_leF, i_ltT, i_ltF, i_eqT, i_eqF, z_le, z_lt, z_eq, z_ite, z_at, z_pt, z_up, z_wr, z_wi1, z_wi0, z_wi, z_inS, z_toInt, z_nb0, z_nb1, Int.cast_ofNat_Int, true_and, and_true, not_true_eq_false, not_false_eq_true, false_imp_iff, true_imp_iff, aup_o, aup_k, ite_true, ite_false, z_fa000, z_fa001, z_fa010, z_fa011, z_fa100, z_fa101, z_fa110, z_fa111, if_true, if_false]; exact hQ 0
      · clear h9; simp (disch := omega) only [z_app, z_rd, z_cl, z_add, z_sub, z_mul, z_neg, z_lit, z_leT, z_leF, z_ltT, z_ltF, z_eqT, z_eqF, i_leT, i_leF, i_ltT, i_ltF, i_eqT, i_eqF, z_le, z_lt, z_eq, z_ite, z_at, z_pt, z_up, z_wr, z_wi1, z_wi0, z_wi, z_inS, z_toInt, z_nb0, z_nb1, Int.cast_ofNat_Int, true_and, and_true, not_true_eq_false, not_false_eq_true, false_imp_iff, true_imp_iff, aup_o, aup_k, ite_true, ite_false, z_fa000, z_fa001, z_fa010, z_fa011, z_fa100, z_fa101, z_fa110, z_fa111, if_true, if_false]; exact hQ 0
    · simp (disch := omega) only [z_app, z_lit, z_neg, z_wi1, z_wi0, z_leT, z_leF, z_ltT, z_ltF, z_eqT, z_eqF, Int.cast_ofNat_Int, true_and, and_true, not_true_eq_false, not_false_eq_true, false_imp_iff, true_imp_iff, ite_true, ite_false, if_true, if_false]
      refine wX10_write_59 hw (m_cannot hw hJ hr it0 (fun h9 => ?_) (fun h9 => ?_))
      · clear h9; simp (disch := omega) only [z_app, z_rd, z_cl, z_add, z_sub, z_mul, z_neg, z_lit, z_leT, z_leF, z_ltT, z_ltF, z_eqT, z_eqF, i_leT, i_leF, i_ltT, i_ltF, i_eqT, i_eqF, z_le, z_lt, z_eq, z_ite, z_at, z_pt, z_up, z_wr, z_wi1, z_wi0, z_wi, z_inS, z_toInt, z_nb0, z_nb1, Int.cast_ofNat_Int, true_and, and_true, not_true_eq_false, not_false_eq_true, false_imp_iff, true_imp_iff, aup_o, aup_k, ite_true, ite_false, z_fa000, z_fa001, z_fa010, z_fa011, z_fa100, z_fa101, z_fa110, z_fa111, if_true, if_false]; exact hQ 0
      · clear h9; simp (disch := omega) only [z_app, z_rd, z_cl, z_add, z_sub, z_mul, z_neg, z_lit, z_leT, z_leF, z_ltT, z_ltF, z_eqT, z_eqF, i_leT, i_leF, i_ltT, i_ltF, i_eqT, i_eqF, z_le, z_lt, z_eq, z_ite, z_at, z_pt, z_up, z_wr, z_wi1, z_wi0, z_wi, z_inS, z_toInt, z_nb0, z_nb1, Int.cast_ofNat_Int, true_and, and_true, not_true_eq_false, not_false_eq_true, false_imp_iff, true_imp_iff, aup_o, aup_k, ite_true, ite_false, z_fa000, z_fa001, z_fa010, z_fa011, z_fa100, z_fa101, z_fa110, z_fa111, if_true, if_false]; exact hQ 0
  by_cases ha : 0 ≤ a ∧ a ≤ 7
  · by_cases hb : 0 ≤ b ∧ b ≤ 3
    · simp (disch := omega) only [z_app, z_lit, z_neg, z_wi1, z_wi0, z_leT, z_leF, z_ltT, z_ltF, z_eqT, z_eqF, Int.cast_ofNat_Int, true_and, and_true, not_true_eq_false, not_false_eq_true, false_imp_iff, true_imp_iff, ite_true, ite_false, if_true, if_false]
      refine ⟨Or.inr trivial, wX10_isTx hw ?_⟩
      have ht : tx < -1 ∨ 3 < tx := by omega
      simp (disch := omega) only [z_app, z_lit, z_neg, z_wi1, z_wi0, z_leT, z_leF, z_ltT, z_ltF, z_eqT, z_eqF, Int.cast_ofNat_Int, true_and, and_true, not_true_eq_false, not_false_eq_true, false_imp_iff, true_imp_iff, ite_true, ite_false, if_true, if_false]
      exact ⟨Or.inl trivial, key _ _⟩
    · simp (disch := omega) only [z_app, z_lit, z_neg, z_wi1, z_wi0, z_leT, z_leF, z_ltT, z_ltF, z_eqT, z_eqF, Int.cast_ofNat_Int, true_and, and_true, not_true_eq_false, not_false_eq_true, false_imp_iff, true_imp_iff, ite_true, ite_false, if_true, if_false]
      exact ⟨Or.inr trivial, key _ _⟩
  · simp (disch := omega) only [z_app, z_lit, z_neg, z_wi1, z_wi0, z_leT, z_leF, z_ltT, z_ltF, z_eqT, z_eqF, Int.cast_ofNat_Int, true_and, and_true, not_true_eq_false, not_false_eq_true, false_imp_iff, true_imp_iff, ite_true, ite_false, if_true, if_false]
    exact ⟨Or.inl trivial, key _ _⟩
theorem mx_259a (hw : qWF g) (hJ : jJ s) (ia : i32 a) (ib : i32 b) (ic : i32 c) (it : i32 tx) (hI : ¬ bI s 259 a b tx) (hA : bA 259 a b c) : mP g (d + 10) mX10_write [.inl (iI a), .inl (iI b), .inl (iI c), .inl (iI tx)] s s (.inr 1) := by
  have hx : (0 ≤ a ∧ a ≤ 7) ∧ (0 ≤ b ∧ b ≤ 3) ∧ (-1 ≤ tx ∧ tx ≤ 3) := by unfold bI at hI; omega
  have hc : ¬ (0 ≤ c ∧ c ≤ 9999) := by unfold bA at hA; omega
  clear hI hA
  have it0 := it
  unfold i32 at ia ib ic it
  refine m_thrP fun m Q hrJ hQ => m_write_in hw hx.1 hx.2.1 hx.2.2 (fun o5 o6 => wX10_write_30 hw ?_)
  have hr := hrJ.1
  simp (disch := omega) only [z_app, z_lit, z_neg, z_wi1, z_wi0, z_leT, z_leF, z_ltT, z_ltF, z_eqT, z_eqF, Int.cast_ofNat_Int, true_and, and_true, not_true_eq_false, not_false_eq_true, false_imp_iff, true_imp_iff, ite_true, ite_false, if_true, if_false]
  refine wX10_write_59 hw (m_cannot hw hJ hr it0 (fun h9 => ?_) (fun h9 => ?_))
  · clear h9; simp (disch := omega) only [z_app, z_rd, z_cl, z_add, z_sub, z_mul, z_neg, z_lit, z_leT, z_leF, z_ltT, z_ltF, z_eqT, z_eqF, i_leT, i_leF, i_ltT, i_ltF, i_eqT, i_eqF, z_le, z_lt, z_eq, z_ite, z_at, z_pt, z_up, z_wr, z_wi1, z_wi0, z_wi, z_inS, z_toInt, z_nb0, z_nb1, Int.cast_ofNat_Int, true_and, and_true, not_true_eq_false, not_false_eq_true, false_imp_iff, true_imp_iff, aup_o, aup_k, ite_true, ite_false, z_fa000, z_fa001, z_fa010, z_fa011, z_fa100, z_fa101, z_fa110, z_fa111, if_true, if_false]; exact hQ 0
  · clear h9; simp (disch := omega) only [z_app, z_rd, z_cl, z_add, z_sub, z_mul, z_neg, z_lit, z_leT, z_leF, z_ltT, z_ltF, z_eqT, z_eqF, i_leT, i_leF, i_ltT, i_ltF, i_eqT, i_eqF, z_le, z_lt, z_eq, z_ite, z_at, z_pt, z_up, z_wr, z_wi1, z_wi0, z_wi, z_inS, z_toInt, z_nb0, z_nb1, Int.cast_ofNat_Int, true_and, and_true, not_true_eq_false, not_false_eq_true, false_imp_iff, true_imp_iff, aup_o, aup_k, ite_true, ite_false, z_fa000, z_fa001, z_fa010, z_fa011, z_fa100, z_fa101, z_fa110, z_fa111, if_true, if_false]; exact hQ 0
theorem mx_259s (hw : qWF g) (hJ : jJ s) (ia : i32 a) (ib : i32 b) (ic : i32 c) (it : i32 tx) (hI : ¬ bI s 259 a b tx) (hA : ¬ bA 259 a b c) (hS : bS s 259 a tx) : mP g (d + 10) mX10_write [.inl (iI a), .inl (iI b), .inl (iI c), .inl (iI tx)] s s (.inr 2) := by
  have hx : (0 ≤ a ∧ a ≤ 7) ∧ (0 ≤ b ∧ b ≤ 3) ∧ (-1 ≤ tx ∧ tx ≤ 3) := by unfold bI at hI; omega
  have hc : 0 ≤ c ∧ c ≤ 9999 := by unfold bA at hA; omega
  have hs : 400 ≤ s 2 9 ∨ (0 ≤ tx ∧ tx ≤ 3 ∧ s 55 tx = -1) := by unfold bS at hS; omega
  clear hI hA hS
  have it0 := it
  unfold i32 at ia ib ic it
  refine m_thrP fun m Q hrJ hQ => m_write_in hw hx.1 hx.2.1 hx.2.2 (fun o5 o6 => wX10_write_30 hw ?_)
  have hr := hrJ.1
  simp (disch := omega) only [z_app, z_lit, z_neg, z_wi1, z_wi0, z_leT, z_leF, z_ltT, z_ltF, z_eqT, z_eqF, Int.cast_ofNat_Int, true_and, and_true, not_true_eq_false, not_false_eq_true, false_imp_iff, true_imp_iff, ite_true, ite_false, if_true, if_false]
  refine wX10_write_59 hw (m_cannot hw hJ hr it0 (fun h9 => ?_) (fun h9 => (h9 hs).elim))
  clear h9 hs; simp (disch := omega) only [z_app, z_rd, z_cl, z_add, z_sub, z_mul, z_neg, z_lit, z_leT, z_leF, z_ltT, z_ltF, z_eqT, z_eqF, i_leT, i_leF, i_ltT, i_ltF, i_eqT, i_eqF, z_le, z_lt, z_eq, z_ite, z_at, z_pt, z_up, z_wr, z_wi1, z_wi0, z_wi, z_inS, z_toInt, z_nb0, z_nb1, Int.cast_ofNat_Int, true_and, and_true, not_true_eq_false, not_false_eq_true, false_imp_iff, true_imp_iff, aup_o, aup_k, ite_true, ite_false, z_fa000, z_fa001, z_fa010, z_fa011, z_fa100, z_fa101, z_fa110, z_fa111, if_true, if_false]; exact hQ 0
theorem mx_259r (hw : qWF g) (hJ : jJ s) (ia : i32 a) (ib : i32 b) (ic : i32 c) (it : i32 tx) (hI : ¬ bI s 259 a b tx) (hA : ¬ bA 259 a b c) (hS : ¬ bS s 259 a tx) : mP g (d + 10) mX10_write [.inl (iI a), .inl (iI b), .inl (iI c), .inl (iI tx)] s (stS (opS s 259 a b c tx)) (.inl (opA s 259 a b c tx)) := by
  have hx : (0 ≤ a ∧ a ≤ 7) ∧ (0 ≤ b ∧ b ≤ 3) ∧ (-1 ≤ tx ∧ tx ≤ 3) := by unfold bI at hI; omega
  have hc : 0 ≤ c ∧ c ≤ 9999 := by unfold bA at hA; omega
  have hs : ¬ (400 ≤ s 2 9 ∨ (0 ≤ tx ∧ tx ≤ 3 ∧ s 55 tx = -1)) := by unfold bS at hS; unfold bI at hI; omega
  have E := fun (m : aS) (Q : Int32 → qS → Prop) (hr0 : rL s (aup m 86 0 0)) hQ => m_eff259 (d := d + 2) (T := fun _ _ => False) (Q := Q) hw hJ hr0 hI hA hS hQ
  clear hI hA hS
  have it0 := it
  unfold i32 at ia ib ic it
  refine m_op_retP (fun x hx => sto s _ _ _ _ _ hx) fun m Q hr0 hQ hr => m_write_in hw hx.1 hx.2.1 hx.2.2 (fun o5 o6 => wX10_write_30 hw ?_)
  simp (disch := omega) only [z_app, z_lit, z_neg, z_wi1, z_wi0, z_leT, z_leF, z_ltT, z_ltF, z_eqT, z_eqF, Int.cast_ofNat_Int, true_and, and_true, not_true_eq_false, not_false_eq_true, false_imp_iff, true_imp_iff, ite_true, ite_false, if_true, if_false]
  refine wX10_write_59 hw (m_cannot hw hJ hr it0 (fun h9 => (hs h9).elim) (fun h9 => ?_))
  clear h9 hs
  simp (disch := omega) only [z_app, z_rd, z_cl, z_add, z_sub, z_mul, z_neg, z_lit, z_leT, z_leF, z_ltT, z_ltF, z_eqT, z_eqF, i_leT, i_leF, i_ltT, i_ltF, i_eqT, i_eqF, z_le, z_lt, z_eq, z_ite, z_at, z_pt, z_up, z_wr, z_wi1, z_wi0, z_wi, z_inS, z_toInt, z_nb0, z_nb1, Int.cast_ofNat_Int, true_and, and_true, not_true_eq_false, not_false_eq_true, false_imp_iff, true_imp_iff, aup_o, aup_k, ite_true, ite_false, z_fa000, z_fa001, z_fa010, z_fa011, z_fa100, z_fa101, z_fa110, z_fa111, if_true, if_false]
  exact E m Q hr0 hQ
theorem mx_260i (hw : qWF g) (hJ : jJ s) (ia : i32 a) (ib : i32 b) (ic : i32 c) (it : i32 tx) (hI : bI s 260 a b tx) : mP g (d + 10) mX10_remove [.inl (iI a), .inl (iI tx)] s s (.inr 0) := by
  have hx : ¬ ((0 ≤ a ∧ a ≤ 7) ∧ (-1 ≤ tx ∧ tx ≤ 3)) := by unfold bI at hI; omega
  clear hI
  have it0 := it
  unfold i32 at ia ib ic it
  refine m_thrP fun m Q hrJ hQ => wX10_remove hw (wX10_isFile hw ?_)
  have hr := hrJ.1
  by_cases ha : 0 ≤ a ∧ a ≤ 7
  · have ht : tx < -1 ∨ 3 < tx := by omega
    simp (disch := omega) only [z_app, z_lit, z_neg, z_wi1, z_wi0, z_leT, z_leF, z_ltT, z_ltF, z_eqT, z_eqF, Int.cast_ofNat_Int, true_and, and_true, not_true_eq_false, not_false_eq_true, false_imp_iff, true_imp_iff, ite_true, ite_false, if_true, if_false]
    refine ⟨Or.inr trivial, wX10_isTx hw ?_⟩
    simp (disch := omega) only [z_app, z_lit, z_neg, z_wi1, z_wi0, z_leT, z_leF, z_ltT, z_ltF, z_eqT, z_eqF, Int.cast_ofNat_Int, true_and, and_true, not_true_eq_false, not_false_eq_true, false_imp_iff, true_imp_iff, ite_true, ite_false, if_true, if_false]
    refine ⟨Or.inl trivial, m_cannot hw hJ hr it0 (fun h9 => ?_) (fun h9 => ?_)⟩
    · clear h9; simp (disch := omega) only [z_app, z_rd, z_cl, z_add, z_sub, z_mul, z_neg, z_lit, z_leT, z_leF, z_ltT, z_ltF, z_eqT, z_eqF, i_leT, i_leF, i_ltT, i_ltF, i_eqT, i_eqF, z_le, z_lt, z_eq, z_ite, z_at, z_pt, z_up, z_wr, z_wi1, z_wi0, z_wi, z_inS, z_toInt, z_nb0, z_nb1, Int.cast_ofNat_Int, true_and, and_true, not_true_eq_false, not_false_eq_true, false_imp_iff, true_imp_iff, aup_o, aup_k, ite_true, ite_false, z_fa000, z_fa001, z_fa010, z_fa011, z_fa100, z_fa101, z_fa110, z_fa111, if_true, if_false]; exact hQ 0
    · clear h9; simp (disch := omega) only [z_app, z_rd, z_cl, z_add, z_sub, z_mul, z_neg, z_lit, z_leT, z_leF, z_ltT, z_ltF, z_eqT, z_eqF, i_leT, i_leF, i_ltT, i_ltF, i_eqT, i_eqF, z_le, z_lt, z_eq, z_ite, z_at, z_pt, z_up, z_wr, z_wi1, z_wi0, z_wi, z_inS, z_toInt, z_nb0, z_nb1, Int.cast_ofNat_Int, true_and, and_true, not_true_eq_false, not_false_eq_true, false_imp_iff, true_imp_iff, aup_o, aup_k, ite_true, ite_false, z_fa000, z_fa001, z_fa010, z_fa011, z_fa100, z_fa101, z_fa110, z_fa111, if_true, if_false]; exact hQ 0
  · simp (disch := omega) only [z_app, z_lit, z_neg, z_wi1, z_wi0, z_leT, z_leF, z_ltT, z_ltF, z_eqT, z_eqF, Int.cast_ofNat_Int, true_and, and_true, not_true_eq_false, not_false_eq_true, false_imp_iff, true_imp_iff, ite_true, ite_false, if_true, if_false]
    refine ⟨Or.inl trivial, m_cannot hw hJ hr it0 (fun h9 => ?_) (fun h9 => ?_)⟩
    · clear h9; simp (disch := omega) only [z_app, z_rd, z_cl, z_add, z_sub, z_mul, z_neg, z_lit, z_leT, z_leF, z_ltT, z_ltF, z_eqT, z_eqF, i_leT, i_leF, i_ltT, i_ltF, i_eqT, i_eqF, z_le, z_lt, z_eq, z_ite, z_at, z_pt, z_up, z_wr, z_wi1, z_wi0, z_wi, z_inS, z_toInt, z_nb0, z_nb1, Int.cast_ofNat_Int, true_and, and_true, not_true_eq_false, not_false_eq_true, false_imp_iff, true_imp_iff, aup_o, aup_k, ite_true, ite_false, z_fa000, z_fa001, z_fa010, z_fa011, z_fa100, z_fa101, z_fa110, z_fa111, if_true, if_false]; exact hQ 0
    · clear h9; simp (disch := omega) only [z_app, z_rd, z_cl, z_add, z_sub, z_mul, z_neg, z_lit, z_leT, z_leF, z_ltT, z_ltF, z_eqT, z_eqF, i_leT, i_leF, i_ltT, i_ltF, i_eqT, i_eqF, z_le, z_lt, z_eq, z_ite, z_at, z_pt, z_up, z_wr, z_wi1, z_wi0, z_wi, z_inS, z_toInt, z_nb0, z_nb1, Int.cast_ofNat_Int, true_and, and_true, not_true_eq_false, not_false_eq_true, false_imp_iff, true_imp_iff, aup_o, aup_k, ite_true, ite_false, z_fa000, z_fa001, z_fa010, z_fa011, z_fa100, z_fa101, z_fa110, z_fa111, if_true, if_false]; exact hQ 0
theorem mx_260s (hw : qWF g) (hJ : jJ s) (ia : i32 a) (ib : i32 b) (ic : i32 c) (it : i32 tx) (hI : ¬ bI s 260 a b tx) (hS : bS s 260 a tx) : mP g (d + 10) mX10_remove [.inl (iI a), .inl (iI tx)] s s (.inr 1) := by
  have hx : (0 ≤ a ∧ a ≤ 7) ∧ (-1 ≤ tx ∧ tx ≤ 3) := by unfold bI at hI; omega
  have hs : 400 ≤ s 2 9 ∨ (0 ≤ tx ∧ tx ≤ 3 ∧ s 55 tx = -1) := by unfold bS at hS; omega
  clear hI hS
  have it0 := it
  unfold i32 at ia ib ic it
  refine m_thrP fun m Q hrJ hQ => wX10_remove hw (wX10_isFile hw ?_)
  have hr := hrJ.1
  have K := m_cannot (d := d + 7) (T := fun _ _ => False) hw hJ hr it0 (Q := fun r11 s12 => (((if qfa 0 r11 0 ≤ 0 then (0 : Int32) else 1) = 0 → qC g (d + 9) mX10_effective [.inr 86, .inl 4, .inl (iI tx), .inl (iI a), .inl 0, .inl 0] (qup s12 86 0 (qfa 0 r11 0)) (fun r13 s14 => qC g (d + 9) mX10_settle [.inr 86] s14 (fun _ s16 => Q r13 s16) (fun _ _ => False)) (fun _ _ => False)) ∧ (¬ (if qfa 0 r11 0 ≤ 0 then (0 : Int32) else 1) = 0 → Q 0 (qup s12 86 0 (qfa 0 r11 0))))) (fun h9 => by clear h9 hs; simp (disch := omega) only [z_app, z_rd, z_cl, z_add, z_sub, z_mul, z_neg, z_lit, z_leT, z_leF, z_ltT, z_ltF, z_eqT, z_eqF, i_leT, i_leF, i_ltT, i_ltF, i_eqT, i_eqF, z_le, z_lt, z_eq, z_ite, z_at, z_pt, z_up, z_wr, z_wi1, z_wi0, z_wi, z_inS, z_toInt, z_nb0, z_nb1, Int.cast_ofNat_Int, true_and, and_true, not_true_eq_false, not_false_eq_true, false_imp_iff, true_imp_iff, aup_o, aup_k, ite_true, ite_false, z_fa000, z_fa001, z_fa010, z_fa011, z_fa100, z_fa101, z_fa110, z_fa111, if_true, if_false]; exact hQ 0) (fun h9 => (h9 hs).elim)
  clear hs
  simp (disch := omega) only [z_app, z_lit, z_neg, z_wi1, z_wi0, z_leT, z_leF, z_ltT, z_ltF, z_eqT, z_eqF, Int.cast_ofNat_Int, true_and, and_true, not_true_eq_false, not_false_eq_true, false_imp_iff, true_imp_iff, ite_true, ite_false, if_true, if_false]
  refine ⟨Or.inr trivial, wX10_isTx hw ?_⟩
  simp (disch := omega) only [z_app, z_lit, z_neg, z_wi1, z_wi0, z_leT, z_leF, z_ltT, z_ltF, z_eqT, z_eqF, Int.cast_ofNat_Int, true_and, and_true, not_true_eq_false, not_false_eq_true, false_imp_iff, true_imp_iff, ite_true, ite_false, if_true, if_false]
  exact ⟨Or.inr trivial, K⟩
theorem mx_260r (hw : qWF g) (hJ : jJ s) (ia : i32 a) (ib : i32 b) (ic : i32 c) (it : i32 tx) (hI : ¬ bI s 260 a b tx) (hA : ¬ bA 260 a b c) (hS : ¬ bS s 260 a tx) : mP g (d + 10) mX10_remove [.inl (iI a), .inl (iI tx)] s (stS (opS s 260 a b c tx)) (.inl (opA s 260 a b c tx)) := by
  have hx : (0 ≤ a ∧ a ≤ 7) ∧ (-1 ≤ tx ∧ tx ≤ 3) := by unfold bI at hI; omega
  have hs : ¬ (400 ≤ s 2 9 ∨ (0 ≤ tx ∧ tx ≤ 3 ∧ s 55 tx = -1)) := by unfold bS at hS; unfold bI at hI; omega
  have E := fun (m : aS) (Q : Int32 → qS → Prop) (hr0 : rL s (aup m 86 0 0)) hQ => m_eff260 (d := d + 2) (T := fun _ _ => False) (Q := Q) hw hJ hr0 hI hA hS hQ
  clear hI hA hS
  have it0 := it
  unfold i32 at ia ib ic it
  refine m_op_retP (fun x hx => sto s _ _ _ _ _ hx) fun m Q hr0 hQ hr => wX10_remove hw (wX10_isFile hw ?_)
  have K := m_cannot (d := d + 7) (T := fun _ _ => False) hw hJ hr it0 (Q := fun r11 s12 => (((if qfa 0 r11 0 ≤ 0 then (0 : Int32) else 1) = 0 → qC g (d + 9) mX10_effective [.inr 86, .inl 4, .inl (iI tx), .inl (iI a), .inl 0, .inl 0] (qup s12 86 0 (qfa 0 r11 0)) (fun r13 s14 => qC g (d + 9) mX10_settle [.inr 86] s14 (fun _ s16 => Q r13 s16) (fun _ _ => False)) (fun _ _ => False)) ∧ (¬ (if qfa 0 r11 0 ≤ 0 then (0 : Int32) else 1) = 0 → Q 0 (qup s12 86 0 (qfa 0 r11 0))))) (fun h9 => (hs h9).elim) (fun h9 => by clear h9 hs; simp (disch := omega) only [z_app, z_rd, z_cl, z_add, z_sub, z_mul, z_neg, z_lit, z_leT, z_leF, z_ltT, z_ltF, z_eqT, z_eqF, i_leT, i_leF, i_ltT, i_ltF, i_eqT, i_eqF, z_le, z_lt, z_eq, z_ite, z_at, z_pt, z_up, z_wr, z_wi1, z_wi0, z_wi, z_inS, z_toInt, z_nb0, z_nb1, Int.cast_ofNat_Int, true_and, and_true, not_true_eq_false, not_false_eq_true, false_imp_iff, true_imp_iff, aup_o, aup_k, ite_true, ite_false, z_fa000, z_fa001, z_fa010, z_fa011, z_fa100, z_fa101, z_fa110, z_fa111, if_true, if_false]; exact E m Q hr0 hQ)
  clear hs
  simp (disch := omega) only [z_app, z_lit, z_neg, z_wi1, z_wi0, z_leT, z_leF, z_ltT, z_ltF, z_eqT, z_eqF, Int.cast_ofNat_Int, true_and, and_true, not_true_eq_false, not_false_eq_true, false_imp_iff, true_imp_iff, ite_true, ite_false, if_true, if_false]
  refine ⟨Or.inr trivial, wX10_isTx hw ?_⟩
  simp (disch := omega) only [z_app, z_lit, z_neg, z_wi1, z_wi0, z_leT, z_leF, z_ltT, z_ltF, z_eqT, z_eqF, Int.cast_ofNat_Int, true_and, and_true, not_true_eq_false, not_false_eq_true, false_imp_iff, true_imp_iff, ite_true, ite_false, if_true, if_false]
  exact ⟨Or.inr trivial, K⟩
theorem mx_261i (hw : qWF g) (hJ : jJ s) (ia : i32 a) (ib : i32 b) (ic : i32 c) (it : i32 tx) (hI : bI s 261 a b tx) : mP g (d + 10) mX10_copy [.inl (iI a), .inl (iI b), .inl (iI tx)] s s (.inr 0) := by
  have hx : ¬ ((0 ≤ a ∧ a ≤ 7) ∧ (0 ≤ b ∧ b ≤ 7) ∧ (-1 ≤ tx ∧ tx ≤ 3)) := by unfold bI at hI; omega
  clear hI
  have it0 := it
  unfold i32 at ia ib ic it
  refine m_thrP fun m Q hrJ hQ => wX10_copy hw (wX10_isFile hw ?_)
  have hr := hrJ.1
  by_cases hab : a = b
  · by_cases ha : 0 ≤ a ∧ a ≤ 7
    · have ht : tx < -1 ∨ 3 < tx := by omega
      simp (disch := omega) only [z_app, z_lit, z_neg, z_wi1, z_wi0, z_leT, z_leF, z_ltT, z_ltF, z_eqT, z_eqF, Int.cast_ofNat_Int, true_and, and_true, not_true_eq_false, not_false_eq_true, false_imp_iff, true_imp_iff, ite_true, ite_false, if_true, if_false]
      refine ⟨Or.inr trivial, wX10_isFile hw ?_⟩
      simp (disch := omega) only [z_app, z_lit, z_neg, z_wi1, z_wi0, z_leT, z_leF, z_ltT, z_ltF, z_eqT, z_eqF, Int.cast_ofNat_Int, true_and, and_true, not_true_eq_false, not_false_eq_true, false_imp_iff, true_imp_iff, ite_true, ite_false, if_true, if_false]
      refine ⟨Or.inr trivial, wX10_isTx hw ?_⟩
      simp (disch := omega) only [z_app, z_lit, z_neg, z_wi1, z_wi0, z_leT, z_leF, z_ltT, z_ltF, z_eqT, z_eqF, Int.cast_ofNat_Int, true_and, and_true, not_true_eq_false, not_false_eq_true, false_imp_iff, true_imp_iff, ite_true, ite_false, if_true, if_false]
      refine ⟨Or.inl trivial, m_cannot hw hJ hr it0 (fun h9 => ?_) (fun h9 => ?_)⟩
      · clear h9; simp (disch := omega) only [z_app, z_rd, z_cl, z_add, z_sub, z_mul, z_neg, z_lit, z_leT, z_leF, z_ltT, z_ltF, z_eqT, z_eqF, i_leT, i_leF, i_ltT, i_ltF, i_eqT, i_eqF, z_le, z_lt, z_eq, z_ite, z_at, z_pt, z_up, z_wr, z_wi1, z_wi0, z_wi, z_inS, z_toInt, z_nb0, z_nb1, Int.cast_ofNat_Int, true_and, and_true, not_true_eq_false, not_false_eq_true, false_imp_iff, true_imp_iff, aup_o, aup_k, ite_true, ite_false, z_fa000, z_fa001, z_fa010, z_fa011, z_fa100, z_fa101, z_fa110, z_fa111, if_true, if_false]; exact hQ 0
      · clear h9; simp (disch := omega) only [z_app, z_rd, z_cl, z_add, z_sub, z_mul, z_neg, z_lit, z_leT, z_leF, z_ltT, z_ltF, z_eqT, z_eqF, i_leT, i_leF, i_ltT, i_ltF, i_eqT, i_eqF, z_le, z_lt, z_eq, z_ite, z_at, z_pt, z_up, z_wr, z_wi1, z_wi0, z_wi, z_inS, z_toInt, z_nb0, z_nb1, Int.cast_ofNat_Int, true_and, and_true, not_true_eq_false, not_false_eq_true, false_imp_iff, true_imp_iff, aup_o, aup_k, ite_true, ite_false, z_fa000, z_fa001, z_fa010, z_fa011, z_fa100, z_fa101, z_fa110, z_fa111, if_true, if_false]; exact hQ 0
    · simp (disch := omega) only [z_app, z_lit, z_neg, z_wi1, z_wi0, z_leT, z_leF, z_ltT, z_ltF, z_eqT, z_eqF, Int.cast_ofNat_Int, true_and, and_true, not_true_eq_false, not_false_eq_true, false_imp_iff, true_imp_iff, ite_true, ite_false, if_true, if_false]
      refine ⟨Or.inl trivial, m_cannot hw hJ hr it0 (fun h9 => ?_) (fun h9 => ?_)⟩
      · clear h9; simp (disch := omega) only [z_app, z_rd, z_cl, z_add, z_sub, z_mul, z_neg, z_lit, z_leT, z_leF, z_ltT, z_ltF, z_eqT, z_eqF, i_leT, i_leF, i_ltT, i_ltF, i_eqT, i_eqF, z_le, z_lt, z_eq, z_ite, z_at, z_pt, z_up, z_wr, z_wi1, z_wi0, z_wi, z_inS, z_toInt, z_nb0, z_nb1, Int.cast_ofNat_Int, true_and, and_true, not_true_eq_false, not_false_eq_true, false_imp_iff, true_imp_iff, aup_o, aup_k, ite_true, ite_false, z_fa000, z_fa001, z_fa010, z_fa011, z_fa100, z_fa101, z_fa110, z_fa111, if_true, if_false]; exact hQ 0
      · clear h9; simp (disch := omega) only [z_app, z_rd, z_cl, z_add, z_sub, z_mul, z_neg, z_lit, z_leT, z_leF, z_ltT, z_ltF, z_eqT, z_eqF, i_leT, i_leF, i_ltT, i_ltF, i_eqT, i_eqF, z_le, z_lt, z_eq, z_ite, z_at, z_pt, z_up, z_wr, z_wi1, z_wi0, z_wi, z_inS, z_toInt, z_nb0, z_nb1, Int.cast_ofNat_Int, true_and, and_true, not_true_eq_false, not_false_eq_true, false_imp_iff, true_imp_iff, aup_o, aup_k, ite_true, ite_false, z_fa000, z_fa001, z_fa010, z_fa011, z_fa100, z_fa101, z_fa110, z_fa111, if_true, if_false]; exact hQ 0
  · by_cases ha : 0 ≤ a ∧ a ≤ 7
    · by_cases hb : 0 ≤ b ∧ b ≤ 7
      · have ht : tx < -1 ∨ 3 < tx := by omega
        simp (disch := omega) only [z_app, z_lit, z_neg, z_wi1, z_wi0, z_leT, z_leF, z_ltT, z_ltF, z_eqT, z_eqF, Int.cast_ofNat_Int, true_and, and_true, not_true_eq_false, not_false_eq_true, false_imp_iff, true_imp_iff, ite_true, ite_false, if_true, if_false]
        refine ⟨Or.inr trivial, wX10_isFile hw ?_⟩
        simp (disch := omega) only [z_app, z_lit, z_neg, z_wi1, z_wi0, z_leT, z_leF, z_ltT, z_ltF, z_eqT, z_eqF, Int.cast_ofNat_Int, true_and, and_true, not_true_eq_false, not_false_eq_true, false_imp_iff, true_imp_iff, ite_true, ite_false, if_true, if_false]
        refine ⟨Or.inr trivial, wX10_isTx hw ?_⟩
        simp (disch := omega) only [z_app, z_lit, z_neg, z_wi1, z_wi0, z_leT, z_leF, z_ltT, z_ltF, z_eqT, z_eqF, Int.cast_ofNat_Int, true_and, and_true, not_true_eq_false, not_false_eq_true, false_imp_iff, true_imp_iff, ite_true, ite_false, if_true, if_false]
        refine ⟨Or.inl trivial, m_cannot hw hJ hr it0 (fun h9 => ?_) (fun h9 => ?_)⟩
        · clear h9; simp (disch := omega) only [z_app, z_rd, z_cl, z_add, z_sub, z_mul, z_neg, z_lit, z_leT, z_leF, z_ltT, z_ltF, z_eqT, z_eqF, i_leT, i_leF, i_ltT, i_ltF, i_eqT, i_eqF, z_le, z_lt, z_eq, z_ite, z_at, z_pt, z_up, z_wr, z_wi1, z_wi0, z_wi, z_inS, z_toInt, z_nb0, z_nb1, Int.cast_ofNat_Int, true_and, and_true, not_true_eq_false, not_false_eq_true, false_imp_iff, true_imp_iff, aup_o, aup_k, ite_true, ite_false, z_fa000, z_fa001, z_fa010, z_fa011, z_fa100, z_fa101, z_fa110, z_fa111, if_true, if_false]; exact hQ 0
        · clear h9; simp (disch := omega) only [z_app, z_rd, z_cl, z_add, z_sub, z_mul, z_neg, z_lit, z_leT, z_leF, z_ltT, z_ltF, z_eqT, z_eqF, i_leT, i_leF, i_ltT, i_ltF, i_eqT, i_eqF, z_le, z_lt, z_eq, z_ite, z_at, z_pt, z_up, z_wr, z_wi1, z_wi0, z_wi, z_inS, z_toInt, z_nb0, z_nb1, Int.cast_ofNat_Int, true_and, and_true, not_true_eq_false, not_false_eq_true, false_imp_iff, true_imp_iff, aup_o, aup_k, ite_true, ite_false, z_fa000, z_fa001, z_fa010, z_fa011, z_fa100, z_fa101, z_fa110, z_fa111, if_true, if_false]; exact hQ 0
      · simp (disch := omega) only [z_app, z_lit, z_neg, z_wi1, z_wi0, z_leT, z_leF, z_ltT, z_ltF, z_eqT, z_eqF, Int.cast_ofNat_Int, true_and, and_true, not_true_eq_false, not_false_eq_true, false_imp_iff, true_imp_iff, ite_true, ite_false, if_true, if_false]
        refine ⟨Or.inr trivial, wX10_isFile hw ?_⟩
        simp (disch := omega) only [z_app, z_lit, z_neg, z_wi1, z_wi0, z_leT, z_leF, z_ltT, z_ltF, z_eqT, z_eqF, Int.cast_ofNat_Int, true_and, and_true, not_true_eq_false, not_false_eq_true, false_imp_iff, true_imp_iff, ite_true, ite_false, if_true, if_false]
        refine ⟨Or.inl trivial, m_cannot hw hJ hr it0 (fun h9 => ?_) (fun h9 => ?_)⟩
        · clear h9; simp (disch := omega) only [z_app, z_rd, z_cl, z_add, z_sub, z_mul, z_neg, z_lit, z_leT, z_leF, z_ltT, z_ltF, z_eqT, z_eqF, i_leT, i_leF, i_ltT, i_ltF, i_eqT, i_eqF, z_le, z_lt, z_eq, z_ite, z_at, z_pt, z_up, z_wr, z_wi1, z_wi0, z_wi, z_inS, z_toInt, z_nb0, z_nb1, Int.cast_ofNat_Int, true_and, and_true, not_true_eq_false, not_false_eq_true, false_imp_iff, true_imp_iff, aup_o, aup_k, ite_true, ite_false, z_fa000, z_fa001, z_fa010, z_fa011, z_fa100, z_fa101, z_fa110, z_fa111, if_true, if_false]; exact hQ 0
        · clear h9; simp (disch := omega) only [z_app, z_rd, z_cl, z_add, z_sub, z_mul, z_neg, z_lit, z_leT, z_leF, z_ltT, z_ltF, z_eqT, z_eqF, i_leT, i_leF, i_ltT, i_ltF, i_eqT, i_eqF, z_le, z_lt, z_eq, z_ite, z_at, z_pt, z_up, z_wr, z_wi1, z_wi0, z_wi, z_inS, z_toInt, z_nb0, z_nb1, Int.cast_ofNat_Int, true_and, and_true, not_true_eq_false, not_false_eq_true, false_imp_iff, true_imp_iff, aup_o, aup_k, ite_true, ite_false, z_fa000, z_fa001, z_fa010, z_fa011, z_fa100, z_fa101, z_fa110, z_fa111, if_true, if_false]; exact hQ 0
    · simp (disch := omega) only [z_app, z_lit, z_neg, z_wi1, z_wi0, z_leT, z_leF, z_ltT, z_ltF, z_eqT, z_eqF, Int.cast_ofNat_Int, true_and, and_true, not_true_eq_false, not_false_eq_true, false_imp_iff, true_imp_iff, ite_true, ite_false, if_true, if_false]
      refine ⟨Or.inl trivial, m_cannot hw hJ hr it0 (fun h9 => ?_) (fun h9 => ?_)⟩
      · clear h9; simp (disch := omega) only [z_app, z_rd, z_cl, z_add, z_sub, z_mul, z_neg, z_lit, z_leT, z_leF, z_ltT, z_ltF, z_eqT, z_eqF, i_leT, i_leF, i_ltT, i_ltF, i_eqT, i_eqF, z_le, z_lt, z_eq, z_ite, z_at, z_pt, z_up, z_wr, z_wi1, z_wi0, z_wi, z_inS, z_toInt, z_nb0, z_nb1, Int.cast_ofNat_Int, true_and, and_true, not_true_eq_false, not_false_eq_true, false_imp_iff, true_imp_iff, aup_o, aup_k, ite_true, ite_false, z_fa000, z_fa001, z_fa010, z_fa011, z_fa100, z_fa101, z_fa110, z_fa111, if_true, if_false]; exact hQ 0
      · clear h9; simp (disch := omega) only [z_app, z_rd, z_cl, z_add, z_sub, z_mul, z_neg, z_lit, z_leT, z_leF, z_ltT, z_ltF, z_eqT, z_eqF, i_leT, i_leF, i_ltT, i_ltF, i_eqT, i_eqF, z_le, z_lt, z_eq, z_ite, z_at, z_pt, z_up, z_wr, z_wi1, z_wi0, z_wi, z_inS, z_toInt, z_nb0, z_nb1, Int.cast_ofNat_Int, true_and, and_true, not_true_eq_false, not_false_eq_true, false_imp_iff, true_imp_iff, aup_o, aup_k, ite_true, ite_false, z_fa000, z_fa001, z_fa010, z_fa011, z_fa100, z_fa101, z_fa110, z_fa111, if_true, if_false]; exact hQ 0
theorem mx_261a (hw : qWF g) (hJ : jJ s) (ia : i32 a) (ib : i32 b) (ic : i32 c) (it : i32 tx) (hI : ¬ bI s 261 a b tx) (hA : bA 261 a b c) : mP g (d + 10) mX10_copy [.inl (iI a), .inl (iI b), .inl (iI tx)] s s (.inr 1) := by
  have hx : (0 ≤ a ∧ a ≤ 7) ∧ (0 ≤ b ∧ b ≤ 7) ∧ (-1 ≤ tx ∧ tx ≤ 3) := by unfold bI at hI; omega
  have hab : a = b := by unfold bA at hA; omega
  clear hI hA
  have it0 := it
  unfold i32 at ia ib ic it
  refine m_thrP fun m Q hrJ hQ => wX10_copy hw (wX10_isFile hw ?_)
  have hr := hrJ.1
  simp (disch := omega) only [z_app, z_lit, z_neg, z_wi1, z_wi0, z_leT, z_leF, z_ltT, z_ltF, z_eqT, z_eqF, Int.cast_ofNat_Int, true_and, and_true, not_true_eq_false, not_false_eq_true, false_imp_iff, true_imp_iff, ite_true, ite_false, if_true, if_false]
  refine ⟨Or.inr trivial, wX10_isFile hw ?_⟩
  simp (disch := omega) only [z_app, z_lit, z_neg, z_wi1, z_wi0, z_leT, z_leF, z_ltT, z_ltF, z_eqT, z_eqF, Int.cast_ofNat_Int, true_and, and_true, not_true_eq_false, not_false_eq_true, false_imp_iff, true_imp_iff, ite_true, ite_false, if_true, if_false]
  refine ⟨Or.inr trivial, wX10_isTx hw ?_⟩
  simp (disch := omega) only [z_app, z_lit, z_neg, z_wi1, z_wi0, z_leT, z_leF, z_ltT, z_ltF, z_eqT, z_eqF, Int.cast_ofNat_Int, true_and, and_true, not_true_eq_false, not_false_eq_true, false_imp_iff, true_imp_iff, ite_true, ite_false, if_true, if_false]
  refine ⟨Or.inr trivial, m_cannot hw hJ hr it0 (fun h9 => ?_) (fun h9 => ?_)⟩
  · clear h9; simp (disch := omega) only [z_app, z_rd, z_cl, z_add, z_sub, z_mul, z_neg, z_lit, z_leT, z_leF, z_ltT, z_ltF, z_eqT, z_eqF, i_leT, i_leF, i_ltT, i_ltF, i_eqT, i_eqF, z_le, z_lt, z_eq, z_ite, z_at, z_pt, z_up, z_wr, z_wi1, z_wi0, z_wi, z_inS, z_toInt, z_nb0, z_nb1, Int.cast_ofNat_Int, true_and, and_true, not_true_eq_false, not_false_eq_true, false_imp_iff, true_imp_iff, aup_o, aup_k, ite_true, ite_false, z_fa000, z_fa001, z_fa010, z_fa011, z_fa100, z_fa101, z_fa110, z_fa111, if_true, if_false]; exact hQ 0
  · clear h9; simp (disch := omega) only [z_app, z_rd, z_cl, z_add, z_sub, z_mul, z_neg, z_lit, z_leT, z_leF, z_ltT, z_ltF, z_eqT, z_eqF, i_leT, i_leF, i_ltT, i_ltF, i_eqT, i_eqF, z_le, z_lt, z_eq, z_ite, z_at, z_pt, z_up, z_wr, z_wi1, z_wi0, z_wi, z_inS, z_toInt, z_nb0, z_nb1, Int.cast_ofNat_Int, true_and, and_true, not_true_eq_false, not_false_eq_true, false_imp_iff, true_imp_iff, aup_o, aup_k, ite_true, ite_false, z_fa000, z_fa001, z_fa010, z_fa011, z_fa100, z_fa101, z_fa110, z_fa111, if_true, if_false]; exact hQ 0
theorem mx_261s (hw : qWF g) (hJ : jJ s) (ia : i32 a) (ib : i32 b) (ic : i32 c) (it : i32 tx) (hI : ¬ bI s 261 a b tx) (hA : ¬ bA 261 a b c) (hS : bS s 261 a tx) : mP g (d + 10) mX10_copy [.inl (iI a), .inl (iI b), .inl (iI tx)] s s (.inr 2) := by
  have hx : (0 ≤ a ∧ a ≤ 7) ∧ (0 ≤ b ∧ b ≤ 7) ∧ (-1 ≤ tx ∧ tx ≤ 3) := by unfold bI at hI; omega
  have hab : a < b ∨ b < a := by unfold bA at hA; omega
  have hs : ∃ _ : Unit, 400 ≤ s 2 9 ∨ (0 ≤ tx ∧ tx ≤ 3 ∧ s 55 tx = -1) := ⟨(), by unfold bS at hS; omega⟩
  clear hI hA hS
  have it0 := it
  unfold i32 at ia ib ic it
  refine m_thrP fun m Q hrJ hQ => wX10_copy hw (wX10_isFile hw ?_)
  have hr := hrJ.1
  simp (disch := omega) only [z_app, z_lit, z_neg, z_wi1, z_wi0, z_leT, z_leF, z_ltT, z_ltF, z_eqT, z_eqF, Int.cast_ofNat_Int, true_and, and_true, not_true_eq_false, not_false_eq_true, false_imp_iff, true_imp_iff, ite_true, ite_false, if_true, if_false]
  refine ⟨Or.inr trivial, wX10_isFile hw ?_⟩
  simp (disch := omega) only [z_app, z_lit, z_neg, z_wi1, z_wi0, z_leT, z_leF, z_ltT, z_ltF, z_eqT, z_eqF, Int.cast_ofNat_Int, true_and, and_true, not_true_eq_false, not_false_eq_true, false_imp_iff, true_imp_iff, ite_true, ite_false, if_true, if_false]
  refine ⟨Or.inr trivial, wX10_isTx hw ?_⟩
  simp (disch := omega) only [z_app, z_lit, z_neg, z_wi1, z_wi0, z_leT, z_leF, z_ltT, z_ltF, z_eqT, z_eqF, Int.cast_ofNat_Int, true_and, and_true, not_true_eq_false, not_false_eq_true, false_imp_iff, true_imp_iff, ite_true, ite_false, if_true, if_false]
  refine ⟨Or.inr trivial, m_cannot hw hJ hr it0 (fun h9 => ?_) (fun h9 => (let ⟨_, h⟩ := hs; h9 h).elim)⟩
  clear h9; simp (disch := omega) only [z_app, z_rd, z_cl, z_add, z_sub, z_mul, z_neg, z_lit, z_leT, z_leF, z_ltT, z_ltF, z_eqT, z_eqF, i_leT, i_leF, i_ltT, i_ltF, i_eqT, i_eqF, z_le, z_lt, z_eq, z_ite, z_at, z_pt, z_up, z_wr, z_wi1, z_wi0, z_wi, z_inS, z_toInt, z_nb0, z_nb1, Int.cast_ofNat_Int, true_and, and_true, not_true_eq_false, not_false_eq_true, false_imp_iff, true_imp_iff, aup_o, aup_k, ite_true, ite_false, z_fa000, z_fa001, z_fa010, z_fa011, z_fa100, z_fa101, z_fa110, z_fa111, if_true, if_false]; exact hQ 0
theorem mx_261r (hw : qWF g) (hJ : jJ s) (ia : i32 a) (ib : i32 b) (ic : i32 c) (it : i32 tx) (hI : ¬ bI s 261 a b tx) (hA : ¬ bA 261 a b c) (hS : ¬ bS s 261 a tx) : mP g (d + 10) mX10_copy [.inl (iI a), .inl (iI b), .inl (iI tx)] s (stS (opS s 261 a b c tx)) (.inl (opA s 261 a b c tx)) := by
  have hx : (0 ≤ a ∧ a ≤ 7) ∧ (0 ≤ b ∧ b ≤ 7) ∧ (-1 ≤ tx ∧ tx ≤ 3) := by unfold bI at hI; omega
  have hab : a < b ∨ b < a := by unfold bA at hA; omega
  have hs : ∃ _ : Unit, ¬ (400 ≤ s 2 9 ∨ (0 ≤ tx ∧ tx ≤ 3 ∧ s 55 tx = -1)) := ⟨(), by unfold bS at hS; unfold bI at hI; omega⟩
  have E := fun (m : aS) (Q : Int32 → qS → Prop) (hr0 : rL s (aup m 86 0 0)) hQ => m_eff261 (d := d + 2) (T := fun _ _ => False) (Q := Q) hw hJ hr0 hI hA hS hQ
  clear hI hA hS
  have it0 := it
  unfold i32 at ia ib ic it
  refine m_op_retP (fun x hx => sto s _ _ _ _ _ hx) fun m Q hr0 hQ hr => wX10_copy hw (wX10_isFile hw ?_)
  simp (disch := omega) only [z_app, z_lit, z_neg, z_wi1, z_wi0, z_leT, z_leF, z_ltT, z_ltF, z_eqT, z_eqF, Int.cast_ofNat_Int, true_and, and_true, not_true_eq_false, not_false_eq_true, false_imp_iff, true_imp_iff, ite_true, ite_false, if_true, if_false]
  refine ⟨Or.inr trivial, wX10_isFile hw ?_⟩
  simp (disch := omega) only [z_app, z_lit, z_neg, z_wi1, z_wi0, z_leT, z_leF, z_ltT, z_ltF, z_eqT, z_eqF, Int.cast_ofNat_Int, true_and, and_true, not_true_eq_false, not_false_eq_true, false_imp_iff, true_imp_iff, ite_true, ite_false, if_true, if_false]
  refine ⟨Or.inr trivial, wX10_isTx hw ?_⟩
  simp (disch := omega) only [z_app, z_lit, z_neg, z_wi1, z_wi0, z_leT, z_leF, z_ltT, z_ltF, z_eqT, z_eqF, Int.cast_ofNat_Int, true_and, and_true, not_true_eq_false, not_false_eq_true, false_imp_iff, true_imp_iff, ite_true, ite_false, if_true, if_false]
  refine ⟨Or.inr trivial, m_cannot hw hJ hr it0 (fun h9 => (let ⟨_, h⟩ := hs; h h9).elim) (fun h9 => ?_)⟩
  clear h9
  simp (disch := omega) only [z_app, z_rd, z_cl, z_add, z_sub, z_mul, z_neg, z_lit, z_leT, z_leF, z_ltT, z_ltF, z_eqT, z_eqF, i_leT, i_leF, i_ltT, i_ltF, i_eqT, i_eqF, z_le, z_lt, z_eq, z_ite, z_at, z_pt, z_up, z_wr, z_wi1, z_wi0, z_wi, z_inS, z_toInt, z_nb0, z_nb1, Int.cast_ofNat_Int, true_and, and_true, not_true_eq_false, not_false_eq_true, false_imp_iff, true_imp_iff, aup_o, aup_k, ite_true, ite_false, z_fa000, z_fa001, z_fa010, z_fa011, z_fa100, z_fa101, z_fa110, z_fa111, if_true, if_false]
  exact E m Q hr0 hQ
theorem mx_262i (hw : qWF g) (hJ : jJ s) (ia : i32 a) (ib : i32 b) (ic : i32 c) (it : i32 tx) (hI : bI s 262 a b tx) : mP g (d + 10) mX10_send [.inl (iI a), .inl (iI b), .inl (iI c), .inl (iI tx)] s s (.inr 0) := by
  have hx : ¬ ((0 ≤ a ∧ a ≤ 3) ∧ (-1 ≤ tx ∧ tx ≤ 3)) := by unfold bI at hI; omega
  clear hI
  have it0 := it
  unfold i32 at ia ib ic it
  refine m_thrP fun m Q hrJ hQ => wX10_send hw (wX10_isTopic hw ?_)
  have hr := hrJ.1
  by_cases ha : 0 ≤ a ∧ a ≤ 3
  · have ht : tx < -1 ∨ 3 < tx := by omega
    by_cases hb : 0 ≤ b ∧ b ≤ 9999
    · by_cases hc : 0 ≤ c ∧ c ≤ 20
      · simp (disch := omega) only [z_app, z_lit, z_neg, z_wi1, z_wi0, z_leT, z_leF, z_ltT, z_ltF, z_eqT, z_eqF, Int.cast_ofNat_Int, true_and, and_true, not_true_eq_false, not_false_eq_true, false_imp_iff, true_imp_iff, ite_true, ite_false, if_true, if_false]
        refine ⟨Or.inr trivial, wX10_isTx hw ?_⟩
        simp (disch := omega) only [z_app, z_lit, z_neg, z_wi1, z_wi0, z_leT, z_leF, z_ltT, z_ltF, z_eqT, z_eqF, Int.cast_ofNat_Int, true_and, and_true, not_true_eq_false, not_false_eq_true, false_imp_iff, true_imp_iff, ite_true, ite_false, if_true, if_false]
        refine ⟨Or.inl trivial, m_cannot hw hJ hr it0 (fun h9 => ?_) (fun h9 => ?_)⟩
        · clear h9; simp (disch := omega) only [z_app, z_rd, z_cl, z_add, z_sub, z_mul, z_neg, z_lit, z_leT, z_leF, z_ltT, z_ltF, z_eqT, z_eqF, i_leT, i_leF, i_ltT, i_ltF, i_eqT, i_eqF, z_le, z_lt, z_eq, z_ite, z_at, z_pt, z_up, z_wr, z_wi1, z_wi0, z_wi, z_inS, z_toInt, z_nb0, z_nb1, Int.cast_ofNat_Int, true_and, and_true, not_true_eq_false, not_false_eq_true, false_imp_iff, true_imp_iff, aup_o, aup_k, ite_true, ite_false, z_fa000, z_fa001, z_fa010, z_fa011, z_fa100, z_fa101, z_fa110, z_fa111, if_true, if_false]; exact hQ 0
        · clear h9; simp (disch := omega) only [z_app, z_rd, z_cl, z_add, z_sub, z_mul, z_neg, z_lit, z_leT, z_leF, z_ltT, z_ltF, z_eqT, z_eqF, i_leT, i_leF, i_ltT, i_ltF, i_eqT, i_eqF, z_le, z_lt, z_eq, z_ite, z_at, z_pt, z_up, z_wr, z_wi1, z_wi0, z_wi, z_inS, z_toInt, z_nb0, z_nb1, Int.cast_ofNat_Int, true_and, and_true, not_true_eq_false, not_false_eq_true, false_imp_iff, true_imp_iff, aup_o, aup_k, ite_true, ite_false, z_fa000, z_fa001, z_fa010, z_fa011, z_fa100, z_fa101, z_fa110, z_fa111, if_true, if_false]; exact hQ 0
      · simp (disch := omega) only [z_app, z_lit, z_neg, z_wi1, z_wi0, z_leT, z_leF, z_ltT, z_ltF, z_eqT, z_eqF, Int.cast_ofNat_Int, true_and, and_true, not_true_eq_false, not_false_eq_true, false_imp_iff, true_imp_iff, ite_true, ite_false, if_true, if_false]
        refine ⟨Or.inr trivial, wX10_isTx hw ?_⟩
        simp (disch := omega) only [z_app, z_lit, z_neg, z_wi1, z_wi0, z_leT, z_leF, z_ltT, z_ltF, z_eqT, z_eqF, Int.cast_ofNat_Int, true_and, and_true, not_true_eq_false, not_false_eq_true, false_imp_iff, true_imp_iff, ite_true, ite_false, if_true, if_false]
        refine ⟨Or.inl trivial, m_cannot hw hJ hr it0 (fun h9 => ?_) (fun h9 => ?_)⟩
        · clear h9; simp (disch := omega) only [z_app, z_rd, z_cl, z_add, z_sub, z_mul, z_neg, z_lit, z_leT, z_leF, z_ltT, z_ltF, z_eqT, z_eqF, i_leT, i_leF, i_ltT, i_ltF, i_eqT, i_eqF, z_le, z_lt, z_eq, z_ite, z_at, z_pt, z_up, z_wr, z_wi1, z_wi0, z_wi, z_inS, z_toInt, z_nb0, z_nb1, Int.cast_ofNat_Int, true_and, and_true, not_true_eq_false, not_false_eq_true, false_imp_iff, true_imp_iff, aup_o, aup_k, ite_true, ite_false, z_fa000, z_fa001, z_fa010, z_fa011, z_fa100, z_fa101, z_fa110, z_fa111, if_true, if_false]; exact hQ 0
        · clear h9; simp (disch := omega) only [z_app, z_rd, z_cl, z_add, z_sub, z_mul, z_neg, z_lit, z_leT, z_leF, z_ltT, z_ltF, z_eqT, z_eqF, i_leT, i_leF, i_ltT, i_ltF, i_eqT, i_eqF, z_le, z_lt, z_eq, z_ite, z_at, z_pt, z_up, z_wr, z_wi1, z_wi0, z_wi, z_inS, z_toInt, z_nb0, z_nb1, Int.cast_ofNat_Int, true_and, and_true, not_true_eq_false, not_false_eq_true, false_imp_iff, true_imp_iff, aup_o, aup_k, ite_true, ite_false, z_fa000, z_fa001, z_fa010, z_fa011, z_fa100, z_fa101, z_fa110, z_fa111, if_true, if_false]; exact hQ 0
    · simp (disch := omega) only [z_app, z_lit, z_neg, z_wi1, z_wi0, z_leT, z_leF, z_ltT, z_ltF, z_eqT, z_eqF, Int.cast_ofNat_Int, true_and, and_true, not_true_eq_false, not_false_eq_true, false_imp_iff, true_imp_iff, ite_true, ite_false, if_true, if_false]
      refine ⟨Or.inr trivial, wX10_isTx hw ?_⟩
      simp (disch := omega) only [z_app, z_lit, z_neg, z_wi1, z_wi0, z_leT, z_leF, z_ltT, z_ltF, z_eqT, z_eqF, Int.cast_ofNat_Int, true_and, and_true, not_true_eq_false, not_false_eq_true, false_imp_iff, true_imp_iff, ite_true, ite_false, if_true, if_false]
      refine ⟨Or.inl trivial, m_cannot hw hJ hr it0 (fun h9 => ?_) (fun h9 => ?_)⟩
      · clear h9; simp (disch := omega) only [z_app, z_rd, z_cl, z_add, z_sub, z_mul, z_neg, z_lit, z_leT, z_leF, z_ltT, z_ltF, z_eqT, z_eqF, i_leT, i_leF, i_ltT, i_ltF, i_eqT, i_eqF, z_le, z_lt, z_eq, z_ite, z_at, z_pt, z_up, z_wr, z_wi1, z_wi0, z_wi, z_inS, z_toInt, z_nb0, z_nb1, Int.cast_ofNat_Int, true_and, and_true, not_true_eq_false, not_false_eq_true, false_imp_iff, true_imp_iff, aup_o, aup_k, ite_true, ite_false, z_fa000, z_fa001, z_fa010, z_fa011, z_fa100, z_fa101, z_fa110, z_fa111, if_true, if_false]; exact hQ 0
      · clear h9; simp (disch := omega) only [z_app, z_rd, z_cl, z_add, z_sub, z_mul, z_neg, z_lit, z_leT, z_leF, z_ltT, z_ltF, z_eqT, z_eqF, i_leT, i_leF, i_ltT, i_ltF, i_eqT, i_eqF, z_le, z_lt, z_eq, z_ite, z_at, z_pt, z_up, z_wr, z_wi1, z_wi0, z_wi, z_inS, z_toInt, z_nb0, z_nb1, Int.cast_ofNat_Int, true_and, and_true, not_true_eq_false, not_false_eq_true, false_imp_iff, true_imp_iff, aup_o, aup_k, ite_true, ite_false, z_fa000, z_fa001, z_fa010, z_fa011, z_fa100, z_fa101, z_fa110, z_fa111, if_true, if_false]; exact hQ 0
  · by_cases hb : 0 ≤ b ∧ b ≤ 9999
    · by_cases hc : 0 ≤ c ∧ c ≤ 20
      · simp (disch := omega) only [z_app, z_lit, z_neg, z_wi1, z_wi0, z_leT, z_leF, z_ltT, z_ltF, z_eqT, z_eqF, Int.cast_ofNat_Int, true_and, and_true, not_true_eq_false, not_false_eq_true, false_imp_iff, true_imp_iff, ite_true, ite_false, if_true, if_false]
        refine ⟨Or.inl trivial, m_cannot hw hJ hr it0 (fun h9 => ?_) (fun h9 => ?_)⟩
        · clear h9; simp (disch := omega) only [z_app, z_rd, z_cl, z_add, z_sub, z_mul, z_neg, z_lit, z_leT, z_leF, z_ltT, z_ltF, z_eqT, z_eqF, i_leT, i_leF, i_ltT, i_ltF, i_eqT, i_eqF, z_le, z_lt, z_eq, z_ite, z_at, z_pt, z_up, z_wr, z_wi1, z_wi0, z_wi, z_inS, z_toInt, z_nb0, z_nb1, Int.cast_ofNat_Int, true_and, and_true, not_true_eq_false, not_false_eq_true, false_imp_iff, true_imp_iff, aup_o, aup_k, ite_true, ite_false, z_fa000, z_fa001, z_fa010, z_fa011, z_fa100, z_fa101, z_fa110, z_fa111, if_true, if_false]; exact hQ 0
        · clear h9; simp (disch := omega) only [z_app, z_rd, z_cl, z_add, z_sub, z_mul, z_neg, z_lit, z_leT, z_leF, z_ltT, z_ltF, z_eqT, z_eqF, i_leT, i_leF, i_ltT, i_ltF, i_eqT, i_eqF, z_le, z_lt, z_eq, z_ite, z_at, z_pt, z_up, z_wr, z_wi1, z_wi0, z_wi, z_inS, z_toInt, z_nb0, z_nb1, Int.cast_ofNat_Int, true_and, and_true, not_true_eq_false, not_false_eq_true, false_imp_iff, true_imp_iff, aup_o, aup_k, ite_true, ite_false, z_fa000, z_fa001, z_fa010, z_fa011, z_fa100, z_fa101, z_fa110, z_fa111, if_true, if_false]; exact hQ 0
      · simp (disch := omega) only [z_app, z_lit, z_neg, z_wi1, z_wi0, z_leT, z_leF, z_ltT, z_ltF, z_eqT, z_eqF, Int.cast_ofNat_Int, true_and, and_true, not_true_eq_false, not_false_eq_true, false_imp_iff, true_imp_iff, ite_true, ite_false, if_true, if_false]
        refine ⟨Or.inl trivial, m_cannot hw hJ hr it0 (fun h9 => ?_) (fun h9 => ?_)⟩
        · clear h9; simp (disch := omega) only [z_app, z_rd, z_cl, z_add, z_sub, z_mul, z_neg, z_lit, z_leT, z_leF, z_ltT, z_ltF, z_eqT, z_eqF, i_leT, i_leF, i_ltT, i_ltF, i_eqT, i_eqF, z_le, z_lt, z_eq, z_ite, z_at, z_pt, z_up, z_wr, z_wi1, z_wi0, z_wi, z_inS, z_toInt, z_nb0, z_nb1, Int.cast_ofNat_Int, true_and, and_true, not_true_eq_false, not_false_eq_true, false_imp_iff, true_imp_iff, aup_o, aup_k, ite_true, ite_false, z_fa000, z_fa001, z_fa010, z_fa011, z_fa100, z_fa101, z_fa110, z_fa111, if_true, if_false]; exact hQ 0
        · clear h9; simp (disch := omega) only [z_app, z_rd, z_cl, z_add, z_sub, z_mul, z_neg, z_lit, z_leT, z_leF, z_ltT, z_ltF, z_eqT, z_eqF, i_leT, i_leF, i_ltT, i_ltF, i_eqT, i_eqF, z_le, z_lt, z_eq, z_ite, z_at, z_pt, z_up, z_wr, z_wi1, z_wi0, z_wi, z_inS, z_toInt, z_nb0, z_nb1, Int.cast_ofNat_Int, true_and, and_true, not_true_eq_false, not_false_eq_true, false_imp_iff, true_imp_iff, aup_o, aup_k, ite_true, ite_false, z_fa000, z_fa001, z_fa010, z_fa011, z_fa100, z_fa101, z_fa110, z_fa111, if_true, if_false]; exact hQ 0
    · simp (disch := omega) only [z_app, z_lit, z_neg, z_wi1, z_wi0, z_leT, z_leF, z_ltT, z_ltF, z_eqT, z_eqF, Int.cast_ofNat_Int, true_and, and_true, not_true_eq_false, not_false_eq_true, false_imp_iff, true_imp_iff, ite_true, ite_false, if_true, if_false]
      refine ⟨Or.inl trivial, m_cannot hw hJ hr it0 (fun h9 => ?_) (fun h9 => ?_)⟩
      · clear h9; simp (disch := omega) only [z_app, z_rd, z_cl, z_add, z_sub, z_mul, z_neg, z_lit, z_leT, z_leF, z_ltT, z_ltF, z_eqT, z_eqF, i_leT, i_leF, i_ltT, i_ltF, i_eqT, i_eqF, z_le, z_lt, z_eq, z_ite, z_at, z_pt, z_up, z_wr, z_wi1, z_wi0, z_wi, z_inS, z_toInt, z_nb0, z_nb1, Int.cast_ofNat_Int, true_and, and_true, not_true_eq_false, not_false_eq_true, false_imp_iff, true_imp_iff, aup_o, aup_k, ite_true, ite_false, z_fa000, z_fa001, z_fa010, z_fa011, z_fa100, z_fa101, z_fa110, z_fa111, if_true, if_false]; exact hQ 0
      · clear h9; simp (disch := omega) only [z_app, z_rd, z_cl, z_add, z_sub, z_mul, z_neg, z_lit, z_leT, z_leF, z_ltT, z_ltF, z_eqT, z_eqF, i_leT, i_leF, i_ltT, i_ltF, i_eqT, i_eqF, z_le, z_lt, z_eq, z_ite, z_at, z_pt, z_up, z_wr, z_wi1, z_wi0, z_wi, z_inS, z_toInt, z_nb0, z_nb1, Int.cast_ofNat_Int, true_and, and_true, not_true_eq_false, not_false_eq_true, false_imp_iff, true_imp_iff, aup_o, aup_k, ite_true, ite_false, z_fa000, z_fa001, z_fa010, z_fa011, z_fa100, z_fa101, z_fa110, z_fa111, if_true, if_false]; exact hQ 0
theorem mx_262a (hw : qWF g) (hJ : jJ s) (ia : i32 a) (ib : i32 b) (ic : i32 c) (it : i32 tx) (hI : ¬ bI s 262 a b tx) (hA : bA 262 a b c) : mP g (d + 10) mX10_send [.inl (iI a), .inl (iI b), .inl (iI c), .inl (iI tx)] s s (.inr 1) := by
  have hx : (0 ≤ a ∧ a ≤ 3) ∧ (-1 ≤ tx ∧ tx ≤ 3) := by unfold bI at hI; omega
  have hbc : ¬ ((0 ≤ b ∧ b ≤ 9999) ∧ (0 ≤ c ∧ c ≤ 20)) := by unfold bA at hA; omega
  clear hI hA
  have it0 := it
  unfold i32 at ia ib ic it
  refine m_thrP fun m Q hrJ hQ => wX10_send hw (wX10_isTopic hw ?_)
  have hr := hrJ.1
  by_cases hb : 0 ≤ b ∧ b ≤ 9999
  · have hc : c < 0 ∨ 20 < c := by omega
    simp (disch := omega) only [z_app, z_lit, z_neg, z_wi1, z_wi0, z_leT, z_leF, z_ltT, z_ltF, z_eqT, z_eqF, Int.cast_ofNat_Int, true_and, and_true, not_true_eq_false, not_false_eq_true, false_imp_iff, true_imp_iff, ite_true, ite_false, if_true, if_false]
    refine ⟨Or.inr trivial, wX10_isTx hw ?_⟩
    simp (disch := omega) only [z_app, z_lit, z_neg, z_wi1, z_wi0, z_leT, z_leF, z_ltT, z_ltF, z_eqT, z_eqF, Int.cast_ofNat_Int, true_and, and_true, not_true_eq_false, not_false_eq_true, false_imp_iff, true_imp_iff, ite_true, ite_false, if_true, if_false]
    refine ⟨Or.inr trivial, m_cannot hw hJ hr it0 (fun h9 => ?_) (fun h9 => ?_)⟩
    · clear h9; simp (disch := omega) only [z_app, z_rd, z_cl, z_add, z_sub, z_mul, z_neg, z_lit, z_leT, z_leF, z_ltT, z_ltF, z_eqT, z_eqF, i_leT, i_leF, i_ltT, i_ltF, i_eqT, i_eqF, z_le, z_lt, z_eq, z_ite, z_at, z_pt, z_up, z_wr, z_wi1, z_wi0, z_wi, z_inS, z_toInt, z_nb0, z_nb1, Int.cast_ofNat_Int, true_and, and_true, not_true_eq_false, not_false_eq_true, false_imp_iff, true_imp_iff, aup_o, aup_k, ite_true, ite_false, z_fa000, z_fa001, z_fa010, z_fa011, z_fa100, z_fa101, z_fa110, z_fa111, if_true, if_false]; exact hQ 0
    · clear h9; simp (disch := omega) only [z_app, z_rd, z_cl, z_add, z_sub, z_mul, z_neg, z_lit, z_leT, z_leF, z_ltT, z_ltF, z_eqT, z_eqF, i_leT, i_leF, i_ltT, i_ltF, i_eqT, i_eqF, z_le, z_lt, z_eq, z_ite, z_at, z_pt, z_up, z_wr, z_wi1, z_wi0, z_wi, z_inS, z_toInt, z_nb0, z_nb1, Int.cast_ofNat_Int, true_and, and_true, not_true_eq_false, not_false_eq_true, false_imp_iff, true_imp_iff, aup_o, aup_k, ite_true, ite_false, z_fa000, z_fa001, z_fa010, z_fa011, z_fa100, z_fa101, z_fa110, z_fa111, if_true, if_false]; exact hQ 0
  · simp (disch := omega) only [z_app, z_lit, z_neg, z_wi1, z_wi0, z_leT, z_leF, z_ltT, z_ltF, z_eqT, z_eqF, Int.cast_ofNat_Int, true_and, and_true, not_true_eq_false, not_false_eq_true, false_imp_iff, true_imp_iff, ite_true, ite_false, if_true, if_false]
    refine ⟨Or.inr trivial, wX10_isTx hw ?_⟩
    simp (disch := omega) only [z_app, z_lit, z_neg, z_wi1, z_wi0, z_leT, z_leF, z_ltT, z_ltF, z_eqT, z_eqF, Int.cast_ofNat_Int, true_and, and_true, not_true_eq_false, not_false_eq_true, false_imp_iff, true_imp_iff, ite_true, ite_false, if_true, if_false]
    refine ⟨Or.inr trivial, m_cannot hw hJ hr it0 (fun h9 => ?_) (fun h9 => ?_)⟩
    · clear h9; simp (disch := omega) only [z_app, z_rd, z_cl, z_add, z_sub, z_mul, z_neg, z_lit, z_leT, z_leF, z_ltT, z_ltF, z_eqT, z_eqF, i_leT, i_leF, i_ltT, i_ltF, i_eqT, i_eqF, z_le, z_lt, z_eq, z_ite, z_at, z_pt, z_up, z_wr, z_wi1, z_wi0, z_wi, z_inS, z_toInt, z_nb0, z_nb1, Int.cast_ofNat_Int, true_and, and_true, not_true_eq_false, not_false_eq_true, false_imp_iff, true_imp_iff, aup_o, aup_k, ite_true, ite_false, z_fa000, z_fa001, z_fa010, z_fa011, z_fa100, z_fa101, z_fa110, z_fa111, if_true, if_false]; exact hQ 0
    · clear h9; simp (disch := omega) only [z_app, z_rd, z_cl, z_add, z_sub, z_mul, z_neg, z_lit, z_leT, z_leF, z_ltT, z_ltF, z_eqT, z_eqF, i_leT, i_leF, i_ltT, i_ltF, i_eqT, i_eqF, z_le, z_lt, z_eq, z_ite, z_at, z_pt, z_up, z_wr, z_wi1, z_wi0, z_wi, z_inS, z_toInt, z_nb0, z_nb1, Int.cast_ofNat_Int, true_and, and_true, not_true_eq_false, not_false_eq_true, false_imp_iff, true_imp_iff, aup_o, aup_k, ite_true, ite_false, z_fa000, z_fa001, z_fa010, z_fa011, z_fa100, z_fa101, z_fa110, z_fa111, if_true, if_false]; exact hQ 0
theorem mx_262s (hw : qWF g) (hJ : jJ s) (ia : i32 a) (ib : i32 b) (ic : i32 c) (it : i32 tx) (hI : ¬ bI s 262 a b tx) (hA : ¬ bA 262 a b c) (hS : bS s 262 a tx) : mP g (d + 10) mX10_send [.inl (iI a), .inl (iI b), .inl (iI c), .inl (iI tx)] s s (.inr 2) := by
  have hx : (0 ≤ a ∧ a ≤ 3) ∧ (-1 ≤ tx ∧ tx ≤ 3) := by unfold bI at hI; omega
  have hbc : (0 ≤ b ∧ b ≤ 9999) ∧ (0 ≤ c ∧ c ≤ 20) := by unfold bA at hA; omega
  have hs : ∃ _ : Unit, 400 ≤ s 2 9 ∨ (0 ≤ tx ∧ tx ≤ 3 ∧ s 55 tx = -1) := ⟨(), by unfold bS at hS; omega⟩
  clear hI hA hS
  have it0 := it
  unfold i32 at ia ib ic it
  refine m_thrP fun m Q hrJ hQ => wX10_send hw (wX10_isTopic hw ?_)
  have hr := hrJ.1
  simp (disch := omega) only [z_app, z_lit, z_neg, z_wi1, z_wi0, z_leT, z_leF, z_ltT, z_ltF, z_eqT, z_eqF, Int.cast_ofNat_Int, true_and, and_true, not_true_eq_false, not_false_eq_true, false_imp_iff, true_imp_iff, ite_true, ite_false, if_true, if_false]
  refine ⟨Or.inr trivial, wX10_isTx hw ?_⟩
  simp (disch := omega) only [z_app, z_lit, z_neg, z_wi1, z_wi0, z_leT, z_leF, z_ltT, z_ltF, z_eqT, z_eqF, Int.cast_ofNat_Int, true_and, and_true, not_true_eq_false, not_false_eq_true, false_imp_iff, true_imp_iff, ite_true, ite_false, if_true, if_false]
  refine ⟨Or.inr trivial, m_cannot hw hJ hr it0 (fun h9 => ?_) (fun h9 => (let ⟨_, h⟩ := hs; h9 h).elim)⟩
  clear h9; simp (disch := omega) only [z_app, z_rd, z_cl, z_add, z_sub, z_mul, z_neg, z_lit, z_leT, z_leF, z_ltT, z_ltF, z_eqT, z_eqF, i_leT, i_leF, i_ltT, i_ltF, i_eqT, i_eqF, z_le, z_lt, z_eq, z_ite, z_at, z_pt, z_up, z_wr, z_wi1, z_wi0, z_wi, z_inS, z_toInt, z_nb0, z_nb1, Int.cast_ofNat_Int, true_and, and_true, not_true_eq_false, not_false_eq_true, false_imp_iff, true_imp_iff, aup_o, aup_k, ite_true, ite_false, z_fa000, z_fa001, z_fa010, z_fa011, z_fa100, z_fa101, z_fa110, z_fa111, if_true, if_false]; exact hQ 0
theorem mx_262r (hw : qWF g) (hJ : jJ s) (ia : i32 a) (ib : i32 b) (ic : i32 c) (it : i32 tx) (hI : ¬ bI s 262 a b tx) (hA : ¬ bA 262 a b c) (hS : ¬ bS s 262 a tx) : mP g (d + 10) mX10_send [.inl (iI a), .inl (iI b), .inl (iI c), .inl (iI tx)] s (stS (opS s 262 a b c tx)) (.inl (opA s 262 a b c tx)) := by
  have hx : (0 ≤ a ∧ a ≤ 3) ∧ (-1 ≤ tx ∧ tx ≤ 3) := by unfold bI at hI; omega
  have hbc : (0 ≤ b ∧ b ≤ 9999) ∧ (0 ≤ c ∧ c ≤ 20) := by unfold bA at hA; omega
  have hs : ∃ _ : Unit, ¬ (400 ≤ s 2 9 ∨ (0 ≤ tx ∧ tx ≤ 3 ∧ s 55 tx = -1)) := ⟨(), by unfold bS at hS; unfold bI at hI; omega⟩
  have E := fun (m : aS) (Q : Int32 → qS → Prop) (hr0 : rL s (aup m 86 0 0)) hQ => m_eff262 (d := d + 2) (T := fun _ _ => False) (Q := Q) hw hJ hr0 hI hA hS hQ
  clear hI hA hS
  have it0 := it
  unfold i32 at ia ib ic it
  refine m_op_retP (fun x hx => sto s _ _ _ _ _ hx) fun m Q hr0 hQ hr => wX10_send hw (wX10_isTopic hw ?_)
  simp (disch := omega) only [z_app, z_lit, z_neg, z_wi1, z_wi0, z_leT, z_leF, z_ltT, z_ltF, z_eqT, z_eqF, Int.cast_ofNat_Int, true_and, and_true, not_true_eq_false, not_false_eq_true, false_imp_iff, true_imp_iff, ite_true, ite_false, if_true, if_false]
  refine ⟨Or.inr trivial, wX10_isTx hw ?_⟩
  simp (disch := omega) only [z_app, z_lit, z_neg, z_wi1, z_wi0, z_leT, z_leF, z_ltT, z_ltF, z_eqT, z_eqF, Int.cast_ofNat_Int, true_and, and_true, not_true_eq_false, not_false_eq_true, false_imp_iff, true_imp_iff, ite_true, ite_false, if_true, if_false]
  refine ⟨Or.inr trivial, m_cannot hw hJ hr it0 (fun h9 => (let ⟨_, h⟩ := hs; h h9).elim) (fun h9 => ?_)⟩
  clear h9
  simp (disch := omega) only [z_app, z_rd, z_cl, z_add, z_sub, z_mul, z_neg, z_lit, z_leT, z_leF, z_ltT, z_ltF, z_eqT, z_eqF, i_leT, i_leF, i_ltT, i_ltF, i_eqT, i_eqF, z_le, z_lt, z_eq, z_ite, z_at, z_pt, z_up, z_wr, z_wi1, z_wi0, z_wi, z_inS, z_toInt, z_nb0, z_nb1, Int.cast_ofNat_Int, true_and, and_true, not_true_eq_false, not_false_eq_true, false_imp_iff, true_imp_iff, aup_o, aup_k, ite_true, ite_false, z_fa000, z_fa001, z_fa010, z_fa011, z_fa100, z_fa101, z_fa110, z_fa111, if_true, if_false]
  exact E m Q hr0 hQ
theorem mx_263i (hw : qWF g) (hJ : jJ s) (ia : i32 a) (hI : bI s 263 a b (-1)) : mP g (d + 10) mX10_join [.inl (iI a)] s s (.inr 0) := by
  have B : 0 ≤ s 26 6 ∧ s 26 6 ≤ 6 ∧ 0 ≤ s 2 9 ∧ s 2 9 ≤ 400 := by have := jb hJ; omega
  have hx : ¬ (0 ≤ a ∧ a ≤ 3) := by unfold bI at hI; omega
  clear hI
  unfold i32 at ia
  refine m_thrP fun m Q hrJ hQ => wX10_join hw (wX10_isTopic hw ?_)
  have e27 := rs_27 hrJ.1
  have e15 := rs_15 hrJ.1
  by_cases h6 : s 26 6 = 6
  · simp (disch := omega) only [z_app, z_rd, z_cl, z_add, z_sub, z_mul, z_neg, z_lit, z_leT, z_leF, z_ltT, z_ltF, z_eqT, z_eqF, i_leT, i_leF, i_ltT, i_ltF, i_eqT, i_eqF, z_le, z_lt, z_eq, z_ite, z_at, z_pt, z_up, z_wr, z_wi1, z_wi0, z_wi, z_inS, z_toInt, z_nb0, z_nb1, Int.cast_ofNat_Int, true_and, and_true, not_true_eq_false, not_false_eq_true, false_imp_iff, true_imp_iff, aup_o, aup_k, ite_true, ite_false, z_fa000, z_fa001, z_fa010, z_fa011, z_fa100, z_fa101, z_fa110, z_fa111, if_true, if_false, e27]
    refine ⟨Or.inl trivial, wX10_join_34 hw ?_⟩
    simp (disch := omega) only [z_app, z_rd, z_cl, z_add, z_sub, z_mul, z_neg, z_lit, z_leT, z_leF, z_ltT, z_ltF, z_eqT, z_eqF, i_leT, i_leF, i_ltT, i_ltF, i_eqT, i_eqF, z_le, z_lt, z_eq, z_ite, z_at, z_pt, z_up, z_wr, z_wi1, z_wi0, z_wi, z_inS, z_toInt, z_nb0, z_nb1, Int.cast_ofNat_Int, true_and, and_true, not_true_eq_false, not_false_eq_true, false_imp_iff, true_imp_iff, aup_o, aup_k, ite_true, ite_false, z_fa000, z_fa001, z_fa010, z_fa011, z_fa100, z_fa101, z_fa110, z_fa111, if_true, if_false]
    exact hQ 0
  · by_cases hf : s 2 9 = 400
    · simp (disch := omega) only [z_app, z_rd, z_cl, z_add, z_sub, z_mul, z_neg, z_lit, z_leT, z_leF, z_ltT, z_ltF, z_eqT, z_eqF, i_leT, i_leF, i_ltT, i_ltF, i_eqT, i_eqF, z_le, z_lt, z_eq, z_ite, z_at, z_pt, z_up, z_wr, z_wi1, z_wi0, z_wi, z_inS, z_toInt, z_nb0, z_nb1, Int.cast_ofNat_Int, true_and, and_true, not_true_eq_false, not_false_eq_true, false_imp_iff, true_imp_iff, aup_o, aup_k, ite_true, ite_false, z_fa000, z_fa001, z_fa010, z_fa011, z_fa100, z_fa101, z_fa110, z_fa111, if_true, if_false, e27, e15]
      refine ⟨Or.inl trivial, wX10_join_34 hw ?_⟩
      simp (disch := omega) only [z_app, z_rd, z_cl, z_add, z_sub, z_mul, z_neg, z_lit, z_leT, z_leF, z_ltT, z_ltF, z_eqT, z_eqF, i_leT, i_leF, i_ltT, i_ltF, i_eqT, i_eqF, z_le, z_lt, z_eq, z_ite, z_at, z_pt, z_up, z_wr, z_wi1, z_wi0, z_wi, z_inS, z_toInt, z_nb0, z_nb1, Int.cast_ofNat_Int, true_and, and_true, not_true_eq_false, not_false_eq_true, false_imp_iff, true_imp_iff, aup_o, aup_k, ite_true, ite_false, z_fa000, z_fa001, z_fa010, z_fa011, z_fa100, z_fa101, z_fa110, z_fa111, if_true, if_false]
      exact hQ 0
    · simp (disch := omega) only [z_app, z_rd, z_cl, z_add, z_sub, z_mul, z_neg, z_lit, z_leT, z_leF, z_ltT, z_ltF, z_eqT, z_eqF, i_leT, i_leF, i_ltT, i_ltF, i_eqT, i_eqF, z_le, z_lt, z_eq, z_ite, z_at, z_pt, z_up, z_wr, z_wi1, z_wi0, z_wi, z_inS, z_toInt, z_nb0, z_nb1, Int.cast_ofNat_Int, true_and, and_true, not_true_eq_false, not_false_eq_true, false_imp_iff, true_imp_iff, aup_o, aup_k, ite_true, ite_false, z_fa000, z_fa001, z_fa010, z_fa011, z_fa100, z_fa101, z_fa110, z_fa111, if_true, if_false, e27, e15]
      refine ⟨Or.inl trivial, wX10_join_34 hw ?_⟩
      simp (disch := omega) only [z_app, z_rd, z_cl, z_add, z_sub, z_mul, z_neg, z_lit, z_leT, z_leF, z_ltT, z_ltF, z_eqT, z_eqF, i_leT, i_leF, i_ltT, i_ltF, i_eqT, i_eqF, z_le, z_lt, z_eq, z_ite, z_at, z_pt, z_up, z_wr, z_wi1, z_wi0, z_wi, z_inS, z_toInt, z_nb0, z_nb1, Int.cast_ofNat_Int, true_and, and_true, not_true_eq_false, not_false_eq_true, false_imp_iff, true_imp_iff, aup_o, aup_k, ite_true, ite_false, z_fa000, z_fa001, z_fa010, z_fa011, z_fa100, z_fa101, z_fa110, z_fa111, if_true, if_false]
      exact hQ 0
theorem mx_263s (hw : qWF g) (hJ : jJ s) (hI : ¬ bI s 263 a b (-1)) (hS : bS s 263 a (-1)) : mP g (d + 10) mX10_join [.inl (iI a)] s s (.inr 1) := by
  have B : 0 ≤ s 26 6 ∧ s 26 6 ≤ 6 ∧ 0 ≤ s 2 9 ∧ s 2 9 ≤ 400 := by have := jb hJ; omega
  have hx : 0 ≤ a ∧ a ≤ 3 := by unfold bI at hI; omega
  have hs : 400 ≤ s 2 9 ∨ 6 ≤ s 26 6 := by unfold bS at hS; omega
  clear hI hS
  refine m_thrP fun m Q hrJ hQ => wX10_join hw (wX10_isTopic hw ?_)
  have e27 := rs_27 hrJ.1
  have e15 := rs_15 hrJ.1
  by_cases h6 : s 26 6 = 6
  · simp (disch := omega) only [z_app, z_rd, z_cl, z_add, z_sub, z_mul, z_neg, z_lit, z_leT, z_leF, z_ltT, z_ltF, z_eqT, z_eqF, i_leT, i_leF, i_ltT, i_ltF, i_eqT, i_eqF, z_le, z_lt, z_eq, z_ite, z_at, z_pt, z_up, z_wr, z_wi1, z_wi0, z_wi, z_inS, z_toInt, z_nb0, z_nb1, Int.cast_ofNat_Int, true_and, and_true, not_true_eq_false, not_false_eq_true, false_imp_iff, true_imp_iff, aup_o, aup_k, ite_true, ite_false, z_fa000, z_fa001, z_fa010, z_fa011, z_fa100, z_fa101, z_fa110, z_fa111, if_true, if_false, e27]
    refine ⟨Or.inr trivial, wX10_join_34 hw ?_⟩
    simp (disch := omega) only [z_app, z_rd, z_cl, z_add, z_sub, z_mul, z_neg, z_lit, z_leT, z_leF, z_ltT, z_ltF, z_eqT, z_eqF, i_leT, i_leF, i_ltT, i_ltF, i_eqT, i_eqF, z_le, z_lt, z_eq, z_ite, z_at, z_pt, z_up, z_wr, z_wi1, z_wi0, z_wi, z_inS, z_toInt, z_nb0, z_nb1, Int.cast_ofNat_Int, true_and, and_true, not_true_eq_false, not_false_eq_true, false_imp_iff, true_imp_iff, aup_o, aup_k, ite_true, ite_false, z_fa000, z_fa001, z_fa010, z_fa011, z_fa100, z_fa101, z_fa110, z_fa111, if_true, if_false]
    exact hQ 0
  · have hf : s 2 9 = 400 := by omega
    simp (disch := omega) only [z_app, z_rd, z_cl, z_add, z_sub, z_mul, z_neg, z_lit, z_leT, z_leF, z_ltT, z_ltF, z_eqT, z_eqF, i_leT, i_leF, i_ltT, i_ltF, i_eqT, i_eqF, z_le, z_lt, z_eq, z_ite, z_at, z_pt, z_up, z_wr, z_wi1, z_wi0, z_wi, z_inS, z_toInt, z_nb0, z_nb1, Int.cast_ofNat_Int, true_and, and_true, not_true_eq_false, not_false_eq_true, false_imp_iff, true_imp_iff, aup_o, aup_k, ite_true, ite_false, z_fa000, z_fa001, z_fa010, z_fa011, z_fa100, z_fa101, z_fa110, z_fa111, if_true, if_false, e27, e15]
    refine ⟨Or.inr trivial, wX10_join_34 hw ?_⟩
    simp (disch := omega) only [z_app, z_rd, z_cl, z_add, z_sub, z_mul, z_neg, z_lit, z_leT, z_leF, z_ltT, z_ltF, z_eqT, z_eqF, i_leT, i_leF, i_ltT, i_ltF, i_eqT, i_eqF, z_le, z_lt, z_eq, z_ite, z_at, z_pt, z_up, z_wr, z_wi1, z_wi0, z_wi, z_inS, z_toInt, z_nb0, z_nb1, Int.cast_ofNat_Int, true_and, and_true, not_true_eq_false, not_false_eq_true, false_imp_iff, true_imp_iff, aup_o, aup_k, ite_true, ite_false, z_fa000, z_fa001, z_fa010, z_fa011, z_fa100, z_fa101, z_fa110, z_fa111, if_true, if_false]
    exact hQ 0
theorem mx_263r (hw : qWF g) (hJ : jJ s) (hI : ¬ bI s 263 a b (-1)) (hS : ¬ bS s 263 a (-1)) : mP g (d + 10) mX10_join [.inl (iI a)] s (stS (opS s 263 a b c (-1))) (.inl (opA s 263 a b c (-1))) := by
  have B := jb hJ
  have hx : 0 ≤ a ∧ a < 4 := by unfold bI at hI; omega
  have n1 : s 2 9 < 400 := by unfold bS at hS; omega
  have hc : s 26 6 < 6 := by unfold bS at hS; omega
  have J1 := (p_263 (c := c) hw hJ hI hS).1
  clear hI hS
  have V0 := (hJ.2.2.2.2.1 a hx.1 hx.2).1
  have ho : okR s 7 (-1) (s 26 6) (s 30 a) a := ⟨by omega, by omega, by omega, by omega, by omega, by omega, by omega, by omega, by omega, by omega, by omega, by omega, fun h => by omega⟩
  have ag : agR s (jnS s a) := agR_up (agR_up (agR_up (agR_up (agR_rf s) (Or.inl (by decide)) (by decide)) (Or.inl (by decide)) (by decide)) (Or.inl (by decide)) (by decide)) (Or.inl (by decide)) (by decide)
  refine m_op_retP (fun x hx => sto s _ _ _ _ _ hx) fun m Q hr0 hQ hr => wX10_join hw (wX10_isTopic hw ?_)
  rw [op_263] at J1 hQ
  have e27 := rs_27 hr
  have e15 := rs_15 hr
  have e101 := rv_101 hr hx.1 hx.2
  simp (disch := omega) only [z_app, z_rd, z_cl, z_add, z_sub, z_mul, z_neg, z_lit, z_leT, z_leF, z_ltT, z_ltF, z_eqT, z_eqF, i_leT, i_leF, i_ltT, i_ltF, i_eqT, i_eqF, z_le, z_lt, z_eq, z_ite, z_at, z_pt, z_up, z_wr, z_wi1, z_wi0, z_wi, z_inS, z_toInt, z_nb0, z_nb1, Int.cast_ofNat_Int, true_and, and_true, not_true_eq_false, not_false_eq_true, false_imp_iff, true_imp_iff, aup_o, aup_k, ite_true, ite_false, z_fa000, z_fa001, z_fa010, z_fa011, z_fa100, z_fa101, z_fa110, z_fa111, if_true, if_false, e27, e15]
  refine ⟨Or.inr trivial, wX10_join_34 hw ?_⟩
  simp (disch := omega) only [z_app, z_rd, z_cl, z_add, z_sub, z_mul, z_neg, z_lit, z_leT, z_leF, z_ltT, z_ltF, z_eqT, z_eqF, i_leT, i_leF, i_ltT, i_ltF, i_eqT, i_eqF, z_le, z_lt, z_eq, z_ite, z_at, z_pt, z_up, z_wr, z_wi1, z_wi0, z_wi, z_inS, z_toInt, z_nb0, z_nb1, Int.cast_ofNat_Int, true_and, and_true, not_true_eq_false, not_false_eq_true, false_imp_iff, true_imp_iff, aup_o, aup_k, ite_true, ite_false, z_fa000, z_fa001, z_fa010, z_fa011, z_fa100, z_fa101, z_fa110, z_fa111, if_true, if_false, e27, e101]
  refine m_effFlush (t := jnS s a) (Q := fun _ s4 => qC g (d + 9) mX10_settle [.inr 86] s4 (fun _ s6 => Q (iI (s 26 6)) s6) (fun _ _ => False)) hw hJ ag rfl rfl (j_hy (s := s) hJ) (rL_jn hJ hr0 hx.1 hx.2 hc) n1 ho (fun b1 h1 f1 => ⟨0, m_settle hw J1 h1 (fun b2 h2 f2 => hQ b2 h2 (mF_tr (mF_tr (mF_86 (by decide) (by decide) (by decide)) (mF_tr (mF_up (by decide) (by decide)) (mF_tr (mF_up (by decide) (by decide)) (mF_up (by decide) (by decide))))) (mF_tr f1 f2)))⟩) (fun _ _ _ h => h)
theorem mx_264i (hw : qWF g) (hJ : jJ s) (ia : i32 a) (ib : i32 b) (hI : bI s 264 a b (-1)) : mP g (d + 10) mX10_read [.inl (iI a), .inl (iI b)] s s (.inr 0) := by
  have B : 0 ≤ s 26 6 ∧ s 26 6 ≤ 6 ∧ 0 ≤ s 2 9 ∧ s 2 9 ≤ 400 := by have := jb hJ; omega
  have hx : ¬ (0 ≤ a ∧ a < s 26 6) := by unfold bI at hI; omega
  clear hI
  unfold i32 at ia ib
  refine m_thrP fun m Q hrJ hQ => wX10_read hw (wX10_isConsumer hw ?_)
  have e27 := rs_27 hrJ.1
  have e15 := rs_15 hrJ.1
  by_cases hb : 1 ≤ b ∧ b ≤ 50
  · simp (disch := omega) only [z_app, z_rd, z_cl, z_add, z_sub, z_mul, z_neg, z_lit, z_leT, z_leF, z_ltT, z_ltF, z_eqT, z_eqF, i_leT, i_leF, i_ltT, i_ltF, i_eqT, i_eqF, z_le, z_lt, z_eq, z_ite, z_at, z_pt, z_up, z_wr, z_wi1, z_wi0, z_wi, z_inS, z_toInt, z_nb0, z_nb1, Int.cast_ofNat_Int, true_and, and_true, not_true_eq_false, not_false_eq_true, false_imp_iff, true_imp_iff, aup_o, aup_k, ite_true, ite_false, z_fa000, z_fa001, z_fa010, z_fa011, z_fa100, z_fa101, z_fa110, z_fa111, if_true, if_false, e27]
    refine ⟨Or.inl trivial, wX10_read_29 hw ?_⟩
    by_cases hf : s 2 9 = 400
    · simp (disch := omega) only [z_app, z_rd, z_cl, z_add, z_sub, z_mul, z_neg, z_lit, z_leT, z_leF, z_ltT, z_ltF, z_eqT, z_eqF, i_leT, i_leF, i_ltT, i_ltF, i_eqT, i_eqF, z_le, z_lt, z_eq, z_ite, z_at, z_pt, z_up, z_wr, z_wi1, z_wi0, z_wi, z_inS, z_toInt, z_nb0, z_nb1, Int.cast_ofNat_Int, true_and, and_true, not_true_eq_false, not_false_eq_true, false_imp_iff, true_imp_iff, aup_o, aup_k, ite_true, ite_false, z_fa000, z_fa001, z_fa010, z_fa011, z_fa100, z_fa101, z_fa110, z_fa111, if_true, if_false, e15]
      exact hQ 0
    · simp (disch := omega) only [z_app, z_rd, z_cl, z_add, z_sub, z_mul, z_neg, z_lit, z_leT, z_leF, z_ltT, z_ltF, z_eqT, z_eqF, i_leT, i_leF, i_ltT, i_ltF, i_eqT, i_eqF, z_le, z_lt, z_eq, z_ite, z_at, z_pt, z_up, z_wr, z_wi1, z_wi0, z_wi, z_inS, z_toInt, z_nb0, z_nb1, Int.cast_ofNat_Int, true_and, and_true, not_true_eq_false, not_false_eq_true, false_imp_iff, true_imp_iff, aup_o, aup_k, ite_true, ite_false, z_fa000, z_fa001, z_fa010, z_fa011, z_fa100, z_fa101, z_fa110, z_fa111, if_true, if_false, e15]
      exact hQ 0
  · simp (disch := omega) only [z_app, z_rd, z_cl, z_add, z_sub, z_mul, z_neg, z_lit, z_leT, z_leF, z_ltT, z_ltF, z_eqT, z_eqF, i_leT, i_leF, i_ltT, i_ltF, i_eqT, i_eqF, z_le, z_lt, z_eq, z_ite, z_at, z_pt, z_up, z_wr, z_wi1, z_wi0, z_wi, z_inS, z_toInt, z_nb0, z_nb1, Int.cast_ofNat_Int, true_and, and_true, not_true_eq_false, not_false_eq_true, false_imp_iff, true_imp_iff, aup_o, aup_k, ite_true, ite_false, z_fa000, z_fa001, z_fa010, z_fa011, z_fa100, z_fa101, z_fa110, z_fa111, if_true, if_false, e27]
    refine ⟨Or.inl trivial, wX10_read_29 hw ?_⟩
    by_cases hf : s 2 9 = 400
    · simp (disch := omega) only [z_app, z_rd, z_cl, z_add, z_sub, z_mul, z_neg, z_lit, z_leT, z_leF, z_ltT, z_ltF, z_eqT, z_eqF, i_leT, i_leF, i_ltT, i_ltF, i_eqT, i_eqF, z_le, z_lt, z_eq, z_ite, z_at, z_pt, z_up, z_wr, z_wi1, z_wi0, z_wi, z_inS, z_toInt, z_nb0, z_nb1, Int.cast_ofNat_Int, true_and, and_true, not_true_eq_false, not_false_eq_true, false_imp_iff, true_imp_iff, aup_o, aup_k, ite_true, ite_false, z_fa000, z_fa001, z_fa010, z_fa011, z_fa100, z_fa101, z_fa110, z_fa111, if_true, if_false, e15]
      exact hQ 0
    · simp (disch := omega) only [z_app, z_rd, z_cl, z_add, z_sub, z_mul, z_neg, z_lit, z_leT, z_leF, z_ltT, z_ltF, z_eqT, z_eqF, i_leT, i_leF, i_ltT, i_ltF, i_eqT, i_eqF, z_le, z_lt, z_eq, z_ite, z_at, z_pt, z_up, z_wr, z_wi1, z_wi0, z_wi, z_inS, z_toInt, z_nb0, z_nb1, Int.cast_ofNat_Int, true_and, and_true, not_true_eq_false, not_false_eq_true, false_imp_iff, true_imp_iff, aup_o, aup_k, ite_true, ite_false, z_fa000, z_fa001, z_fa010, z_fa011, z_fa100, z_fa101, z_fa110, z_fa111, if_true, if_false, e15]
      exact hQ 0
theorem mx_264a (hw : qWF g) (hJ : jJ s) (ib : i32 b) (hI : ¬ bI s 264 a b (-1)) (hA : bA 264 a b c) : mP g (d + 10) mX10_read [.inl (iI a), .inl (iI b)] s s (.inr 1) := by
  have B : 0 ≤ s 26 6 ∧ s 26 6 ≤ 6 ∧ 0 ≤ s 2 9 ∧ s 2 9 ≤ 400 := by have := jb hJ; omega
  have hx : 0 ≤ a ∧ a < s 26 6 := by unfold bI at hI; omega
  have hb : ¬ (1 ≤ b ∧ b ≤ 50) := by unfold bA at hA; omega
  clear hI hA
  unfold i32 at ib
  refine m_thrP fun m Q hrJ hQ => wX10_read hw (wX10_isConsumer hw ?_)
  have e27 := rs_27 hrJ.1
  have e15 := rs_15 hrJ.1
  simp (disch := omega) only [z_app, z_rd, z_cl, z_add, z_sub, z_mul, z_neg, z_lit, z_leT, z_leF, z_ltT, z_ltF, z_eqT, z_eqF, i_leT, i_leF, i_ltT, i_ltF, i_eqT, i_eqF, z_le, z_lt, z_eq, z_ite, z_at, z_pt, z_up, z_wr, z_wi1, z_wi0, z_wi, z_inS, z_toInt, z_nb0, z_nb1, Int.cast_ofNat_Int, true_and, and_true, not_true_eq_false, not_false_eq_true, false_imp_iff, true_imp_iff, aup_o, aup_k, ite_true, ite_false, z_fa000, z_fa001, z_fa010, z_fa011, z_fa100, z_fa101, z_fa110, z_fa111, if_true, if_false, e27]
  refine ⟨Or.inr trivial, wX10_read_29 hw ?_⟩
  by_cases hf : s 2 9 = 400
  · simp (disch := omega) only [z_app, z_rd, z_cl, z_add, z_sub, z_mul, z_neg, z_lit, z_leT, z_leF, z_ltT, z_ltF, z_eqT, z_eqF, i_leT, i_leF, i_ltT, i_ltF, i_eqT, i_eqF, z_le, z_lt, z_eq, z_ite, z_at, z_pt, z_up, z_wr, z_wi1, z_wi0, z_wi, z_inS, z_toInt, z_nb0, z_nb1, Int.cast_ofNat_Int, true_and, and_true, not_true_eq_false, not_false_eq_true, false_imp_iff, true_imp_iff, aup_o, aup_k, ite_true, ite_false, z_fa000, z_fa001, z_fa010, z_fa011, z_fa100, z_fa101, z_fa110, z_fa111, if_true, if_false, e15]
    exact hQ 0
  · simp (disch := omega) only [z_app, z_rd, z_cl, z_add, z_sub, z_mul, z_neg, z_lit, z_leT, z_leF, z_ltT, z_ltF, z_eqT, z_eqF, i_leT, i_leF, i_ltT, i_ltF, i_eqT, i_eqF, z_le, z_lt, z_eq, z_ite, z_at, z_pt, z_up, z_wr, z_wi1, z_wi0, z_wi, z_inS, z_toInt, z_nb0, z_nb1, Int.cast_ofNat_Int, true_and, and_true, not_true_eq_false, not_false_eq_true, false_imp_iff, true_imp_iff, aup_o, aup_k, ite_true, ite_false, z_fa000, z_fa001, z_fa010, z_fa011, z_fa100, z_fa101, z_fa110, z_fa111, if_true, if_false, e15]
    exact hQ 0
theorem mx_264s (hw : qWF g) (hJ : jJ s) (hI : ¬ bI s 264 a b (-1)) (hA : ¬ bA 264 a b c) (hS : bS s 264 a (-1)) : mP g (d + 10) mX10_read [.inl (iI a), .inl (iI b)] s s (.inr 2) := by
  have B : 0 ≤ s 26 6 ∧ s 26 6 ≤ 6 ∧ 0 ≤ s 2 9 ∧ s 2 9 ≤ 400 := by have := jb hJ; omega
  have hx : 0 ≤ a ∧ a < s 26 6 := by unfold bI at hI; omega
  have hb : 1 ≤ b ∧ b ≤ 50 := by unfold bA at hA; omega
  have hf : s 2 9 = 400 := by unfold bS at hS; omega
  clear hI hA hS
  refine m_thrP fun m Q hrJ hQ => wX10_read hw (wX10_isConsumer hw ?_)
  have e27 := rs_27 hrJ.1
  have e15 := rs_15 hrJ.1
  simp (disch := omega) only [z_app, z_rd, z_cl, z_add, z_sub, z_mul, z_neg, z_lit, z_leT, z_leF, z_ltT, z_ltF, z_eqT, z_eqF, i_leT, i_leF, i_ltT, i_ltF, i_eqT, i_eqF, z_le, z_lt, z_eq, z_ite, z_at, z_pt, z_up, z_wr, z_wi1, z_wi0, z_wi, z_inS, z_toInt, z_nb0, z_nb1, Int.cast_ofNat_Int, true_and, and_true, not_true_eq_false, not_false_eq_true, false_imp_iff, true_imp_iff, aup_o, aup_k, ite_true, ite_false, z_fa000, z_fa001, z_fa010, z_fa011, z_fa100, z_fa101, z_fa110, z_fa111, if_true, if_false, e27]
  refine ⟨Or.inr trivial, wX10_read_29 hw ?_⟩
  simp (disch := omega) only [z_app, z_rd, z_cl, z_add, z_sub, z_mul, z_neg, z_lit, z_leT, z_leF, z_ltT, z_ltF, z_eqT, z_eqF, i_leT, i_leF, i_ltT, i_ltF, i_eqT, i_eqF, z_le, z_lt, z_eq, z_ite, z_at, z_pt, z_up, z_wr, z_wi1, z_wi0, z_wi, z_inS, z_toInt, z_nb0, z_nb1, Int.cast_ofNat_Int, true_and, and_true, not_true_eq_false, not_false_eq_true, false_imp_iff, true_imp_iff, aup_o, aup_k, ite_true, ite_false, z_fa000, z_fa001, z_fa010, z_fa011, z_fa100, z_fa101, z_fa110, z_fa111, if_true, if_false, e15]
  exact hQ 0
theorem mx_264r (hw : qWF g) (hJ : jJ s) (hI : ¬ bI s 264 a b (-1)) (hA : ¬ bA 264 a b c) (hS : ¬ bS s 264 a (-1)) : mP g (d + 10) mX10_read [.inl (iI a), .inl (iI b)] s (stS (opS s 264 a b c (-1))) (.inl (opA s 264 a b c (-1))) := by
  have B : 0 ≤ s 26 6 ∧ s 26 6 ≤ 6 ∧ 0 ≤ s 2 9 ∧ s 2 9 ≤ 400 := by have := jb hJ; omega
  have hx : 0 ≤ a ∧ a < s 26 6 := by unfold bI at hI; omega
  have hb : 1 ≤ b ∧ b ≤ 50 := by unfold bA at hA; omega
  have n1 : s 2 9 < 400 := by unfold bS at hS; omega
  have J1 := (p_264 (c := c) hw hJ hI hA hS).1
  clear hI hA hS
  have C := jc hJ hx.1 hx.2
  have R := rd_b hJ hx.1 hx.2 hb.1 hb.2
  refine m_op_retP (fun x hx => sto s _ _ _ _ _ hx) fun m Q hr0 hQ hr => wX10_read hw (wX10_isConsumer hw ?_)
  have e27 := rs_27 hr
  have e15 := rs_15 hr
  have e102 := rc_102 hr hx.1 hx.2
  simp (disch := omega) only [z_app, z_rd, z_cl, z_add, z_sub, z_mul, z_neg, z_lit, z_leT, z_leF, z_ltT, z_ltF, z_eqT, z_eqF, i_leT, i_leF, i_ltT, i_ltF, i_eqT, i_eqF, z_le, z_lt, z_eq, z_ite, z_at, z_pt, z_up, z_wr, z_wi1, z_wi0, z_wi, z_inS, z_toInt, z_nb0, z_nb1, Int.cast_ofNat_Int, true_and, and_true, not_true_eq_false, not_false_eq_true, false_imp_iff, true_imp_iff, aup_o, aup_k, ite_true, ite_false, z_fa000, z_fa001, z_fa010, z_fa011, z_fa100, z_fa101, z_fa110, z_fa111, if_true, if_false, e27]
  refine ⟨Or.inr trivial, wX10_read_29 hw ?_⟩
  simp (disch := omega) only [z_app, z_rd, z_cl, z_add, z_sub, z_mul, z_neg, z_lit, z_leT, z_leF, z_ltT, z_ltF, z_eqT, z_eqF, i_leT, i_leF, i_ltT, i_ltF, i_eqT, i_eqF, z_le, z_lt, z_eq, z_ite, z_at, z_pt, z_up, z_wr, z_wi1, z_wi0, z_wi, z_inS, z_toInt, z_nb0, z_nb1, Int.cast_ofNat_Int, true_and, and_true, not_true_eq_false, not_false_eq_true, false_imp_iff, true_imp_iff, aup_o, aup_k, ite_true, ite_false, z_fa000, z_fa001, z_fa010, z_fa011, z_fa100, z_fa101, z_fa110, z_fa111, if_true, if_false, e15, e102]
  refine m_unreadOf hw hJ hr0 hx.1 hx.2 ?_
  have en : (if b < s 30 (s 32 a) - s 34 a then b else s 30 (s 32 a) - s 34 a) = rdN s a b := by
    unfold rdN
    split <;> split <;> omega
  simp +contextual (disch := omega) only [z_app, z_rd, z_cl, z_add, z_sub, z_mul, z_neg, z_lit, z_le, z_lt, z_eq, z_ite, z_at, z_pt, z_up, z_wr, z_wi, z_inS, z_toInt, z_nb0, z_nb1, Int.cast_ofNat_Int, true_and, and_true, not_true_eq_false, not_false_eq_true, false_imp_iff, true_imp_iff, aup_o, aup_k, ite_true, ite_false, en]
  refine m_read_l (c := c) (tx := -1) hw hJ hr0 n1 hx.1 hx.2 hb.1 hb.2 J1 hQ 0 _ _ _ (by omega) R.1 ⟨mF_86 (by decide) (by decide) (by decide), fun x x1 _ _ => aup_o x1, fun j hj => by rw [aup_k, if_neg hj], aup_s _ _ _ _, fun j j0 j1 => by omega, fun c' k' p0 p1 p2 p3 => ?_⟩
  rw [aup_o (by decide), if_neg (by omega)]
theorem mx_266s (hw : qWF g) {s : aS} {d : Nat} {a : Int} (hJ : jJ s) (hS : bS s 266 a (-1)) : mP g (d + 10) mX10_checkpoint [] s s (.inr 0) := by
  have B : 0 ≤ s 2 9 ∧ s 2 9 ≤ 400 := by have := jb hJ; omega
  have hf : s 2 9 = 400 := by unfold bS at hS; omega
  refine m_thrP fun m Q hr hQ => wX10_checkpoint hw ?_
  have e15 := rs_15 hr.1
  simp (disch := omega) only [z_app, z_rd, z_cl, z_add, z_sub, z_mul, z_neg, z_lit, z_leT, z_leF, z_ltT, z_ltF, z_eqT, z_eqF, i_leT, i_leF, i_ltT, i_ltF, i_eqT, i_eqF, z_le, z_lt, z_eq, z_ite, z_at, z_pt, z_up, z_wr, z_wi1, z_wi0, z_wi, z_inS, z_toInt, z_nb0, z_nb1, Int.cast_ofNat_Int, true_and, and_true, not_true_eq_false, not_false_eq_true, false_imp_iff, true_imp_iff, aup_o, aup_k, ite_true, ite_false, z_fa000, z_fa001, z_fa010, z_fa011, z_fa100, z_fa101, z_fa110, z_fa111, if_true, if_false, e15]
  exact hQ 0
theorem mx_266r (hw : qWF g) {s : aS} {d : Nat} {a b c : Int} (hJ : jJ s) (hS : ¬ bS s 266 a (-1)) : mP g (d + 10) mX10_checkpoint [] s (stS (opS s 266 a b c (-1))) (.inl (opA s 266 a b c (-1))) := by
  have B := jb hJ
  have n1 : s 2 9 < 400 := by unfold bS at hS; omega
  have J1 := (p_266 (b := b) (c := c) hw hJ hS).1
  have ho : okR s 8 (-1) 0 0 0 := ⟨by omega, by omega, by omega, by omega, by omega, by omega, by omega, by omega, by omega, by omega, by omega, by omega, fun h => by omega⟩
  clear hS
  refine m_op_retP (fun x hx => sto s _ _ _ _ _ hx) fun m Q hr0 hQ hr => wX10_checkpoint hw ?_
  rw [op_266] at J1 hQ
  have e15 := rs_15 hr
  simp (disch := omega) only [z_app, z_rd, z_cl, z_add, z_sub, z_mul, z_neg, z_lit, z_leT, z_leF, z_ltT, z_ltF, z_eqT, z_eqF, i_leT, i_leF, i_ltT, i_ltF, i_eqT, i_eqF, z_le, z_lt, z_eq, z_ite, z_at, z_pt, z_up, z_wr, z_wi1, z_wi0, z_wi, z_inS, z_toInt, z_nb0, z_nb1, Int.cast_ofNat_Int, true_and, and_true, not_true_eq_false, not_false_eq_true, false_imp_iff, true_imp_iff, aup_o, aup_k, ite_true, ite_false, z_fa000, z_fa001, z_fa010, z_fa011, z_fa100, z_fa101, z_fa110, z_fa111, if_true, if_false, e15]
  refine m_layView hw hJ hr0 (by omega) (Int.le_refl _) (fun u hv hx hf => ?_)
  have hru : rL s u := rL_vF hr0 hv
  obtain ⟨r1, r2, r3, r4, r5, r6, r7, r8, r9⟩ := id hru
  refine m_record0 (s := s) (k := 8) (ow := -1) (x := 0) (y := 0) (w := 0) hw hJ r1.1 r1.2.2.2.1 r1.2.2.2.2.2.1 r3 r2 n1 (by omega) (by omega) (by omega) (Or.inl (by omega)) ?_
  have hrl := rL_ad (x := 0) (y := 0) (w := 0) (ow' := -1) (ow := -1) (k := 8) (j_hy hJ) hru (by rw [if_neg (by decide)])
  have x110 : adM s u 8 (-1) 0 0 0 110 = u 110 := am_o _ _ _ _ _ _ _ (by decide)
  have x109 : adM s u 8 (-1) 0 0 0 109 = u 109 := am_o _ _ _ _ _ _ _ (by decide)
  have x27 : adM s u 8 (-1) 0 0 0 86 27 = s 26 6 := by rw [am_86 _ _ _ _ _ _ _ (by decide) (by decide)]; exact rs_27 hru
  refine m_cp36 (s := s) (u := adM s u 8 (-1) 0 0 0) hw (fun q1 h1 => m_cp62 hw (by rw [x110]; exact hx) (fun q2 h2 => m_cp88 hw x27 (by omega) (by omega) (fun q h => ?_) 0 q2 (by omega) (by omega) h2) 0 q1 (by omega) (by omega) h1) 0 _ (by omega) (by omega) ⟨fun _ _ _ _ => rfl, fun i i0 i1 => by omega, fun f f0 f1 => by omega, fun c c0 c1 => by omega⟩
  obtain ⟨q1, q2, q3, q4⟩ := h
  -- the state that the class keeps, before it is flushed
  have hkp : rL (kpS (aup (adS s 8 (-1) 0 0 0) 1 11 (s 2 9))) (aup (aup q 86 28 (s 2 9)) 86 29 1) := by
    obtain ⟨y1, y2, y3, y4, y5, y6, y7, y8, y9⟩ := hrl
    have o : ∀ x : Nat, x ≠ 46 → x ≠ 48 → x ≠ 38 → x ≠ 1 → kpS (aup (adS s 8 (-1) 0 0 0) 1 11 (s 2 9)) x = adS s 8 (-1) 0 0 0 x := fun x h1 h2 h3 h4 => by rw [kp_o h1 h2 h3, aup_o h4]
    have o1 : ∀ i, kpS (aup (adS s 8 (-1) 0 0 0) 1 11 (s 2 9)) 1 i = if i = 11 then s 2 9 else adS s 8 (-1) 0 0 0 1 i := fun i => by rw [kp_o (by decide) (by decide) (by decide), aup_k]
    have p : ∀ x : Nat, x ≠ 105 → x ≠ 106 → x ≠ 107 → x ≠ 86 → aup (aup q 86 28 (s 2 9)) 86 29 1 x = adM s u 8 (-1) 0 0 0 x := fun x h1 h2 h3 h4 => by rw [aup_o h4, aup_o h4, q1 x h1 h2 h3]
    have p86 : ∀ i, i ≠ 28 → i ≠ 29 → aup (aup q 86 28 (s 2 9)) 86 29 1 86 i = adM s u 8 (-1) 0 0 0 86 i := fun i h1 h2 => by rw [aup_k, if_neg h2, aup_k, if_neg h1, q1 86 (by decide) (by decide) (by decide)]
    refine ⟨⟨?_, ?_, ?_, ?_, ?_, ?_, ?_, ?_, ?_, ?_⟩, ?_, ?_, ?_, ?_, ?_, ?_, ?_, ?_⟩
    · rw [p86 3 (by decide) (by decide), o 21 (by decide) (by decide) (by decide) (by decide)]; exact y1.1
    · rw [p86 4 (by decide) (by decide), o1, if_neg (by decide)]; exact y1.2.1
    · rw [p86 5 (by decide) (by decide), o1, if_neg (by decide)]; exact y1.2.2.1
    · rw [p86 15 (by decide) (by decide), o 2 (by decide) (by decide) (by decide) (by decide)]; exact y1.2.2.2.1
    · rw [p86 16 (by decide) (by decide), o 2 (by decide) (by decide) (by decide) (by decide)]; exact y1.2.2.2.2.1
    · rw [p86 19 (by decide) (by decide), o 21 (by decide) (by decide) (by decide) (by decide)]; exact y1.2.2.2.2.2.1
    · rw [p86 20 (by decide) (by decide), o 21 (by decide) (by decide) (by decide) (by decide)]; exact y1.2.2.2.2.2.2.1
    · rw [p86 27 (by decide) (by decide), o 26 (by decide) (by decide) (by decide) (by decide)]; exact y1.2.2.2.2.2.2.2.1
    · rw [aup_k, if_neg (by decide), aup_s, o1, if_pos rfl]
    · rw [p86 34 (by decide) (by decide), o1, if_neg (by decide)]; exact y1.2.2.2.2.2.2.2.2.2
    · unfold rR at y2 ⊢
      rw [o 2 (by decide) (by decide) (by decide) (by decide), o 4 (by decide) (by decide) (by decide) (by decide), o 6 (by decide) (by decide) (by decide) (by decide), o 8 (by decide) (by decide) (by decide) (by decide), o 10 (by decide) (by decide) (by decide) (by decide), o 12 (by decide) (by decide) (by decide) (by decide), o 14 (by decide) (by decide) (by decide) (by decide), o 16 (by decide) (by decide) (by decide) (by decide), o 18 (by decide) (by decide) (by decide) (by decide), o 20 (by decide) (by decide) (by decide) (by decide), p 88 (by decide) (by decide) (by decide) (by decide), p 89 (by decide) (by decide) (by decide) (by decide), p 90 (by decide) (by decide) (by decide) (by decide), p 91 (by decide) (by decide) (by decide) (by decide), p 92 (by decide) (by decide) (by decide) (by decide), p 93 (by decide) (by decide) (by decide) (by decide), p 94 (by decide) (by decide) (by decide) (by decide), p 95 (by decide) (by decide) (by decide) (by decide), p 96 (by decide) (by decide) (by decide) (by decide)]
      exact y2
    · unfold rG at y3 ⊢
      rw [o 21 (by decide) (by decide) (by decide) (by decide), o 23 (by decide) (by decide) (by decide) (by decide), p 97 (by decide) (by decide) (by decide) (by decide), p 98 (by decide) (by decide) (by decide) (by decide)]
      exact y3
    · unfold rT at y4 ⊢
      rw [o 55 (by decide) (by decide) (by decide) (by decide), p 99 (by decide) (by decide) (by decide) (by decide)]
      exact y4
    · unfold rV at y5 ⊢
      rw [o 28 (by decide) (by decide) (by decide) (by decide), o 30 (by decide) (by decide) (by decide) (by decide), p 100 (by decide) (by decide) (by decide) (by decide), p 101 (by decide) (by decide) (by decide) (by decide)]
      exact y5
    · unfold rC at y6 ⊢
      rw [o 26 (by decide) (by decide) (by decide) (by decide), o 32 (by decide) (by decide) (by decide) (by decide), o 34 (by decide) (by decide) (by decide) (by decide), p 102 (by decide) (by decide) (by decide) (by decide), p 103 (by decide) (by decide) (by decide) (by decide)]
      exact y6
    · unfold rP at y7 ⊢
      rw [o 26 (by decide) (by decide) (by decide) (by decide), o 34 (by decide) (by decide) (by decide) (by decide), o 36 (by decide) (by decide) (by decide) (by decide), p 104 (by decide) (by decide) (by decide) (by decide)]
      exact y7
    · right
      have a41 : aup (adS s 8 (-1) 0 0 0) 1 11 (s 2 9) 41 = s 41 := by rw [aup_o (by decide), ad_o _ _ _ _ _ _ (by decide)]
      have a43 : aup (adS s 8 (-1) 0 0 0) 1 11 (s 2 9) 43 = s 43 := by rw [aup_o (by decide), ad_o _ _ _ _ _ _ (by decide)]
      have a26 : aup (adS s 8 (-1) 0 0 0) 1 11 (s 2 9) 26 6 = s 26 6 := by rw [aup_o (by decide), ad_o _ _ _ _ _ _ (by decide)]
      have a34 : aup (adS s 8 (-1) 0 0 0) 1 11 (s 2 9) 34 = s 34 := by rw [aup_o (by decide), ad_o _ _ _ _ _ _ (by decide)]
      have k46 : ∀ f, 0 ≤ f → f < 8 → kpS (aup (adS s 8 (-1) 0 0 0) 1 11 (s 2 9)) 46 f = s 41 f := fun f f0 f1 => by unfold kpS; rw [if_pos ⟨rfl, f0, f1⟩, a41]
      have k48 : ∀ f, 0 ≤ f → f < 32 → kpS (aup (adS s 8 (-1) 0 0 0) 1 11 (s 2 9)) 48 f = s 43 f := fun f f0 f1 => by unfold kpS; rw [if_neg (by simp), if_pos ⟨rfl, f0, f1⟩, a43]
      have k38 : ∀ c, 0 ≤ c → c < s 26 6 → kpS (aup (adS s 8 (-1) 0 0 0) 1 11 (s 2 9)) 38 c = s 34 c := fun c c0 c1 => by unfold kpS; rw [if_neg (by simp), if_neg (by simp), a26, if_pos ⟨rfl, c0, c1⟩, a34]
      have FE := fEq_tr hJ.2.2.2.2.2.2.2.1.2 hf
      refine ⟨aup_s _ _ _ _, fun f f0 f1 => ?_, fun c c0 c1 => ?_⟩
      · rw [k46 f f0 f1, aup_o (k' := 106) (by decide), aup_o (k' := 106) (by decide), q3 f f0 f1, x110]
        obtain ⟨z1, z2⟩ := FE f f0 f1
        refine ⟨z1.symm, fun hh w0 w1 w2 => ?_⟩
        rw [aup_o (k' := 105) (by decide), aup_o (k' := 105) (by decide), q2 _ (by omega) (by omega), x109, k48 _ (by omega) (by omega)]
        exact (z2 hh w0 w1 w2).symm
      · rw [o 26 (by decide) (by decide) (by decide) (by decide), ad_o _ _ _ _ _ _ (by decide)] at c1
        rw [k38 c c0 c1, aup_o (by decide), aup_o (by decide), q4 c c0 c1, am_o _ _ _ _ _ _ _ (by decide)]
        exact rc_103 hru c0 c1
    · unfold rM at y9 ⊢
      rw [o1, if_neg (by decide), o 61 (by decide) (by decide) (by decide) (by decide), o 10 (by decide) (by decide) (by decide) (by decide), o 12 (by decide) (by decide) (by decide) (by decide), p 108 (by decide) (by decide) (by decide) (by decide)]
      exact y9
  have ag : agR (adS s 8 (-1) 0 0 0) (kpS (aup (adS s 8 (-1) 0 0 0) 1 11 (s 2 9))) := by
    refine ⟨?_, fun x hx => ?_⟩
    · rw [kp_o (by decide) (by decide) (by decide), aup_o (by decide)]
    · rw [kp_o (by omega) (by omega) (by omega), aup_o (by omega)]
  have k2 : kpS (aup (adS s 8 (-1) 0 0 0) 1 11 (s 2 9)) 2 = adS s 8 (-1) 0 0 0 2 := by rw [kp_o (by decide) (by decide) (by decide), aup_o (by decide)]
  have k20 : kpS (aup (adS s 8 (-1) 0 0 0) 1 11 (s 2 9)) 20 = adS s 8 (-1) 0 0 0 20 := by rw [kp_o (by decide) (by decide) (by decide), aup_o (by decide)]
  have k21 := ag.2 21 (by decide)
  have k23 := ag.2 23 (by decide)
  have e9 : kpS (aup (adS s 8 (-1) 0 0 0) 1 11 (s 2 9)) 2 9 = s 2 9 + 1 := by rw [k2, ad_n]
  have e10 : kpS (aup (adS s 8 (-1) 0 0 0) 1 11 (s 2 9)) 2 10 = s 2 10 := by rw [k2, ad_2 _ _ _ _ _ _ (by decide)]
  have ef : kpS (aup (adS s 8 (-1) 0 0 0) 1 11 (s 2 9)) 23 (kpS (aup (adS s 8 (-1) 0 0 0) 1 11 (s 2 9)) 21 2) = s 23 (s 21 2) := by rw [k23, k21, ad_21, if_neg (by decide), if_neg (by decide), ad_23, if_neg (by omega)]
  have hFF : mF (aup m 86 0 0) (aup (aup q 86 28 (s 2 9)) 86 29 1) := by
    have f1 : mF (aup m 86 0 0) u := ⟨fun k _ _ => hv k (by omega) (by omega), fun k _ => hv k (by omega) (by omega), fun i _ => by rw [hv 86 (by decide) (by decide)]⟩
    have f2 : mF (adM s u 8 (-1) 0 0 0) q := ⟨fun k _ _ => q1 k (by omega) (by omega) (by omega), fun k _ => q1 k (by omega) (by omega) (by omega), fun i _ => by rw [q1 86 (by decide) (by decide) (by decide)]⟩
    exact mF_tr f1 (mF_tr (mF_ad s u 8 (-1) 0 0 0) (mF_tr f2 (mF_tr (mF_86 (by decide) (by decide) (by decide)) (mF_86 (by decide) (by decide) (by decide)))))
  have hnl : lnk s 8 (-1) = [] := by unfold lnk; rw [if_neg (by decide), if_neg (by decide)]
  refine m_flushAll (s := kpS (aup (adS s 8 (-1) 0 0 0) 1 11 (s 2 9))) hw (by rw [ef, e9, e10]; omega) ?_ (fun j j0 j1 j2 => ?_) hkp (fun b1 h1 f1 => ?_)
  · rw [k21, ad_21, if_neg (by decide), if_neg (by decide), ad_21, if_pos rfl]
    unfold tlS
    split <;> omega
  · rw [e9] at j1
    rw [e10] at j2
    rw [k20, ad_20]
    split
    · rfl
    · exact (jd hJ j0 (by omega)).2 j2
  · rw [hnl] at J1 hQ
    exact m_settle hw J1 h1 (fun b2 h2 f2 => hQ b2 h2 (mF_tr hFF (mF_tr f1 f2)))
theorem mx_265r (hw : qWF g) (hJ : jJ s) : mP g (d + 10) mX10_flush [] s (stS (opS s 265 a b c tx)) (.inl (s 2 9 - s 2 10)) := by
  have J := (p_265 (a := a) (b := b) (c := c) (tx := tx) hw hJ).1
  refine m_op_retP (fun x hx => sto s _ _ _ _ _ hx) fun b Q hr0 hQ hr1 => wX10_flush hw ?_
  rw [op_265] at hQ J
  rw [show (0 : Int32) = iI 0 from rfl, z_up]
  have B := jb hJ
  exact m_flushAll hw (by omega) (by omega) (fun j j0 j1 j2 => (jd hJ j0 j1).2 j2) hr0 (fun b1 h1 f1 => m_settle hw J h1 (fun b2 h2 f2 => hQ b2 h2 (mF_tr f1 f2)))
end MX
