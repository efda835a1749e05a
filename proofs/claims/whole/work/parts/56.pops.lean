/-! ===== pairs: operations of the log ===== -/
theorem op_o (s : aS) (wd a b c tx : Int) {x : Nat} (h : x = 0 ∨ 62 ≤ x) : opS s wd a b c tx x = s x := by
  have f : ∀ (b : aS) (l : List Int), fiS b (s 2 9) l x = b x := fun b l => fi_o _ _ _ (by omega)
  have ad : ∀ (t : aS) (k ow x' y w : Int), adS t k ow x' y w x = t x := fun t k ow x' y w => ad_o _ _ _ _ _ _ (by omega)
  have fl : ∀ t : aS, flS t x = t x := fun t => fl_o (by omega) (by omega)
  have up : ∀ (t : aS) (k : Nat) (i v : Int), k < 62 → k ≠ 0 → aup t k i v x = t x := fun t k i v h1 h2 => aup_o (by omega)
  have rd : rd1 s a b x = s x := rd1_o s a b (by omega) (by omega)
  unfold opS
  split
  · rw [f]; unfold bgS; rw [up _ _ _ _ (by decide) (by decide), up _ _ _ _ (by decide) (by decide), ad]
  split
  · rw [f]; unfold clS; rw [up _ _ _ _ (by decide) (by decide), ad]
  split
  · split
    · rw [f, ad]
    · rw [f]; unfold ctS; rw [ad, up _ _ _ _ (by decide) (by decide)]
  split
  · rw [f]; unfold jnB jnS; rw [fl, ad, up _ _ _ _ (by decide) (by decide), up _ _ _ _ (by decide) (by decide), up _ _ _ _ (by decide) (by decide), up _ _ _ _ (by decide) (by decide)]
  split
  · split
    · exact rd
    · rw [f]; unfold rdB rd2; rw [fl, ad, up _ _ _ _ (by decide) (by decide), rd]
  split
  · exact fl s
  · rw [f]; unfold mkB; rw [fl, kp_o (by omega) (by omega) (by omega), up _ _ _ _ (by decide) (by decide), ad]
theorem st_o (t : aS) {x : Nat} (h : x = 0 ∨ 62 ≤ x) : stS t x = t x := (frS_stS t).1 x (by omega) (by omega)
theorem sto (s : aS) (wd a b c tx : Int) {x : Nat} (h : x = 0 ∨ 62 ≤ x) : stS (opS s wd a b c tx) x = s x := (st_o _ h).trans (op_o s wd a b c tx h)
theorem rX_F {s t a b : aS} {v : Int} (hx : rX s a) (hF : mF (aup a 86 0 v) b) (ho : ∀ x : Nat, x = 0 ∨ 62 ≤ x → t x = s x) : rX t b := by
  have e : ∀ i, i ≠ 0 → i = 2 ∨ 38 ≤ i → b 86 i = a 86 i := fun i h1 h2 => by rw [hF.2.2 i (by omega), aup_k, if_neg h1]
  have e87 : b 87 = a 87 := by rw [hF.1 87 (by decide) (by decide), aup_o (by decide)]
  unfold rX at hx ⊢
  rw [e 2 (by decide) (by decide), e 45 (by decide) (by decide), e 46 (by decide) (by decide), e 61 (by decide) (by decide), e 62 (by decide) (by decide), e87, ho 0 (by decide), ho 85 (by decide), ho 63 (by decide), ho 62 (by decide)]
  exact hx
theorem m_op_ret {g : qG} {D : Nat} {M : qMd} {as : List qP} {s t : aS} {r : Int} (ho : ∀ x : Nat, x = 0 ∨ 62 ≤ x → t x = s x) (h : ∀ (a : aS) (Q : Int32 → qS → Prop), rL s (aup a 86 0 0) → (∀ b, rL t b → mF (aup a 86 0 0) b → Q (iI r) (qi b)) → rL s a → qC g D M (.inr 86 :: as) (qi a) Q (fun _ _ => False)) : mO g D M as s t (.inl r) := by
  intro a Q hr hQ
  refine h a Q (rJ_t hr 0).1 (fun b hb hF => hQ b r ⟨hb, rX_F hr.2 hF ho⟩ (fun k hk => ?_) (fun v hv => ⟨?_, by cases hv; rfl⟩) (fun j hj => by cases hj)) hr.1
  · rcases hk with hk | hk
    · rw [hF.1 k (by omega) (by omega), aup_o (by omega)]
    · rw [hF.2.1 k (by omega), aup_o (by omega)]
  · rw [hF.2.2 0 (Or.inl rfl), aup_s]
section OP
variable {g : qG}
theorem k_oper (hw : qWF g) {s : aS} {d : Nat} {Q : Int32 → qS → Prop} {T : String → qS → Prop} (hJ : jJ s) {wd a b c tx : Int} (hwd : wdR wd) (ia : i32 a) (ib : i32 b) (ic : i32 c) (it : i32 tx) (h1 : bI s wd a b tx → T "java/lang/IndexOutOfBoundsException" (qi s)) (h2 : ¬ bI s wd a b tx → bA wd a b c → T "java/lang/IllegalArgumentException" (qi s)) (h3 : ¬ bI s wd a b tx → ¬ bA wd a b c → bS s wd a tx → T "java/lang/IllegalStateException" (qi s)) (h0 : ¬ bI s wd a b tx → ¬ bA wd a b c → ¬ bS s wd a tx → Q (iI (opA s wd a b c tx)) (qi (stS (opS s wd a b c tx)))) : qC g (d + 7) mX9_operate [.inr 0, .inl (iI wd), .inl (iI a), .inl (iI b), .inl (iI c), .inl (iI tx)] (qi s) Q T := by
  refine wX9_operate hw (k_refusal hw hJ hwd ia ib ic it (fun c1 => ?_) (fun c1 c2 => ?_) (fun c1 c2 c3 => ?_) (fun c1 c2 c3 => ?_))
  · refine ⟨fun _ => k_rI0 hw (h1 c1), fun hn => absurd rfl hn⟩
  · refine ⟨fun hn => absurd hn (by decide +kernel), fun _ => k_rI1 hw ⟨fun _ => k_rA0 hw (h2 c1 c2), fun hn => absurd rfl hn⟩⟩
  · refine ⟨fun hn => absurd hn (by decide +kernel), fun _ => k_rI1 hw ⟨fun hn => absurd hn (by decide +kernel), fun _ => k_rA1 hw ⟨fun hn => absurd hn (by decide +kernel), fun _ => ⟨by decide, by decide, h3 c1 c2 c3⟩⟩⟩⟩
  · refine ⟨fun hn => absurd hn (by decide +kernel), fun _ => k_rI1 hw ⟨fun hn => absurd hn (by decide +kernel), fun _ => k_rA1 hw ⟨fun _ => (p_all hw hJ hwd c1 c2 c3).2 _ _ _ (h0 c1 c2 c3), fun hn => absurd rfl hn⟩⟩⟩
theorem i32_c {z : Int} (h1 : -2147483648 ≤ z) (h2 : z < 2147483648) : i32 z := ⟨h1, h2⟩
theorem m_flushAll_l (hw : qWF g) {s a : aS} {d : Nat} {Q : Int32 → qS → Prop} {T : String → qS → Prop} (B : (0 ≤ s 23 (s 21 2) ∧ s 23 (s 21 2) ≤ s 2 10 ∧ s 2 10 ≤ s 2 9 ∧ s 2 9 ≤ 400)) (hD : ∀ j, 0 ≤ j → j < s 2 9 → j < s 2 10 → s 20 j = 0) (hr : rL s a) {r : Int} (hQ : ∀ b, rL (flS s) b → mF a b → Q (iI r) (qi b)) : ∀ (k : Int) (b : aS), s 23 (s 21 2) ≤ k → k ≤ s 2 9 → mF a b → (∀ c : Nat, c ≠ 86 → c ≠ 96 → b c = a c) → (∀ i, i ≠ 16 → b 86 i = a 86 i) → b 86 16 = s 2 9 → (∀ j, b 96 j = if s 23 (s 21 2) ≤ j ∧ j < k then 0 else a 96 j) → qV g mX10_flushAll (d + 1) 0 23 [some (.inr 86), some (.inl (iI r)), some (.inl (iI k))] [] (qi b) Q T := by
  refine stepUp (s 2 9) (fun k ih b k0 k1 hF ho h6 h16 h96 => wX10_flushAll_23 hw ?_)
  have e15 : b 86 15 = s 2 9 := by rw [h6 15 (by decide)]; exact rs_15 hr
  by_cases h : k < s 2 9
  · simp (disch := omega) only [z_app, z_rd, z_cl, z_add, z_sub, z_mul, z_neg, z_lit, z_leT, z_leF, z_ltT, z_ltF, z_eqT, z_eqF, i_leT, i_leF, i_ltT, i_ltF, i_eqT, i_eqF, z_le, z_lt, z_eq, z_ite, z_at, z_pt, z_up, z_wr, z_wi1, z_wi0, z_wi, z_inS, z_toInt, z_nb0, z_nb1, Int.cast_ofNat_Int, true_and, and_true, not_true_eq_false, not_false_eq_true, false_imp_iff, true_imp_iff, aup_o, aup_k, ite_true, ite_false, z_fa000, z_fa001, z_fa010, z_fa011, z_fa100, z_fa101, z_fa110, z_fa111, if_true, if_false, e15]
    refine ih h _ (by omega) (by omega) (mF_tr hF (mF_up (by decide) (by decide))) (fun c c1 c2 => by rw [aup_o c2, ho c c1 c2]) (fun i hi => by rw [aup_o (by decide), h6 i hi]) (by rw [aup_o (by decide), h16]) (fun j => ?_)
    rw [aup_k, h96]
    by_cases hj : j = k
    · rw [if_pos hj, if_pos (by omega)]
    · rw [if_neg hj]
      by_cases hh : s 23 (s 21 2) ≤ j ∧ j < k
      · rw [if_pos hh, if_pos (by omega)]
      · rw [if_neg hh, if_neg (by omega)]
  · have ek : k = s 2 9 := by omega
    subst ek
    simp (disch := omega) only [z_app, z_rd, z_cl, z_add, z_sub, z_mul, z_neg, z_lit, z_leT, z_leF, z_ltT, z_ltF, z_eqT, z_eqF, i_leT, i_leF, i_ltT, i_ltF, i_eqT, i_eqF, z_le, z_lt, z_eq, z_ite, z_at, z_pt, z_up, z_wr, z_wi1, z_wi0, z_wi, z_inS, z_toInt, z_nb0, z_nb1, Int.cast_ofNat_Int, true_and, and_true, not_true_eq_false, not_false_eq_true, false_imp_iff, true_imp_iff, aup_o, aup_k, ite_true, ite_false, z_fa000, z_fa001, z_fa010, z_fa011, z_fa100, z_fa101, z_fa110, z_fa111, if_true, if_false, e15]
    refine hQ b ?_ hF
    obtain ⟨r1, r2, r3, r4, r5, r6, r7, r8, r9⟩ := id hr
    refine ⟨⟨?_, ?_, ?_, ?_, ?_, ?_, ?_, ?_, ?_, ?_⟩, fun j j0 j1 => ?_, rG_b (ho 97 (by decide) (by decide)) (ho 98 (by decide) (by decide)) r3, rT_b (ho 99 (by decide) (by decide)) r4, rV_b (ho 100 (by decide) (by decide)) (ho 101 (by decide) (by decide)) r5, rC_b (ho 102 (by decide) (by decide)) (ho 103 (by decide) (by decide)) r6, rP_b (ho 104 (by decide) (by decide)) r7, rK_b (h6 29 (by decide)) (ho 105 (by decide) (by decide)) (ho 106 (by decide) (by decide)) (ho 107 (by decide) (by decide)) r8, rM_b (ho 108 (by decide) (by decide)) r9⟩
    · rw [h6 3 (by decide)]; exact r1.1
    · rw [h6 4 (by decide)]; exact r1.2.1
    · rw [h6 5 (by decide)]; exact r1.2.2.1
    · rw [e15]; rfl
    · rw [h16]; rfl
    · rw [h6 19 (by decide)]; exact r1.2.2.2.2.2.1
    · rw [h6 20 (by decide)]; exact r1.2.2.2.2.2.2.1
    · rw [h6 27 (by decide)]; exact r1.2.2.2.2.2.2.2.1
    · rw [h6 28 (by decide)]; exact r1.2.2.2.2.2.2.2.2.1
    · rw [h6 34 (by decide)]; exact r1.2.2.2.2.2.2.2.2.2
    · have j1' : j < s 2 9 := j1
      have q := r2 j j0 j1'
      obtain ⟨q1, q2, q3, q4, q5, q6, q7, q8, q9⟩ := q
      rw [ho 88 (by decide) (by decide), ho 89 (by decide) (by decide), ho 90 (by decide) (by decide), ho 91 (by decide) (by decide), ho 92 (by decide) (by decide), ho 93 (by decide) (by decide), ho 94 (by decide) (by decide), ho 95 (by decide) (by decide), h96, fl_20]
      refine ⟨q1, q2, q3, q4, q5, q6, q7, q8, ?_⟩
      by_cases c1 : s 23 (s 21 2) ≤ j ∧ j < s 2 9
      · rw [if_pos c1]
        by_cases c2 : s 2 10 ≤ j ∧ j < s 2 9
        · rw [if_pos c2]
        · rw [if_neg c2, hD j j0 j1' (by omega)]
      · rw [if_neg c1, if_neg (by omega)]
        exact q9
theorem m_flushAll (hw : qWF g) {s a : aS} {d : Nat} {Q : Int32 → qS → Prop} {T : String → qS → Prop} (B : (0 ≤ s 23 (s 21 2) ∧ s 23 (s 21 2) ≤ s 2 10 ∧ s 2 10 ≤ s 2 9 ∧ s 2 9 ≤ 400)) (hh : s 21 2 ≤ s 21 3) (hD : ∀ j, 0 ≤ j → j < s 2 9 → j < s 2 10 → s 20 j = 0) (hr : rL s a) (hQ : ∀ b, rL (flS s) b → mF a b → Q (iI (s 2 9 - s 2 10)) (qi b)) : qC g (d + 1) mX10_flushAll [.inr 86] (qi a) Q T := by
  refine wX10_flushAll hw ?_
  simp (disch := omega) only [z_app, z_rd, z_cl, z_add, z_sub, z_mul, z_neg, z_lit, z_leT, z_leF, z_ltT, z_ltF, z_eqT, z_eqF, i_leT, i_leF, i_ltT, i_ltF, i_eqT, i_eqF, z_le, z_lt, z_eq, z_ite, z_at, z_pt, z_up, z_wr, z_wi1, z_wi0, z_wi, z_inS, z_toInt, z_nb0, z_nb1, Int.cast_ofNat_Int, true_and, and_true, not_true_eq_false, not_false_eq_true, false_imp_iff, true_imp_iff, aup_o, aup_k, ite_true, ite_false, z_fa000, z_fa001, z_fa010, z_fa011, z_fa100, z_fa101, z_fa110, z_fa111, if_true, if_false, rs_3 hr, rs_4 hr, rs_5 hr, rs_15 hr, rs_16 hr, rs_19 hr, rs_20 hr, rs_27 hr, rs_28 hr, rs_34 hr, rr_88 hr, rr_89 hr, rr_90 hr, rr_91 hr, rr_92 hr, rr_93 hr, rr_94 hr, rr_95 hr, rr_96 hr, rg_97 hr, rg_98 hr, rt_99 hr, rv_100 hr, rv_101 hr, rc_102 hr, rc_103 hr, rp_104 hr, Int.add_zero]
  refine m_flushAll_l hw B hD hr hQ _ _ (Int.le_refl _) (by omega) (mF_86 (by decide) (by decide) (by decide)) (fun c c1 _ => aup_o c1) (fun i hi => by rw [aup_k, if_neg hi]) (aup_s _ _ _ _) (fun j => ?_)
  rw [aup_o (by decide), if_neg (by omega)]
theorem pr_18 (hw : qWF g) : ∀ σ, lR σ → lPlain g 20 lR mX9_flush mX10_flush σ := by
  rintro σ ⟨a, rfl, hJ, hr⟩
  have J := (p_265 (a := 0) (b := 0) (c := 0) (tx := -1) hw hJ).1
  refine plain_of (a' := stS (opS a 265 0 0 0 (-1))) (r := a 2 9 - a 2 10) (k_ret fun Q T hQ => wX9_flush hw ?_) (m_op_ret (fun x hx => sto a _ _ _ _ _ hx) fun b Q hr0 hQ hr1 => wX10_flush hw ?_) hr (j_stS J) (fun k hk => sto a _ _ _ _ _ (Or.inr (by omega)))
  · exact k_oper hw hJ (by unfold wdR; omega) (by unfold i32; omega) (by unfold i32; omega) (by unfold i32; omega) (by unfold i32; omega) (fun h => by unfold bI at h; omega) (fun _ h => by unfold bA at h; omega) (fun _ _ h => absurd rfl h.1) (fun _ _ _ => hQ)
  · rw [op_265] at hQ J
    rw [show (0 : Int32) = iI 0 from rfl, z_up]
    have B := jb hJ
    exact m_flushAll hw (by omega) (by omega) (fun j j0 j1 j2 => (jd hJ j0 j1).2 j2) hr0 (fun b1 h1 f1 => m_settle hw J h1 (fun b2 h2 f2 => hQ b2 h2 (mF_tr f1 f2)))
end OP
