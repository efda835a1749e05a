/-! ===== an empty log, and configure ===== -/
def jZ (s : aS) : Prop := (s 2 9 = 0 ∧ s 2 10 = 0 ∧ s 21 2 = 0 ∧ s 21 3 = 0 ∧ s 21 5 = 0 ∧ s 21 6 = 0 ∧ s 23 0 = 0 ∧ s 25 0 = 0 ∧ s 26 6 = 0 ∧ s 1 10 = 0 ∧ s 1 11 = 0) ∧ (40 ≤ s 21 4 ∧ s 21 4 ≤ 400 ∧ 40 ≤ s 1 12 ∧ s 1 12 ≤ 9999 ∧ 0 ≤ s 1 13 ∧ s 1 13 ≤ 100) ∧
  (∀ t, 0 ≤ t → t < 4 → s 30 t = 0 ∧ s 55 t = -1) ∧ (∀ c, 0 ≤ c → c < 6 → s 38 c = -1) ∧ (∀ f, 0 ≤ f → f < 8 → s 41 f = 0 ∧ s 46 f = 0) ∧
  (0 ≤ s 0 3 ∧ s 0 3 ≤ 900) ∧ (∀ i, 0 ≤ i → i < s 0 3 → -128 ≤ s 85 i ∧ s 85 i ≤ 127)
def rZ (s a : aS) : Prop := (a 86 3 = s 21 4 ∧ a 86 4 = s 1 12 ∧ a 86 5 = s 1 13 ∧ a 86 15 = 0 ∧ a 86 16 = 0 ∧ a 86 19 = 1 ∧ a 86 20 = 0 ∧ a 86 27 = 0 ∧ a 86 28 = 0 ∧ a 86 29 = 0 ∧ a 86 34 = 0 ∧ a 97 0 = 0 ∧ a 98 0 = 0) ∧
  (∀ t, 0 ≤ t → t < 4 → a 99 t = -1 ∧ a 101 t = 0) ∧ (∀ k, 0 ≤ k → k < 2400 → a 104 k = 0)
theorem j_z {s : aS} (h : jZ s) : jJ s := by
  obtain ⟨⟨z1, z2, z3, z4, z5, z6, z7, z8, z9, z10, z11⟩, ⟨b1, b2, b3, b4, b5, b6⟩, ht, hc, hf, hl, hx⟩ := h
  have e : s 23 (s 21 2) = 0 := by rw [z3]; exact z7
  refine ⟨⟨⟨by omega, by omega, by omega, by omega, by omega⟩, ⟨by omega, by omega, by omega⟩, ⟨by omega, Or.inl z11⟩, ⟨b3, b4, b5, b6⟩, ⟨by omega, by omega⟩, by omega, by omega⟩, fun k k0 k1 => by omega, fun k k0 k1 => by omega, fun t t0 t1 => Or.inl (ht t t0 t1).2, fun t t0 t1 => ?_, ⟨fun c c0 c1 => by omega, fun c c0 c1 => ?_⟩, ⟨fun i i0 i1 => by omega, by omega, ?_, ?_, ?_⟩, ⟨fun f f0 f1 => Or.inl (hf f f0 f1).2, ?_⟩, fun k k0 k1 => by omega, fun i i0 i1 => by omega, hl, hx⟩
  · have := (ht t t0 t1).1
    exact ⟨by omega, fun i i0 i1 => by omega, fun i j i0 i1 i2 => by omega⟩
  · have := hc c c0 c1
    exact ⟨by omega, fun _ => this⟩
  · rw [z4, z7, z1]; exact Int.le_refl _
  · rw [z4, z8, z7, z1, sI_e (Int.le_refl _)]
  · rw [z5, z3, z7, z1, sI_e (Int.le_refl _)]
  · rw [eL_e (by omega)]
    intro f f0 f1
    have := hf f f0 f1
    exact ⟨by show s 41 f = s 46 f; omega, fun e1 => absurd e1 (by show ¬ s 41 f = 1; omega)⟩
theorem r_z {s a : aS} (h : jZ s) (h' : rZ s a) : rL s a := by
  obtain ⟨⟨z1, z2, z3, z4, z5, z6, z7, z8, z9, z10, z11⟩, -, ht, hc, hf, -, -⟩ := h
  obtain ⟨⟨y1, y2, y3, y4, y5, y6, y7, y8, y9, y10, y11, y12, y13⟩, h1, h2⟩ := h'
  refine ⟨⟨y1, y2, y3, by omega, by omega, by omega, by omega, by omega, by omega, by omega⟩, fun k k0 k1 => by omega, fun i i0 i1 => ?_, fun t t0 t1 => ?_, fun t t0 t1 => ?_, fun c c0 c1 => by omega, fun c k c0 c1 k0 k1 => ?_, Or.inl ⟨y10, z11, fun f f0 f1 => (hf f f0 f1).2, hc⟩, fun i i0 i1 => by omega⟩
  · have e : i = 0 := by omega
    subst e
    rw [z3, y12, y13]
    exact ⟨rfl, z7.symm⟩
  · rw [(h1 t t0 t1).1, (ht t t0 t1).2]
  · rw [(h1 t t0 t1).2, (ht t t0 t1).1]
    exact ⟨rfl, fun i i0 i1 => by omega⟩
  · rw [h2 _ (by omega) (by omega), if_neg (by omega)]
/-- the class's numbers after clear -/
def clr0 (s : aS) (p1 p2 p3 : Int) : aS := aup (aup (aup (aup (afl (afl (afl (aup (afl (afl (aup (aup (aup (aup (aup (aup (aup (aup (aup s 2 9 0) 2 10 0) 21 2 0) 21 3 0) 21 4 p1) 21 5 0) 21 6 0) 23 0 0) 25 0 0) 30 4 0) 38 6 (-1)) 26 6 0) 41 8 0) 46 8 0) 55 4 (-1)) 1 10 0) 1 11 0) 1 12 p2) 1 13 p3
theorem cl_jz {s : aS} {p1 p2 p3 : Int} (h : jJ s) (b1 : 40 ≤ p1) (b2 : p1 ≤ 400) (b3 : 40 ≤ p2) (b4 : p2 ≤ 9999) (b5 : 0 ≤ p3) (b6 : p3 ≤ 100) : jZ (clr0 s p1 p2 p3) := by
  have Y := h.2.2.2.2.2.2.2.2.2
  unfold clr0
  refine ⟨?_, ?_, fun t t0 t1 => ?_, fun c c0 c1 => ?_, fun f f0 f1 => ?_, ?_, ?_⟩
  · simp (disch := decide) only [aup_o, afl_o, aup_k, Int.reduceEq, if_true, if_false, and_self]
  · simp (disch := decide) only [aup_o, afl_o, aup_k, Int.reduceEq, if_true, if_false]
    exact ⟨b1, b2, b3, b4, b5, b6⟩
  · simp (disch := decide) only [aup_o, afl_o]
    exact ⟨afl_k t0 t1, afl_k t0 t1⟩
  · simp (disch := decide) only [aup_o, afl_o]
    exact afl_k c0 c1
  · simp (disch := decide) only [aup_o, afl_o]
    exact ⟨afl_k f0 f1, afl_k f0 f1⟩
  · simp (disch := decide) only [aup_o, afl_o]
    exact Y.2.1
  · simp (disch := decide) only [aup_o, afl_o]
    exact Y.2.2
theorem cl_f {s : aS} {p1 p2 p3 : Int} {k : Nat} (h : k = 0 ∨ 62 ≤ k) : clr0 s p1 p2 p3 k = s k := by
  unfold clr0
  simp (disch := omega) only [aup_o, afl_o]
section CF
variable {g : qG} {s : aS} {d : Nat} {Q : Int32 → qS → Prop} {T : String → qS → Prop}
theorem k_clear (hw : qWF g) {p1 p2 p3 : Int} (hQ : Q (iI 0) (qi (clr0 s p1 p2 p3))) : qC g (d + 2) mX2_clear [.inr 1, .inl (iI p1), .inl (iI p2), .inl (iI p3)] (qi s) Q T := by
  refine wX2_clear hw (wX4_clear hw (wX7_clear hw (wX0_clear hw (wX1_clearf39 hw (wX1_clearf44 hw ?_)))))
  simp (disch := decide) only [z_lit, z_neg, z_up, z_pt, z_fl, Int.cast_ofNat_Int]
  exact hQ
theorem m_configure_104 (hw : qWF g) {l1 l2 l3 l4 : Int32} : ∀ (k : Int) (v : aS), 0 ≤ k → k ≤ 2400 → (∀ w : aS, (∀ x : Nat, x ≠ 86 → x ≠ 104 → w x = v x) → (∀ i, i ≠ 27 → i ≠ 28 → i ≠ 29 → i ≠ 34 → w 86 i = v 86 i) → w 86 27 = 0 ∧ w 86 28 = 0 ∧ w 86 29 = 0 ∧ w 86 34 = 0 → (∀ j, j < k → w 104 j = v 104 j) → (∀ j, k ≤ j → j < 2400 → w 104 j = 0) → Q l4 (qi w)) → qV g mX10_configure (d + 1) 0 159 [some (.inr 86), some (.inl l1), some (.inl l2), some (.inl l3), some (.inl l4), some (.inl (iI k))] [] (qi v) Q T := by
  refine stepUp 2400 (fun k ih v k0 k1 hQ => wX10_configure_159 hw ?_)
  by_cases h : k < 2400
  · simp (disch := omega) only [z_app, z_rd, z_cl, z_add, z_sub, z_mul, z_neg, z_lit, z_leT, z_leF, z_ltT, z_ltF, z_eqT, z_eqF, i_leT, i_leF, i_ltT, i_ltF, i_eqT, i_eqF, z_le, z_lt, z_eq, z_ite, z_at, z_pt, z_up, z_wr, z_wi1, z_wi0, z_wi, z_inS, z_toInt, z_nb0, z_nb1, Int.cast_ofNat_Int, true_and, and_true, not_true_eq_false, not_false_eq_true, false_imp_iff, true_imp_iff, aup_o, aup_k, ite_true, ite_false, z_fa000, z_fa001, z_fa010, z_fa011, z_fa100, z_fa101, z_fa110, z_fa111, if_true, if_false]
    refine ih h _ (by omega) (by omega) (fun w h1 h2 h3 h4 h5 => hQ w (fun x x1 x2 => by rw [h1 x x1 x2, aup_o x2]) (fun i i1 i2 i3 i4 => by rw [h2 i i1 i2 i3 i4, aup_o (by decide)]) h3 (fun j jk => by rw [h4 j (by omega), aup_k, if_neg (by omega)]) (fun j j0 j1 => ?_))
    by_cases e : j = k
    · rw [h4 j (by omega), aup_k, if_pos e]
    · exact h5 j (by omega) j1
  · simp (disch := omega) only [z_app, z_rd, z_cl, z_add, z_sub, z_mul, z_neg, z_lit, z_leT, z_leF, z_ltT, z_ltF, z_eqT, z_eqF, i_leT, i_leF, i_ltT, i_ltF, i_eqT, i_eqF, z_le, z_lt, z_eq, z_ite, z_at, z_pt, z_up, z_wr, z_wi1, z_wi0, z_wi, z_inS, z_toInt, z_nb0, z_nb1, Int.cast_ofNat_Int, true_and, and_true, not_true_eq_false, not_false_eq_true, false_imp_iff, true_imp_iff, aup_o, aup_k, ite_true, ite_false, z_fa000, z_fa001, z_fa010, z_fa011, z_fa100, z_fa101, z_fa110, z_fa111, if_true, if_false]
    refine ⟨Or.inl trivial, hQ _ (fun x x1 x2 => ?_) (fun i i1 i2 i3 i4 => ?_) ?_ (fun j _ => ?_) (fun j j0 j1 => by omega)⟩
    · simp (disch := assumption) only [aup_o]
    · simp (disch := assumption) only [aup_i]
    · simp (disch := decide) only [aup_k, Int.reduceEq, if_true, if_false, and_self]
    · simp (disch := decide) only [aup_o]
theorem pr_7 (hw : qWF g) : ∀ (σ : qS) (a1 a2 a3 : Int32), lR σ → lPair g 20 lR mX9_configure mX10_configure [.inl a1, .inl a2, .inl a3] ["java/lang/IllegalArgumentException"] σ := by
  rintro σ x1 x2 x3 ⟨a, rfl, hJ, hr⟩
  obtain ⟨p1, ⟨i1, j1⟩, rfl⟩ := z_of x1
  obtain ⟨p2, ⟨i2, j2⟩, rfl⟩ := z_of x2
  obtain ⟨p3, ⟨i3, j3⟩, rfl⟩ := z_of x3
  have B : a 21 2 ≤ a 21 3 ∧ 0 ≤ a 21 2 ∧ a 21 2 ≤ 400 ∧ 0 ≤ a 23 (a 21 2) ∧ a 23 (a 21 2) ≤ 400 ∧ 0 ≤ a 2 9 ∧ a 2 9 ≤ 400 := by have := jb hJ; omega
  by_cases hp : 40 ≤ p1 ∧ p1 ≤ 400 ∧ 40 ≤ p2 ∧ p2 ≤ 9999 ∧ 0 ≤ p3 ∧ p3 ≤ 100
  · obtain ⟨q1, q2, q3, q4, q5, q6⟩ := hp
    have Z := cl_jz hJ q1 q2 q3 q4 q5 q6
    refine pair_of (o := .inl (a 2 9 - a 23 (a 21 2))) (a' := clr0 a p1 p2 p3) (k_ret fun Q T hQ => wX9_configure hw ?_) ?_ hr (j_z Z) (fun k hk => cl_f (Or.inr (by omega))) (es_n1 _)
    · simp (disch := omega) only [z_app, z_rd, z_cl, z_add, z_sub, z_mul, z_neg, z_lit, z_leT, z_leF, z_ltT, z_ltF, z_eqT, z_eqF, i_leT, i_leF, i_ltT, i_ltF, i_eqT, i_eqF, z_le, z_lt, z_eq, z_ite, z_at, z_pt, z_up, z_wr, z_wi1, z_wi0, z_wi, z_inS, z_toInt, z_nb0, z_nb1, Int.cast_ofNat_Int, true_and, and_true, not_true_eq_false, not_false_eq_true, false_imp_iff, true_imp_iff, aup_o, aup_k, ite_true, ite_false, z_fa000, z_fa001, z_fa010, z_fa011, z_fa100, z_fa101, z_fa110, z_fa111, if_true, if_false]
      refine wX7_firstNumber hw ?_
      simp (disch := omega) only [z_app, z_rd, z_cl, z_add, z_sub, z_mul, z_neg, z_lit, z_leT, z_leF, z_ltT, z_ltF, z_eqT, z_eqF, i_leT, i_leF, i_ltT, i_ltF, i_eqT, i_eqF, z_le, z_lt, z_eq, z_ite, z_at, z_pt, z_up, z_wr, z_wi1, z_wi0, z_wi, z_inS, z_toInt, z_nb0, z_nb1, Int.cast_ofNat_Int, true_and, and_true, not_true_eq_false, not_false_eq_true, false_imp_iff, true_imp_iff, aup_o, aup_k, ite_true, ite_false, z_fa000, z_fa001, z_fa010, z_fa011, z_fa100, z_fa101, z_fa110, z_fa111, if_true, if_false]
      exact k_clear hw hQ
    · intro m Q hrJ hQ
      have hrL := hrJ.1
      have e15 := rs_15 hrL
      have e98 := (hrL.2.2.1 0 (by omega) (by omega)).2
      rw [Int.add_zero] at e98
      have fin : ∀ (v : aS) (r : Int), rZ (clr0 a p1 p2 p3) v → v 86 0 = 0 → r = a 2 9 - a 23 (a 21 2) → (∀ k, k < 86 ∨ 122 ≤ k ∨ k = 87 → v k = m k) → (∀ i, i = 2 ∨ 38 ≤ i → v 86 i = m 86 i) → Q (iI r) (qi v) := by
        intro v r z0 z1 z2 z3 z4
        refine hQ v r ⟨r_z Z z0, ?_⟩ (fun k hk => z3 k (by omega)) (fun w hw' => ?_) (fun j hj => by cases hj)
        · have X := hrJ.2
          unfold rX at X ⊢
          rw [z4 2 (Or.inl rfl), z4 45 (Or.inr (by decide)), z4 46 (Or.inr (by decide)), z4 61 (Or.inr (by decide)), z4 62 (Or.inr (by decide)), z3 87 (by omega), cl_f (k := 0) (by omega), cl_f (k := 85) (by omega), cl_f (k := 63) (by omega), cl_f (k := 62) (by omega)]
          exact X
        · cases hw'
          exact ⟨z1, z2⟩
      refine wX10_configure hw ?_
      simp (disch := omega) only [z_app, z_rd, z_cl, z_add, z_sub, z_mul, z_neg, z_lit, z_leT, z_leF, z_ltT, z_ltF, z_eqT, z_eqF, i_leT, i_leF, i_ltT, i_ltF, i_eqT, i_eqF, z_le, z_lt, z_eq, z_ite, z_at, z_pt, z_up, z_wr, z_wi1, z_wi0, z_wi, z_inS, z_toInt, z_nb0, z_nb1, Int.cast_ofNat_Int, true_and, and_true, not_true_eq_false, not_false_eq_true, false_imp_iff, true_imp_iff, aup_o, aup_k, ite_true, ite_false, z_fa000, z_fa001, z_fa010, z_fa011, z_fa100, z_fa101, z_fa110, z_fa111, if_true, if_false, e15, e98]
      refine wX10_configure_113 hw ?_
      simp (disch := omega) only [z_app, z_rd, z_cl, z_add, z_sub, z_mul, z_neg, z_lit, z_leT, z_leF, z_ltT, z_ltF, z_eqT, z_eqF, i_leT, i_leF, i_ltT, i_ltF, i_eqT, i_eqF, z_le, z_lt, z_eq, z_ite, z_at, z_pt, z_up, z_wr, z_wi1, z_wi0, z_wi, z_inS, z_toInt, z_nb0, z_nb1, Int.cast_ofNat_Int, true_and, and_true, not_true_eq_false, not_false_eq_true, false_imp_iff, true_imp_iff, aup_o, aup_k, ite_true, ite_false, z_fa000, z_fa001, z_fa010, z_fa011, z_fa100, z_fa101, z_fa110, z_fa111, if_true, if_false]
      refine wX10_configure_113 hw ?_
      simp (disch := omega) only [z_app, z_rd, z_cl, z_add, z_sub, z_mul, z_neg, z_lit, z_leT, z_leF, z_ltT, z_ltF, z_eqT, z_eqF, i_leT, i_leF, i_ltT, i_ltF, i_eqT, i_eqF, z_le, z_lt, z_eq, z_ite, z_at, z_pt, z_up, z_wr, z_wi1, z_wi0, z_wi, z_inS, z_toInt, z_nb0, z_nb1, Int.cast_ofNat_Int, true_and, and_true, not_true_eq_false, not_false_eq_true, false_imp_iff, true_imp_iff, aup_o, aup_k, ite_true, ite_false, z_fa000, z_fa001, z_fa010, z_fa011, z_fa100, z_fa101, z_fa110, z_fa111, if_true, if_false]
      refine wX10_configure_113 hw ?_
      simp (disch := omega) only [z_app, z_rd, z_cl, z_add, z_sub, z_mul, z_neg, z_lit, z_leT, z_leF, z_ltT, z_ltF, z_eqT, z_eqF, i_leT, i_leF, i_ltT, i_ltF, i_eqT, i_eqF, z_le, z_lt, z_eq, z_ite, z_at, z_pt, z_up, z_wr, z_wi1, z_wi0, z_wi, z_inS, z_toInt, z_nb0, z_nb1, Int.cast_ofNat_Int, true_and, and_true, not_true_eq_false, not_false_eq_true, false_imp_iff, true_imp_iff, aup_o, aup_k, ite_true, ite_false, z_fa000, z_fa001, z_fa010, z_fa011, z_fa100, z_fa101, z_fa110, z_fa111, if_true, if_false]
      refine wX10_configure_113 hw ?_
      simp (disch := omega) only [z_app, z_rd, z_cl, z_add, z_sub, z_mul, z_neg, z_lit, z_leT, z_leF, z_ltT, z_ltF, z_eqT, z_eqF, i_leT, i_leF, i_ltT, i_ltF, i_eqT, i_eqF, z_le, z_lt, z_eq, z_ite, z_at, z_pt, z_up, z_wr, z_wi1, z_wi0, z_wi, z_inS, z_toInt, z_nb0, z_nb1, Int.cast_ofNat_Int, true_and, and_true, not_true_eq_false, not_false_eq_true, false_imp_iff, true_imp_iff, aup_o, aup_k, ite_true, ite_false, z_fa000, z_fa001, z_fa010, z_fa011, z_fa100, z_fa101, z_fa110, z_fa111, if_true, if_false]
      refine wX10_configure_113 hw ?_
      simp (disch := omega) only [z_app, z_rd, z_cl, z_add, z_sub, z_mul, z_neg, z_lit, z_leT, z_leF, z_ltT, z_ltF, z_eqT, z_eqF, i_leT, i_leF, i_ltT, i_ltF, i_eqT, i_eqF, z_le, z_lt, z_eq, z_ite, z_at, z_pt, z_up, z_wr, z_wi1, z_wi0, z_wi, z_inS, z_toInt, z_nb0, z_nb1, Int.cast_ofNat_Int, true_and, and_true, not_true_eq_false, not_false_eq_true, false_imp_iff, true_imp_iff, aup_o, aup_k, ite_true, ite_false, z_fa000, z_fa001, z_fa010, z_fa011, z_fa100, z_fa101, z_fa110, z_fa111, if_true, if_false]
      refine wX10_configure_136 hw ?_
      simp (disch := omega) only [z_app, z_rd, z_cl, z_add, z_sub, z_mul, z_neg, z_lit, z_leT, z_leF, z_ltT, z_ltF, z_eqT, z_eqF, i_leT, i_leF, i_ltT, i_ltF, i_eqT, i_eqF, z_le, z_lt, z_eq, z_ite, z_at, z_pt, z_up, z_wr, z_wi1, z_wi0, z_wi, z_inS, z_toInt, z_nb0, z_nb1, Int.cast_ofNat_Int, true_and, and_true, not_true_eq_false, not_false_eq_true, false_imp_iff, true_imp_iff, aup_o, aup_k, ite_true, ite_false, z_fa000, z_fa001, z_fa010, z_fa011, z_fa100, z_fa101, z_fa110, z_fa111, if_true, if_false]
      refine wX10_configure_136 hw ?_
      simp (disch := omega) only [z_app, z_rd, z_cl, z_add, z_sub, z_mul, z_neg, z_lit, z_leT, z_leF, z_ltT, z_ltF, z_eqT, z_eqF, i_leT, i_leF, i_ltT, i_ltF, i_eqT, i_eqF, z_le, z_lt, z_eq, z_ite, z_at, z_pt, z_up, z_wr, z_wi1, z_wi0, z_wi, z_inS, z_toInt, z_nb0, z_nb1, Int.cast_ofNat_Int, true_and, and_true, not_true_eq_false, not_false_eq_true, false_imp_iff, true_imp_iff, aup_o, aup_k, ite_true, ite_false, z_fa000, z_fa001, z_fa010, z_fa011, z_fa100, z_fa101, z_fa110, z_fa111, if_true, if_false]
      refine wX10_configure_136 hw ?_
      simp (disch := omega) only [z_app, z_rd, z_cl, z_add, z_sub, z_mul, z_neg, z_lit, z_leT, z_leF, z_ltT, z_ltF, z_eqT, z_eqF, i_leT, i_leF, i_ltT, i_ltF, i_eqT, i_eqF, z_le, z_lt, z_eq, z_ite, z_at, z_pt, z_up, z_wr, z_wi1, z_wi0, z_wi, z_inS, z_toInt, z_nb0, z_nb1, Int.cast_ofNat_Int, true_and, and_true, not_true_eq_false, not_false_eq_true, false_imp_iff, true_imp_iff, aup_o, aup_k, ite_true, ite_false, z_fa000, z_fa001, z_fa010, z_fa011, z_fa100, z_fa101, z_fa110, z_fa111, if_true, if_false]
      refine wX10_configure_136 hw ?_
      simp (disch := omega) only [z_app, z_rd, z_cl, z_add, z_sub, z_mul, z_neg, z_lit, z_leT, z_leF, z_ltT, z_ltF, z_eqT, z_eqF, i_leT, i_leF, i_ltT, i_ltF, i_eqT, i_eqF, z_le, z_lt, z_eq, z_ite, z_at, z_pt, z_up, z_wr, z_wi1, z_wi0, z_wi, z_inS, z_toInt, z_nb0, z_nb1, Int.cast_ofNat_Int, true_and, and_true, not_true_eq_false, not_false_eq_true, false_imp_iff, true_imp_iff, aup_o, aup_k, ite_true, ite_false, z_fa000, z_fa001, z_fa010, z_fa011, z_fa100, z_fa101, z_fa110, z_fa111, if_true, if_false]
      refine wX10_configure_136 hw ?_
      simp (disch := omega) only [z_app, z_rd, z_cl, z_add, z_sub, z_mul, z_neg, z_lit, z_leT, z_leF, z_ltT, z_ltF, z_eqT, z_eqF, i_leT, i_leF, i_ltT, i_ltF, i_eqT, i_eqF, z_le, z_lt, z_eq, z_ite, z_at, z_pt, z_up, z_wr, z_wi1, z_wi0, z_wi, z_inS, z_toInt, z_nb0, z_nb1, Int.cast_ofNat_Int, true_and, and_true, not_true_eq_false, not_false_eq_true, false_imp_iff, true_imp_iff, aup_o, aup_k, ite_true, ite_false, z_fa000, z_fa001, z_fa010, z_fa011, z_fa100, z_fa101, z_fa110, z_fa111, if_true, if_false]
      refine m_configure_104 hw 0 _ (by omega) (by omega) (fun w h1 h2 h3 h4 h5 => fin w _ ⟨?_, fun t t0 t1 => ?_, fun k k0 k1 => h5 k k0 k1⟩ ?_ rfl (fun k hk => ?_) (fun i hi => ?_))
      · rw [h1 97 (by decide) (by decide), h1 98 (by decide) (by decide), h2 3 (by decide) (by decide) (by decide) (by decide), h2 4 (by decide) (by decide) (by decide) (by decide), h2 5 (by decide) (by decide) (by decide) (by decide), h2 15 (by decide) (by decide) (by decide) (by decide), h2 16 (by decide) (by decide) (by decide) (by decide), h2 19 (by decide) (by decide) (by decide) (by decide), h2 20 (by decide) (by decide) (by decide) (by decide), h3.1, h3.2.1, h3.2.2.1, h3.2.2.2]
        unfold clr0
        simp (disch := decide) only [aup_o, afl_o, aup_k, Int.reduceEq, if_true, if_false, and_self]
      · rw [h1 99 (by decide) (by decide), h1 101 (by decide) (by decide)]
        simp (disch := decide) only [aup_o, aup_k]
        constructor <;> (repeat' split) <;> omega
      · rw [h2 0 (by decide) (by decide) (by decide) (by decide)]
        simp (disch := decide) only [aup_o, aup_k, Int.reduceEq, if_true, if_false]
      · rw [h1 k (by omega) (by omega)]
        simp (disch := omega) only [aup_o]
      · rw [h2 i (by omega) (by omega) (by omega) (by omega)]
        simp (disch := omega) only [aup_o, aup_i]
  · refine pair_of (o := .inr 0) (a' := a) (k_thr rfl fun Q T hT => wX9_configure hw ?_) (m_thr fun m Q hrJ hQ => wX10_configure hw ?_) hr hJ (fun _ _ => rfl) (es_n1 _)
    · have n8 : (1 : Nat) ≤ 1 ∧ ([] : List qP).length ≤ 8 ∧ T "java/lang/IllegalArgumentException" (qi a) := ⟨by decide, by decide, hT⟩
      by_cases c1 : 40 ≤ p1 ∧ p1 ≤ 400
      · by_cases c2 : 40 ≤ p2 ∧ p2 ≤ 9999
        · have c3 : p3 < 0 ∨ 100 < p3 := by omega
          simp (disch := omega) only [z_app, z_rd, z_cl, z_add, z_sub, z_mul, z_neg, z_lit, z_leT, z_leF, z_ltT, z_ltF, z_eqT, z_eqF, i_leT, i_leF, i_ltT, i_ltF, i_eqT, i_eqF, z_le, z_lt, z_eq, z_ite, z_at, z_pt, z_up, z_wr, z_wi1, z_wi0, z_wi, z_inS, z_toInt, z_nb0, z_nb1, Int.cast_ofNat_Int, true_and, and_true, not_true_eq_false, not_false_eq_true, false_imp_iff, true_imp_iff, aup_o, aup_k, ite_true, ite_false, z_fa000, z_fa001, z_fa010, z_fa011, z_fa100, z_fa101, z_fa110, z_fa111, if_true, if_false]
          exact n8
        · have c3 : p2 < 40 ∨ 9999 < p2 := by omega
          simp (disch := omega) only [z_app, z_rd, z_cl, z_add, z_sub, z_mul, z_neg, z_lit, z_leT, z_leF, z_ltT, z_ltF, z_eqT, z_eqF, i_leT, i_leF, i_ltT, i_ltF, i_eqT, i_eqF, z_le, z_lt, z_eq, z_ite, z_at, z_pt, z_up, z_wr, z_wi1, z_wi0, z_wi, z_inS, z_toInt, z_nb0, z_nb1, Int.cast_ofNat_Int, true_and, and_true, not_true_eq_false, not_false_eq_true, false_imp_iff, true_imp_iff, aup_o, aup_k, ite_true, ite_false, z_fa000, z_fa001, z_fa010, z_fa011, z_fa100, z_fa101, z_fa110, z_fa111, if_true, if_false]
          exact n8
      · have c3 : p1 < 40 ∨ 400 < p1 := by omega
        simp (disch := omega) only [z_app, z_rd, z_cl, z_add, z_sub, z_mul, z_neg, z_lit, z_leT, z_leF, z_ltT, z_ltF, z_eqT, z_eqF, i_leT, i_leF, i_ltT, i_ltF, i_eqT, i_eqF, z_le, z_lt, z_eq, z_ite, z_at, z_pt, z_up, z_wr, z_wi1, z_wi0, z_wi, z_inS, z_toInt, z_nb0, z_nb1, Int.cast_ofNat_Int, true_and, and_true, not_true_eq_false, not_false_eq_true, false_imp_iff, true_imp_iff, aup_o, aup_k, ite_true, ite_false, z_fa000, z_fa001, z_fa010, z_fa011, z_fa100, z_fa101, z_fa110, z_fa111, if_true, if_false]
        exact n8
    · have hq := hQ 0
      by_cases c1 : 40 ≤ p1 ∧ p1 ≤ 400
      · by_cases c2 : 40 ≤ p2 ∧ p2 ≤ 9999
        · have c3 : p3 < 0 ∨ 100 < p3 := by omega
          simp (disch := omega) only [z_app, z_rd, z_cl, z_add, z_sub, z_mul, z_neg, z_lit, z_leT, z_leF, z_ltT, z_ltF, z_eqT, z_eqF, i_leT, i_leF, i_ltT, i_ltF, i_eqT, i_eqF, z_le, z_lt, z_eq, z_ite, z_at, z_pt, z_up, z_wr, z_wi1, z_wi0, z_wi, z_inS, z_toInt, z_nb0, z_nb1, Int.cast_ofNat_Int, true_and, and_true, not_true_eq_false, not_false_eq_true, false_imp_iff, true_imp_iff, aup_o, aup_k, ite_true, ite_false, z_fa000, z_fa001, z_fa010, z_fa011, z_fa100, z_fa101, z_fa110, z_fa111, if_true, if_false]
          exact hq
        · have c3 : p2 < 40 ∨ 9999 < p2 := by omega
          simp (disch := omega) only [z_app, z_rd, z_cl, z_add, z_sub, z_mul, z_neg, z_lit, z_leT, z_leF, z_ltT, z_ltF, z_eqT, z_eqF, i_leT, i_leF, i_ltT, i_ltF, i_eqT, i_eqF, z_le, z_lt, z_eq, z_ite, z_at, z_pt, z_up, z_wr, z_wi1, z_wi0, z_wi, z_inS, z_toInt, z_nb0, z_nb1, Int.cast_ofNat_Int, true_and, and_true, not_true_eq_false, not_false_eq_true, false_imp_iff, true_imp_iff, aup_o, aup_k, ite_true, ite_false, z_fa000, z_fa001, z_fa010, z_fa011, z_fa100, z_fa101, z_fa110, z_fa111, if_true, if_false]
          exact hq
      · have c3 : p1 < 40 ∨ 400 < p1 := by omega
        simp (disch := omega) only [z_app, z_rd, z_cl, z_add, z_sub, z_mul, z_neg, z_lit, z_leT, z_leF, z_ltT, z_ltF, z_eqT, z_eqF, i_leT, i_leF, i_ltT, i_ltF, i_eqT, i_eqF, z_le, z_lt, z_eq, z_ite, z_at, z_pt, z_up, z_wr, z_wi1, z_wi0, z_wi, z_inS, z_toInt, z_nb0, z_nb1, Int.cast_ofNat_Int, true_and, and_true, not_true_eq_false, not_false_eq_true, false_imp_iff, true_imp_iff, aup_o, aup_k, ite_true, ite_false, z_fa000, z_fa001, z_fa010, z_fa011, z_fa100, z_fa101, z_fa110, z_fa111, if_true, if_false]
        exact hq
end CF
