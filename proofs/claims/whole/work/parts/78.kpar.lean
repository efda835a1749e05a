/-! ===== the class's parser: sums, numbers, what follows a command's word ===== -/
def fP (u v : aS) : Prop := ∀ x : Nat, x < 63 ∨ 77 < x → v x = u x
theorem fP_tr {a b c : aS} (h1 : fP a b) (h2 : fP b c) : fP a c := fun x hx => by rw [h2 x hx, h1 x hx]
theorem fP_rf (a : aS) : fP a a := fun _ _ => rfl
theorem fP_up {u : aS} {k : Nat} {i v : Int} (h1 : 63 ≤ k) (h2 : k ≤ 77) : fP u (aup u k i v) := fun x hx => aup_o (by omega)
def kF (u v : aS) (code x : Int) : Prop := fP u v ∧ v 63 9 = x ∧ v 63 10 = code
theorem kF_tr {a b c : aS} {code x : Int} (h1 : fP a b) (h2 : kF b c code x) : kF a c code x := ⟨fP_tr h1 h2.1, h2.2⟩
def oA (u v : aS) (a : Int) : Prop := ∀ x : Nat, x ≠ 63 → ∀ i, i ≠ a → v x i = u x i
theorem oA_tr {p q r : aS} {a : Int} (h1 : oA p q a) (h2 : oA q r a) : oA p r a := fun x hx i hi => by rw [h2 x hx i hi, h1 x hx i hi]
theorem oA_rf (p : aS) (a : Int) : oA p p a := fun _ _ _ _ => rfl
theorem oA_up {u : aS} {k : Nat} {a v : Int} : oA u (aup u k a v) a := fun x hx i hi => by
  by_cases e : x = k
  · subst e; exact aup_i hi
  · rw [aup_o e]
theorem oA_63 {u : aS} {a i v : Int} : oA u (aup u 63 i v) a := fun x hx j hj => by rw [aup_o hx]
/-- what the class keeps of the command a, whose word is the token j -/
def nmR (C V : Int → Int) (u : aS) (a j : Int) : Prop :=
  (C j < 267 → (1 ≤ nbs (C j - 256) → u 69 a = V (j + 1)) ∧ (2 ≤ nbs (C j - 256) → u 71 a = V (j + 2)) ∧ (3 ≤ nbs (C j - 256) → u 73 a = V (j + 3)) ∧ u 75 a = ptx C V j) ∧
  (C j = 267 → u 69 a = V (j + 1) ∧ 0 ≤ V (j + 1) ∧ V (j + 1) ≤ 50) ∧
  (C j = 268 → ∃ x y, psum C 900 (j + 1) = .inl x ∧ (C x = 60 ∨ C x = 61 ∨ C x = 62) ∧ psum C 900 (x + 1) = .inl y ∧ u 69 a = j + 1 ∧ u 71 a = x ∧ u 73 a = y)
theorem nbs_q' : ∀ w : Fin 13, qnbs w.val = iI ((nbs (w.val : Int) : Nat) : Int) := by decide +kernel
theorem nbs_3 (w : Int) : nbs w ≤ 3 := by
  unfold nbs
  by_cases h1 : w = 0 ∨ w = 9 ∨ w = 10 ∨ w = 12
  · rw [if_pos h1]; omega
  rw [if_neg h1]
  by_cases h2 : w = 3 ∨ w = 6
  · rw [if_pos h2]; omega
  rw [if_neg h2]
  by_cases h3 : w = 5 ∨ w = 8
  · rw [if_pos h3]; omega
  · rw [if_neg h3]; omega
section KP
variable {g : qG} {d : Nat} {Q : Int32 → qS → Prop} {T : String → qS → Prop} {u : aS} {C V : Int → Int} {c j : Int}
theorem k_current (hw : qWF g) (h80 : u 80 = C) (h9 : u 63 9 = j) (j0 : 0 ≤ j) (j1 : j ≤ 900) (hQ : Q (iI (C j)) (qi u)) : qC g (d + 1) mX3_current [.inr 63] (qi u) Q T := by
  refine wX3_current hw ?_
  simp (disch := omega) only [z_app, z_rd, z_cl, z_add, z_sub, z_mul, z_neg, z_lit, z_leT, z_leF, z_ltT, z_ltF, z_eqT, z_eqF, i_leT, i_leF, i_ltT, i_ltF, i_eqT, i_eqF, z_le, z_lt, z_eq, z_ite, z_at, z_pt, z_up, z_wr, z_wi1, z_wi0, z_wi, z_inS, z_toInt, z_nb0, z_nb1, Int.cast_ofNat_Int, true_and, and_true, not_true_eq_false, not_false_eq_true, false_imp_iff, true_imp_iff, aup_o, aup_k, ite_true, ite_false, z_fa000, z_fa001, z_fa010, z_fa011, z_fa100, z_fa101, z_fa110, z_fa111, if_true, if_false, h9, h80]
  exact hQ
theorem k_accept1 (hw : qWF g) (h80 : u 80 = C) (h9 : u 63 9 = j) (j0 : 0 ≤ j) (j1 : j ≤ 900) {x : Int} (hx : C j = x) (x0 : 0 ≤ x) (x1 : x ≤ 303) (hQ : Q (iI 1) (qi (aup u 63 9 (j + 1)))) : qC g (d + 1) mX3_accept [.inr 63, .inl (iI x)] (qi u) Q T := by
  refine wX3_accept hw ?_
  simp (disch := omega) only [z_app, z_rd, z_cl, z_add, z_sub, z_mul, z_neg, z_lit, z_leT, z_leF, z_ltT, z_ltF, z_eqT, z_eqF, i_leT, i_leF, i_ltT, i_ltF, i_eqT, i_eqF, z_le, z_lt, z_eq, z_ite, z_at, z_pt, z_up, z_wr, z_wi1, z_wi0, z_wi, z_inS, z_toInt, z_nb0, z_nb1, Int.cast_ofNat_Int, true_and, and_true, not_true_eq_false, not_false_eq_true, false_imp_iff, true_imp_iff, aup_o, aup_k, ite_true, ite_false, z_fa000, z_fa001, z_fa010, z_fa011, z_fa100, z_fa101, z_fa110, z_fa111, if_true, if_false, h9, h80]
  exact ⟨Or.inr trivial, hQ⟩
theorem k_accept0 (hw : qWF g) (h80 : u 80 = C) (h9 : u 63 9 = j) (j0 : 0 ≤ j) (j1 : j ≤ 900) {x : Int} (hx : C j ≠ x) (c0 : 0 ≤ C j) (c1 : C j ≤ 303) (x0 : 0 ≤ x) (x1 : x ≤ 303) (hQ : Q (iI 0) (qi (aup u 63 10 1))) : qC g (d + 1) mX3_accept [.inr 63, .inl (iI x)] (qi u) Q T := by
  refine wX3_accept hw ?_
  simp (disch := omega) only [z_app, z_rd, z_cl, z_add, z_sub, z_mul, z_neg, z_lit, z_leT, z_leF, z_ltT, z_ltF, z_eqT, z_eqF, i_leT, i_leF, i_ltT, i_ltF, i_eqT, i_eqF, z_le, z_lt, z_eq, z_ite, z_at, z_pt, z_up, z_wr, z_wi1, z_wi0, z_wi, z_inS, z_toInt, z_nb0, z_nb1, Int.cast_ofNat_Int, true_and, and_true, not_true_eq_false, not_false_eq_true, false_imp_iff, true_imp_iff, aup_o, aup_k, ite_true, ite_false, z_fa000, z_fa001, z_fa010, z_fa011, z_fa100, z_fa101, z_fa110, z_fa111, if_true, if_false, h9, h80]
  exact ⟨Or.inl trivial, hQ⟩
theorem k_parseAtom (hw : qWF g) (hB : tB C V c) (h80 : u 80 = C) (h9 : u 63 9 = j) (j0 : 0 ≤ j) (j1 : j ≤ c) (h1 : ∀ x, patom C j = .inl x → Q (iI 1) (qi (aup u 63 9 x))) (h0 : ∀ x, patom C j = .inr x → Q (iI 0) (qi (aup (aup u 63 9 x) 63 10 1))) : qC g (d + 1) mX3_parseAtom [.inr 63] (qi u) Q T := by
  have B := hB.2 j j0 j1
  have c9 := hB.1
  have B1 := B.1
  unfold patom at h1 h0
  refine wX3_parseAtom hw ?_
  by_cases c1 : C j = 273
  · have jc := tB_lt hB j0 j1 (by omega)
    have B2 := (hB.2 (j + 1) (by omega) (by omega)).1
    rw [if_pos c1] at h1 h0
    clear B hB
    by_cases c2 : C (j + 1) = 301
    · have q := h1 (j + 2) (by rw [if_pos c2])
      rw [show aup u 63 9 (j + 2) = aup (aup u 63 9 (j + 1)) 63 9 (j + 1 + 1) by rw [aup_aup, show j + 1 + 1 = j + 2 by omega]] at q
      clear h1 h0
      simp (disch := omega) only [z_app, z_rd, z_cl, z_add, z_sub, z_mul, z_neg, z_lit, z_leT, z_leF, z_ltT, z_ltF, z_eqT, z_eqF, i_leT, i_leF, i_ltT, i_ltF, i_eqT, i_eqF, z_le, z_lt, z_eq, z_ite, z_at, z_pt, z_up, z_wr, z_wi1, z_wi0, z_wi, z_inS, z_toInt, z_nb0, z_nb1, Int.cast_ofNat_Int, true_and, and_true, not_true_eq_false, not_false_eq_true, false_imp_iff, true_imp_iff, aup_o, aup_k, ite_true, ite_false, z_fa000, z_fa001, z_fa010, z_fa011, z_fa100, z_fa101, z_fa110, z_fa111, if_true, if_false, h9, h80]
      exact ⟨Or.inr trivial, q⟩
    · have q := h0 (j + 1) (by rw [if_neg c2])
      clear h1 h0
      simp (disch := omega) only [z_app, z_rd, z_cl, z_add, z_sub, z_mul, z_neg, z_lit, z_leT, z_leF, z_ltT, z_ltF, z_eqT, z_eqF, i_leT, i_leF, i_ltT, i_ltF, i_eqT, i_eqF, z_le, z_lt, z_eq, z_ite, z_at, z_pt, z_up, z_wr, z_wi1, z_wi0, z_wi, z_inS, z_toInt, z_nb0, z_nb1, Int.cast_ofNat_Int, true_and, and_true, not_true_eq_false, not_false_eq_true, false_imp_iff, true_imp_iff, aup_o, aup_k, ite_true, ite_false, z_fa000, z_fa001, z_fa010, z_fa011, z_fa100, z_fa101, z_fa110, z_fa111, if_true, if_false, h9, h80]
      exact ⟨Or.inl trivial, q⟩
  · rw [if_neg c1] at h1 h0
    clear B
    by_cases c2 : C j = 301
    · have q := h1 (j + 1) (by rw [if_pos (Or.inl c2)])
      clear h1 h0
      simp (disch := omega) only [z_app, z_rd, z_cl, z_add, z_sub, z_mul, z_neg, z_lit, z_leT, z_leF, z_ltT, z_ltF, z_eqT, z_eqF, i_leT, i_leF, i_ltT, i_ltF, i_eqT, i_eqF, z_le, z_lt, z_eq, z_ite, z_at, z_pt, z_up, z_wr, z_wi1, z_wi0, z_wi, z_inS, z_toInt, z_nb0, z_nb1, Int.cast_ofNat_Int, true_and, and_true, not_true_eq_false, not_false_eq_true, false_imp_iff, true_imp_iff, aup_o, aup_k, ite_true, ite_false, z_fa000, z_fa001, z_fa010, z_fa011, z_fa100, z_fa101, z_fa110, z_fa111, if_true, if_false, h9, h80]
      exact ⟨Or.inr trivial, q⟩
    · by_cases c3 : 270 ≤ C j ∧ C j ≤ 272
      · have q := h1 (j + 1) (by rw [if_pos (Or.inr c3)])
        clear h1 h0
        simp (disch := omega) only [z_app, z_rd, z_cl, z_add, z_sub, z_mul, z_neg, z_lit, z_leT, z_leF, z_ltT, z_ltF, z_eqT, z_eqF, i_leT, i_leF, i_ltT, i_ltF, i_eqT, i_eqF, z_le, z_lt, z_eq, z_ite, z_at, z_pt, z_up, z_wr, z_wi1, z_wi0, z_wi, z_inS, z_toInt, z_nb0, z_nb1, Int.cast_ofNat_Int, true_and, and_true, not_true_eq_false, not_false_eq_true, false_imp_iff, true_imp_iff, aup_o, aup_k, ite_true, ite_false, z_fa000, z_fa001, z_fa010, z_fa011, z_fa100, z_fa101, z_fa110, z_fa111, if_true, if_false, h9, h80]
        exact ⟨Or.inr trivial, q⟩
      · have q := h0 j (by rw [if_neg (by omega)])
        rw [← h9, aup_id] at q
        clear h1 h0
        simp (disch := omega) only [z_app, z_rd, z_cl, z_add, z_sub, z_mul, z_neg, z_lit, z_leT, z_leF, z_ltT, z_ltF, z_eqT, z_eqF, i_leT, i_leF, i_ltT, i_ltF, i_eqT, i_eqF, z_le, z_lt, z_eq, z_ite, z_at, z_pt, z_up, z_wr, z_wi1, z_wi0, z_wi, z_inS, z_toInt, z_nb0, z_nb1, Int.cast_ofNat_Int, true_and, and_true, not_true_eq_false, not_false_eq_true, false_imp_iff, true_imp_iff, aup_o, aup_k, ite_true, ite_false, z_fa000, z_fa001, z_fa010, z_fa011, z_fa100, z_fa101, z_fa110, z_fa111, if_true, if_false, h9, h80]
        exact ⟨Or.inl trivial, q⟩
theorem k_parseSum (hw : qWF g) (hB : tB C V c) (h80 : u 80 = C) (h9 : u 63 9 = j) (j0 : 0 ≤ j) (j1 : j ≤ c) (h1 : ∀ x, psum C 900 j = .inl x → Q (iI 1) (qi (aup u 63 9 x))) (h0 : ∀ x, psum C 900 j = .inr x → Q (iI 0) (qi (aup (aup u 63 9 x) 63 10 1))) : qC g (d + 2) mX3_parseSum [.inr 63] (qi u) Q T := by
  have c9 := hB.1
  have loop : ∀ (f n : Nat) (i : Int), n + f = 900 → 2 * n ≤ i → i ≤ c → psum C 900 j = psum C f i → qV g mX3_parseSum (d + 2) 0 2 [some (.inr 63), some (.inl (iI n))] [] (qi (aup u 63 9 i)) Q T := by
    intro f
    induction f with
    | zero => intro n i hn h2 h3 he; omega
    | succ f ih =>
      intro n i hn h2 h3 he
      have pb := patom_b hB (j := i) (by omega) h3
      rw [psum_s f i] at he
      have v80 : aup u 63 9 i 80 = C := by rw [aup_o (by decide)]; exact h80
      refine wX3_parseSum_2 hw ?_
      simp (disch := omega) only [z_app, z_rd, z_cl, z_add, z_sub, z_mul, z_neg, z_lit, z_leT, z_leF, z_ltT, z_ltF, z_eqT, z_eqF, i_leT, i_leF, i_ltT, i_ltF, i_eqT, i_eqF, z_le, z_lt, z_eq, z_ite, z_at, z_pt, z_up, z_wr, z_wi1, z_wi0, z_wi, z_inS, z_toInt, z_nb0, z_nb1, Int.cast_ofNat_Int, true_and, and_true, not_true_eq_false, not_false_eq_true, false_imp_iff, true_imp_iff, aup_o, aup_k, ite_true, ite_false, z_fa000, z_fa001, z_fa010, z_fa011, z_fa100, z_fa101, z_fa110, z_fa111, if_true, if_false]
      refine k_parseAtom hw hB v80 (aup_s _ _ _ _) (by omega) h3 (fun x hx => ?_) (fun x hx => ?_)
      · have xb := pb.1 x hx
        rw [hx] at he
        have he : psum C 900 j = if C x = 43 ∨ C x = 45 then psum C f (x + 1) else .inl x := he
        rw [aup_aup]
        have w80 : aup u 63 9 x 80 = C := by rw [aup_o (by decide)]; exact h80
        have w9 : aup u 63 9 x 63 9 = x := aup_s _ _ _ _
        have B := (hB.2 x (by omega) xb.2).1
        have st : C x = 43 ∨ C x = 45 → qV g mX3_parseSum (d + 2) 0 2 [some (.inr 63), some (.inl (iI ((n : Int) + 1)))] [] (qi (aup (aup u 63 9 x) 63 9 (x + 1))) Q T := fun hc => by
          rw [if_pos hc] at he
          have xc := tB_lt hB (j := x) (by omega) xb.2 (by omega)
          have := ih (n + 1) (x + 1) (by omega) (by omega) (by omega) he
          rw [aup_aup]
          exact this
        by_cases c1 : C x = 43
        · have q := st (Or.inl c1)
          clear st
          simp (disch := omega) only [z_app, z_rd, z_cl, z_add, z_sub, z_mul, z_neg, z_lit, z_leT, z_leF, z_ltT, z_ltF, z_eqT, z_eqF, i_leT, i_leF, i_ltT, i_ltF, i_eqT, i_eqF, z_le, z_lt, z_eq, z_ite, z_at, z_pt, z_up, z_wr, z_wi1, z_wi0, z_wi, z_inS, z_toInt, z_nb0, z_nb1, Int.cast_ofNat_Int, true_and, and_true, not_true_eq_false, not_false_eq_true, false_imp_iff, true_imp_iff, aup_o, aup_k, ite_true, ite_false, z_fa000, z_fa001, z_fa010, z_fa011, z_fa100, z_fa101, z_fa110, z_fa111, if_true, if_false]
          refine k_current hw w80 w9 (by omega) (by omega) ?_
          simp (disch := omega) only [z_app, z_rd, z_cl, z_add, z_sub, z_mul, z_neg, z_lit, z_leT, z_leF, z_ltT, z_ltF, z_eqT, z_eqF, i_leT, i_leF, i_ltT, i_ltF, i_eqT, i_eqF, z_le, z_lt, z_eq, z_ite, z_at, z_pt, z_up, z_wr, z_wi1, z_wi0, z_wi, z_inS, z_toInt, z_nb0, z_nb1, Int.cast_ofNat_Int, true_and, and_true, not_true_eq_false, not_false_eq_true, false_imp_iff, true_imp_iff, aup_o, aup_k, ite_true, ite_false, z_fa000, z_fa001, z_fa010, z_fa011, z_fa100, z_fa101, z_fa110, z_fa111, if_true, if_false]
          exact q
        · by_cases c2 : C x = 45
          · have q := st (Or.inr c2)
            clear st
            simp (disch := omega) only [z_app, z_rd, z_cl, z_add, z_sub, z_mul, z_neg, z_lit, z_leT, z_leF, z_ltT, z_ltF, z_eqT, z_eqF, i_leT, i_leF, i_ltT, i_ltF, i_eqT, i_eqF, z_le, z_lt, z_eq, z_ite, z_at, z_pt, z_up, z_wr, z_wi1, z_wi0, z_wi, z_inS, z_toInt, z_nb0, z_nb1, Int.cast_ofNat_Int, true_and, and_true, not_true_eq_false, not_false_eq_true, false_imp_iff, true_imp_iff, aup_o, aup_k, ite_true, ite_false, z_fa000, z_fa001, z_fa010, z_fa011, z_fa100, z_fa101, z_fa110, z_fa111, if_true, if_false]
            refine k_current hw w80 w9 (by omega) (by omega) ?_
            simp (disch := omega) only [z_app, z_rd, z_cl, z_add, z_sub, z_mul, z_neg, z_lit, z_leT, z_leF, z_ltT, z_ltF, z_eqT, z_eqF, i_leT, i_leF, i_ltT, i_ltF, i_eqT, i_eqF, z_le, z_lt, z_eq, z_ite, z_at, z_pt, z_up, z_wr, z_wi1, z_wi0, z_wi, z_inS, z_toInt, z_nb0, z_nb1, Int.cast_ofNat_Int, true_and, and_true, not_true_eq_false, not_false_eq_true, false_imp_iff, true_imp_iff, aup_o, aup_k, ite_true, ite_false, z_fa000, z_fa001, z_fa010, z_fa011, z_fa100, z_fa101, z_fa110, z_fa111, if_true, if_false]
            refine k_current hw w80 w9 (by omega) (by omega) ?_
            simp (disch := omega) only [z_app, z_rd, z_cl, z_add, z_sub, z_mul, z_neg, z_lit, z_leT, z_leF, z_ltT, z_ltF, z_eqT, z_eqF, i_leT, i_leF, i_ltT, i_ltF, i_eqT, i_eqF, z_le, z_lt, z_eq, z_ite, z_at, z_pt, z_up, z_wr, z_wi1, z_wi0, z_wi, z_inS, z_toInt, z_nb0, z_nb1, Int.cast_ofNat_Int, true_and, and_true, not_true_eq_false, not_false_eq_true, false_imp_iff, true_imp_iff, aup_o, aup_k, ite_true, ite_false, z_fa000, z_fa001, z_fa010, z_fa011, z_fa100, z_fa101, z_fa110, z_fa111, if_true, if_false]
            exact q
          · rw [if_neg (by omega)] at he
            have q := h1 x he
            clear st
            simp (disch := omega) only [z_app, z_rd, z_cl, z_add, z_sub, z_mul, z_neg, z_lit, z_leT, z_leF, z_ltT, z_ltF, z_eqT, z_eqF, i_leT, i_leF, i_ltT, i_ltF, i_eqT, i_eqF, z_le, z_lt, z_eq, z_ite, z_at, z_pt, z_up, z_wr, z_wi1, z_wi0, z_wi, z_inS, z_toInt, z_nb0, z_nb1, Int.cast_ofNat_Int, true_and, and_true, not_true_eq_false, not_false_eq_true, false_imp_iff, true_imp_iff, aup_o, aup_k, ite_true, ite_false, z_fa000, z_fa001, z_fa010, z_fa011, z_fa100, z_fa101, z_fa110, z_fa111, if_true, if_false]
            refine k_current hw w80 w9 (by omega) (by omega) ?_
            simp (disch := omega) only [z_app, z_rd, z_cl, z_add, z_sub, z_mul, z_neg, z_lit, z_leT, z_leF, z_ltT, z_ltF, z_eqT, z_eqF, i_leT, i_leF, i_ltT, i_ltF, i_eqT, i_eqF, z_le, z_lt, z_eq, z_ite, z_at, z_pt, z_up, z_wr, z_wi1, z_wi0, z_wi, z_inS, z_toInt, z_nb0, z_nb1, Int.cast_ofNat_Int, true_and, and_true, not_true_eq_false, not_false_eq_true, false_imp_iff, true_imp_iff, aup_o, aup_k, ite_true, ite_false, z_fa000, z_fa001, z_fa010, z_fa011, z_fa100, z_fa101, z_fa110, z_fa111, if_true, if_false]
            refine k_current hw w80 w9 (by omega) (by omega) ?_
            simp (disch := omega) only [z_app, z_rd, z_cl, z_add, z_sub, z_mul, z_neg, z_lit, z_leT, z_leF, z_ltT, z_ltF, z_eqT, z_eqF, i_leT, i_leF, i_ltT, i_ltF, i_eqT, i_eqF, z_le, z_lt, z_eq, z_ite, z_at, z_pt, z_up, z_wr, z_wi1, z_wi0, z_wi, z_inS, z_toInt, z_nb0, z_nb1, Int.cast_ofNat_Int, true_and, and_true, not_true_eq_false, not_false_eq_true, false_imp_iff, true_imp_iff, aup_o, aup_k, ite_true, ite_false, z_fa000, z_fa001, z_fa010, z_fa011, z_fa100, z_fa101, z_fa110, z_fa111, if_true, if_false]
            exact ⟨Or.inr trivial, q⟩
      · rw [hx] at he
        have q := h0 x he
        rw [aup_aup]
        simp (disch := omega) only [z_app, z_rd, z_cl, z_add, z_sub, z_mul, z_neg, z_lit, z_leT, z_leF, z_ltT, z_ltF, z_eqT, z_eqF, i_leT, i_leF, i_ltT, i_ltF, i_eqT, i_eqF, z_le, z_lt, z_eq, z_ite, z_at, z_pt, z_up, z_wr, z_wi1, z_wi0, z_wi, z_inS, z_toInt, z_nb0, z_nb1, Int.cast_ofNat_Int, true_and, and_true, not_true_eq_false, not_false_eq_true, false_imp_iff, true_imp_iff, aup_o, aup_k, ite_true, ite_false, z_fa000, z_fa001, z_fa010, z_fa011, z_fa100, z_fa101, z_fa110, z_fa111, if_true, if_false]
        exact ⟨Or.inl trivial, q⟩
  have l := loop 900 0 j rfl (by omega) j1 rfl
  rw [← h9, aup_id] at l
  exact wX3_parseSum hw ⟨rfl, l⟩
theorem k_parseComparison (hw : qWF g) (hB : tB C V c) (h80 : u 80 = C) (h9 : u 63 9 = j) (j0 : 0 ≤ j) (j1 : j ≤ c) {a : Int} (a0 : 0 ≤ a) (a1 : a < 60) (h1 : ∀ v x y, psum C 900 j = .inl x → (C x = 60 ∨ C x = 61 ∨ C x = 62) → psum C 900 (x + 1) = .inl y → pcmp C j = .inl y → fP u v → oA u v a → (∀ i, i ≠ 9 → v 63 i = u 63 i) → v 63 9 = y → v 65 = u 65 → v 67 = u 67 → v 75 = u 75 → v 77 = u 77 → v 69 a = j → v 71 a = x → v 73 a = y → Q (iI 1) (qi v)) (h0 : ∀ v x, pcmp C j = .inr (1, x) → kF u v 1 x → Q (iI 0) (qi v)) : qC g (d + 3) mX3_parseComparison [.inr 63, .inl (iI a)] (qi u) Q T := by
  have c9 := hB.1
  unfold pcmp at h1 h0
  have pb := psum_b hB 900 j j0 j1
  refine wX3_parseComparison hw ?_
  simp (disch := omega) only [z_app, z_rd, z_cl, z_add, z_sub, z_mul, z_neg, z_lit, z_leT, z_leF, z_ltT, z_ltF, z_eqT, z_eqF, i_leT, i_leF, i_ltT, i_ltF, i_eqT, i_eqF, z_le, z_lt, z_eq, z_ite, z_at, z_pt, z_up, z_wr, z_wi1, z_wi0, z_wi, z_inS, z_toInt, z_nb0, z_nb1, Int.cast_ofNat_Int, true_and, and_true, not_true_eq_false, not_false_eq_true, false_imp_iff, true_imp_iff, aup_o, aup_k, ite_true, ite_false, z_fa000, z_fa001, z_fa010, z_fa011, z_fa100, z_fa101, z_fa110, z_fa111, if_true, if_false, h9]
  refine k_parseSum hw hB (by rw [aup_o (by decide)]; exact h80) (by rw [aup_o (by decide)]; exact h9) j0 j1 (fun x hx => ?_) (fun x hx => ?_)
  · rw [hx] at h1 h0
    have xb := pb.1 x hx
    have B := (hB.2 x (by omega) xb.2).1
    have w80 : aup (aup (aup u 69 a j) 63 9 x) 71 a x 80 = C := by rw [aup_o (by decide), aup_o (by decide), aup_o (by decide)]; exact h80
    have w9 : aup (aup (aup u 69 a j) 63 9 x) 71 a x 63 9 = x := by rw [aup_o (by decide), aup_s]
    have f1 : fP u (aup (aup (aup u 69 a j) 63 9 x) 71 a x) := fP_tr (fP_up (by decide) (by decide)) (fP_tr (fP_up (by decide) (by decide)) (fP_up (by decide) (by decide)))
    by_cases hc : C x = 60 ∨ C x = 61 ∨ C x = 62
    · simp only [if_pos hc] at h1 h0
      have xc := tB_lt hB (j := x) (by omega) xb.2 (by omega)
      have v80 : aup (aup (aup (aup u 69 a j) 63 9 x) 71 a x) 63 9 (x + 1) 80 = C := by rw [aup_o (by decide)]; exact w80
      have pb2 := psum_b hB 900 (x + 1) (by omega) (by omega)
      have f2 : fP u (aup (aup (aup (aup u 69 a j) 63 9 x) 71 a x) 63 9 (x + 1)) := fP_tr f1 (fP_up (by decide) (by decide))
      have key : ∀ (Q' : Int32 → qS → Prop), (∀ y, Q (iI 1) (qi (aup (aup (aup (aup (aup (aup u 69 a j) 63 9 x) 71 a x) 63 9 (x + 1)) 63 9 y) 73 a y)) → Q' (iI 1) (qi (aup (aup (aup (aup (aup u 69 a j) 63 9 x) 71 a x) 63 9 (x + 1)) 63 9 y))) → (∀ y, x + 1 ≤ y → y ≤ c → Q (iI 0) (qi (aup (aup (aup (aup (aup (aup (aup u 69 a j) 63 9 x) 71 a x) 63 9 (x + 1)) 63 9 y) 63 10 1) 73 a y)) → Q' (iI 0) (qi (aup (aup (aup (aup (aup (aup u 69 a j) 63 9 x) 71 a x) 63 9 (x + 1)) 63 9 y) 63 10 1))) → qC g (d + 2) mX3_parseSum [.inr 63] (qi (aup (aup (aup (aup u 69 a j) 63 9 x) 71 a x) 63 9 (x + 1))) Q' T := by
        intro Q' g1 g0
        refine k_parseSum hw hB v80 (aup_s _ _ _ _) (by omega) (by omega) (fun y hy => g1 y ?_) (fun y hy => g0 y (pb2.2 y hy).1 (pb2.2 y hy).2 ?_)
        · rw [hy] at h1
          refine h1 _ x y rfl hc hy rfl (fP_tr f2 (fP_tr (fP_up (by decide) (by decide)) (fP_up (by decide) (by decide)))) (oA_tr (oA_tr (oA_tr (oA_tr (oA_tr oA_up oA_63) oA_up) oA_63) oA_63) oA_up) (fun i hi => ?_) ?_ ?_ ?_ ?_ ?_ ?_ ?_ ?_
          · rw [aup_o (by decide), aup_i hi, aup_i hi, aup_o (by decide), aup_i hi, aup_o (by decide)]
          · rw [aup_o (by decide), aup_s]
          · rw [aup_o (by decide), aup_o (by decide), aup_o (by decide), aup_o (by decide), aup_o (by decide), aup_o (by decide)]
          · rw [aup_o (by decide), aup_o (by decide), aup_o (by decide), aup_o (by decide), aup_o (by decide), aup_o (by decide)]
          · rw [aup_o (by decide), aup_o (by decide), aup_o (by decide), aup_o (by decide), aup_o (by decide), aup_o (by decide)]
          · rw [aup_o (by decide), aup_o (by decide), aup_o (by decide), aup_o (by decide), aup_o (by decide), aup_o (by decide)]
          · rw [aup_o (by decide), aup_o (by decide), aup_o (by decide), aup_o (by decide), aup_o (by decide), aup_s]
          · rw [aup_o (by decide), aup_o (by decide), aup_o (by decide), aup_s]
          · rw [aup_s]
        · rw [hy] at h0
          exact h0 _ y rfl ⟨fP_tr f2 (fP_tr (fP_up (by decide) (by decide)) (fP_tr (fP_up (by decide) (by decide)) (fP_up (by decide) (by decide)))), by rw [aup_o (by decide), aup_i (by decide), aup_s], by rw [aup_o (by decide), aup_s]⟩
      clear h1 h0
      by_cases e1 : C x = 60
      · clear hc
        simp (disch := omega) only [z_app, z_rd, z_cl, z_add, z_sub, z_mul, z_neg, z_lit, z_leT, z_leF, z_ltT, z_ltF, z_eqT, z_eqF, i_leT, i_leF, i_ltT, i_ltF, i_eqT, i_eqF, z_le, z_lt, z_eq, z_ite, z_at, z_pt, z_up, z_wr, z_wi1, z_wi0, z_wi, z_inS, z_toInt, z_nb0, z_nb1, Int.cast_ofNat_Int, true_and, and_true, not_true_eq_false, not_false_eq_true, false_imp_iff, true_imp_iff, aup_o, aup_k, ite_true, ite_false, z_fa000, z_fa001, z_fa010, z_fa011, z_fa100, z_fa101, z_fa110, z_fa111, if_true, if_false]
        refine k_current hw w80 w9 (by omega) (by omega) ?_
        simp (disch := omega) only [z_app, z_rd, z_cl, z_add, z_sub, z_mul, z_neg, z_lit, z_leT, z_leF, z_ltT, z_ltF, z_eqT, z_eqF, i_leT, i_leF, i_ltT, i_ltF, i_eqT, i_eqF, z_le, z_lt, z_eq, z_ite, z_at, z_pt, z_up, z_wr, z_wi1, z_wi0, z_wi, z_inS, z_toInt, z_nb0, z_nb1, Int.cast_ofNat_Int, true_and, and_true, not_true_eq_false, not_false_eq_true, false_imp_iff, true_imp_iff, aup_o, aup_k, ite_true, ite_false, z_fa000, z_fa001, z_fa010, z_fa011, z_fa100, z_fa101, z_fa110, z_fa111, if_true, if_false, w9]
        refine key _ (fun y q => ?_) (fun y y0 y1 q => ?_)
        · simp (disch := omega) only [z_app, z_rd, z_cl, z_add, z_sub, z_mul, z_neg, z_lit, z_leT, z_leF, z_ltT, z_ltF, z_eqT, z_eqF, i_leT, i_leF, i_ltT, i_ltF, i_eqT, i_eqF, z_le, z_lt, z_eq, z_ite, z_at, z_pt, z_up, z_wr, z_wi1, z_wi0, z_wi, z_inS, z_toInt, z_nb0, z_nb1, Int.cast_ofNat_Int, true_and, and_true, not_true_eq_false, not_false_eq_true, false_imp_iff, true_imp_iff, aup_o, aup_k, ite_true, ite_false, z_fa000, z_fa001, z_fa010, z_fa011, z_fa100, z_fa101, z_fa110, z_fa111, if_true, if_false]
          exact ⟨Or.inr trivial, q⟩
        · simp (disch := omega) only [z_app, z_rd, z_cl, z_add, z_sub, z_mul, z_neg, z_lit, z_leT, z_leF, z_ltT, z_ltF, z_eqT, z_eqF, i_leT, i_leF, i_ltT, i_ltF, i_eqT, i_eqF, z_le, z_lt, z_eq, z_ite, z_at, z_pt, z_up, z_wr, z_wi1, z_wi0, z_wi, z_inS, z_toInt, z_nb0, z_nb1, Int.cast_ofNat_Int, true_and, and_true, not_true_eq_false, not_false_eq_true, false_imp_iff, true_imp_iff, aup_o, aup_k, ite_true, ite_false, z_fa000, z_fa001, z_fa010, z_fa011, z_fa100, z_fa101, z_fa110, z_fa111, if_true, if_false]
          exact ⟨Or.inl trivial, q⟩
      · by_cases e2 : C x = 61
        · clear hc
          simp (disch := omega) only [z_app, z_rd, z_cl, z_add, z_sub, z_mul, z_neg, z_lit, z_leT, z_leF, z_ltT, z_ltF, z_eqT, z_eqF, i_leT, i_leF, i_ltT, i_ltF, i_eqT, i_eqF, z_le, z_lt, z_eq, z_ite, z_at, z_pt, z_up, z_wr, z_wi1, z_wi0, z_wi, z_inS, z_toInt, z_nb0, z_nb1, Int.cast_ofNat_Int, true_and, and_true, not_true_eq_false, not_false_eq_true, false_imp_iff, true_imp_iff, aup_o, aup_k, ite_true, ite_false, z_fa000, z_fa001, z_fa010, z_fa011, z_fa100, z_fa101, z_fa110, z_fa111, if_true, if_false]
          refine k_current hw w80 w9 (by omega) (by omega) ?_
          simp (disch := omega) only [z_app, z_rd, z_cl, z_add, z_sub, z_mul, z_neg, z_lit, z_leT, z_leF, z_ltT, z_ltF, z_eqT, z_eqF, i_leT, i_leF, i_ltT, i_ltF, i_eqT, i_eqF, z_le, z_lt, z_eq, z_ite, z_at, z_pt, z_up, z_wr, z_wi1, z_wi0, z_wi, z_inS, z_toInt, z_nb0, z_nb1, Int.cast_ofNat_Int, true_and, and_true, not_true_eq_false, not_false_eq_true, false_imp_iff, true_imp_iff, aup_o, aup_k, ite_true, ite_false, z_fa000, z_fa001, z_fa010, z_fa011, z_fa100, z_fa101, z_fa110, z_fa111, if_true, if_false, w9]
          refine k_current hw w80 w9 (by omega) (by omega) ?_
          simp (disch := omega) only [z_app, z_rd, z_cl, z_add, z_sub, z_mul, z_neg, z_lit, z_leT, z_leF, z_ltT, z_ltF, z_eqT, z_eqF, i_leT, i_leF, i_ltT, i_ltF, i_eqT, i_eqF, z_le, z_lt, z_eq, z_ite, z_at, z_pt, z_up, z_wr, z_wi1, z_wi0, z_wi, z_inS, z_toInt, z_nb0, z_nb1, Int.cast_ofNat_Int, true_and, and_true, not_true_eq_false, not_false_eq_true, false_imp_iff, true_imp_iff, aup_o, aup_k, ite_true, ite_false, z_fa000, z_fa001, z_fa010, z_fa011, z_fa100, z_fa101, z_fa110, z_fa111, if_true, if_false, w9]
          refine key _ (fun y q => ?_) (fun y y0 y1 q => ?_)
          · simp (disch := omega) only [z_app, z_rd, z_cl, z_add, z_sub, z_mul, z_neg, z_lit, z_leT, z_leF, z_ltT, z_ltF, z_eqT, z_eqF, i_leT, i_leF, i_ltT, i_ltF, i_eqT, i_eqF, z_le, z_lt, z_eq, z_ite, z_at, z_pt, z_up, z_wr, z_wi1, z_wi0, z_wi, z_inS, z_toInt, z_nb0, z_nb1, Int.cast_ofNat_Int, true_and, and_true, not_true_eq_false, not_false_eq_true, false_imp_iff, true_imp_iff, aup_o, aup_k, ite_true, ite_false, z_fa000, z_fa001, z_fa010, z_fa011, z_fa100, z_fa101, z_fa110, z_fa111, if_true, if_false]
            exact ⟨Or.inr trivial, q⟩
          · simp (disch := omega) only [z_app, z_rd, z_cl, z_add, z_sub, z_mul, z_neg, z_lit, z_leT, z_leF, z_ltT, z_ltF, z_eqT, z_eqF, i_leT, i_leF, i_ltT, i_ltF, i_eqT, i_eqF, z_le, z_lt, z_eq, z_ite, z_at, z_pt, z_up, z_wr, z_wi1, z_wi0, z_wi, z_inS, z_toInt, z_nb0, z_nb1, Int.cast_ofNat_Int, true_and, and_true, not_true_eq_false, not_false_eq_true, false_imp_iff, true_imp_iff, aup_o, aup_k, ite_true, ite_false, z_fa000, z_fa001, z_fa010, z_fa011, z_fa100, z_fa101, z_fa110, z_fa111, if_true, if_false]
            exact ⟨Or.inl trivial, q⟩
        · have e3 : C x = 62 := by omega
          clear hc
          simp (disch := omega) only [z_app, z_rd, z_cl, z_add, z_sub, z_mul, z_neg, z_lit, z_leT, z_leF, z_ltT, z_ltF, z_eqT, z_eqF, i_leT, i_leF, i_ltT, i_ltF, i_eqT, i_eqF, z_le, z_lt, z_eq, z_ite, z_at, z_pt, z_up, z_wr, z_wi1, z_wi0, z_wi, z_inS, z_toInt, z_nb0, z_nb1, Int.cast_ofNat_Int, true_and, and_true, not_true_eq_false, not_false_eq_true, false_imp_iff, true_imp_iff, aup_o, aup_k, ite_true, ite_false, z_fa000, z_fa001, z_fa010, z_fa011, z_fa100, z_fa101, z_fa110, z_fa111, if_true, if_false]
          refine k_current hw w80 w9 (by omega) (by omega) ?_
          simp (disch := omega) only [z_app, z_rd, z_cl, z_add, z_sub, z_mul, z_neg, z_lit, z_leT, z_leF, z_ltT, z_ltF, z_eqT, z_eqF, i_leT, i_leF, i_ltT, i_ltF, i_eqT, i_eqF, z_le, z_lt, z_eq, z_ite, z_at, z_pt, z_up, z_wr, z_wi1, z_wi0, z_wi, z_inS, z_toInt, z_nb0, z_nb1, Int.cast_ofNat_Int, true_and, and_true, not_true_eq_false, not_false_eq_true, false_imp_iff, true_imp_iff, aup_o, aup_k, ite_true, ite_false, z_fa000, z_fa001, z_fa010, z_fa011, z_fa100, z_fa101, z_fa110, z_fa111, if_true, if_false, w9]
          refine k_current hw w80 w9 (by omega) (by omega) ?_
          simp (disch := omega) only [z_app, z_rd, z_cl, z_add, z_sub, z_mul, z_neg, z_lit, z_leT, z_leF, z_ltT, z_ltF, z_eqT, z_eqF, i_leT, i_leF, i_ltT, i_ltF, i_eqT, i_eqF, z_le, z_lt, z_eq, z_ite, z_at, z_pt, z_up, z_wr, z_wi1, z_wi0, z_wi, z_inS, z_toInt, z_nb0, z_nb1, Int.cast_ofNat_Int, true_and, and_true, not_true_eq_false, not_false_eq_true, false_imp_iff, true_imp_iff, aup_o, aup_k, ite_true, ite_false, z_fa000, z_fa001, z_fa010, z_fa011, z_fa100, z_fa101, z_fa110, z_fa111, if_true, if_false, w9]
          refine k_current hw w80 w9 (by omega) (by omega) ?_
          simp (disch := omega) only [z_app, z_rd, z_cl, z_add, z_sub, z_mul, z_neg, z_lit, z_leT, z_leF, z_ltT, z_ltF, z_eqT, z_eqF, i_leT, i_leF, i_ltT, i_ltF, i_eqT, i_eqF, z_le, z_lt, z_eq, z_ite, z_at, z_pt, z_up, z_wr, z_wi1, z_wi0, z_wi, z_inS, z_toInt, z_nb0, z_nb1, Int.cast_ofNat_Int, true_and, and_true, not_true_eq_false, not_false_eq_true, false_imp_iff, true_imp_iff, aup_o, aup_k, ite_true, ite_false, z_fa000, z_fa001, z_fa010, z_fa011, z_fa100, z_fa101, z_fa110, z_fa111, if_true, if_false, w9]
          refine key _ (fun y q => ?_) (fun y y0 y1 q => ?_)
          · simp (disch := omega) only [z_app, z_rd, z_cl, z_add, z_sub, z_mul, z_neg, z_lit, z_leT, z_leF, z_ltT, z_ltF, z_eqT, z_eqF, i_leT, i_leF, i_ltT, i_ltF, i_eqT, i_eqF, z_le, z_lt, z_eq, z_ite, z_at, z_pt, z_up, z_wr, z_wi1, z_wi0, z_wi, z_inS, z_toInt, z_nb0, z_nb1, Int.cast_ofNat_Int, true_and, and_true, not_true_eq_false, not_false_eq_true, false_imp_iff, true_imp_iff, aup_o, aup_k, ite_true, ite_false, z_fa000, z_fa001, z_fa010, z_fa011, z_fa100, z_fa101, z_fa110, z_fa111, if_true, if_false]
            exact ⟨Or.inr trivial, q⟩
          · simp (disch := omega) only [z_app, z_rd, z_cl, z_add, z_sub, z_mul, z_neg, z_lit, z_leT, z_leF, z_ltT, z_ltF, z_eqT, z_eqF, i_leT, i_leF, i_ltT, i_ltF, i_eqT, i_eqF, z_le, z_lt, z_eq, z_ite, z_at, z_pt, z_up, z_wr, z_wi1, z_wi0, z_wi, z_inS, z_toInt, z_nb0, z_nb1, Int.cast_ofNat_Int, true_and, and_true, not_true_eq_false, not_false_eq_true, false_imp_iff, true_imp_iff, aup_o, aup_k, ite_true, ite_false, z_fa000, z_fa001, z_fa010, z_fa011, z_fa100, z_fa101, z_fa110, z_fa111, if_true, if_false]
            exact ⟨Or.inl trivial, q⟩
    · simp only [if_neg hc] at h0
      have q := h0 (aup (aup (aup (aup u 69 a j) 63 9 x) 71 a x) 63 10 1) x rfl ⟨fP_tr f1 (fP_up (by decide) (by decide)), by rw [aup_i (by decide)]; exact w9, aup_s _ _ _ _⟩
      clear h1 h0
      have e1 : C x ≠ 60 := fun e => hc (Or.inl e)
      have e2 : C x ≠ 61 := fun e => hc (Or.inr (Or.inl e))
      have e3 : C x ≠ 62 := fun e => hc (Or.inr (Or.inr e))
      clear hc
      simp (disch := omega) only [z_app, z_rd, z_cl, z_add, z_sub, z_mul, z_neg, z_lit, z_leT, z_leF, z_ltT, z_ltF, z_eqT, z_eqF, i_leT, i_leF, i_ltT, i_ltF, i_eqT, i_eqF, z_le, z_lt, z_eq, z_ite, z_at, z_pt, z_up, z_wr, z_wi1, z_wi0, z_wi, z_inS, z_toInt, z_nb0, z_nb1, Int.cast_ofNat_Int, true_and, and_true, not_true_eq_false, not_false_eq_true, false_imp_iff, true_imp_iff, aup_o, aup_k, ite_true, ite_false, z_fa000, z_fa001, z_fa010, z_fa011, z_fa100, z_fa101, z_fa110, z_fa111, if_true, if_false]
      refine k_current hw w80 w9 (by omega) (by omega) ?_
      simp (disch := omega) only [z_app, z_rd, z_cl, z_add, z_sub, z_mul, z_neg, z_lit, z_leT, z_leF, z_ltT, z_ltF, z_eqT, z_eqF, i_leT, i_leF, i_ltT, i_ltF, i_eqT, i_eqF, z_le, z_lt, z_eq, z_ite, z_at, z_pt, z_up, z_wr, z_wi1, z_wi0, z_wi, z_inS, z_toInt, z_nb0, z_nb1, Int.cast_ofNat_Int, true_and, and_true, not_true_eq_false, not_false_eq_true, false_imp_iff, true_imp_iff, aup_o, aup_k, ite_true, ite_false, z_fa000, z_fa001, z_fa010, z_fa011, z_fa100, z_fa101, z_fa110, z_fa111, if_true, if_false]
      refine k_current hw w80 w9 (by omega) (by omega) ?_
      simp (disch := omega) only [z_app, z_rd, z_cl, z_add, z_sub, z_mul, z_neg, z_lit, z_leT, z_leF, z_ltT, z_ltF, z_eqT, z_eqF, i_leT, i_leF, i_ltT, i_ltF, i_eqT, i_eqF, z_le, z_lt, z_eq, z_ite, z_at, z_pt, z_up, z_wr, z_wi1, z_wi0, z_wi, z_inS, z_toInt, z_nb0, z_nb1, Int.cast_ofNat_Int, true_and, and_true, not_true_eq_false, not_false_eq_true, false_imp_iff, true_imp_iff, aup_o, aup_k, ite_true, ite_false, z_fa000, z_fa001, z_fa010, z_fa011, z_fa100, z_fa101, z_fa110, z_fa111, if_true, if_false]
      refine k_current hw w80 w9 (by omega) (by omega) ?_
      simp (disch := omega) only [z_app, z_rd, z_cl, z_add, z_sub, z_mul, z_neg, z_lit, z_leT, z_leF, z_ltT, z_ltF, z_eqT, z_eqF, i_leT, i_leF, i_ltT, i_ltF, i_eqT, i_eqF, z_le, z_lt, z_eq, z_ite, z_at, z_pt, z_up, z_wr, z_wi1, z_wi0, z_wi, z_inS, z_toInt, z_nb0, z_nb1, Int.cast_ofNat_Int, true_and, and_true, not_true_eq_false, not_false_eq_true, false_imp_iff, true_imp_iff, aup_o, aup_k, ite_true, ite_false, z_fa000, z_fa001, z_fa010, z_fa011, z_fa100, z_fa101, z_fa110, z_fa111, if_true, if_false]
      exact ⟨Or.inl trivial, q⟩
  · rw [hx] at h0
    have q := h0 (aup (aup (aup u 69 a j) 63 9 x) 63 10 1) x rfl ⟨fP_tr (fP_up (by decide) (by decide)) (fP_tr (fP_up (by decide) (by decide)) (fP_up (by decide) (by decide))), by rw [aup_i (by decide), aup_s], aup_s _ _ _ _⟩
    clear h1 h0
    simp (disch := omega) only [z_app, z_rd, z_cl, z_add, z_sub, z_mul, z_neg, z_lit, z_leT, z_leF, z_ltT, z_ltF, z_eqT, z_eqF, i_leT, i_leF, i_ltT, i_ltF, i_eqT, i_eqF, z_le, z_lt, z_eq, z_ite, z_at, z_pt, z_up, z_wr, z_wi1, z_wi0, z_wi, z_inS, z_toInt, z_nb0, z_nb1, Int.cast_ofNat_Int, true_and, and_true, not_true_eq_false, not_false_eq_true, false_imp_iff, true_imp_iff, aup_o, aup_k, ite_true, ite_false, z_fa000, z_fa001, z_fa010, z_fa011, z_fa100, z_fa101, z_fa110, z_fa111, if_true, if_false]
    exact ⟨Or.inl trivial, q⟩
end KP
