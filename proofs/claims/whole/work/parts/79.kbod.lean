/-! ===== the class's parser: numbers of a command ===== -/
theorem nbs_q {w : Int} (h0 : 0 ≤ w) (h1 : w ≤ 12) : qnbs (iI w).toNatClampNeg = iI ((nbs w : Nat) : Int) := by
  have e : (iI w).toNatClampNeg = w.toNat := by have := z_cl (z := w) h0 (by omega); omega
  have h := nbs_q' ⟨w.toNat, by omega⟩
  simp only at h
  rw [e, h, show ((w.toNat : Nat) : Int) = w by omega]
/-- the state behind i numbers -/
def ncl (i : Nat) : Nat := if i = 0 then 69 else if i = 1 then 71 else 73
def nSt (u : aS) (V : Int → Int) (a j : Int) : Nat → aS
  | 0 => u
  | i + 1 => aup (aup (nSt u V a j i) 63 9 (j + i + 1)) (ncl i) a (V (j + i))
theorem ncl_b (i : Nat) : 69 ≤ ncl i ∧ ncl i ≤ 73 := by
  unfold ncl
  by_cases h : i = 0
  · rw [if_pos h]; omega
  · rw [if_neg h]
    by_cases h2 : i = 1
    · rw [if_pos h2]; omega
    · rw [if_neg h2]; omega
theorem nSt_f {u : aS} {V : Int → Int} {a j : Int} : ∀ i : Nat, fP u (nSt u V a j i) ∧ oA u (nSt u V a j i) a ∧ (∀ y, y ≠ 9 → nSt u V a j i 63 y = u 63 y) ∧ (u 63 9 = j → nSt u V a j i 63 9 = j + i) ∧ (∀ x : Nat, x < 69 ∨ 73 < x → x ≠ 63 → nSt u V a j i x = u x) := by
  intro i
  induction i with
  | zero => exact ⟨fP_rf _, oA_rf _ _, fun _ _ => rfl, fun h => by show u 63 9 = j + ((0 : Nat) : Int); omega, fun _ _ _ => rfl⟩
  | succ i ih =>
    obtain ⟨h1, h2, h3, h4, h5⟩ := ih
    have N := ncl_b i
    refine ⟨fP_tr h1 (fP_tr (fP_up (by decide) (by decide)) (fP_up (by omega) (by omega))), oA_tr h2 (oA_tr oA_63 oA_up), fun y hy => ?_, fun h => ?_, fun x hx hx3 => ?_⟩
    · show aup (aup (nSt u V a j i) 63 9 (j + i + 1)) (ncl i) a (V (j + i)) 63 y = _
      rw [aup_o (by omega), aup_i hy, h3 y hy]
    · show aup (aup (nSt u V a j i) 63 9 (j + i + 1)) (ncl i) a (V (j + i)) 63 9 = _
      rw [aup_o (by omega), aup_s]
      omega
    · show aup (aup (nSt u V a j i) 63 9 (j + i + 1)) (ncl i) a (V (j + i)) x = _
      rw [aup_o (by omega), aup_o hx3, h5 x hx hx3]
theorem nSt_1 {u : aS} {V : Int → Int} {a j : Int} : ∀ i : Nat, 1 ≤ i → nSt u V a j i 69 a = V j := by
  intro i h
  induction i with
  | zero => omega
  | succ i ih =>
    show aup (aup (nSt u V a j i) 63 9 (j + i + 1)) (ncl i) a (V (j + i)) 69 a = _
    cases i with
    | zero => show aup (aup (nSt u V a j 0) 63 9 _) 69 a (V (j + ((0 : Nat) : Int))) 69 a = _; rw [aup_s, show j + ((0 : Nat) : Int) = j by omega]
    | succ i =>
      have e : ncl (i + 1) ≠ 69 := by unfold ncl; rw [if_neg (by omega)]; by_cases h2 : i + 1 = 1; · rw [if_pos h2]; decide
                                      · rw [if_neg h2]; decide
      rw [aup_o (fun h => e h.symm), aup_o (by decide)]
      exact ih (by omega)
theorem nSt_2 {u : aS} {V : Int → Int} {a j : Int} : nSt u V a j 2 71 a = V (j + 1) ∧ nSt u V a j 3 71 a = V (j + 1) ∧ nSt u V a j 3 73 a = V (j + 2) := by
  refine ⟨?_, ?_, ?_⟩
  · show aup (aup (nSt u V a j 1) 63 9 _) 71 a (V (j + ((1 : Nat) : Int))) 71 a = _
    rw [aup_s]; rfl
  · show aup (aup (aup (aup (nSt u V a j 1) 63 9 _) 71 a (V (j + ((1 : Nat) : Int)))) 63 9 _) 73 a _ 71 a = _
    rw [aup_o (by decide), aup_o (by decide), aup_s]; rfl
  · show aup (aup (nSt u V a j 2) 63 9 _) 73 a (V (j + ((2 : Nat) : Int))) 73 a = _
    rw [aup_s]; rfl
theorem pbody_p {C V : Int → Int} {j : Int} (h1 : C j ≠ 268) (h2 : C j ≠ 267) : (∀ x, pnums C (nbs (C j - 256)) (j + 1) = .inr x → pbody C V j = .inr (1, x)) ∧ (∀ x y, pnums C (nbs (C j - 256)) (j + 1) = .inl x → ptxe C (C j - 256) x = .inr y → pbody C V j = .inr (1, y)) ∧ (∀ x y, pnums C (nbs (C j - 256)) (j + 1) = .inl x → ptxe C (C j - 256) x = .inl y → pbody C V j = .inl y) := by
  unfold pbody
  rw [if_neg h1, if_neg h2]
  refine ⟨fun x h => by simp only [h], fun x y h h' => by simp only [h, h'], fun x y h h' => by simp only [h, h']⟩
section KB
variable {g : qG} {d : Nat} {Q : Int32 → qS → Prop} {T : String → qS → Prop} {u : aS} {C V : Int → Int} {c j : Int}
theorem k_parseTransaction (hw : qWF g) (hB : tB C V c) (h80 : u 80 = C) (h84 : u 84 = V) (h9 : u 63 9 = j) (j0 : 0 ≤ j) (j1 : j ≤ c) {a w : Int} (a0 : 0 ≤ a) (a1 : a < 60) (w0 : 3 ≤ w) (w1 : w ≤ 6) (h1 : ∀ v x, ptxe C w j = .inl x → fP u v → oA u v a → (∀ i, i ≠ 9 → v 63 i = u 63 i) → v 63 9 = x → (∀ y : Nat, y ≠ 63 → y ≠ 75 → v y = u y) → v 75 a = (if C j = 269 then V (j + 1) else u 75 a) → Q (iI 1) (qi v)) (h0 : ∀ v x, ptxe C w j = .inr x → kF u v 1 x → Q (iI 0) (qi v)) : qC g (d + 2) mX3_parseTransaction [.inr 63, .inl (iI a)] (qi u) Q T := by
  have c9 := hB.1
  have B := (hB.2 j j0 j1).1
  unfold ptxe at h1 h0
  refine wX3_parseTransaction hw ?_
  refine k_current hw h80 h9 j0 (by omega) ?_
  by_cases c1 : C j = 269
  · rw [if_pos ⟨w0, w1, c1⟩] at h1 h0
    have jc := tB_lt hB j0 j1 (by omega)
    have B2 := (hB.2 (j + 1) (by omega) (by omega)).1
    have v80 : aup (aup u 63 9 (j + 1)) 75 a (V (j + 1)) 80 = C := by rw [aup_o (by decide), aup_o (by decide)]; exact h80
    have v9 : aup (aup u 63 9 (j + 1)) 75 a (V (j + 1)) 63 9 = j + 1 := by rw [aup_o (by decide), aup_s]
    have f1 : fP u (aup (aup u 63 9 (j + 1)) 75 a (V (j + 1))) := fP_tr (fP_up (by decide) (by decide)) (fP_up (by decide) (by decide))
    by_cases c2 : C (j + 1) = 301
    · have q := h1 (aup (aup (aup u 63 9 (j + 1)) 75 a (V (j + 1))) 63 9 (j + 1 + 1)) (j + 2) (by rw [if_pos c2]) (fP_tr f1 (fP_up (by decide) (by decide))) (oA_tr (oA_tr oA_63 oA_up) oA_63) (fun i hi => by rw [aup_i hi, aup_o (by decide), aup_i hi]) (by rw [aup_s]; omega) (fun y y1 y2 => by rw [aup_o y1, aup_o y2, aup_o y1]) (by rw [aup_o (by decide), aup_s, if_pos c1])
      clear h1 h0
      simp (disch := omega) only [z_app, z_rd, z_cl, z_add, z_sub, z_mul, z_neg, z_lit, z_leT, z_leF, z_ltT, z_ltF, z_eqT, z_eqF, i_leT, i_leF, i_ltT, i_ltF, i_eqT, i_eqF, z_le, z_lt, z_eq, z_ite, z_at, z_pt, z_up, z_wr, z_wi1, z_wi0, z_wi, z_inS, z_toInt, z_nb0, z_nb1, Int.cast_ofNat_Int, true_and, and_true, not_true_eq_false, not_false_eq_true, false_imp_iff, true_imp_iff, aup_o, aup_k, ite_true, ite_false, z_fa000, z_fa001, z_fa010, z_fa011, z_fa100, z_fa101, z_fa110, z_fa111, if_true, if_false, h9, h84]
      refine k_accept1 hw v80 v9 (by omega) (by omega) c2 (by omega) (by omega) ?_
      exact ⟨Or.inr rfl, q⟩
    · have q := h0 (aup (aup (aup u 63 9 (j + 1)) 75 a (V (j + 1))) 63 10 1) (j + 1) (by rw [if_neg c2]) ⟨fP_tr f1 (fP_up (by decide) (by decide)), by rw [aup_i (by decide)]; exact v9, aup_s _ _ _ _⟩
      clear h1 h0
      simp (disch := omega) only [z_app, z_rd, z_cl, z_add, z_sub, z_mul, z_neg, z_lit, z_leT, z_leF, z_ltT, z_ltF, z_eqT, z_eqF, i_leT, i_leF, i_ltT, i_ltF, i_eqT, i_eqF, z_le, z_lt, z_eq, z_ite, z_at, z_pt, z_up, z_wr, z_wi1, z_wi0, z_wi, z_inS, z_toInt, z_nb0, z_nb1, Int.cast_ofNat_Int, true_and, and_true, not_true_eq_false, not_false_eq_true, false_imp_iff, true_imp_iff, aup_o, aup_k, ite_true, ite_false, z_fa000, z_fa001, z_fa010, z_fa011, z_fa100, z_fa101, z_fa110, z_fa111, if_true, if_false, h9, h84]
      refine k_accept0 hw v80 v9 (by omega) (by omega) c2 (by omega) (by omega) (by omega) (by omega) ?_
      exact ⟨Or.inl rfl, q⟩
  · have q := h1 u j (by rw [if_neg (by omega)]) (fP_rf _) (oA_rf _ _) (fun _ _ => rfl) h9 (fun _ _ _ => rfl) (by rw [if_neg c1])
    clear h1 h0
    simp (disch := omega) only [z_app, z_rd, z_cl, z_add, z_sub, z_mul, z_neg, z_lit, z_leT, z_leF, z_ltT, z_ltF, z_eqT, z_eqF, i_leT, i_leF, i_ltT, i_ltF, i_eqT, i_eqF, z_le, z_lt, z_eq, z_ite, z_at, z_pt, z_up, z_wr, z_wi1, z_wi0, z_wi, z_inS, z_toInt, z_nb0, z_nb1, Int.cast_ofNat_Int, true_and, and_true, not_true_eq_false, not_false_eq_true, false_imp_iff, true_imp_iff, aup_o, aup_k, ite_true, ite_false, z_fa000, z_fa001, z_fa010, z_fa011, z_fa100, z_fa101, z_fa110, z_fa111, if_true, if_false]
    exact ⟨Or.inr trivial, q⟩
theorem k_putNumber (hw : qWF g) {a v : Int} {i : Nat} (a0 : 0 ≤ a) (a1 : a < 60) (i3 : i < 3) (hQ : Q (iI 0) (qi (aup u (ncl i) a v))) : qC g (d + 1) mX3_putNumber [.inr 63, .inl (iI a), .inl (iI i), .inl (iI v)] (qi u) Q T := by
  refine wX3_putNumber hw ?_
  match i, i3, hQ with
  | 0, _, hQ =>
    have q : Q (iI 0) (qi (aup u 69 a v)) := hQ
    clear hQ
    simp (disch := omega) only [z_app, z_rd, z_cl, z_add, z_sub, z_mul, z_neg, z_lit, z_leT, z_leF, z_ltT, z_ltF, z_eqT, z_eqF, i_leT, i_leF, i_ltT, i_ltF, i_eqT, i_eqF, z_le, z_lt, z_eq, z_ite, z_at, z_pt, z_up, z_wr, z_wi1, z_wi0, z_wi, z_inS, z_toInt, z_nb0, z_nb1, Int.cast_ofNat_Int, true_and, and_true, not_true_eq_false, not_false_eq_true, false_imp_iff, true_imp_iff, aup_o, aup_k, ite_true, ite_false, z_fa000, z_fa001, z_fa010, z_fa011, z_fa100, z_fa101, z_fa110, z_fa111, if_true, if_false]
    exact q
  | 1, _, hQ =>
    have q : Q (iI 0) (qi (aup u 71 a v)) := hQ
    clear hQ
    simp (disch := omega) only [z_app, z_rd, z_cl, z_add, z_sub, z_mul, z_neg, z_lit, z_leT, z_leF, z_ltT, z_ltF, z_eqT, z_eqF, i_leT, i_leF, i_ltT, i_ltF, i_eqT, i_eqF, z_le, z_lt, z_eq, z_ite, z_at, z_pt, z_up, z_wr, z_wi1, z_wi0, z_wi, z_inS, z_toInt, z_nb0, z_nb1, Int.cast_ofNat_Int, true_and, and_true, not_true_eq_false, not_false_eq_true, false_imp_iff, true_imp_iff, aup_o, aup_k, ite_true, ite_false, z_fa000, z_fa001, z_fa010, z_fa011, z_fa100, z_fa101, z_fa110, z_fa111, if_true, if_false]
    exact q
  | 2, _, hQ =>
    have q : Q (iI 0) (qi (aup u 73 a v)) := hQ
    clear hQ
    simp (disch := omega) only [z_app, z_rd, z_cl, z_add, z_sub, z_mul, z_neg, z_lit, z_leT, z_leF, z_ltT, z_ltF, z_eqT, z_eqF, i_leT, i_leF, i_ltT, i_ltF, i_eqT, i_eqF, z_le, z_lt, z_eq, z_ite, z_at, z_pt, z_up, z_wr, z_wi1, z_wi0, z_wi, z_inS, z_toInt, z_nb0, z_nb1, Int.cast_ofNat_Int, true_and, and_true, not_true_eq_false, not_false_eq_true, false_imp_iff, true_imp_iff, aup_o, aup_k, ite_true, ite_false, z_fa000, z_fa001, z_fa010, z_fa011, z_fa100, z_fa101, z_fa110, z_fa111, if_true, if_false]
    exact q
/-- a command's numbers and its transaction -/
theorem k_plain (hw : qWF g) (hB : tB C V c) (h80 : u 80 = C) (h84 : u 84 = V) (j0 : 0 ≤ j) (j1 : j < c) (h9 : u 63 9 = j + 1) {a : Int} (a0 : 0 ≤ a) (a1 : a < 60) (w0 : 256 ≤ C j) (w1 : C j < 267) (h75 : u 75 a = -1) (h1 : ∀ v x, pbody C V j = .inl x → fP u v → oA u v a → (∀ i, i ≠ 9 → v 63 i = u 63 i) → v 63 9 = x → v 65 = u 65 → v 67 = u 67 → v 77 = u 77 → nmR C V v a j → Q (iI 1) (qi v)) (h0 : ∀ v f x, pbody C V j = .inr (f, x) → kF u v f x → Q (iI 0) (qi v)) : qC g (d + 3) mX3_parseNumbers [.inr 63, .inl (iI a), .inl (iI (C j))] (qi u) Q T := by
  have c9 := hB.1
  have n13 : nI 13 = iI 13 := z_nI 13
  have hn := nbs_q (w := C j - 256) (by omega) (by omega)
  have n3 := nbs_3 (C j - 256)
  have pe := pbody_p (V := V) (show C j ≠ 268 by omega) (show C j ≠ 267 by omega)
  obtain ⟨K, hK⟩ : ∃ K, K = nbs (C j - 256) := ⟨_, rfl⟩
  rw [← hK] at hn n3 pe
  have pb := pnums_b hB K (j + 1) (by omega) (by omega)
  have loop : ∀ (f i : Nat) (o6 : Option qP), i + f = K → pnums C K (j + 1) = pnums C f (j + 1 + i) → j + 1 + i ≤ c → qV g mX3_parseNumbers (d + 3) 0 32 [some (.inr 63), some (.inl (iI a)), some (.inl (iI (C j))), some (.inl (iI (C j - 256))), some (.inl (iI K)), some (.inl (iI i)), o6] [] (qi (nSt u V a (j + 1) i)) Q T := by
    intro f
    induction f with
    | zero =>
      intro i o6 hi he hc
      have ei : i = K := by omega
      subst ei
      obtain ⟨s1, s2, s3, s4, s5⟩ := nSt_f (u := u) (V := V) (a := a) (j := j + 1) i
      have s9 := s4 h9
      have he : pnums C i (j + 1) = .inl (j + 1 + i) := he
      have v80 : nSt u V a (j + 1) i 80 = C := by rw [s5 80 (by omega) (by decide)]; exact h80
      have v84 : nSt u V a (j + 1) i 84 = V := by rw [s5 84 (by omega) (by decide)]; exact h84
      have nm : ∀ v : aS, (∀ y : Nat, y ≠ 63 → y ≠ 75 → v y = nSt u V a (j + 1) i y) → v 75 a = ptx C V j → nmR C V v a j := by
        intro v hv hv75
        refine ⟨fun _ => ⟨fun l => ?_, fun l => ?_, fun l => ?_, hv75⟩, fun h => by omega, fun h => by omega⟩
        · rw [hv 69 (by decide) (by decide)]
          exact nSt_1 i (by omega)
        · rw [hv 71 (by decide) (by decide), show j + 2 = j + 1 + 1 by omega]
          have : i = 2 ∨ i = 3 := by omega
          rcases this with e | e
          · rw [e]; exact nSt_2.1
          · rw [e]; exact nSt_2.2.1
        · rw [hv 73 (by decide) (by decide), show j + 3 = j + 1 + 2 by omega]
          have : i = 3 := by omega
          rw [this]; exact nSt_2.2.2
      have v75 : nSt u V a (j + 1) i 75 a = -1 := by rw [s5 75 (by omega) (by decide)]; exact h75
      refine wX3_parseNumbers_32 hw ?_
      by_cases ht : 259 ≤ C j ∧ C j ≤ 262
      · have px : (if C (j + 1 + i) = 269 then V (j + 1 + i + 1) else nSt u V a (j + 1) i 75 a) = ptx C V j := by
          unfold ptx
          rw [← hK, v75]
          by_cases h : C (j + 1 + i) = 269
          · rw [if_pos h, if_pos ⟨by omega, by omega, h⟩, show j + 1 + (i : Int) + 1 = j + 2 + i by omega]
          · rw [if_neg h, if_neg (fun hh => h hh.2.2)]
        simp (disch := omega) only [z_app, z_rd, z_cl, z_add, z_sub, z_mul, z_neg, z_lit, z_leT, z_leF, z_ltT, z_ltF, z_eqT, z_eqF, i_leT, i_leF, i_ltT, i_ltF, i_eqT, i_eqF, z_le, z_lt, z_eq, z_ite, z_at, z_pt, z_up, z_wr, z_wi1, z_wi0, z_wi, z_inS, z_toInt, z_nb0, z_nb1, Int.cast_ofNat_Int, true_and, and_true, not_true_eq_false, not_false_eq_true, false_imp_iff, true_imp_iff, aup_o, aup_k, ite_true, ite_false, z_fa000, z_fa001, z_fa010, z_fa011, z_fa100, z_fa101, z_fa110, z_fa111, if_true, if_false]
        refine k_parseTransaction (w := C j - 256) hw hB v80 v84 s9 (by omega) hc a0 a1 (by omega) (by omega) (fun v x hx b1 b2 b3 b4 b5 b6 => ?_) (fun v x hx hk => ?_)
        · have q := h1 v x (pe.2.2 _ _ he hx) (fP_tr s1 b1) (oA_tr s2 b2) (fun y hy => by rw [b3 y hy, s3 y hy]) b4 (by rw [b5 65 (by decide) (by decide), s5 65 (by omega) (by decide)]) (by rw [b5 67 (by decide) (by decide), s5 67 (by omega) (by decide)]) (by rw [b5 77 (by decide) (by decide), s5 77 (by omega) (by decide)]) (nm v b5 (by rw [b6]; exact px))
          clear h1 h0
          simp (disch := omega) only [z_app, z_rd, z_cl, z_add, z_sub, z_mul, z_neg, z_lit, z_leT, z_leF, z_ltT, z_ltF, z_eqT, z_eqF, i_leT, i_leF, i_ltT, i_ltF, i_eqT, i_eqF, z_le, z_lt, z_eq, z_ite, z_at, z_pt, z_up, z_wr, z_wi1, z_wi0, z_wi, z_inS, z_toInt, z_nb0, z_nb1, Int.cast_ofNat_Int, true_and, and_true, not_true_eq_false, not_false_eq_true, false_imp_iff, true_imp_iff, aup_o, aup_k, ite_true, ite_false, z_fa000, z_fa001, z_fa010, z_fa011, z_fa100, z_fa101, z_fa110, z_fa111, if_true, if_false]
          exact ⟨Or.inr trivial, q⟩
        · have q := h0 v 1 x (pe.2.1 _ _ he hx) (kF_tr s1 hk)
          clear h1 h0
          simp (disch := omega) only [z_app, z_rd, z_cl, z_add, z_sub, z_mul, z_neg, z_lit, z_leT, z_leF, z_ltT, z_ltF, z_eqT, z_eqF, i_leT, i_leF, i_ltT, i_ltF, i_eqT, i_eqF, z_le, z_lt, z_eq, z_ite, z_at, z_pt, z_up, z_wr, z_wi1, z_wi0, z_wi, z_inS, z_toInt, z_nb0, z_nb1, Int.cast_ofNat_Int, true_and, and_true, not_true_eq_false, not_false_eq_true, false_imp_iff, true_imp_iff, aup_o, aup_k, ite_true, ite_false, z_fa000, z_fa001, z_fa010, z_fa011, z_fa100, z_fa101, z_fa110, z_fa111, if_true, if_false]
          exact ⟨Or.inl trivial, q⟩
      · have px : ptx C V j = -1 := by unfold ptx; rw [if_neg (by omega)]
        have pt : ptxe C (C j - 256) (j + 1 + i) = .inl (j + 1 + i) := by unfold ptxe; rw [if_neg (by omega)]
        have q := h1 (nSt u V a (j + 1) i) (j + 1 + i) (pe.2.2 _ _ he pt) s1 s2 s3 s9 (s5 65 (by omega) (by decide)) (s5 67 (by omega) (by decide)) (s5 77 (by omega) (by decide)) (nm _ (fun _ _ _ => rfl) (by rw [px]; exact v75))
        clear h1 h0
        simp (disch := omega) only [z_app, z_rd, z_cl, z_add, z_sub, z_mul, z_neg, z_lit, z_leT, z_leF, z_ltT, z_ltF, z_eqT, z_eqF, i_leT, i_leF, i_ltT, i_ltF, i_eqT, i_eqF, z_le, z_lt, z_eq, z_ite, z_at, z_pt, z_up, z_wr, z_wi1, z_wi0, z_wi, z_inS, z_toInt, z_nb0, z_nb1, Int.cast_ofNat_Int, true_and, and_true, not_true_eq_false, not_false_eq_true, false_imp_iff, true_imp_iff, aup_o, aup_k, ite_true, ite_false, z_fa000, z_fa001, z_fa010, z_fa011, z_fa100, z_fa101, z_fa110, z_fa111, if_true, if_false]
        exact ⟨Or.inr trivial, q⟩
    | succ f ih =>
      intro i o6 hi he hc
      obtain ⟨s1, s2, s3, s4, s5⟩ := nSt_f (u := u) (V := V) (a := a) (j := j + 1) i
      have s9 := s4 h9
      have he : pnums C K (j + 1) = if C (j + 1 + i) = 301 then pnums C f (j + 1 + i + 1) else .inr (j + 1 + i) := he
      have v80 : nSt u V a (j + 1) i 80 = C := by rw [s5 80 (by omega) (by decide)]; exact h80
      have v84 : nSt u V a (j + 1) i 84 = V := by rw [s5 84 (by omega) (by decide)]; exact h84
      have B := (hB.2 (j + 1 + i) (by omega) hc).1
      refine wX3_parseNumbers_32 hw ?_
      by_cases c1 : C (j + 1 + i) = 301
      · rw [if_pos c1] at he
        have jc := tB_lt hB (j := j + 1 + i) (by omega) hc (by omega)
        have st := ih (i + 1) (some (.inl (iI (V (j + 1 + i))))) (by omega) (by rw [he, show j + 1 + ((i + 1 : Nat) : Int) = j + 1 + i + 1 by omega]) (by omega)
        rw [show ((i + 1 : Nat) : Int) = (i : Int) + 1 by omega] at st
        simp (disch := omega) only [z_app, z_rd, z_cl, z_add, z_sub, z_mul, z_neg, z_lit, z_leT, z_leF, z_ltT, z_ltF, z_eqT, z_eqF, i_leT, i_leF, i_ltT, i_ltF, i_eqT, i_eqF, z_le, z_lt, z_eq, z_ite, z_at, z_pt, z_up, z_wr, z_wi1, z_wi0, z_wi, z_inS, z_toInt, z_nb0, z_nb1, Int.cast_ofNat_Int, true_and, and_true, not_true_eq_false, not_false_eq_true, false_imp_iff, true_imp_iff, aup_o, aup_k, ite_true, ite_false, z_fa000, z_fa001, z_fa010, z_fa011, z_fa100, z_fa101, z_fa110, z_fa111, if_true, if_false, s9, v84]
        refine k_current hw v80 s9 (by omega) (by omega) ?_
        simp (disch := omega) only [z_app, z_rd, z_cl, z_add, z_sub, z_mul, z_neg, z_lit, z_leT, z_leF, z_ltT, z_ltF, z_eqT, z_eqF, i_leT, i_leF, i_ltT, i_ltF, i_eqT, i_eqF, z_le, z_lt, z_eq, z_ite, z_at, z_pt, z_up, z_wr, z_wi1, z_wi0, z_wi, z_inS, z_toInt, z_nb0, z_nb1, Int.cast_ofNat_Int, true_and, and_true, not_true_eq_false, not_false_eq_true, false_imp_iff, true_imp_iff, aup_o, aup_k, ite_true, ite_false, z_fa000, z_fa001, z_fa010, z_fa011, z_fa100, z_fa101, z_fa110, z_fa111, if_true, if_false]
        refine k_accept1 hw v80 s9 (by omega) (by omega) c1 (by omega) (by omega) ?_
        simp (disch := omega) only [z_app, z_rd, z_cl, z_add, z_sub, z_mul, z_neg, z_lit, z_leT, z_leF, z_ltT, z_ltF, z_eqT, z_eqF, i_leT, i_leF, i_ltT, i_ltF, i_eqT, i_eqF, z_le, z_lt, z_eq, z_ite, z_at, z_pt, z_up, z_wr, z_wi1, z_wi0, z_wi, z_inS, z_toInt, z_nb0, z_nb1, Int.cast_ofNat_Int, true_and, and_true, not_true_eq_false, not_false_eq_true, false_imp_iff, true_imp_iff, aup_o, aup_k, ite_true, ite_false, z_fa000, z_fa001, z_fa010, z_fa011, z_fa100, z_fa101, z_fa110, z_fa111, if_true, if_false]
        exact k_putNumber hw a0 a1 (by omega) st
      · rw [if_neg c1] at he
        have q := h0 (aup (nSt u V a (j + 1) i) 63 10 1) 1 (j + 1 + i) (pe.1 _ he) ⟨fP_tr s1 (fP_up (by decide) (by decide)), by rw [aup_i (by decide)]; exact s9, aup_s _ _ _ _⟩
        clear h1 h0
        simp (disch := omega) only [z_app, z_rd, z_cl, z_add, z_sub, z_mul, z_neg, z_lit, z_leT, z_leF, z_ltT, z_ltF, z_eqT, z_eqF, i_leT, i_leF, i_ltT, i_ltF, i_eqT, i_eqF, z_le, z_lt, z_eq, z_ite, z_at, z_pt, z_up, z_wr, z_wi1, z_wi0, z_wi, z_inS, z_toInt, z_nb0, z_nb1, Int.cast_ofNat_Int, true_and, and_true, not_true_eq_false, not_false_eq_true, false_imp_iff, true_imp_iff, aup_o, aup_k, ite_true, ite_false, z_fa000, z_fa001, z_fa010, z_fa011, z_fa100, z_fa101, z_fa110, z_fa111, if_true, if_false]
        refine k_current hw v80 s9 (by omega) (by omega) ?_
        simp (disch := omega) only [z_app, z_rd, z_cl, z_add, z_sub, z_mul, z_neg, z_lit, z_leT, z_leF, z_ltT, z_ltF, z_eqT, z_eqF, i_leT, i_leF, i_ltT, i_ltF, i_eqT, i_eqF, z_le, z_lt, z_eq, z_ite, z_at, z_pt, z_up, z_wr, z_wi1, z_wi0, z_wi, z_inS, z_toInt, z_nb0, z_nb1, Int.cast_ofNat_Int, true_and, and_true, not_true_eq_false, not_false_eq_true, false_imp_iff, true_imp_iff, aup_o, aup_k, ite_true, ite_false, z_fa000, z_fa001, z_fa010, z_fa011, z_fa100, z_fa101, z_fa110, z_fa111, if_true, if_false]
        refine k_accept0 hw v80 s9 (by omega) (by omega) c1 (by omega) (by omega) (by omega) (by omega) ?_
        simp (disch := omega) only [z_app, z_rd, z_cl, z_add, z_sub, z_mul, z_neg, z_lit, z_leT, z_leF, z_ltT, z_ltF, z_eqT, z_eqF, i_leT, i_leF, i_ltT, i_ltF, i_eqT, i_eqF, z_le, z_lt, z_eq, z_ite, z_at, z_pt, z_up, z_wr, z_wi1, z_wi0, z_wi, z_inS, z_toInt, z_nb0, z_nb1, Int.cast_ofNat_Int, true_and, and_true, not_true_eq_false, not_false_eq_true, false_imp_iff, true_imp_iff, aup_o, aup_k, ite_true, ite_false, z_fa000, z_fa001, z_fa010, z_fa011, z_fa100, z_fa101, z_fa110, z_fa111, if_true, if_false]
        exact ⟨Or.inl trivial, q⟩
  have l := loop K 0 none (by omega) (by rw [show j + 1 + ((0 : Nat) : Int) = j + 1 by omega]) (by omega)
  refine wX3_parseNumbers hw ?_
  clear h1 h0 loop
  simp (disch := omega) only [z_app, z_rd, z_cl, z_add, z_sub, z_mul, z_neg, z_lit, z_leT, z_leF, z_ltT, z_ltF, z_eqT, z_eqF, i_leT, i_leF, i_ltT, i_ltF, i_eqT, i_eqF, z_le, z_lt, z_eq, z_ite, z_at, z_pt, z_up, z_wr, z_wi1, z_wi0, z_wi, z_inS, z_toInt, z_nb0, z_nb1, Int.cast_ofNat_Int, true_and, and_true, not_true_eq_false, not_false_eq_true, false_imp_iff, true_imp_iff, aup_o, aup_k, ite_true, ite_false, z_fa000, z_fa001, z_fa010, z_fa011, z_fa100, z_fa101, z_fa110, z_fa111, if_true, if_false, n13, hn]
  refine wX3_parseNumbers_27 hw ?_
  exact ⟨rfl, l⟩
theorem k_repeat (hw : qWF g) (hB : tB C V c) (h80 : u 80 = C) (h84 : u 84 = V) (j0 : 0 ≤ j) (j1 : j < c) (h9 : u 63 9 = j + 1) {a : Int} (a0 : 0 ≤ a) (a1 : a < 60) (w0 : C j = 267) (h1 : ∀ v x, pbody C V j = .inl x → fP u v → oA u v a → (∀ i, i ≠ 9 → v 63 i = u 63 i) → v 63 9 = x → v 65 = u 65 → v 67 = u 67 → v 77 = u 77 → nmR C V v a j → Q (iI 1) (qi v)) (h0 : ∀ v f x, pbody C V j = .inr (f, x) → kF u v f x → Q (iI 0) (qi v)) : qC g (d + 3) mX3_parseNumbers [.inr 63, .inl (iI a), .inl (iI (C j))] (qi u) Q T := by
  have c9 := hB.1
  have n13 : nI 13 = iI 13 := z_nI 13
  have hn : qnbs (iI 11).toNatClampNeg = iI 1 := nbs_q (w := 11) (by omega) (by omega)
  have pe : pbody C V j = if C (j + 1) = 301 then (if 50 < V (j + 1) then .inr (2, j + 1) else .inl (j + 2)) else .inr (1, j + 1) := by unfold pbody; rw [if_neg (by omega), if_pos w0]
  have B := hB.2 (j + 1) (by omega) (by omega)
  have B1 := B.1
  rw [w0]
  refine wX3_parseNumbers hw ?_
  have e11 : (267 : Int) - 256 = 11 := rfl
  simp (disch := omega) only [z_app, z_rd, z_cl, z_add, z_sub, z_mul, z_neg, z_lit, z_leT, z_leF, z_ltT, z_ltF, z_eqT, z_eqF, i_leT, i_leF, i_ltT, i_ltF, i_eqT, i_eqF, z_le, z_lt, z_eq, z_ite, z_at, z_pt, z_up, z_wr, z_wi1, z_wi0, z_wi, z_inS, z_toInt, z_nb0, z_nb1, Int.cast_ofNat_Int, true_and, and_true, not_true_eq_false, not_false_eq_true, false_imp_iff, true_imp_iff, aup_o, aup_k, ite_true, ite_false, z_fa000, z_fa001, z_fa010, z_fa011, z_fa100, z_fa101, z_fa110, z_fa111, if_true, if_false, n13, e11, hn]
  refine wX3_parseNumbers_27 hw ⟨rfl, wX3_parseNumbers_32 hw ?_⟩
  by_cases c1 : C (j + 1) = 301
  · have BV := B.2.2.2 c1
    have jc := tB_lt hB (j := j + 1) (by omega) (by omega) (by omega)
    rw [if_pos c1] at pe
    by_cases c2 : 50 < V (j + 1)
    · rw [if_pos c2] at pe
      have q := h0 (aup u 63 10 2) 2 (j + 1) pe ⟨fP_up (by decide) (by decide), by rw [aup_i (by decide)]; exact h9, aup_s _ _ _ _⟩
      clear h1 h0 B
      simp (disch := omega) only [z_app, z_rd, z_cl, z_add, z_sub, z_mul, z_neg, z_lit, z_leT, z_leF, z_ltT, z_ltF, z_eqT, z_eqF, i_leT, i_leF, i_ltT, i_ltF, i_eqT, i_eqF, z_le, z_lt, z_eq, z_ite, z_at, z_pt, z_up, z_wr, z_wi1, z_wi0, z_wi, z_inS, z_toInt, z_nb0, z_nb1, Int.cast_ofNat_Int, true_and, and_true, not_true_eq_false, not_false_eq_true, false_imp_iff, true_imp_iff, aup_o, aup_k, ite_true, ite_false, z_fa000, z_fa001, z_fa010, z_fa011, z_fa100, z_fa101, z_fa110, z_fa111, if_true, if_false, h9, h84]
      refine k_current hw h80 h9 (by omega) (by omega) ?_
      simp (disch := omega) only [z_app, z_rd, z_cl, z_add, z_sub, z_mul, z_neg, z_lit, z_leT, z_leF, z_ltT, z_ltF, z_eqT, z_eqF, i_leT, i_leF, i_ltT, i_ltF, i_eqT, i_eqF, z_le, z_lt, z_eq, z_ite, z_at, z_pt, z_up, z_wr, z_wi1, z_wi0, z_wi, z_inS, z_toInt, z_nb0, z_nb1, Int.cast_ofNat_Int, true_and, and_true, not_true_eq_false, not_false_eq_true, false_imp_iff, true_imp_iff, aup_o, aup_k, ite_true, ite_false, z_fa000, z_fa001, z_fa010, z_fa011, z_fa100, z_fa101, z_fa110, z_fa111, if_true, if_false]
      exact ⟨Or.inl trivial, q⟩
    · rw [if_neg c2] at pe
      have q := h1 (aup (aup u 63 9 (j + 1 + 1)) 69 a (V (j + 1))) (j + 2) pe (fP_tr (fP_up (by decide) (by decide)) (fP_up (by decide) (by decide))) (oA_tr oA_63 oA_up) (fun y hy => by rw [aup_o (by decide), aup_i hy]) (by rw [aup_o (by decide), aup_s]; omega) (by rw [aup_o (by decide), aup_o (by decide)]) (by rw [aup_o (by decide), aup_o (by decide)]) (by rw [aup_o (by decide), aup_o (by decide)]) ⟨fun h => by omega, fun _ => ⟨aup_s _ _ _ _, by omega, by omega⟩, fun h => by omega⟩
      clear h1 h0 B
      simp (disch := omega) only [z_app, z_rd, z_cl, z_add, z_sub, z_mul, z_neg, z_lit, z_leT, z_leF, z_ltT, z_ltF, z_eqT, z_eqF, i_leT, i_leF, i_ltT, i_ltF, i_eqT, i_eqF, z_le, z_lt, z_eq, z_ite, z_at, z_pt, z_up, z_wr, z_wi1, z_wi0, z_wi, z_inS, z_toInt, z_nb0, z_nb1, Int.cast_ofNat_Int, true_and, and_true, not_true_eq_false, not_false_eq_true, false_imp_iff, true_imp_iff, aup_o, aup_k, ite_true, ite_false, z_fa000, z_fa001, z_fa010, z_fa011, z_fa100, z_fa101, z_fa110, z_fa111, if_true, if_false, h9, h84]
      refine k_current hw h80 h9 (by omega) (by omega) ?_
      simp (disch := omega) only [z_app, z_rd, z_cl, z_add, z_sub, z_mul, z_neg, z_lit, z_leT, z_leF, z_ltT, z_ltF, z_eqT, z_eqF, i_leT, i_leF, i_ltT, i_ltF, i_eqT, i_eqF, z_le, z_lt, z_eq, z_ite, z_at, z_pt, z_up, z_wr, z_wi1, z_wi0, z_wi, z_inS, z_toInt, z_nb0, z_nb1, Int.cast_ofNat_Int, true_and, and_true, not_true_eq_false, not_false_eq_true, false_imp_iff, true_imp_iff, aup_o, aup_k, ite_true, ite_false, z_fa000, z_fa001, z_fa010, z_fa011, z_fa100, z_fa101, z_fa110, z_fa111, if_true, if_false]
      refine k_accept1 hw h80 h9 (by omega) (by omega) c1 (by omega) (by omega) ?_
      simp (disch := omega) only [z_app, z_rd, z_cl, z_add, z_sub, z_mul, z_neg, z_lit, z_leT, z_leF, z_ltT, z_ltF, z_eqT, z_eqF, i_leT, i_leF, i_ltT, i_ltF, i_eqT, i_eqF, z_le, z_lt, z_eq, z_ite, z_at, z_pt, z_up, z_wr, z_wi1, z_wi0, z_wi, z_inS, z_toInt, z_nb0, z_nb1, Int.cast_ofNat_Int, true_and, and_true, not_true_eq_false, not_false_eq_true, false_imp_iff, true_imp_iff, aup_o, aup_k, ite_true, ite_false, z_fa000, z_fa001, z_fa010, z_fa011, z_fa100, z_fa101, z_fa110, z_fa111, if_true, if_false]
      refine k_putNumber (i := 0) hw a0 a1 (by omega) ?_
      refine wX3_parseNumbers_32 hw ?_
      simp (disch := omega) only [z_app, z_rd, z_cl, z_add, z_sub, z_mul, z_neg, z_lit, z_leT, z_leF, z_ltT, z_ltF, z_eqT, z_eqF, i_leT, i_leF, i_ltT, i_ltF, i_eqT, i_eqF, z_le, z_lt, z_eq, z_ite, z_at, z_pt, z_up, z_wr, z_wi1, z_wi0, z_wi, z_inS, z_toInt, z_nb0, z_nb1, Int.cast_ofNat_Int, true_and, and_true, not_true_eq_false, not_false_eq_true, false_imp_iff, true_imp_iff, aup_o, aup_k, ite_true, ite_false, z_fa000, z_fa001, z_fa010, z_fa011, z_fa100, z_fa101, z_fa110, z_fa111, if_true, if_false]
      exact ⟨Or.inr trivial, q⟩
  · rw [if_neg c1] at pe
    have q := h0 (aup u 63 10 1) 1 (j + 1) pe ⟨fP_up (by decide) (by decide), by rw [aup_i (by decide)]; exact h9, aup_s _ _ _ _⟩
    clear h1 h0 B
    simp (disch := omega) only [z_app, z_rd, z_cl, z_add, z_sub, z_mul, z_neg, z_lit, z_leT, z_leF, z_ltT, z_ltF, z_eqT, z_eqF, i_leT, i_leF, i_ltT, i_ltF, i_eqT, i_eqF, z_le, z_lt, z_eq, z_ite, z_at, z_pt, z_up, z_wr, z_wi1, z_wi0, z_wi, z_inS, z_toInt, z_nb0, z_nb1, Int.cast_ofNat_Int, true_and, and_true, not_true_eq_false, not_false_eq_true, false_imp_iff, true_imp_iff, aup_o, aup_k, ite_true, ite_false, z_fa000, z_fa001, z_fa010, z_fa011, z_fa100, z_fa101, z_fa110, z_fa111, if_true, if_false, h9, h84]
    refine k_current hw h80 h9 (by omega) (by omega) ?_
    simp (disch := omega) only [z_app, z_rd, z_cl, z_add, z_sub, z_mul, z_neg, z_lit, z_leT, z_leF, z_ltT, z_ltF, z_eqT, z_eqF, i_leT, i_leF, i_ltT, i_ltF, i_eqT, i_eqF, z_le, z_lt, z_eq, z_ite, z_at, z_pt, z_up, z_wr, z_wi1, z_wi0, z_wi, z_inS, z_toInt, z_nb0, z_nb1, Int.cast_ofNat_Int, true_and, and_true, not_true_eq_false, not_false_eq_true, false_imp_iff, true_imp_iff, aup_o, aup_k, ite_true, ite_false, z_fa000, z_fa001, z_fa010, z_fa011, z_fa100, z_fa101, z_fa110, z_fa111, if_true, if_false]
    refine k_accept0 hw h80 h9 (by omega) (by omega) c1 (by omega) (by omega) (by omega) (by omega) ?_
    simp (disch := omega) only [z_app, z_rd, z_cl, z_add, z_sub, z_mul, z_neg, z_lit, z_leT, z_leF, z_ltT, z_ltF, z_eqT, z_eqF, i_leT, i_leF, i_ltT, i_ltF, i_eqT, i_eqF, z_le, z_lt, z_eq, z_ite, z_at, z_pt, z_up, z_wr, z_wi1, z_wi0, z_wi, z_inS, z_toInt, z_nb0, z_nb1, Int.cast_ofNat_Int, true_and, and_true, not_true_eq_false, not_false_eq_true, false_imp_iff, true_imp_iff, aup_o, aup_k, ite_true, ite_false, z_fa000, z_fa001, z_fa010, z_fa011, z_fa100, z_fa101, z_fa110, z_fa111, if_true, if_false]
    exact ⟨Or.inl trivial, q⟩
end KB
