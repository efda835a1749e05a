/-! ===== the class's parser ===== -/
theorem kPr_up {C V S : Int → Int} {v : aS} {x y k : Int} {st : List Int} {J E : Int → Int} (h : kPr C V S v x k st J E) : kPr C V S (aup v 63 9 y) y k st J E := by
  obtain ⟨⟨P80, P84, P82⟩, P9, P8, P10, P6, PA⟩ := h
  refine ⟨⟨by rw [aup_o (by decide)]; exact P80, by rw [aup_o (by decide)]; exact P84, by rw [aup_o (by decide)]; exact P82⟩, aup_s _ _ _ _, by rw [aup_i (by decide)]; exact P8, by rw [aup_i (by decide)]; exact P10, P6, fun a a0 a1 => ?_⟩
  obtain ⟨y1, y2⟩ := PA a a0 a1
  exact ⟨cm_c y1 (fun z z1 _ => by rw [aup_o z1]) rfl, fun hn => by rw [aup_o (by decide)]; exact y2 hn⟩
theorem tkF_c {w v : aS} {b : Int → Int} {n c : Int} {e : Int → Int} (h : tkF w b n c e) (h0 : v 80 = w 80) (h2 : v 82 = w 82) (h4 : v 84 = w 84) : tkF v b n c e := by
  unfold tkF at h ⊢
  rw [h0, h2, h4]
  exact h
def pX0 : pX := (0, 0, [], fun _ => 0, fun _ => 0)
section KQ
variable {g : qG} {C V S : Int → Int} {c : Int}
theorem k_PCs (hw : qWF g) (hB : tB C V c) : ∀ l : Nat, PCs g C V S c l := by
  have c9 := hB.1
  intro l
  induction l with
  | zero =>
    have IH : ∀ l', 0 = l' + 1 → PCs g C V S c l' := fun l' h => by omega
    generalize hl : (0 : Nat) = l at IH ⊢
    intro d Q T u j k st J E hst hP j0 j1 hs h1 h0
    have loop : ∀ (n : Int) (u : aS) (j k : Int) (J E : Int → Int), 0 ≤ n → n ≤ k → kPr C V S u j k st J E → 0 ≤ j → j ≤ c → (∀ a ∈ st, 0 ≤ a ∧ a < k) →
        (∀ v j' k' J' E', pto C V (j, k, st, J, E) (j', k', st, J', E') → kPr C V S v j' k' st J' E' → fP u v → 0 ≤ j' → j' ≤ c → k ≤ k' → ¬ (256 ≤ C j' ∧ C j' ≤ 268) → (∀ a, a < k → J' a = J a ∧ E' a = E a) → ch J' E' C l k k' → Q (iI 1) (qi v)) →
        (∀ v f x, pfin C V (j, k, st, J, E) (.inr (f, x)) → kF u v f x → 0 ≤ x → x ≤ c → Q (iI 0) (qi v)) → qV g mX3_parseCommands (d + 3 * l + 5) 0 2 [some (.inr 63), some (.inl (iI (4 - (l : Int)))), some (.inl (iI n))] [] (qi u) Q T := by
      refine stepUp 61 (fun n ih u j k J E n0 nk hP j0 j1 hs h1 h0 => wX3_parseCommands_2 hw ?_)
      have k60 : k ≤ 60 := hP.2.2.2.2.1.2
      have B := (hB.2 j j0 j1).1
      simp (disch := omega) only [z_app, z_rd, z_cl, z_add, z_sub, z_mul, z_neg, z_lit, z_leT, z_leF, z_ltT, z_ltF, z_eqT, z_eqF, i_leT, i_leF, i_ltT, i_ltF, i_eqT, i_eqF, z_le, z_lt, z_eq, z_ite, z_at, z_pt, z_up, z_wr, z_wi1, z_wi0, z_wi, z_inS, z_toInt, z_nb0, z_nb1, Int.cast_ofNat_Int, true_and, and_true, not_true_eq_false, not_false_eq_true, false_imp_iff, true_imp_iff, aup_o, aup_k, ite_true, ite_false, z_fa000, z_fa001, z_fa010, z_fa011, z_fa100, z_fa101, z_fa110, z_fa111, if_true, if_false]
      refine k_current hw hP.1.1 hP.2.1 j0 (by omega) ?_
      by_cases hc : 256 ≤ C j ∧ C j ≤ 268
      · simp (disch := omega) only [z_app, z_rd, z_cl, z_add, z_sub, z_mul, z_neg, z_lit, z_leT, z_leF, z_ltT, z_ltF, z_eqT, z_eqF, i_leT, i_leF, i_ltT, i_ltF, i_eqT, i_eqF, z_le, z_lt, z_eq, z_ite, z_at, z_pt, z_up, z_wr, z_wi1, z_wi0, z_wi, z_inS, z_toInt, z_nb0, z_nb1, Int.cast_ofNat_Int, true_and, and_true, not_true_eq_false, not_false_eq_true, false_imp_iff, true_imp_iff, aup_o, aup_k, ite_true, ite_false, z_fa000, z_fa001, z_fa010, z_fa011, z_fa100, z_fa101, z_fa110, z_fa111, if_true, if_false]
        refine k_parseCommand hw hB IH hst hP j0 j1 hs hc.1 hc.2 (fun v x k' J' E' t1 t2 t3 t4 t5 t6 t7 t8 t9 t10 t11 => ?_) (fun v f x z1 z2 z3 z4 => ?_)
        · have Bx := (hB.2 x t5 t6).1
          simp (disch := omega) only [z_app, z_rd, z_cl, z_add, z_sub, z_mul, z_neg, z_lit, z_leT, z_leF, z_ltT, z_ltF, z_eqT, z_eqF, i_leT, i_leF, i_ltT, i_ltF, i_eqT, i_eqF, z_le, z_lt, z_eq, z_ite, z_at, z_pt, z_up, z_wr, z_wi1, z_wi0, z_wi, z_inS, z_toInt, z_nb0, z_nb1, Int.cast_ofNat_Int, true_and, and_true, not_true_eq_false, not_false_eq_true, false_imp_iff, true_imp_iff, aup_o, aup_k, ite_true, ite_false, z_fa000, z_fa001, z_fa010, z_fa011, z_fa100, z_fa101, z_fa110, z_fa111, if_true, if_false]
          by_cases h59 : C x = 59
          · have xc := tB_lt hB t5 t6 (by omega)
            have st2 := ih (by omega) (aup v 63 9 (x + 1)) (x + 1) k' J' E' (by omega) (by omega) (kPr_up t3) (by omega) (by omega) (fun a ha => by have := hs a ha; omega) (fun v2 j2 k2 J2 E2 y1 y2 y3 y4 y5 y6 y7 y8 y9 => h1 v2 j2 k2 J2 E2 (pto_tr (t1 h59) y1) y2 (fP_tr t4 (fP_tr (fP_up (by decide) (by decide)) y3)) y4 y5 (by omega) y7 (fun a ha => by rw [(y8 a (by omega)).1, (y8 a (by omega)).2]; exact t8 a ha) (by
              have ek : E2 k = k' := by rw [(y8 k t7).2]; exact t9
              have ej : J2 k = J' k := (y8 k t7).1
              refine ch_cons (by omega) (by omega) (fun h => by rw [ej] at h; have := t10 h; omega) (fun h => ?_) (by rw [ek]; exact y9)
              rw [ej] at h
              obtain ⟨l', e, hh⟩ := t11 h
              exact ⟨l', e, by rw [ek]; exact ch_c (fun i i0 i1 => y8 i i1) hh⟩)) (fun v2 f2 x2 y1 y2 y3 y4 => h0 v2 f2 x2 (pfin_to (t1 h59) y1) (kF_tr (fP_tr t4 (fP_up (by decide) (by decide))) y2) y3 y4)
            refine k_accept1 hw t3.1.1 t3.2.1 t5 (by omega) h59 (by omega) (by omega) ?_
            simp (disch := omega) only [z_app, z_rd, z_cl, z_add, z_sub, z_mul, z_neg, z_lit, z_leT, z_leF, z_ltT, z_ltF, z_eqT, z_eqF, i_leT, i_leF, i_ltT, i_ltF, i_eqT, i_eqF, z_le, z_lt, z_eq, z_ite, z_at, z_pt, z_up, z_wr, z_wi1, z_wi0, z_wi, z_inS, z_toInt, z_nb0, z_nb1, Int.cast_ofNat_Int, true_and, and_true, not_true_eq_false, not_false_eq_true, false_imp_iff, true_imp_iff, aup_o, aup_k, ite_true, ite_false, z_fa000, z_fa001, z_fa010, z_fa011, z_fa100, z_fa101, z_fa110, z_fa111, if_true, if_false]
            exact st2
          · have q := h0 (aup v 63 10 1) 1 x (t2 h59) ⟨fP_tr t4 (fP_up (by decide) (by decide)), by rw [aup_i (by decide)]; exact t3.2.1, aup_s _ _ _ _⟩ t5 t6
            refine k_accept0 hw t3.1.1 t3.2.1 t5 (by omega) h59 (by omega) (by omega) (by omega) (by omega) ?_
            simp (disch := omega) only [z_app, z_rd, z_cl, z_add, z_sub, z_mul, z_neg, z_lit, z_leT, z_leF, z_ltT, z_ltF, z_eqT, z_eqF, i_leT, i_leF, i_ltT, i_ltF, i_eqT, i_eqF, z_le, z_lt, z_eq, z_ite, z_at, z_pt, z_up, z_wr, z_wi1, z_wi0, z_wi, z_inS, z_toInt, z_nb0, z_nb1, Int.cast_ofNat_Int, true_and, and_true, not_true_eq_false, not_false_eq_true, false_imp_iff, true_imp_iff, aup_o, aup_k, ite_true, ite_false, z_fa000, z_fa001, z_fa010, z_fa011, z_fa100, z_fa101, z_fa110, z_fa111, if_true, if_false]
            exact ⟨Or.inl trivial, q⟩
        · have q := h0 v f x z1 z2 z3 z4
          simp (disch := omega) only [z_app, z_rd, z_cl, z_add, z_sub, z_mul, z_neg, z_lit, z_leT, z_leF, z_ltT, z_ltF, z_eqT, z_eqF, i_leT, i_leF, i_ltT, i_ltF, i_eqT, i_eqF, z_le, z_lt, z_eq, z_ite, z_at, z_pt, z_up, z_wr, z_wi1, z_wi0, z_wi, z_inS, z_toInt, z_nb0, z_nb1, Int.cast_ofNat_Int, true_and, and_true, not_true_eq_false, not_false_eq_true, false_imp_iff, true_imp_iff, aup_o, aup_k, ite_true, ite_false, z_fa000, z_fa001, z_fa010, z_fa011, z_fa100, z_fa101, z_fa110, z_fa111, if_true, if_false]
          exact ⟨Or.inl trivial, q⟩
      · have q := h1 u j k J E (pto_rf _) hP (fP_rf _) j0 j1 (Int.le_refl _) hc (fun _ _ => ⟨rfl, rfl⟩) ch_nil
        simp (disch := omega) only [z_app, z_rd, z_cl, z_add, z_sub, z_mul, z_neg, z_lit, z_leT, z_leF, z_ltT, z_ltF, z_eqT, z_eqF, i_leT, i_leF, i_ltT, i_ltF, i_eqT, i_eqF, z_le, z_lt, z_eq, z_ite, z_at, z_pt, z_up, z_wr, z_wi1, z_wi0, z_wi, z_inS, z_toInt, z_nb0, z_nb1, Int.cast_ofNat_Int, true_and, and_true, not_true_eq_false, not_false_eq_true, false_imp_iff, true_imp_iff, aup_o, aup_k, ite_true, ite_false, z_fa000, z_fa001, z_fa010, z_fa011, z_fa100, z_fa101, z_fa110, z_fa111, if_true, if_false]
        exact ⟨Or.inr trivial, q⟩
    exact wX3_parseCommands hw ⟨rfl, loop 0 u j k J E (Int.le_refl _) hP.2.2.2.2.1.1 hP j0 j1 hs h1 h0⟩
  | succ l0 ih0 =>
    have IH : ∀ l', l0 + 1 = l' + 1 → PCs g C V S c l' := fun l' h => by rw [show l' = l0 by omega]; exact ih0
    clear ih0
    generalize hl : l0 + 1 = l at IH ⊢
    intro d Q T u j k st J E hst hP j0 j1 hs h1 h0
    have loop : ∀ (n : Int) (u : aS) (j k : Int) (J E : Int → Int), 0 ≤ n → n ≤ k → kPr C V S u j k st J E → 0 ≤ j → j ≤ c → (∀ a ∈ st, 0 ≤ a ∧ a < k) →
        (∀ v j' k' J' E', pto C V (j, k, st, J, E) (j', k', st, J', E') → kPr C V S v j' k' st J' E' → fP u v → 0 ≤ j' → j' ≤ c → k ≤ k' → ¬ (256 ≤ C j' ∧ C j' ≤ 268) → (∀ a, a < k → J' a = J a ∧ E' a = E a) → ch J' E' C l k k' → Q (iI 1) (qi v)) →
        (∀ v f x, pfin C V (j, k, st, J, E) (.inr (f, x)) → kF u v f x → 0 ≤ x → x ≤ c → Q (iI 0) (qi v)) → qV g mX3_parseCommands (d + 3 * l + 5) 0 2 [some (.inr 63), some (.inl (iI (4 - (l : Int)))), some (.inl (iI n))] [] (qi u) Q T := by
      refine stepUp 61 (fun n ih u j k J E n0 nk hP j0 j1 hs h1 h0 => wX3_parseCommands_2 hw ?_)
      have k60 : k ≤ 60 := hP.2.2.2.2.1.2
      have B := (hB.2 j j0 j1).1
      simp (disch := omega) only [z_app, z_rd, z_cl, z_add, z_sub, z_mul, z_neg, z_lit, z_leT, z_leF, z_ltT, z_ltF, z_eqT, z_eqF, i_leT, i_leF, i_ltT, i_ltF, i_eqT, i_eqF, z_le, z_lt, z_eq, z_ite, z_at, z_pt, z_up, z_wr, z_wi1, z_wi0, z_wi, z_inS, z_toInt, z_nb0, z_nb1, Int.cast_ofNat_Int, true_and, and_true, not_true_eq_false, not_false_eq_true, false_imp_iff, true_imp_iff, aup_o, aup_k, ite_true, ite_false, z_fa000, z_fa001, z_fa010, z_fa011, z_fa100, z_fa101, z_fa110, z_fa111, if_true, if_false]
      refine k_current hw hP.1.1 hP.2.1 j0 (by omega) ?_
      by_cases hc : 256 ≤ C j ∧ C j ≤ 268
      · simp (disch := omega) only [z_app, z_rd, z_cl, z_add, z_sub, z_mul, z_neg, z_lit, z_leT, z_leF, z_ltT, z_ltF, z_eqT, z_eqF, i_leT, i_leF, i_ltT, i_ltF, i_eqT, i_eqF, z_le, z_lt, z_eq, z_ite, z_at, z_pt, z_up, z_wr, z_wi1, z_wi0, z_wi, z_inS, z_toInt, z_nb0, z_nb1, Int.cast_ofNat_Int, true_and, and_true, not_true_eq_false, not_false_eq_true, false_imp_iff, true_imp_iff, aup_o, aup_k, ite_true, ite_false, z_fa000, z_fa001, z_fa010, z_fa011, z_fa100, z_fa101, z_fa110, z_fa111, if_true, if_false]
        refine k_parseCommand hw hB IH hst hP j0 j1 hs hc.1 hc.2 (fun v x k' J' E' t1 t2 t3 t4 t5 t6 t7 t8 t9 t10 t11 => ?_) (fun v f x z1 z2 z3 z4 => ?_)
        · have Bx := (hB.2 x t5 t6).1
          simp (disch := omega) only [z_app, z_rd, z_cl, z_add, z_sub, z_mul, z_neg, z_lit, z_leT, z_leF, z_ltT, z_ltF, z_eqT, z_eqF, i_leT, i_leF, i_ltT, i_ltF, i_eqT, i_eqF, z_le, z_lt, z_eq, z_ite, z_at, z_pt, z_up, z_wr, z_wi1, z_wi0, z_wi, z_inS, z_toInt, z_nb0, z_nb1, Int.cast_ofNat_Int, true_and, and_true, not_true_eq_false, not_false_eq_true, false_imp_iff, true_imp_iff, aup_o, aup_k, ite_true, ite_false, z_fa000, z_fa001, z_fa010, z_fa011, z_fa100, z_fa101, z_fa110, z_fa111, if_true, if_false]
          by_cases h59 : C x = 59
          · have xc := tB_lt hB t5 t6 (by omega)
            have st2 := ih (by omega) (aup v 63 9 (x + 1)) (x + 1) k' J' E' (by omega) (by omega) (kPr_up t3) (by omega) (by omega) (fun a ha => by have := hs a ha; omega) (fun v2 j2 k2 J2 E2 y1 y2 y3 y4 y5 y6 y7 y8 y9 => h1 v2 j2 k2 J2 E2 (pto_tr (t1 h59) y1) y2 (fP_tr t4 (fP_tr (fP_up (by decide) (by decide)) y3)) y4 y5 (by omega) y7 (fun a ha => by rw [(y8 a (by omega)).1, (y8 a (by omega)).2]; exact t8 a ha) (by
              have ek : E2 k = k' := by rw [(y8 k t7).2]; exact t9
              have ej : J2 k = J' k := (y8 k t7).1
              refine ch_cons (by omega) (by omega) (fun h => by rw [ej] at h; have := t10 h; omega) (fun h => ?_) (by rw [ek]; exact y9)
              rw [ej] at h
              obtain ⟨l', e, hh⟩ := t11 h
              exact ⟨l', e, by rw [ek]; exact ch_c (fun i i0 i1 => y8 i i1) hh⟩)) (fun v2 f2 x2 y1 y2 y3 y4 => h0 v2 f2 x2 (pfin_to (t1 h59) y1) (kF_tr (fP_tr t4 (fP_up (by decide) (by decide))) y2) y3 y4)
            refine k_accept1 hw t3.1.1 t3.2.1 t5 (by omega) h59 (by omega) (by omega) ?_
            simp (disch := omega) only [z_app, z_rd, z_cl, z_add, z_sub, z_mul, z_neg, z_lit, z_leT, z_leF, z_ltT, z_ltF, z_eqT, z_eqF, i_leT, i_leF, i_ltT, i_ltF, i_eqT, i_eqF, z_le, z_lt, z_eq, z_ite, z_at, z_pt, z_up, z_wr, z_wi1, z_wi0, z_wi, z_inS, z_toInt, z_nb0, z_nb1, Int.cast_ofNat_Int, true_and, and_true, not_true_eq_false, not_false_eq_true, false_imp_iff, true_imp_iff, aup_o, aup_k, ite_true, ite_false, z_fa000, z_fa001, z_fa010, z_fa011, z_fa100, z_fa101, z_fa110, z_fa111, if_true, if_false]
            exact st2
          · have q := h0 (aup v 63 10 1) 1 x (t2 h59) ⟨fP_tr t4 (fP_up (by decide) (by decide)), by rw [aup_i (by decide)]; exact t3.2.1, aup_s _ _ _ _⟩ t5 t6
            refine k_accept0 hw t3.1.1 t3.2.1 t5 (by omega) h59 (by omega) (by omega) (by omega) (by omega) ?_
            simp (disch := omega) only [z_app, z_rd, z_cl, z_add, z_sub, z_mul, z_neg, z_lit, z_leT, z_leF, z_ltT, z_ltF, z_eqT, z_eqF, i_leT, i_leF, i_ltT, i_ltF, i_eqT, i_eqF, z_le, z_lt, z_eq, z_ite, z_at, z_pt, z_up, z_wr, z_wi1, z_wi0, z_wi, z_inS, z_toInt, z_nb0, z_nb1, Int.cast_ofNat_Int, true_and, and_true, not_true_eq_false, not_false_eq_true, false_imp_iff, true_imp_iff, aup_o, aup_k, ite_true, ite_false, z_fa000, z_fa001, z_fa010, z_fa011, z_fa100, z_fa101, z_fa110, z_fa111, if_true, if_false]
            exact ⟨Or.inl trivial, q⟩
        · have q := h0 v f x z1 z2 z3 z4
          simp (disch := omega) only [z_app, z_rd, z_cl, z_add, z_sub, z_mul, z_neg, z_lit, z_leT, z_leF, z_ltT, z_ltF, z_eqT, z_eqF, i_leT, i_leF, i_ltT, i_ltF, i_eqT, i_eqF, z_le, z_lt, z_eq, z_ite, z_at, z_pt, z_up, z_wr, z_wi1, z_wi0, z_wi, z_inS, z_toInt, z_nb0, z_nb1, Int.cast_ofNat_Int, true_and, and_true, not_true_eq_false, not_false_eq_true, false_imp_iff, true_imp_iff, aup_o, aup_k, ite_true, ite_false, z_fa000, z_fa001, z_fa010, z_fa011, z_fa100, z_fa101, z_fa110, z_fa111, if_true, if_false]
          exact ⟨Or.inl trivial, q⟩
      · have q := h1 u j k J E (pto_rf _) hP (fP_rf _) j0 j1 (Int.le_refl _) hc (fun _ _ => ⟨rfl, rfl⟩) ch_nil
        simp (disch := omega) only [z_app, z_rd, z_cl, z_add, z_sub, z_mul, z_neg, z_lit, z_leT, z_leF, z_ltT, z_ltF, z_eqT, z_eqF, i_leT, i_leF, i_ltT, i_ltF, i_eqT, i_eqF, z_le, z_lt, z_eq, z_ite, z_at, z_pt, z_up, z_wr, z_wi1, z_wi0, z_wi, z_inS, z_toInt, z_nb0, z_nb1, Int.cast_ofNat_Int, true_and, and_true, not_true_eq_false, not_false_eq_true, false_imp_iff, true_imp_iff, aup_o, aup_k, ite_true, ite_false, z_fa000, z_fa001, z_fa010, z_fa011, z_fa100, z_fa101, z_fa110, z_fa111, if_true, if_false]
        exact ⟨Or.inr trivial, q⟩
    exact wX3_parseCommands hw ⟨rfl, loop 0 u j k J E (Int.le_refl _) hP.2.2.2.2.1.1 hP j0 j1 hs h1 h0⟩
variable {d : Nat} {Q : Int32 → qS → Prop} {T : String → qS → Prop} {s : aS}
theorem k_parse (hw : qWF g) {b : Int → Int} {n : Int} (n0 : 0 ≤ n) (n1 : n ≤ 900) (hb : ∀ i, 0 ≤ i → i < n → (-128 ≤ s 85 i ∧ s 85 i ≤ 127) ∧ b i = s 85 i % 256)
    (h1 : ∀ (v : aS) (c : Int) (e : Int → Int) (k : Int) (J E : Int → Int), tkF v b n c e → tB (v 80) (v 84) c → pfin (v 80) (v 84) pX0 (.inl (k, J, E)) → (∀ x : Nat, x < 63 ∨ 84 < x → v x = s x) → v 63 8 = k → 0 ≤ k → k ≤ 60 → v 63 10 = 0 → v 63 11 = -1 → (∀ a, 0 ≤ a → a < k → cm (v 80) (v 84) (v 82) v J a ∧ v 77 a = E a) → ch J E (v 80) 4 0 k → Q (iI 1) (qi v))
    (h0 : ∀ (v : aS) (c : Int) (e : Int → Int) (f x : Int), tkF v b n c e → tB (v 80) (v 84) c → pfin (v 80) (v 84) pX0 (.inr (f, x)) → (∀ y : Nat, y < 63 ∨ 84 < y → v y = s y) → v 63 10 = f → v 63 11 = v 82 x → 0 ≤ x → x ≤ c → Q (iI 0) (qi v)) : qC g (d + 19) mX3_parse [.inr 63, .inr 85, .inl (iI n)] (qi s) Q T := by
  have hb2 : ∀ i, 0 ≤ i → i < n → 0 ≤ b i ∧ b i < 256 := fun i i0 i1 => by have := hb i i0 i1; omega
  refine wX3_parse hw ?_
  refine k_split hw n0 n1 hb (fun w c e hF hf => ?_)
  have hB := tk_tB hF hb2
  have c9 := hB.1
  have P0 : kPr (w 80) (w 84) (w 82) (aup (aup (aup w 63 8 0) 63 9 0) 63 10 0) 0 0 [] (fun _ => 0) (fun _ => 0) := ⟨⟨by rw [aup_o (by decide), aup_o (by decide), aup_o (by decide)], by rw [aup_o (by decide), aup_o (by decide), aup_o (by decide)], by rw [aup_o (by decide), aup_o (by decide), aup_o (by decide)]⟩, by rw [aup_i (by decide), aup_s], by rw [aup_i (by decide), aup_i (by decide), aup_s], aup_s _ _ _ _, ⟨by omega, by omega⟩, fun a a0 a1 => by omega⟩
  have fw : fP w (aup (aup (aup w 63 8 0) 63 9 0) 63 10 0) := fP_tr (fP_up (by decide) (by decide)) (fP_tr (fP_up (by decide) (by decide)) (fP_up (by decide) (by decide)))
  have bad : ∀ v f x, pfin (w 80) (w 84) pX0 (.inr (f, x)) → fP w v → v 63 9 = x → v 63 10 = f → 0 ≤ x → x ≤ c → Q (iI 0) (qi (aup v 63 11 (v 82 x))) := by
    intro v f x p1 p2 p3 p4 p5 p6
    have e80 : aup v 63 11 (v 82 x) 80 = w 80 := by rw [aup_o (by decide), p2 80 (by omega)]
    have e82 : aup v 63 11 (v 82 x) 82 = w 82 := by rw [aup_o (by decide), p2 82 (by omega)]
    have e84 : aup v 63 11 (v 82 x) 84 = w 84 := by rw [aup_o (by decide), p2 84 (by omega)]
    refine h0 _ c e f x (tkF_c hF e80 e82 e84) (by rw [e80, e84]; exact hB) (by rw [e80, e84]; exact p1) (fun y hy => by rw [aup_o (by omega), p2 y (by omega), hf y (by omega) (by omega) (by omega) (by omega)]) (by rw [aup_i (by decide)]; exact p4) (by rw [aup_s, aup_o (by decide)]) p5 p6
  have pc := fun (Q' : Int32 → qS → Prop) => k_PCs (S := w 82) hw hB 4 (d + 1) Q' T _ _ _ _ _ _ rfl P0 (by omega) (by omega) (fun a ha => by cases ha)
  rw [show (4 : Int) - ((4 : Nat) : Int) = 0 from rfl] at pc
  simp (disch := omega) only [z_app, z_rd, z_cl, z_add, z_sub, z_mul, z_neg, z_lit, z_leT, z_leF, z_ltT, z_ltF, z_eqT, z_eqF, i_leT, i_leF, i_ltT, i_ltF, i_eqT, i_eqF, z_le, z_lt, z_eq, z_ite, z_at, z_pt, z_up, z_wr, z_wi1, z_wi0, z_wi, z_inS, z_toInt, z_nb0, z_nb1, Int.cast_ofNat_Int, true_and, and_true, not_true_eq_false, not_false_eq_true, false_imp_iff, true_imp_iff, aup_o, aup_k, ite_true, ite_false, z_fa000, z_fa001, z_fa010, z_fa011, z_fa100, z_fa101, z_fa110, z_fa111, if_true, if_false]
  refine pc _ (fun v j' k' J' E' z1 z2 z3 z4 z5 z6 z7 z8 z9 => ?_) (fun v f x z1 z2 z3 z4 => ?_)
  · have Bj := (hB.2 j' z4 z5).1
    obtain ⟨⟨t80, t84, t82⟩, t9, t8, t10, ⟨tk0, tk6⟩, tA⟩ := z2
    simp (disch := omega) only [z_app, z_rd, z_cl, z_add, z_sub, z_mul, z_neg, z_lit, z_leT, z_leF, z_ltT, z_ltF, z_eqT, z_eqF, i_leT, i_leF, i_ltT, i_ltF, i_eqT, i_eqF, z_le, z_lt, z_eq, z_ite, z_at, z_pt, z_up, z_wr, z_wi1, z_wi0, z_wi, z_inS, z_toInt, z_nb0, z_nb1, Int.cast_ofNat_Int, true_and, and_true, not_true_eq_false, not_false_eq_true, false_imp_iff, true_imp_iff, aup_o, aup_k, ite_true, ite_false, z_fa000, z_fa001, z_fa010, z_fa011, z_fa100, z_fa101, z_fa110, z_fa111, if_true, if_false]
    by_cases h3 : w 80 j' = 303
    · have ps : pstep (w 80) (w 84) (j', k', [], J', E') = .inr (.inl (k', J', E')) := by
        show (if w 80 j' = 303 then _ else _) = _
        rw [if_pos h3]
      have e80 : aup (aup v 63 9 (j' + 1)) 63 11 (-1) 80 = w 80 := by rw [aup_o (by decide), aup_o (by decide)]; exact t80
      have e82 : aup (aup v 63 9 (j' + 1)) 63 11 (-1) 82 = w 82 := by rw [aup_o (by decide), aup_o (by decide)]; exact t82
      have e84 : aup (aup v 63 9 (j' + 1)) 63 11 (-1) 84 = w 84 := by rw [aup_o (by decide), aup_o (by decide)]; exact t84
      have q := h1 (aup (aup v 63 9 (j' + 1)) 63 11 (-1)) c e k' J' E' (tkF_c hF e80 e82 e84) (by rw [e80, e84]; exact hB) (by rw [e80, e84]; exact pfin_to z1 (pfin_st ps)) (fun x hx => by rw [aup_o (by omega), aup_o (by omega), z3 x (by omega), fw x (by omega), hf x (by omega) (by omega) (by omega) (by omega)]) (by rw [aup_i (by decide), aup_i (by decide)]; exact t8) tk0 tk6 (by rw [aup_i (by decide), aup_i (by decide)]; exact t10) (aup_s _ _ _ _) (fun a a0 a1 => by
        obtain ⟨y1, y2⟩ := tA a a0 a1
        rw [e80, e82, e84]
        refine ⟨cm_c y1 (fun z z1 _ => by rw [aup_o z1, aup_o z1]) rfl, ?_⟩
        rw [aup_o (by decide), aup_o (by decide)]
        exact y2 (fun h => by cases h)) (by rw [e80]; exact z9)
      clear h1 h0 bad pc tA
      refine k_accept1 hw t80 t9 z4 (by omega) h3 (by omega) (by omega) ?_
      simp (disch := omega) only [z_app, z_rd, z_cl, z_add, z_sub, z_mul, z_neg, z_lit, z_leT, z_leF, z_ltT, z_ltF, z_eqT, z_eqF, i_leT, i_leF, i_ltT, i_ltF, i_eqT, i_eqF, z_le, z_lt, z_eq, z_ite, z_at, z_pt, z_up, z_wr, z_wi1, z_wi0, z_wi, z_inS, z_toInt, z_nb0, z_nb1, Int.cast_ofNat_Int, true_and, and_true, not_true_eq_false, not_false_eq_true, false_imp_iff, true_imp_iff, aup_o, aup_k, ite_true, ite_false, z_fa000, z_fa001, z_fa010, z_fa011, z_fa100, z_fa101, z_fa110, z_fa111, if_true, if_false]
      exact ⟨Or.inr trivial, q⟩
    · have ps : pstep (w 80) (w 84) (j', k', [], J', E') = .inr (.inr (1, j')) := by
        show (if w 80 j' = 303 then _ else _) = _
        rw [if_neg h3]
        unfold pcmd
        rw [if_neg z7]
      have q := bad (aup v 63 10 1) 1 j' (pfin_to z1 (pfin_st ps)) (fP_tr fw (fP_tr z3 (fP_up (by decide) (by decide)))) (by rw [aup_i (by decide)]; exact t9) (aup_s _ _ _ _) z4 z5
      have x9 : aup v 63 10 1 63 9 = j' := by rw [aup_i (by decide)]; exact t9
      rw [aup_o (k := 63) (k' := 82) (by decide)] at q
      clear h1 h0 bad pc tA
      refine k_accept0 hw t80 t9 z4 (by omega) h3 (by omega) (by omega) (by omega) (by omega) ?_
      simp (disch := omega) only [z_app, z_rd, z_cl, z_add, z_sub, z_mul, z_neg, z_lit, z_leT, z_leF, z_ltT, z_ltF, z_eqT, z_eqF, i_leT, i_leF, i_ltT, i_ltF, i_eqT, i_eqF, z_le, z_lt, z_eq, z_ite, z_at, z_pt, z_up, z_wr, z_wi1, z_wi0, z_wi, z_inS, z_toInt, z_nb0, z_nb1, Int.cast_ofNat_Int, true_and, and_true, not_true_eq_false, not_false_eq_true, false_imp_iff, true_imp_iff, aup_o, aup_k, ite_true, ite_false, z_fa000, z_fa001, z_fa010, z_fa011, z_fa100, z_fa101, z_fa110, z_fa111, if_true, if_false, x9, t9]
      exact ⟨Or.inl trivial, q⟩
  · have q := bad v f x z1 (fP_tr fw z2.1) z2.2.1 z2.2.2 z3 z4
    have x9 := z2.2.1
    clear h1 h0 bad pc
    simp (disch := omega) only [z_app, z_rd, z_cl, z_add, z_sub, z_mul, z_neg, z_lit, z_leT, z_leF, z_ltT, z_ltF, z_eqT, z_eqF, i_leT, i_leF, i_ltT, i_ltF, i_eqT, i_eqF, z_le, z_lt, z_eq, z_ite, z_at, z_pt, z_up, z_wr, z_wi1, z_wi0, z_wi, z_inS, z_toInt, z_nb0, z_nb1, Int.cast_ofNat_Int, true_and, and_true, not_true_eq_false, not_false_eq_true, false_imp_iff, true_imp_iff, aup_o, aup_k, ite_true, ite_false, z_fa000, z_fa001, z_fa010, z_fa011, z_fa100, z_fa101, z_fa110, z_fa111, if_true, if_false, x9]
    exact ⟨Or.inl trivial, q⟩
end KQ
