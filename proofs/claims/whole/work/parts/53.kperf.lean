/-! ===== the class's checkpoint, and the road through perform ===== -/
/-- files copied: the first k of those that exist, the first l blocks -/
def bcF (s : aS) (e' b' e b : Nat) (k l : Int) : aS := fun x i => if x = e' ∧ 0 ≤ i ∧ i < k then s e i else if x = b' ∧ 0 ≤ i ∧ i < l then s b i else s x i
theorem bc_0 (s : aS) (e' b' e b : Nat) : bcF s e' b' e b 0 0 = s := by
  funext x i
  unfold bcF
  rw [if_neg (by omega), if_neg (by omega)]
theorem bc_k {s : aS} {e' b' e b : Nat} (h1 : e ≠ e') (h2 : e ≠ b') (hb : b' ≠ e') {k : Int} (k0 : 0 ≤ k) : aup (bcF s e' b' e b k 0) e' k (bcF s e' b' e b k 0 e k) = bcF s e' b' e b (k + 1) 0 := by
  have ev : bcF s e' b' e b k 0 e k = s e k := by unfold bcF; rw [if_neg (fun y => h1 y.1), if_neg (fun y => h2 y.1)]
  rw [ev]
  funext x i
  unfold aup bcF
  by_cases hx : x = e'
  · subst hx
    simp only [true_and, if_true]
    by_cases hi : i = k
    · rw [if_pos hi, if_pos (by omega), hi]
    · rw [if_neg hi]
      by_cases hk : 0 ≤ i ∧ i < k
      · rw [if_pos hk, if_pos (by omega)]
      · rw [if_neg hk, if_neg (c := 0 ≤ i ∧ i < k + 1) (by omega)]
  · simp only [hx, if_false, false_and]
theorem bc_l {s : aS} {e' b' e b : Nat} (h1 : b ≠ e') (h2 : b ≠ b') (hb : b' ≠ e') {l : Int} (l0 : 0 ≤ l) : aup (bcF s e' b' e b 8 l) b' l (bcF s e' b' e b 8 l b l) = bcF s e' b' e b 8 (l + 1) := by
  have ev : bcF s e' b' e b 8 l b l = s b l := by unfold bcF; rw [if_neg (fun y => h1 y.1), if_neg (fun y => h2 y.1)]
  rw [ev]
  funext x i
  unfold aup bcF
  by_cases hx : x = b'
  · subst hx
    simp only [true_and, if_true, hb, false_and, if_false]
    by_cases hi : i = l
    · rw [if_pos hi, if_pos (by omega), hi]
    · rw [if_neg hi]
      by_cases hk : 0 ≤ i ∧ i < l
      · rw [if_pos hk, if_pos (by omega)]
      · rw [if_neg hk, if_neg (by omega)]
  · simp only [hx, if_false, false_and]
section KM
variable {g : qG} {s : aS} {d : Nat} {Q : Int32 → qS → Prop} {T : String → qS → Prop}
theorem k_become44x39_b (hw : qWF g) (hQ : Q (iI 0) (qi (bcF s 46 48 41 43 8 32))) : ∀ l : Int, 0 ≤ l → l ≤ 32 → qV g mX1_become (d + 1) 0 32 [some (.inr 44), some (.inr 39), some (.inl (iI l))] [] (qi (bcF s 46 48 41 43 8 l)) Q T := by
  refine stepUp 32 (fun l ih l0 l1 => wX1_becomef44x39_32 hw ?_)
  by_cases h : l < 32
  · simp (disch := omega) only [z_app, z_rd, z_cl, z_add, z_sub, z_mul, z_neg, z_lit, z_leT, z_leF, z_ltT, z_ltF, z_eqT, z_eqF, i_leT, i_leF, i_ltT, i_ltF, i_eqT, i_eqF, z_le, z_lt, z_eq, z_ite, z_at, z_pt, z_up, z_wr, z_wi1, z_wi0, z_wi, z_inS, z_toInt, z_nb0, z_nb1, Int.cast_ofNat_Int, true_and, and_true, not_true_eq_false, not_false_eq_true, false_imp_iff, true_imp_iff, aup_o, aup_k, ite_true, ite_false, z_fa000, z_fa001, z_fa010, z_fa011, z_fa100, z_fa101, z_fa110, z_fa111, if_true, if_false]
    rw [bc_l (by decide) (by decide) (by decide) l0]
    exact ih h (by omega) (by omega)
  · have e : l = 32 := by omega
    subst e
    simp (disch := omega) only [z_app, z_rd, z_cl, z_add, z_sub, z_mul, z_neg, z_lit, z_leT, z_leF, z_ltT, z_ltF, z_eqT, z_eqF, i_leT, i_leF, i_ltT, i_ltF, i_eqT, i_eqF, z_le, z_lt, z_eq, z_ite, z_at, z_pt, z_up, z_wr, z_wi1, z_wi0, z_wi, z_inS, z_toInt, z_nb0, z_nb1, Int.cast_ofNat_Int, true_and, and_true, not_true_eq_false, not_false_eq_true, false_imp_iff, true_imp_iff, aup_o, aup_k, ite_true, ite_false, z_fa000, z_fa001, z_fa010, z_fa011, z_fa100, z_fa101, z_fa110, z_fa111, if_true, if_false]
    exact hQ
theorem k_become44x39_l (hw : qWF g) (hQ : Q (iI 0) (qi (bcF s 46 48 41 43 8 32))) : ∀ k : Int, 0 ≤ k → k ≤ 8 → qV g mX1_become (d + 1) 0 2 [some (.inr 44), some (.inr 39), some (.inl (iI k))] [] (qi (bcF s 46 48 41 43 k 0)) Q T := by
  refine stepUp 8 (fun k ih k0 k1 => wX1_becomef44x39_2 hw ?_)
  by_cases h : k < 8
  · simp (disch := omega) only [z_app, z_rd, z_cl, z_add, z_sub, z_mul, z_neg, z_lit, z_leT, z_leF, z_ltT, z_ltF, z_eqT, z_eqF, i_leT, i_leF, i_ltT, i_ltF, i_eqT, i_eqF, z_le, z_lt, z_eq, z_ite, z_at, z_pt, z_up, z_wr, z_wi1, z_wi0, z_wi, z_inS, z_toInt, z_nb0, z_nb1, Int.cast_ofNat_Int, true_and, and_true, not_true_eq_false, not_false_eq_true, false_imp_iff, true_imp_iff, aup_o, aup_k, ite_true, ite_false, z_fa000, z_fa001, z_fa010, z_fa011, z_fa100, z_fa101, z_fa110, z_fa111, if_true, if_false]
    rw [bc_k (by decide) (by decide) (by decide) k0]
    exact ih h (by omega) (by omega)
  · have e : k = 8 := by omega
    subst e
    simp (disch := omega) only [z_app, z_rd, z_cl, z_add, z_sub, z_mul, z_neg, z_lit, z_leT, z_leF, z_ltT, z_ltF, z_eqT, z_eqF, i_leT, i_leF, i_ltT, i_ltF, i_eqT, i_eqF, z_le, z_lt, z_eq, z_ite, z_at, z_pt, z_up, z_wr, z_wi1, z_wi0, z_wi, z_inS, z_toInt, z_nb0, z_nb1, Int.cast_ofNat_Int, true_and, and_true, not_true_eq_false, not_false_eq_true, false_imp_iff, true_imp_iff, aup_o, aup_k, ite_true, ite_false, z_fa000, z_fa001, z_fa010, z_fa011, z_fa100, z_fa101, z_fa110, z_fa111, if_true, if_false]
    exact k_become44x39_b hw hQ 0 (by omega) (by omega)
theorem k_become44x39 (hw : qWF g) (hQ : Q (iI 0) (qi (bcF s 46 48 41 43 8 32))) : qC g (d + 1) mX1_become [.inr 44, .inr 39] (qi s) Q T := by
  refine wX1_becomef44x39 hw ⟨rfl, ?_⟩
  have := k_become44x39_l (d := d) (T := T) hw hQ 0 (by omega) (by omega)
  rw [bc_0] at this
  exact this
theorem k_become49x44_b (hw : qWF g) (hQ : Q (iI 0) (qi (bcF s 51 53 46 48 8 32))) : ∀ l : Int, 0 ≤ l → l ≤ 32 → qV g mX1_become (d + 1) 0 32 [some (.inr 49), some (.inr 44), some (.inl (iI l))] [] (qi (bcF s 51 53 46 48 8 l)) Q T := by
  refine stepUp 32 (fun l ih l0 l1 => wX1_becomef49x44_32 hw ?_)
  by_cases h : l < 32
  · simp (disch := omega) only [z_app, z_rd, z_cl, z_add, z_sub, z_mul, z_neg, z_lit, z_leT, z_leF, z_ltT, z_ltF, z_eqT, z_eqF, i_leT, i_leF, i_ltT, i_ltF, i_eqT, i_eqF, z_le, z_lt, z_eq, z_ite, z_at, z_pt, z_up, z_wr, z_wi1, z_wi0, z_wi, z_inS, z_toInt, z_nb0, z_nb1, Int.cast_ofNat_Int, true_and, and_true, not_true_eq_false, not_false_eq_true, false_imp_iff, true_imp_iff, aup_o, aup_k, ite_true, ite_false, z_fa000, z_fa001, z_fa010, z_fa011, z_fa100, z_fa101, z_fa110, z_fa111, if_true, if_false]
    rw [bc_l (by decide) (by decide) (by decide) l0]
    exact ih h (by omega) (by omega)
  · have e : l = 32 := by omega
    subst e
    simp (disch := omega) only [z_app, z_rd, z_cl, z_add, z_sub, z_mul, z_neg, z_lit, z_leT, z_leF, z_ltT, z_ltF, z_eqT, z_eqF, i_leT, i_leF, i_ltT, i_ltF, i_eqT, i_eqF, z_le, z_lt, z_eq, z_ite, z_at, z_pt, z_up, z_wr, z_wi1, z_wi0, z_wi, z_inS, z_toInt, z_nb0, z_nb1, Int.cast_ofNat_Int, true_and, and_true, not_true_eq_false, not_false_eq_true, false_imp_iff, true_imp_iff, aup_o, aup_k, ite_true, ite_false, z_fa000, z_fa001, z_fa010, z_fa011, z_fa100, z_fa101, z_fa110, z_fa111, if_true, if_false]
    exact hQ
theorem k_become49x44_l (hw : qWF g) (hQ : Q (iI 0) (qi (bcF s 51 53 46 48 8 32))) : ∀ k : Int, 0 ≤ k → k ≤ 8 → qV g mX1_become (d + 1) 0 2 [some (.inr 49), some (.inr 44), some (.inl (iI k))] [] (qi (bcF s 51 53 46 48 k 0)) Q T := by
  refine stepUp 8 (fun k ih k0 k1 => wX1_becomef49x44_2 hw ?_)
  by_cases h : k < 8
  · simp (disch := omega) only [z_app, z_rd, z_cl, z_add, z_sub, z_mul, z_neg, z_lit, z_leT, z_leF, z_ltT, z_ltF, z_eqT, z_eqF, i_leT, i_leF, i_ltT, i_ltF, i_eqT, i_eqF, z_le, z_lt, z_eq, z_ite, z_at, z_pt, z_up, z_wr, z_wi1, z_wi0, z_wi, z_inS, z_toInt, z_nb0, z_nb1, Int.cast_ofNat_Int, true_and, and_true, not_true_eq_false, not_false_eq_true, false_imp_iff, true_imp_iff, aup_o, aup_k, ite_true, ite_false, z_fa000, z_fa001, z_fa010, z_fa011, z_fa100, z_fa101, z_fa110, z_fa111, if_true, if_false]
    rw [bc_k (by decide) (by decide) (by decide) k0]
    exact ih h (by omega) (by omega)
  · have e : k = 8 := by omega
    subst e
    simp (disch := omega) only [z_app, z_rd, z_cl, z_add, z_sub, z_mul, z_neg, z_lit, z_leT, z_leF, z_ltT, z_ltF, z_eqT, z_eqF, i_leT, i_leF, i_ltT, i_ltF, i_eqT, i_eqF, z_le, z_lt, z_eq, z_ite, z_at, z_pt, z_up, z_wr, z_wi1, z_wi0, z_wi, z_inS, z_toInt, z_nb0, z_nb1, Int.cast_ofNat_Int, true_and, and_true, not_true_eq_false, not_false_eq_true, false_imp_iff, true_imp_iff, aup_o, aup_k, ite_true, ite_false, z_fa000, z_fa001, z_fa010, z_fa011, z_fa100, z_fa101, z_fa110, z_fa111, if_true, if_false]
    exact k_become49x44_b hw hQ 0 (by omega) (by omega)
theorem k_become49x44 (hw : qWF g) (hQ : Q (iI 0) (qi (bcF s 51 53 46 48 8 32))) : qC g (d + 1) mX1_become [.inr 49, .inr 44] (qi s) Q T := by
  refine wX1_becomef49x44 hw ⟨rfl, ?_⟩
  have := k_become49x44_l (d := d) (T := T) hw hQ 0 (by omega) (by omega)
  rw [bc_0] at this
  exact this
theorem k_become39x44_b (hw : qWF g) (hQ : Q (iI 0) (qi (bcF s 41 43 46 48 8 32))) : ∀ l : Int, 0 ≤ l → l ≤ 32 → qV g mX1_become (d + 1) 0 32 [some (.inr 39), some (.inr 44), some (.inl (iI l))] [] (qi (bcF s 41 43 46 48 8 l)) Q T := by
  refine stepUp 32 (fun l ih l0 l1 => wX1_becomef39x44_32 hw ?_)
  by_cases h : l < 32
  · simp (disch := omega) only [z_app, z_rd, z_cl, z_add, z_sub, z_mul, z_neg, z_lit, z_leT, z_leF, z_ltT, z_ltF, z_eqT, z_eqF, i_leT, i_leF, i_ltT, i_ltF, i_eqT, i_eqF, z_le, z_lt, z_eq, z_ite, z_at, z_pt, z_up, z_wr, z_wi1, z_wi0, z_wi, z_inS, z_toInt, z_nb0, z_nb1, Int.cast_ofNat_Int, true_and, and_true, not_true_eq_false, not_false_eq_true, false_imp_iff, true_imp_iff, aup_o, aup_k, ite_true, ite_false, z_fa000, z_fa001, z_fa010, z_fa011, z_fa100, z_fa101, z_fa110, z_fa111, if_true, if_false]
    rw [bc_l (by decide) (by decide) (by decide) l0]
    exact ih h (by omega) (by omega)
  · have e : l = 32 := by omega
    subst e
    simp (disch := omega) only [z_app, z_rd, z_cl, z_add, z_sub, z_mul, z_neg, z_lit, z_leT, z_leF, z_ltT, z_ltF, z_eqT, z_eqF, i_leT, i_leF, i_ltT, i_ltF, i_eqT, i_eqF, z_le, z_lt, z_eq, z_ite, z_at, z_pt, z_up, z_wr, z_wi1, z_wi0, z_wi, z_inS, z_toInt, z_nb0, z_nb1, Int.cast_ofNat_Int, true_and, and_true, not_true_eq_false, not_false_eq_true, false_imp_iff, true_imp_iff, aup_o, aup_k, ite_true, ite_false, z_fa000, z_fa001, z_fa010, z_fa011, z_fa100, z_fa101, z_fa110, z_fa111, if_true, if_false]
    exact hQ
theorem k_become39x44_l (hw : qWF g) (hQ : Q (iI 0) (qi (bcF s 41 43 46 48 8 32))) : ∀ k : Int, 0 ≤ k → k ≤ 8 → qV g mX1_become (d + 1) 0 2 [some (.inr 39), some (.inr 44), some (.inl (iI k))] [] (qi (bcF s 41 43 46 48 k 0)) Q T := by
  refine stepUp 8 (fun k ih k0 k1 => wX1_becomef39x44_2 hw ?_)
  by_cases h : k < 8
  · simp (disch := omega) only [z_app, z_rd, z_cl, z_add, z_sub, z_mul, z_neg, z_lit, z_leT, z_leF, z_ltT, z_ltF, z_eqT, z_eqF, i_leT, i_leF, i_ltT, i_ltF, i_eqT, i_eqF, z_le, z_lt, z_eq, z_ite, z_at, z_pt, z_up, z_wr, z_wi1, z_wi0, z_wi, z_inS, z_toInt, z_nb0, z_nb1, Int.cast_ofNat_Int, true_and, and_true, not_true_eq_false, not_false_eq_true, false_imp_iff, true_imp_iff, aup_o, aup_k, ite_true, ite_false, z_fa000, z_fa001, z_fa010, z_fa011, z_fa100, z_fa101, z_fa110, z_fa111, if_true, if_false]
    rw [bc_k (by decide) (by decide) (by decide) k0]
    exact ih h (by omega) (by omega)
  · have e : k = 8 := by omega
    subst e
    simp (disch := omega) only [z_app, z_rd, z_cl, z_add, z_sub, z_mul, z_neg, z_lit, z_leT, z_leF, z_ltT, z_ltF, z_eqT, z_eqF, i_leT, i_leF, i_ltT, i_ltF, i_eqT, i_eqF, z_le, z_lt, z_eq, z_ite, z_at, z_pt, z_up, z_wr, z_wi1, z_wi0, z_wi, z_inS, z_toInt, z_nb0, z_nb1, Int.cast_ofNat_Int, true_and, and_true, not_true_eq_false, not_false_eq_true, false_imp_iff, true_imp_iff, aup_o, aup_k, ite_true, ite_false, z_fa000, z_fa001, z_fa010, z_fa011, z_fa100, z_fa101, z_fa110, z_fa111, if_true, if_false]
    exact k_become39x44_b hw hQ 0 (by omega) (by omega)
theorem k_become39x44 (hw : qWF g) (hQ : Q (iI 0) (qi (bcF s 41 43 46 48 8 32))) : qC g (d + 1) mX1_become [.inr 39, .inr 44] (qi s) Q T := by
  refine wX1_becomef39x44 hw ⟨rfl, ?_⟩
  have := k_become39x44_l (d := d) (T := T) hw hQ 0 (by omega) (by omega)
  rw [bc_0] at this
  exact this
def kpF (s : aS) (k : Int) : aS := fun x i => if x = 38 ∧ 0 ≤ i ∧ i < k then s 34 i else s x i
theorem kpF_s {s : aS} {k : Int} (k0 : 0 ≤ k) : aup (kpF s k) 38 k (kpF s k 34 k) = kpF s (k + 1) := by
  have ev : kpF s k 34 k = s 34 k := by unfold kpF; rw [if_neg (by simp)]
  rw [ev]
  funext x i
  unfold aup kpF
  by_cases hx : x = 38
  · simp only [hx, true_and, if_true]
    by_cases hi : i = k
    · rw [if_pos hi, if_pos (by omega), hi]
    · rw [if_neg hi]
      by_cases hk : 0 ≤ i ∧ i < k
      · rw [if_pos hk, if_pos (by omega)]
      · rw [if_neg hk, if_neg (by omega)]
  · simp only [hx, if_false, false_and]
theorem kpF_0 (s : aS) : kpF s 0 = s := by
  funext x i
  unfold kpF
  rw [if_neg (by omega)]
theorem k_keepPositions_l (hw : qWF g) (c0 : 0 ≤ s 26 6) (c1 : s 26 6 ≤ 6) (hQ : Q (iI 0) (qi (kpF s (s 26 6)))) : ∀ k : Int, 0 ≤ k → k ≤ s 26 6 → qV g mX0_keepPositions (d + 1) 0 2 [some (.inr 26), some (.inl (iI k))] [] (qi (kpF s k)) Q T := by
  refine stepUp (s 26 6) (fun k ih k0 k1 => wX0_keepPositions_2 hw ?_)
  have e26 : kpF s k 26 6 = s 26 6 := rfl
  by_cases h : k < s 26 6
  · simp (disch := omega) only [z_app, z_rd, z_cl, z_add, z_sub, z_mul, z_neg, z_lit, z_leT, z_leF, z_ltT, z_ltF, z_eqT, z_eqF, i_leT, i_leF, i_ltT, i_ltF, i_eqT, i_eqF, z_le, z_lt, z_eq, z_ite, z_at, z_pt, z_up, z_wr, z_wi1, z_wi0, z_wi, z_inS, z_toInt, z_nb0, z_nb1, Int.cast_ofNat_Int, true_and, and_true, not_true_eq_false, not_false_eq_true, false_imp_iff, true_imp_iff, aup_o, aup_k, ite_true, ite_false, z_fa000, z_fa001, z_fa010, z_fa011, z_fa100, z_fa101, z_fa110, z_fa111, if_true, if_false, e26]
    rw [kpF_s k0]
    exact ih h (by omega) (by omega)
  · have e : k = s 26 6 := by omega
    subst e
    simp (disch := omega) only [z_app, z_rd, z_cl, z_add, z_sub, z_mul, z_neg, z_lit, z_leT, z_leF, z_ltT, z_ltF, z_eqT, z_eqF, i_leT, i_leF, i_ltT, i_ltF, i_eqT, i_eqF, z_le, z_lt, z_eq, z_ite, z_at, z_pt, z_up, z_wr, z_wi1, z_wi0, z_wi, z_inS, z_toInt, z_nb0, z_nb1, Int.cast_ofNat_Int, true_and, and_true, not_true_eq_false, not_false_eq_true, false_imp_iff, true_imp_iff, aup_o, aup_k, ite_true, ite_false, z_fa000, z_fa001, z_fa010, z_fa011, z_fa100, z_fa101, z_fa110, z_fa111, if_true, if_false, e26]
    exact hQ
theorem k_keepPositions (hw : qWF g) (c0 : 0 ≤ s 26 6) (c1 : s 26 6 ≤ 6) (hQ : Q (iI 0) (qi (kpF s (s 26 6)))) : qC g (d + 1) mX0_keepPositions [.inr 26] (qi s) Q T := by
  refine wX0_keepPositions hw ⟨rfl, ?_⟩
  have := k_keepPositions_l (d := d) (T := T) hw c0 c1 hQ 0 (by omega) c0
  rw [kpF_0] at this
  exact this
theorem kp_eq (s : aS) : kpF (bcF s 46 48 41 43 8 32) (s 26 6) = kpS s := by
  funext x i
  unfold kpF bcF kpS
  by_cases h38 : x = 38
  · subst h38
    simp
  · by_cases h46 : x = 46
    · subst h46; simp
    · by_cases h48 : x = 48
      · subst h48; simp
      · simp [h38, h46, h48]
theorem k_keepAll (hw : qWF g) (hJ : jJ s) (n1 : s 2 9 < 400) (hQ : Q (iI (s 2 9)) (qi (mkB s))) : qC g (d + 3) mX2_keepAll [.inr 1] (qi s) Q T := by
  have B := jb hJ
  have ho : okR s 8 (-1) 0 0 0 := ⟨by omega, by omega, by omega, by omega, by omega, by omega, by omega, by omega, by omega, by omega, by omega, by omega, fun h => by omega⟩
  have e26 : aup (adS s 8 (-1) 0 0 0) 1 11 (s 2 9) 26 6 = s 26 6 := by rw [aup_o (by decide), ad_o _ _ _ _ _ _ (by decide)]
  have e26' : bcF (aup (adS s 8 (-1) 0 0 0) 1 11 (s 2 9)) 46 48 41 43 8 32 26 6 = s 26 6 := e26
  have ek : kpF (bcF (aup (adS s 8 (-1) 0 0 0) 1 11 (s 2 9)) 46 48 41 43 8 32) (bcF (aup (adS s 8 (-1) 0 0 0) 1 11 (s 2 9)) 46 48 41 43 8 32 26 6) = kpS (aup (adS s 8 (-1) 0 0 0) 1 11 (s 2 9)) := kp_eq _
  have u2 : kpS (aup (adS s 8 (-1) 0 0 0) 1 11 (s 2 9)) 2 = adS s 8 (-1) 0 0 0 2 := by rw [kp_o (by decide) (by decide) (by decide), aup_o (by decide)]
  have e9 : kpS (aup (adS s 8 (-1) 0 0 0) 1 11 (s 2 9)) 2 9 = s 2 9 + 1 := by rw [u2, ad_n]
  have e10 : kpS (aup (adS s 8 (-1) 0 0 0) 1 11 (s 2 9)) 2 10 = s 2 10 := by rw [u2, ad_2 _ _ _ _ _ _ (by decide)]
  have e1 : mkB s 1 11 = s 2 9 := by unfold mkB; rw [fl_o (by decide) (by decide), kp_o (by decide) (by decide) (by decide), aup_s]
  refine wX2_keepAll hw ?_
  simp +contextual (disch := omega) only [z_app, z_rd, z_cl, z_add, z_sub, z_mul, z_neg, z_lit, z_le, z_lt, z_eq, z_ite, z_at, z_pt, z_up, z_wr, z_wi, z_inS, z_toInt, z_nb0, z_nb1, Int.cast_ofNat_Int, true_and, and_true, not_true_eq_false, not_false_eq_true, false_imp_iff, true_imp_iff, aup_o, aup_k, ite_true, ite_false]
  refine k_addA hw hJ (agR_rf s) n1 ho ?_
  rw [z_up, show ((11 : Nat) : Int) = 11 from rfl]
  refine k_become44x39 hw ?_
  refine k_keepPositions hw (by rw [e26']; omega) (by rw [e26']; omega) ?_
  rw [ek]
  refine k_flushAll hw (by rw [e10]; omega) (by rw [e9, e10]; omega) (by rw [e9]; omega) ?_
  rw [← e1] at hQ
  exact hQ
/-- behind an operation with a new record -/
theorem lc_bs {b : aS} {k ow x y w : Int} (hJ : jJ s) (ho : okR s k ow x y w) (hb : bsR s b k ow x y w) : lcS b (s 2 9) = lnk s k ow := by
  rw [← lc_ad hJ ho]
  unfold lcS
  rw [hb.2.1, hb.2.2.1]
theorem k_p201 (hw : qWF g) {b : aS} {k ow x y w r : Int} (hJ : jJ s) (n1 : s 2 9 < 400) (ho : okR s k ow x y w) (hb : bsR s b k ow x y w) (hf : jJ (fiS b (s 2 9) (lnk s k ow))) {l1 l2 l3 l4 l5 : Int32} (hQ : Q (iI r) (qi (stS (fiS b (s 2 9) (lnk s k ow))))) : qV g mX2_perform (d + 5) 0 201 [some (.inr 1), some (.inl l1), some (.inl l2), some (.inl l3), some (.inl l4), some (.inl l5), some (.inl (iI (s 2 9))), some (.inl (iI r))] [] (qi b) Q T := by
  have B := jb hJ
  have e9 := hb.1
  have L := lc_bs hJ ho hb
  have O := (fi_ok hJ n1 ho hb).1
  refine wX2_perform_201 hw ?_
  simp (disch := omega) only [z_app, z_rd, z_cl, z_add, z_sub, z_mul, z_neg, z_lit, z_leT, z_leF, z_ltT, z_ltF, z_eqT, z_eqF, i_leT, i_leF, i_ltT, i_ltF, i_eqT, i_eqF, z_le, z_lt, z_eq, z_ite, z_at, z_pt, z_up, z_wr, z_wi1, z_wi0, z_wi, z_inS, z_toInt, z_nb0, z_nb1, Int.cast_ofNat_Int, true_and, and_true, not_true_eq_false, not_false_eq_true, false_imp_iff, true_imp_iff, aup_o, aup_k, ite_true, ite_false, z_fa000, z_fa001, z_fa010, z_fa011, z_fa100, z_fa101, z_fa110, z_fa111, if_true, if_false, e9]
  refine k_takeEffect hw (by omega) n1 (fun j j0 j1 => ?_) (by rw [L]; exact O) ?_
  · have f4 : fiS b (s 2 9) (lnk s k ow) 4 = b 4 := fi_o _ _ _ (by decide)
    have f6 : fiS b (s 2 9) (lnk s k ow) 6 = b 6 := fi_o _ _ _ (by decide)
    have f2 : fiS b (s 2 9) (lnk s k ow) 2 9 = s 2 9 + 1 := by rw [fi_o _ _ _ (by decide), e9]
    obtain ⟨r1, r2⟩ := hf.2.1 j j0 (by rw [f2]; exact j1)
    have q1 := r1.1
    have q2 := r2.1
    have q3 := r2.2.2.1
    rw [f4] at q1 q3
    rw [f6] at q2 q3
    exact ⟨⟨q2.1, by omega⟩, q1, fun h => q3 (by omega)⟩
  · rw [L]
    exact k_settle hw hf hQ
theorem k_p201n (hw : qWF g) {n r : Int} (hJ : jJ s) (hn : s 2 9 = n) {l1 l2 l3 l4 l5 : Int32} (hQ : Q (iI r) (qi (stS s))) : qV g mX2_perform (d + 5) 0 201 [some (.inr 1), some (.inl l1), some (.inl l2), some (.inl l3), some (.inl l4), some (.inl l5), some (.inl (iI n)), some (.inl (iI r))] [] (qi s) Q T := by
  have B := jb hJ
  refine wX2_perform_201 hw ?_
  simp (disch := omega) only [z_app, z_rd, z_cl, z_add, z_sub, z_mul, z_neg, z_lit, z_leT, z_leF, z_ltT, z_ltF, z_eqT, z_eqF, i_leT, i_leF, i_ltT, i_ltF, i_eqT, i_eqF, z_le, z_lt, z_eq, z_ite, z_at, z_pt, z_up, z_wr, z_wi1, z_wi0, z_wi, z_inS, z_toInt, z_nb0, z_nb1, Int.cast_ofNat_Int, true_and, and_true, not_true_eq_false, not_false_eq_true, false_imp_iff, true_imp_iff, aup_o, aup_k, ite_true, ite_false, z_fa000, z_fa001, z_fa010, z_fa011, z_fa100, z_fa101, z_fa110, z_fa111, if_true, if_false]
  exact k_settle hw hJ hQ
end KM
