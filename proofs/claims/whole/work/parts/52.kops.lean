/-! ===== the class's operations ===== -/
def zrF (s : aS) (k : Int) : aS := fun x i => if x = 20 ∧ s 2 10 ≤ i ∧ i < k then 0 else s x i
theorem zr_0 (s : aS) : zrF s (s 2 10) = s := by
  funext x i
  unfold zrF
  rw [if_neg (by omega)]
theorem zr_s {s : aS} {k : Int} (h : s 2 10 ≤ k) : aup (zrF s k) 20 k 0 = zrF s (k + 1) := by
  funext x i
  unfold aup zrF
  by_cases hx : x = 20
  · simp only [hx, true_and, if_true]
    by_cases hi : i = k
    · rw [if_pos hi, if_pos (by omega)]
    · rw [if_neg hi]
      by_cases h2 : s 2 10 ≤ i ∧ i < k
      · rw [if_pos h2, if_pos (by omega)]
      · rw [if_neg h2, if_neg (by omega)]
  · simp only [hx, false_and, if_false]
theorem zr_e (s : aS) : aup (zrF s (s 2 9)) 2 10 (s 2 9) = flS s := by
  funext x i
  unfold aup zrF flS
  by_cases hx : x = 2
  · subst hx
    simp only [true_and, if_true]
    by_cases hi : i = 10
    · rw [if_pos hi, if_pos hi, if_neg (by simp)]
    · rw [if_neg hi, if_neg hi]
  · simp only [hx, if_false, false_and]
section KO
variable {g : qG} {s : aS} {d : Nat} {Q : Int32 → qS → Prop} {T : String → qS → Prop}
theorem k_flushAll_l (hw : qWF g) (d0 : 0 ≤ s 2 10) (n1 : s 2 9 ≤ 400) {r : Int} (hQ : Q (iI r) (qi (flS s))) : ∀ k : Int, s 2 10 ≤ k → k ≤ s 2 9 → qV g mX4_flushAll (d + 1) 0 15 [some (.inr 2), some (.inl (iI r)), some (.inl (iI k))] [] (qi (zrF s k)) Q T := by
  refine stepUp (s 2 9) (fun k ih k0 k1 => wX4_flushAll_15 hw ?_)
  have e9 : zrF s k 2 9 = s 2 9 := rfl
  by_cases h : k < s 2 9
  · simp (disch := omega) only [z_app, z_rd, z_cl, z_add, z_sub, z_mul, z_neg, z_lit, z_leT, z_leF, z_ltT, z_ltF, z_eqT, z_eqF, i_leT, i_leF, i_ltT, i_ltF, i_eqT, i_eqF, z_le, z_lt, z_eq, z_ite, z_at, z_pt, z_up, z_wr, z_wi1, z_wi0, z_wi, z_inS, z_toInt, z_nb0, z_nb1, Int.cast_ofNat_Int, true_and, and_true, not_true_eq_false, not_false_eq_true, false_imp_iff, true_imp_iff, aup_o, aup_k, ite_true, ite_false, z_fa000, z_fa001, z_fa010, z_fa011, z_fa100, z_fa101, z_fa110, z_fa111, if_true, if_false, e9]
    rw [zr_s k0]
    exact ih h (by omega) (by omega)
  · have ek : k = s 2 9 := by omega
    subst ek
    simp (disch := omega) only [z_app, z_rd, z_cl, z_add, z_sub, z_mul, z_neg, z_lit, z_leT, z_leF, z_ltT, z_ltF, z_eqT, z_eqF, i_leT, i_leF, i_ltT, i_ltF, i_eqT, i_eqF, z_le, z_lt, z_eq, z_ite, z_at, z_pt, z_up, z_wr, z_wi1, z_wi0, z_wi, z_inS, z_toInt, z_nb0, z_nb1, Int.cast_ofNat_Int, true_and, and_true, not_true_eq_false, not_false_eq_true, false_imp_iff, true_imp_iff, aup_o, aup_k, ite_true, ite_false, z_fa000, z_fa001, z_fa010, z_fa011, z_fa100, z_fa101, z_fa110, z_fa111, if_true, if_false, e9]
    rw [zr_e]
    exact hQ
theorem k_flushAll (hw : qWF g) (d0 : 0 ≤ s 2 10) (dn : s 2 10 ≤ s 2 9) (n1 : s 2 9 ≤ 400) (hQ : Q (iI (s 2 9 - s 2 10)) (qi (flS s))) : qC g (d + 1) mX4_flushAll [.inr 2] (qi s) Q T := by
  refine wX4_flushAll hw ?_
  simp (disch := omega) only [z_app, z_rd, z_cl, z_add, z_sub, z_mul, z_neg, z_lit, z_leT, z_leF, z_ltT, z_ltF, z_eqT, z_eqF, i_leT, i_leF, i_ltT, i_ltF, i_eqT, i_eqF, z_le, z_lt, z_eq, z_ite, z_at, z_pt, z_up, z_wr, z_wi1, z_wi0, z_wi, z_inS, z_toInt, z_nb0, z_nb1, Int.cast_ofNat_Int, true_and, and_true, not_true_eq_false, not_false_eq_true, false_imp_iff, true_imp_iff, aup_o, aup_k, ite_true, ite_false, z_fa000, z_fa001, z_fa010, z_fa011, z_fa100, z_fa101, z_fa110, z_fa111, if_true, if_false]
  have := k_flushAll_l (d := d) (T := T) hw d0 n1 hQ (s 2 10) (Int.le_refl _) dn
  rw [zr_0] at this
  exact this
/-- the room that a new record needs -/
theorem j_room (hJ : jJ s) (n1 : s 2 9 < 400) : 0 ≤ s 21 3 ∧ s 21 3 < 400 ∧ 0 ≤ s 25 (s 21 3) ∧ s 25 (s 21 3) ≤ 12000 ∧ 0 ≤ s 21 4 ∧ s 21 4 ≤ 400 ∧ 0 ≤ s 2 9 := by
  have B := jb hJ
  have E := e_b hJ (i := s 21 3 - s 21 2) (by omega) (Int.le_refl _)
  rw [show s 21 2 + (s 21 3 - s 21 2) = s 21 3 by omega] at E
  have SB := j_sum hJ (lo := s 23 (s 21 3)) (hi := eS s (s 21 3 - s 21 2)) E.1 E.2.1 E.2.2.1
  omega
theorem k_addA (hw : qWF g) {t : aS} (hJ : jJ s) (ha : agR s t) (n1 : s 2 9 < 400) {k ow x y w : Int} (ho : okR s k ow x y w) (hQ : Q (iI (s 2 9)) (qi (adS t k ow x y w))) : qC g (d + 2) mX2_add [.inr 1, .inl (iI k), .inl (iI ow), .inl (iI x), .inl (iI y), .inl (iI w)] (qi t) Q T := by
  have R := j_room hJ n1
  obtain ⟨h9, hc⟩ := ha
  have e21 := hc 21 (by decide)
  have e25 := hc 25 (by decide)
  obtain ⟨k0, -, -, w0, -, -, -, q6, -⟩ := ho
  refine k_add hw (by rw [e21]; omega) (by rw [e21]; omega) (by rw [e21, e25]; omega) (by rw [e21, e25]; omega) (by rw [e21]; omega) (by rw [e21]; omega) (by rw [h9]; omega) (by rw [h9]; omega) k0.1 k0.2 w0.1 ?_ ?_
  · by_cases h : k = 6
    · exact Or.inl (q6 h).2
    · exact Or.inr h
  · rw [h9]
    exact hQ
theorem k_open (hw : qWF g) (hJ : jJ s) (n1 : s 2 9 < 400) {t : Int} (t0 : 0 ≤ t) (t1 : t < 4) (hQ : Q (iI t) (qi (bgS s t))) : qC g (d + 3) mX2_open [.inr 1, .inl (iI t)] (qi s) Q T := by
  have B := jb hJ
  refine wX2_open hw ?_
  simp +contextual (disch := omega) only [z_app, z_rd, z_cl, z_add, z_sub, z_mul, z_neg, z_lit, z_le, z_lt, z_eq, z_ite, z_at, z_pt, z_up, z_wr, z_wi, z_inS, z_toInt, z_nb0, z_nb1, Int.cast_ofNat_Int, true_and, and_true, not_true_eq_false, not_false_eq_true, false_imp_iff, true_imp_iff, aup_o, aup_k, ite_true, ite_false]
  refine k_addA hw hJ (agR_rf s) n1 (okR_0 hJ t0 t1) ?_
  simp (disch := omega) only [z_app, z_rd, z_cl, z_add, z_sub, z_mul, z_neg, z_lit, z_leT, z_leF, z_ltT, z_ltF, z_eqT, z_eqF, i_leT, i_leF, i_ltT, i_ltF, i_eqT, i_eqF, z_le, z_lt, z_eq, z_ite, z_at, z_pt, z_up, z_wr, z_wi1, z_wi0, z_wi, z_inS, z_toInt, z_nb0, z_nb1, Int.cast_ofNat_Int, true_and, and_true, not_true_eq_false, not_false_eq_true, false_imp_iff, true_imp_iff, aup_o, aup_k, ite_true, ite_false, z_fa000, z_fa001, z_fa010, z_fa011, z_fa100, z_fa101, z_fa110, z_fa111, if_true, if_false]
  exact hQ
theorem k_close (hw : qWF g) (hJ : jJ s) (n1 : s 2 9 < 400) {t kd : Int} (t0 : 0 ≤ t) (t1 : t < 4) (hf : s 55 t ≠ -1) (hk : kd = 1 ∨ kd = 2) (hQ : Q (iI (s 57 t)) (qi (clS s t kd))) : qC g (d + 3) mX2_close [.inr 1, .inl (iI t), .inl (iI kd)] (qi s) Q T := by
  have B := jb hJ
  have e57 : adS s kd (s 55 t) t 0 0 57 = s 57 := ad_o _ _ _ _ _ _ (by decide)
  refine wX2_close hw ?_
  simp +contextual (disch := omega) only [z_app, z_rd, z_cl, z_add, z_sub, z_mul, z_neg, z_lit, z_le, z_lt, z_eq, z_ite, z_at, z_pt, z_up, z_wr, z_wi, z_inS, z_toInt, z_nb0, z_nb1, Int.cast_ofNat_Int, true_and, and_true, not_true_eq_false, not_false_eq_true, false_imp_iff, true_imp_iff, aup_o, aup_k, ite_true, ite_false]
  refine k_addA hw hJ (agR_rf s) n1 (okR_cl hJ t0 t1 hf hk) ?_
  simp (disch := omega) only [z_app, z_rd, z_cl, z_add, z_sub, z_mul, z_neg, z_lit, z_leT, z_leF, z_ltT, z_ltF, z_eqT, z_eqF, i_leT, i_leF, i_ltT, i_ltF, i_eqT, i_eqF, z_le, z_lt, z_eq, z_ite, z_at, z_pt, z_up, z_wr, z_wi1, z_wi0, z_wi, z_inS, z_toInt, z_nb0, z_nb1, Int.cast_ofNat_Int, true_and, and_true, not_true_eq_false, not_false_eq_true, false_imp_iff, true_imp_iff, aup_o, aup_k, ite_true, ite_false, z_fa000, z_fa001, z_fa010, z_fa011, z_fa100, z_fa101, z_fa110, z_fa111, if_true, if_false, e57]
  exact hQ
theorem k_change0 (hw : qWF g) (hJ : jJ s) (n1 : s 2 9 < 400) {k x y w : Int} (ho : okR s k (-1) x y w) (hQ : Q (iI (s 2 9)) (qi (adS s k (-1) x y w))) : qC g (d + 3) mX2_addChange [.inr 1, .inl (iI k), .inl (iI x), .inl (iI y), .inl (iI w), .inl (iI (-1))] (qi s) Q T := by
  refine wX2_addChange hw ⟨fun hn => absurd rfl hn, fun _ => ?_⟩
  exact k_addA hw hJ (agR_rf s) n1 ho hQ
theorem k_change1 (hw : qWF g) (hJ : jJ s) (n1 : s 2 9 < 400) {k x y w t : Int} (t0 : 0 ≤ t) (t1 : t < 4) (ho : okR s k (s 55 t) x y w) (hQ : Q (iI (s 2 9)) (qi (ctS s t k x y w))) : qC g (d + 3) mX2_addChange [.inr 1, .inl (iI k), .inl (iI x), .inl (iI y), .inl (iI w), .inl (iI t)] (qi s) Q T := by
  refine wX2_addChange hw ?_
  simp (disch := omega) only [z_app, z_rd, z_cl, z_add, z_sub, z_mul, z_neg, z_lit, z_leT, z_leF, z_ltT, z_ltF, z_eqT, z_eqF, i_leT, i_leF, i_ltT, i_ltF, i_eqT, i_eqF, z_le, z_lt, z_eq, z_ite, z_at, z_pt, z_up, z_wr, z_wi1, z_wi0, z_wi, z_inS, z_toInt, z_nb0, z_nb1, Int.cast_ofNat_Int, true_and, and_true, not_true_eq_false, not_false_eq_true, false_imp_iff, true_imp_iff, aup_o, aup_k, ite_true, ite_false, z_fa000, z_fa001, z_fa010, z_fa011, z_fa100, z_fa101, z_fa110, z_fa111, if_true, if_false]
  exact k_addA hw hJ (agR_up (agR_rf s) (Or.inl (by decide)) (by decide)) n1 ho hQ
theorem k_join (hw : qWF g) (hJ : jJ s) (n1 : s 2 9 < 400) {a : Int} (a0 : 0 ≤ a) (a1 : a < 4) (hc : s 26 6 < 6) (hQ : Q (iI (s 26 6)) (qi (jnB s a))) : qC g (d + 3) mX2_addConsumer [.inr 1, .inl (iI a)] (qi s) Q T := by
  have B := jb hJ
  have V0 := (hJ.2.2.2.2.1 a a0 a1).1
  have ho : okR s 7 (-1) (s 26 6) (s 30 a) a := ⟨by omega, by omega, by omega, by omega, by omega, by omega, by omega, by omega, by omega, by omega, by omega, by omega, fun h => by omega⟩
  have ag : agR s (jnS s a) := agR_up (agR_up (agR_up (agR_up (agR_rf s) (Or.inl (by decide)) (by decide)) (Or.inl (by decide)) (by decide)) (Or.inl (by decide)) (by decide)) (Or.inl (by decide)) (by decide)
  have e34 : jnS s a 34 (s 26 6) = s 30 a := by unfold jnS; rw [aup_o (by decide), aup_o (by decide), aup_s]
  have e9 : adS (jnS s a) 7 (-1) (s 26 6) (s 30 a) a 2 9 = s 2 9 + 1 := by rw [ad_n]; rfl
  have e10 : adS (jnS s a) 7 (-1) (s 26 6) (s 30 a) a 2 10 = s 2 10 := by rw [ad_2 _ _ _ _ _ _ (by decide)]; rfl
  refine wX2_addConsumer hw (wX0_addConsumer hw ?_)
  simp (disch := omega) only [z_app, z_rd, z_cl, z_add, z_sub, z_mul, z_neg, z_lit, z_leT, z_leF, z_ltT, z_ltF, z_eqT, z_eqF, i_leT, i_leF, i_ltT, i_ltF, i_eqT, i_eqF, z_le, z_lt, z_eq, z_ite, z_at, z_pt, z_up, z_wr, z_wi1, z_wi0, z_wi, z_inS, z_toInt, z_nb0, z_nb1, Int.cast_ofNat_Int, true_and, and_true, not_true_eq_false, not_false_eq_true, false_imp_iff, true_imp_iff, aup_o, aup_k, ite_true, ite_false, z_fa000, z_fa001, z_fa010, z_fa011, z_fa100, z_fa101, z_fa110, z_fa111, if_true, if_false]
  refine k_addA (t := jnS s a) hw hJ ag n1 ho ?_
  refine k_flushAll hw (by rw [e10]; omega) (by rw [e9, e10]; omega) (by rw [e9]; omega) ?_
  exact hQ
theorem k_take_l (hw : qWF g) (hJ : jJ s) (n1 : s 2 9 < 400) {c m u : Int} (c0 : 0 ≤ c) (c1 : c < s 26 6) (m0 : 1 ≤ m) (m1 : m ≤ 50) (h0 : rdN s c m = 0 → Q (iI 0) (qi (rd1 s c m))) (h1 : 0 < rdN s c m → Q (iI (rdN s c m)) (qi (rdB s c m))) : ∀ (n : Nat) (i : Int), i = n → i ≤ rdN s c m → qV g mX2_take (d + 4) 0 52 [some (.inr 1), some (.inl (iI c)), some (.inl (iI m)), some (.inl (iI u)), some (.inl (iI (s 34 c))), some (.inl (iI (s 32 c))), some (.inl (iI i))] [] (qi (awl (aup s 1 10 (rdN s c m)) 61 0 (rdF s c n))) Q T := by
  have B := jb hJ
  have C := jc hJ c0 c1
  have R := rd_b hJ c0 c1 m0 m1
  have key : ∀ (i : Int) (n : Nat), i = n → i ≤ rdN s c m → qV g mX2_take (d + 4) 0 52 [some (.inr 1), some (.inl (iI c)), some (.inl (iI m)), some (.inl (iI u)), some (.inl (iI (s 34 c))), some (.inl (iI (s 32 c))), some (.inl (iI i))] [] (qi (awl (aup s 1 10 (rdN s c m)) 61 0 (rdF s c n))) Q T := by
    refine stepUp (rdN s c m) (fun i ih n hn hi => wX2_take_52 hw ?_)
    have w1 : ∀ x : Nat, x ≠ 61 → awl (aup s 1 10 (rdN s c m)) 61 0 (rdF s c n) x = aup s 1 10 (rdN s c m) x := fun x hx => awl_o hx _ _ _
    have e10 : awl (aup s 1 10 (rdN s c m)) 61 0 (rdF s c n) 1 10 = rdN s c m := by rw [w1 1 (by decide), aup_s]
    by_cases h : i < rdN s c m
    · have e30 : awl (aup s 1 10 (rdN s c m)) 61 0 (rdF s c n) 30 = s 30 := by rw [w1 30 (by decide), aup_o (by decide)]
      have e28 : awl (aup s 1 10 (rdN s c m)) 61 0 (rdF s c n) 28 = s 28 := by rw [w1 28 (by decide), aup_o (by decide)]
      have el : s 32 c * 400 + (s 34 c + i) = 400 * s 32 c + (s 34 c + i) := by omega
      simp (disch := omega) only [z_app, z_rd, z_cl, z_add, z_sub, z_mul, z_neg, z_lit, z_leT, z_leF, z_ltT, z_ltF, z_eqT, z_eqF, i_leT, i_leF, i_ltT, i_ltF, i_eqT, i_eqF, z_le, z_lt, z_eq, z_ite, z_at, z_pt, z_up, z_wr, z_wi1, z_wi0, z_wi, z_inS, z_toInt, z_nb0, z_nb1, Int.cast_ofNat_Int, true_and, and_true, not_true_eq_false, not_false_eq_true, false_imp_iff, true_imp_iff, aup_o, aup_k, ite_true, ite_false, z_fa000, z_fa001, z_fa010, z_fa011, z_fa100, z_fa101, z_fa110, z_fa111, if_true, if_false, e10]
      refine wX0_numberAt hw ?_
      simp (disch := omega) only [z_app, z_rd, z_cl, z_add, z_sub, z_mul, z_neg, z_lit, z_leT, z_leF, z_ltT, z_ltF, z_eqT, z_eqF, i_leT, i_leF, i_ltT, i_ltF, i_eqT, i_eqF, z_le, z_lt, z_eq, z_ite, z_at, z_pt, z_up, z_wr, z_wi1, z_wi0, z_wi, z_inS, z_toInt, z_nb0, z_nb1, Int.cast_ofNat_Int, true_and, and_true, not_true_eq_false, not_false_eq_true, false_imp_iff, true_imp_iff, aup_o, aup_k, ite_true, ite_false, z_fa000, z_fa001, z_fa010, z_fa011, z_fa100, z_fa101, z_fa110, z_fa111, if_true, if_false, e30, e28, el]
      have e2 : aup (awl (aup s 1 10 (rdN s c m)) 61 0 (rdF s c n)) 61 i (s 28 (400 * s 32 c + (s 34 c + i))) = awl (aup s 1 10 (rdN s c m)) 61 0 (rdF s c (n + 1)) := by
        have := awl_snoc (aup s 1 10 (rdN s c m)) 61 (rdF s c n) (s 28 (400 * s 32 c + (s 34 c + n)))
        rw [rdF_len] at this
        rw [hn]
        exact this
      rw [e2]
      exact ih h (n + 1) (by omega) (by omega)
    · have hi' : i = rdN s c m := by omega
      have hL : rdF s c n = rdL s c m := by unfold rdL; rw [← hi', hn]; rfl
      by_cases hz : rdN s c m = 0
      · simp (disch := omega) only [z_app, z_rd, z_cl, z_add, z_sub, z_mul, z_neg, z_lit, z_leT, z_leF, z_ltT, z_ltF, z_eqT, z_eqF, i_leT, i_leF, i_ltT, i_ltF, i_eqT, i_eqF, z_le, z_lt, z_eq, z_ite, z_at, z_pt, z_up, z_wr, z_wi1, z_wi0, z_wi, z_inS, z_toInt, z_nb0, z_nb1, Int.cast_ofNat_Int, true_and, and_true, not_true_eq_false, not_false_eq_true, false_imp_iff, true_imp_iff, aup_o, aup_k, ite_true, ite_false, z_fa000, z_fa001, z_fa010, z_fa011, z_fa100, z_fa101, z_fa110, z_fa111, if_true, if_false, e10]
        refine wX2_take_141 hw ?_
        simp (disch := omega) only [z_app, z_rd, z_cl, z_add, z_sub, z_mul, z_neg, z_lit, z_leT, z_leF, z_ltT, z_ltF, z_eqT, z_eqF, i_leT, i_leF, i_ltT, i_ltF, i_eqT, i_eqF, z_le, z_lt, z_eq, z_ite, z_at, z_pt, z_up, z_wr, z_wi1, z_wi0, z_wi, z_inS, z_toInt, z_nb0, z_nb1, Int.cast_ofNat_Int, true_and, and_true, not_true_eq_false, not_false_eq_true, false_imp_iff, true_imp_iff, aup_o, aup_k, ite_true, ite_false, z_fa000, z_fa001, z_fa010, z_fa011, z_fa100, z_fa101, z_fa110, z_fa111, if_true, if_false, e10]
        rw [hL]
        have := h0 hz
        rw [← hz] at this
        exact this
      · have hR1 : awl (aup s 1 10 (rdN s c m)) 61 0 (rdF s c n) = rd1 s c m := by rw [hL]; rfl
        rw [hR1] at e10 ⊢
        simp (disch := omega) only [z_app, z_rd, z_cl, z_add, z_sub, z_mul, z_neg, z_lit, z_leT, z_leF, z_ltT, z_ltF, z_eqT, z_eqF, i_leT, i_leF, i_ltT, i_ltF, i_eqT, i_eqF, z_le, z_lt, z_eq, z_ite, z_at, z_pt, z_up, z_wr, z_wi1, z_wi0, z_wi, z_inS, z_toInt, z_nb0, z_nb1, Int.cast_ofNat_Int, true_and, and_true, not_true_eq_false, not_false_eq_true, false_imp_iff, true_imp_iff, aup_o, aup_k, ite_true, ite_false, z_fa000, z_fa001, z_fa010, z_fa011, z_fa100, z_fa101, z_fa110, z_fa111, if_true, if_false, e10]
        have ho : okR s 7 (-1) c (s 34 c + rdN s c m) (s 32 c) := ⟨by omega, by omega, by omega, by omega, by omega, by omega, by omega, by omega, by omega, by omega, by omega, by omega, fun h => by omega⟩
        have ag : agR s (rd2 s c m) := by
          refine agR_up ?_ (Or.inl (by decide)) (by decide)
          refine ⟨by rw [rd1_o s c m (by decide) (by decide)], fun x hx => rd1_o s c m (by omega) (by omega)⟩
        have x2 : rd2 s c m 2 = s 2 := by unfold rd2; rw [aup_o (by decide), rd1_o s c m (by decide) (by decide)]
        have x9 : adS (rd2 s c m) 7 (-1) c (s 34 c + rdN s c m) (s 32 c) 2 9 = s 2 9 + 1 := by rw [ad_n, x2]
        have x10 : adS (rd2 s c m) 7 (-1) c (s 34 c + rdN s c m) (s 32 c) 2 10 = s 2 10 := by rw [ad_2 _ _ _ _ _ _ (by decide), x2]
        refine k_addA (t := rd2 s c m) hw hJ ag n1 ho ?_
        refine k_flushAll hw (by rw [x10]; omega) (by rw [x9, x10]; omega) (by rw [x9]; omega) ?_
        refine wX2_take_141 hw ?_
        have x1 : rdB s c m 1 10 = rdN s c m := by
          unfold rdB
          rw [fl_o (by decide) (by decide), ad_o _ _ _ _ _ _ (by decide)]
          unfold rd2
          rw [aup_o (by decide), rd1_1, if_pos rfl]
        have := h1 (by omega)
        rw [← x1] at this
        exact this
  exact fun n i => key i n
theorem k_take (hw : qWF g) (hJ : jJ s) (n1 : s 2 9 < 400) {c m : Int} (c0 : 0 ≤ c) (c1 : c < s 26 6) (m0 : 1 ≤ m) (m1 : m ≤ 50) (h0 : rdN s c m = 0 → Q (iI 0) (qi (rd1 s c m))) (h1 : 0 < rdN s c m → Q (iI (rdN s c m)) (qi (rdB s c m))) : qC g (d + 4) mX2_take [.inr 1, .inl (iI c), .inl (iI m)] (qi s) Q T := by
  have B := jb hJ
  have C := jc hJ c0 c1
  have R := rd_b hJ c0 c1 m0 m1
  refine wX2_take hw (k_unreadOf hw hJ c0 c1 ?_)
  have L := k_take_l (d := d) (T := T) (u := s 30 (s 32 c) - s 34 c) hw hJ n1 c0 c1 m0 m1 h0 h1 0 0 rfl R.1
  by_cases h : m ≤ s 30 (s 32 c) - s 34 c
  · have e : rdN s c m = m := if_pos h
    rw [e] at L
    simp (disch := omega) only [z_app, z_rd, z_cl, z_add, z_sub, z_mul, z_neg, z_lit, z_leT, z_leF, z_ltT, z_ltF, z_eqT, z_eqF, i_leT, i_leF, i_ltT, i_ltF, i_eqT, i_eqF, z_le, z_lt, z_eq, z_ite, z_at, z_pt, z_up, z_wr, z_wi1, z_wi0, z_wi, z_inS, z_toInt, z_nb0, z_nb1, Int.cast_ofNat_Int, true_and, and_true, not_true_eq_false, not_false_eq_true, false_imp_iff, true_imp_iff, aup_o, aup_k, ite_true, ite_false, z_fa000, z_fa001, z_fa010, z_fa011, z_fa100, z_fa101, z_fa110, z_fa111, if_true, if_false]
    exact L
  · have e : rdN s c m = s 30 (s 32 c) - s 34 c := if_neg h
    rw [e] at L
    simp (disch := omega) only [z_app, z_rd, z_cl, z_add, z_sub, z_mul, z_neg, z_lit, z_leT, z_leF, z_ltT, z_ltF, z_eqT, z_eqF, i_leT, i_leF, i_ltT, i_ltF, i_eqT, i_eqF, z_le, z_lt, z_eq, z_ite, z_at, z_pt, z_up, z_wr, z_wi1, z_wi0, z_wi, z_inS, z_toInt, z_nb0, z_nb1, Int.cast_ofNat_Int, true_and, and_true, not_true_eq_false, not_false_eq_true, false_imp_iff, true_imp_iff, aup_o, aup_k, ite_true, ite_false, z_fa000, z_fa001, z_fa010, z_fa011, z_fa100, z_fa101, z_fa110, z_fa111, if_true, if_false]
    exact L
end KO
