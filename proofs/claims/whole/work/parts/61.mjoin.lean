/-! ===== the reference's join ===== -/
theorem fl_up {u : aS} {c : Nat} {i v : Int} (h1 : c ≠ 2) (h2 : c ≠ 20) : flS (aup u c i v) = aup (flS u) c i v := by
  have h3 : ¬ (2 = c) := fun e => h1 e.symm
  funext x y
  unfold flS aup
  by_cases hx : x = c
  · subst hx
    simp [h1, h2, h3]
  · by_cases hx2 : x = 2
    · subst hx2
      simp [hx, h3]
    · simp [hx, hx2, h3]
theorem fl_ap {u : aS} {k : Int} : flS (apF u 41 43 k) = apF (flS u) 41 43 k := by
  have ec : fch (flS u) = fch u := fch_c (fl_o (by decide) (by decide)) (fl_o (by decide) (by decide)) (fl_o (by decide) (by decide)) (fl_o (by decide) (by decide))
  have e41 : flS u 41 = u 41 := fl_o (by decide) (by decide)
  have e43 : flS u 43 = u 43 := fl_o (by decide) (by decide)
  funext x y
  by_cases h41 : x = 41
  · subst h41
    rw [fl_o (by decide) (by decide)]
    unfold apF
    rw [if_pos rfl, if_pos rfl, ec, e41, e43]
  · by_cases h43 : x = 43
    · subst h43
      rw [fl_o (by decide) (by decide)]
      unfold apF
      rw [if_neg (by decide), if_pos rfl, if_neg (by decide), if_pos rfl, ec, e41, e43]
    · rw [ap_o h41 h43]
      unfold flS
      rw [ap_o (x := 2) (by decide) (by decide), ap_o h41 h43]
theorem fl_e1 (u : aS) (e k : Int) : flS (e1S u e k) = e1S (flS u) e k := by
  have e4 : flS u 4 = u 4 := fl_o (by decide) (by decide)
  unfold e1S
  rw [e4]
  split
  · unfold shS
    rw [fl_up (by decide) (by decide), fl_up (by decide) (by decide), fl_up (by decide) (by decide)]
    have h8 : aup (flS u) 18 k e 8 = aup u 18 k e 8 := by rw [aup_o (by decide), aup_o (by decide), fl_o (by decide) (by decide)]
    have h30 : aup (flS u) 18 k e 30 = aup u 18 k e 30 := by rw [aup_o (by decide), aup_o (by decide), fl_o (by decide) (by decide)]
    rw [h8, h30]
  · rw [fl_ap, fl_up (by decide) (by decide)]
theorem fl_ef (e : Int) : ∀ (l : List Int) (u : aS), flS (efS u e l) = efS (flS u) e l := by
  intro l
  induction l with
  | nil => intro u; rfl
  | cons k t ih => intro u; show flS (efS (e1S u e k) e t) = efS (e1S (flS u) e k) e t; rw [ih, fl_e1]
theorem fl_wl : ∀ (l : List Int) (u : aS) (i : Int), flS (awl u 59 i l) = awl (flS u) 59 i l := by
  intro l
  induction l with
  | nil => intro u i; rfl
  | cons k t ih => intro u i; show flS (awl (aup u 59 i k) 59 (i + 1) t) = awl (aup (flS u) 59 i k) 59 (i + 1) t; rw [ih, fl_up (by decide) (by decide)]
theorem fl_fi (b : aS) (n : Int) (l : List Int) : flS (fiS b n l) = fiS (flS b) n l := by
  unfold fiS
  rw [fl_ef, fl_wl]
section MJ
variable {g : qG} {s : aS} {d : Nat} {a b c tx : Int}
theorem am_ag {t m : aS} {k ow x y w : Int} (h : agR s t) : adM t m k ow x y w = adM s m k ow x y w := by
  have e21 := h.2 21 (by decide)
  have e25 := h.2 25 (by decide)
  unfold adM tlS
  rw [e21, e25, h.1]
/-- a record of no transaction, and what is flushed with it -/
theorem m_effFlush (hw : qWF g) {t m : aS} {Q : Int32 → qS → Prop} {T : String → qS → Prop} (hJ : jJ s) (ha : agR s t) (c2 : t 2 10 = s 2 10) (c20 : t 20 = s 20) (hy : ∀ i, 0 ≤ i → i < t 1 10 → t 61 i < t 2 9) (hr : rL t m) (n1 : s 2 9 < 400) {x y w : Int} (ho : okR s 7 (-1) x y w) (hQ : ∀ b', rL (fiS (flS (adS t 7 (-1) x y w)) (s 2 9) (lnk s 7 (-1))) b' → mF m b' → ∃ r, Q r (qi b')) (hQ2 : ∀ r r' σ, Q r σ → Q r' σ) : qC g (d + 4) mX10_effective [.inr 86, .inl (iI 7), .inl (iI (-1)), .inl (iI x), .inl (iI y), .inl (iI w)] (qi m) (fun _ s2 => qC g (d + 4) mX10_flushAll [.inr 86] s2 (fun r3 s4 => Q r3 s4) T) T := by
  have B := jb hJ
  obtain ⟨h9, hc⟩ := id ha
  have e21 := hc 21 (by decide)
  have e23 := hc 23 (by decide)
  obtain ⟨r1, r2, r3, r4, r5, r6, r7, r8, r9⟩ := id hr
  obtain ⟨q1, -, -, q4, -⟩ := id ho
  have hb : bsR s (adS t 7 (-1) x y w) 7 (-1) x y w := bs_ad ha
  have hl : lnk s 7 (-1) = [s 2 9] := lnk7 s
  have hrl := rL_ad (x := x) (y := y) (w := w) (ow' := -1) (ow := -1) (k := 7) hy hr (by rw [if_neg (by decide)])
  rw [am_ag ha] at hrl
  have hG := fi_gV hJ n1 ho hb
  have hfin := rL_ef hJ n1 ho hb hrl
  rw [hl] at hG hfin hQ
  have x3 : m 86 3 = s 21 4 := by rw [← e21]; exact r1.1
  have x15 : m 86 15 = s 2 9 := by rw [← h9]; exact r1.2.2.2.1
  have x19 : m 86 19 = s 21 3 - s 21 2 + 1 := by rw [← e21]; exact r1.2.2.2.2.2.1
  have xG : rG s m := by
    intro i i0 i1
    have := r3 i i0 (by rw [e21]; exact i1)
    rw [e21, e23] at this
    exact this
  have xR : rR s m := by
    intro j j0 j1
    have := r2 j j0 (by rw [h9]; exact j1)
    rw [hc 4 (by decide), hc 6 (by decide), hc 8 (by decide), hc 10 (by decide), hc 12 (by decide), hc 14 (by decide), hc 16 (by decide), hc 18 (by decide), c20] at this
    exact this
  refine wX10_effective hw ⟨fun hn => absurd rfl hn, fun _ => ?_⟩
  refine m_record0 (s := s) (k := 7) (ow := -1) (x := x) (y := y) (w := w) hw hJ x3 x15 x19 xG xR n1 (by omega) (by omega) q4.1 (Or.inr (by decide)) ?_
  refine ⟨fun hn => absurd rfl hn, fun _ => ?_⟩
  have g8 := (gV_8 hG).1
  have hj := (hG.2.2.1 (s 2 9) List.mem_cons_self).2
  refine m_makeEffective (s := awl (adS t 7 (-1) x y w) 59 0 [s 2 9]) hw (rR_59 hrl.2.1) (rV_59 hrl.2.2.2.2.1) (by omega) ?_ ?_ hj (fun h => ⟨(g8 h).2.2.1, (g8 h).2.2.2⟩) ?_
  · rw [awl_o (by decide), ad_n, h9]; omega
  · rw [awl_o (by decide), ad_n, h9]; omega
  · have F := fi_fst hJ hb
    rw [hl] at F
    have f9 : fiS (adS t 7 (-1) x y w) (s 2 9) [s 2 9] 2 9 = s 2 9 + 1 := by rw [fi_o _ _ _ (by decide), ad_n, h9]
    have f10 : fiS (adS t 7 (-1) x y w) (s 2 9) [s 2 9] 2 10 = s 2 10 := by rw [fi_o _ _ _ (by decide), ad_2 _ _ _ _ _ _ (by decide), c2]
    have f20 : ∀ j, fiS (adS t 7 (-1) x y w) (s 2 9) [s 2 9] 20 j = if j = s 2 9 then 0 else s 20 j := fun j => by rw [fi_o _ _ _ (by decide), ad_20, h9, c20]
    have f21 : ∀ i, fiS (adS t 7 (-1) x y w) (s 2 9) [s 2 9] 21 i = adS s 7 (-1) x y w 21 i := fun i => by rw [fi_o _ _ _ (by decide), hb.2.2.2.2.2.2.2.2.2.1]
    refine m_flushAll (s := fiS (adS t 7 (-1) x y w) (s 2 9) [s 2 9]) hw (by rw [F, f9, f10]; omega) ?_ (fun j j0 j1 j2 => ?_) hfin ?_
    · rw [f21, f21, ad_21, if_neg (by decide), if_neg (by decide), ad_21, if_pos rfl]
      unfold tlS
      split <;> omega
    · rw [f9] at j1
      rw [f10] at j2
      rw [f20]
      split
      · rfl
      · exact (jd hJ j0 (by omega)).2 j2
    · intro b' hb' hF'
      rw [fl_fi] at hb'
      obtain ⟨r, hr'⟩ := hQ b' hb' (mF_tr (mF_ad s m 7 (-1) x y w) (mF_tr (mF_e1 _ _ _ _) hF'))
      exact hQ2 r _ _ hr'
theorem rL_jn {m : aS} (hJ : jJ s) (hr : rL s m) (a0 : 0 ≤ a) (a1 : a < 4) (hc : s 26 6 < 6) : rL (jnS s a) (aup (aup (aup (aup m 86 27 (s 26 6 + 1)) 102 (s 26 6) a) 103 (s 26 6) (s 30 a)) 107 (s 26 6) (-1)) := by
  have B := jb hJ
  obtain ⟨r1, r2, r3, r4, r5, r6, r7, r8, r9⟩ := hr
  obtain ⟨q1, q2, q3, q4, q5, q6, q7, q8, q9, q10⟩ := r1
  refine ⟨⟨q1, q2, q3, q4, q5, q6, q7, rfl, q9, q10⟩, r2, r3, r4, r5, ?_, ?_, ?_, r9⟩
  · intro c c0 c1
    have c1' : c < s 26 6 + 1 := c1
    unfold jnS
    rw [aup_o (k' := 102) (by decide), aup_o (k' := 102) (by decide), aup_k, aup_o (k' := 32) (by decide), aup_o (k' := 32) (by decide), aup_o (k' := 32) (by decide), aup_k, aup_o (k' := 103) (by decide), aup_k, aup_o (k' := 34) (by decide), aup_o (k' := 34) (by decide), aup_k]
    by_cases h : c = s 26 6
    · rw [if_pos h, if_pos h, if_pos h, if_pos h]
      exact ⟨rfl, rfl⟩
    · rw [if_neg h, if_neg h, if_neg h, if_neg h]
      exact r6 c c0 (by omega)
  · intro c k c0 c1 k0 k1
    have q := r7 c k c0 c1 k0 k1
    show m 104 (400 * c + k) = _
    rw [q]
    unfold jnS
    rw [aup_k, if_pos rfl, aup_o (k' := 34) (by decide), aup_o (k' := 34) (by decide), aup_k, aup_o (k' := 34) (by decide), aup_o (k' := 36) (by decide), aup_k, aup_o (k' := 36) (by decide), aup_o (k' := 36) (by decide)]
    by_cases h : c = s 26 6
    · rw [if_pos h, if_pos h, if_neg (by omega), if_neg (by omega)]
    · rw [if_neg h, if_neg h]
      by_cases h2 : c < s 26 6 ∧ s 34 c ≤ k ∧ k < s 36 c
      · rw [if_pos h2, if_pos ⟨by omega, h2.2⟩]
      · rw [if_neg h2, if_neg (fun x => h2 ⟨by omega, x.2⟩)]
  · rcases r8 with ⟨k1, k2, k3, k4⟩ | ⟨k1, k2, k3⟩
    · exact Or.inl ⟨k1, k2, k3, k4⟩
    · refine Or.inr ⟨k1, k2, fun c c0 c1 => ?_⟩
      have c1' : c < s 26 6 + 1 := c1
      rw [aup_k, aup_o (by decide), aup_o (by decide), aup_o (by decide)]
      show (if c = s 26 6 then -1 else m 107 c) = s 38 c
      by_cases h : c = s 26 6
      · rw [if_pos h]
        exact ((hJ.2.2.2.2.2.1.2 c c0 (by omega)).2 (by omega)).symm
      · rw [if_neg h]
        exact k3 c c0 (by omega)
theorem mw_263i (hw : qWF g) (hJ : jJ s) (ia : i32 a) (hI : bI s 263 a b (-1)) : mO g (d + 10) mX10_join [.inl (iI a)] s s (.inr 0) := by
  have B : 0 ≤ s 26 6 ∧ s 26 6 ≤ 6 ∧ 0 ≤ s 2 9 ∧ s 2 9 ≤ 400 := by have := jb hJ; omega
  have hx : ¬ (0 ≤ a ∧ a ≤ 3) := by unfold bI at hI; omega
  clear hI
  unfold i32 at ia
  refine m_thr fun m Q hrJ hQ => wX10_join hw (wX10_isTopic hw ?_)
  have e27 := rs_27 hrJ.1
  have e15 := rs_15 hrJ.1
  by_cases h6 : s 26 6 = 6
  · simp (disch := omega) only [z_app, z_rd, z_cl, z_add, z_sub, z_mul, z_neg, z_lit, z_leT, z_leF, z_ltT, z_ltF, z_eqT, z_eqF, i_leT, i_leF, i_ltT, i_ltF, i_eqT, i_eqF, z_le, z_lt, z_eq, z_ite, z_at, z_pt, z_up, z_wr, z_wi1, z_wi0, z_wi, z_inS, z_toInt, z_nb0, z_nb1, Int.cast_ofNat_Int, true_and, and_true, not_true_eq_false, not_false_eq_true, false_imp_iff, true_imp_iff, aup_o, aup_k, ite_true, ite_false, z_fa000, z_fa001, z_fa010, z_fa011, z_fa100, z_fa101, z_fa110, z_fa111, if_true, if_false, e27]
    refine ⟨Or.inl trivial, wX10_join_34 hw ?_⟩
    simp (disch := omega) only [z_app, z_rd, z_cl, z_add, z_sub, z_mul, z_neg, z_lit, z_leT, z_leF, z_ltT, z_ltF, z_eqT, z_eqF, i_leT, i_leF, i_ltT, i_ltF, i_eqT, i_eqF, z_le, z_lt, z_eq, z_ite, z_at, z_pt, z_up, z_wr, z_wi1, z_wi0, z_wi, z_inS, z_toInt, z_nb0, z_nb1, Int.cast_ofNat_Int, true_and, and_true, not_true_eq_false, not_false_eq_true, false_imp_iff, true_imp_iff, aup_o, aup_k, ite_true, ite_false, z_fa000, z_fa001, z_fa010, z_fa011, z_fa100, z_fa101, z_fa110, z_fa111, if_true, if_false]
    exact hQ 0
  · by_cases hf : s 2 9 = 400
    · simp (disch := omega) only [z_app, z_rd, z_cl, z_add, z_sub, z_mul, z_neg, z_lit, z_leT, z_leF, z_ltT, z_ltF, z_eqT, z_eqF, i_leT, i_leF, i_ltT, i_ltF, i_eqT, i_eqF, z_le, z_lt, z_eq, z_ite, z_at, z_pt, z_up, z_wr, z_wi1, z_wi0, z_wi, z_inS, z_toInt, z_nb0, z_nb1, Int.cast_ofNat_Int, true_and, and_true, not_true_eq_false, not_false_eq_true, false_imp_iff, true_imp_iff, aup_o, aup_k, ite_true, ite_false, z_fa000, z_fa001, z_fa010, z_fa011, z_fa100, z_fa101, z_fa110, z_fa111, if_true, if_false, e27, e15]
      refine ⟨Or.inl trivial, wX10_join_34 hw ?_⟩
      simp (disch := omega) only [z_app, z_rd, z_cl, z_add, z_sub, z_mul, z_neg, z_lit, z_leT, z_leF, z_ltT, z_ltF, z_eqT, z_eqF, i_leT, i_leF, i_ltT, i_ltF, i_eqT, i_eqF, z_le, z_lt, z_eq, z_ite, z_at, z_pt, z_up, z_wr, z_wi1, z_wi0, z_wi, z_inS, z_toInt, z_nb0, z_nb1, Int.cast_ofNat_Int, true_and, and_true, not_true_eq_false, not_false_eq_true, false_imp_iff, true_imp_iff, aup_o, aup_k, ite_true, ite_false, z_fa000, z_fa001, z_fa010, z_fa011, z_fa100, z_fa101, z_fa110, z_fa111, if_true, if_false]
      exact hQ 0
    · simp (disch := omega) only [z_app, z_rd, z_cl, z_add, z_sub, z_mul, z_neg, z_lit, z_leT, z_leF, z_ltT, z_ltF, z_eqT, z_eqF, i_leT, i_leF, i_ltT, i_ltF, i_eqT, i_eqF, z_le, z_lt, z_eq, z_ite, z_at, z_pt, z_up, z_wr, z_wi1, z_wi0, z_wi, z_inS, z_toInt, z_nb0, z_nb1, Int.cast_ofNat_Int, true_and, and_true, not_true_eq_false, not_false_eq_true, false_imp_iff, true_imp_iff, aup_o, aup_k, ite_true, ite_false, z_fa000, z_fa001, z_fa010, z_fa011, z_fa100, z_fa101, z_fa110, z_fa111, if_true, if_false, e27, e15]
      refine ⟨Or.inl trivial, wX10_join_34 hw ?_⟩
      simp (disch := omega) only [z_app, z_rd, z_cl, z_add, z_sub, z_mul, z_neg, z_lit, z_leT, z_leF, z_ltT, z_ltF, z_eqT, z_eqF, i_leT, i_leF, i_ltT, i_ltF, i_eqT, i_eqF, z_le, z_lt, z_eq, z_ite, z_at, z_pt, z_up, z_wr, z_wi1, z_wi0, z_wi, z_inS, z_toInt, z_nb0, z_nb1, Int.cast_ofNat_Int, true_and, and_true, not_true_eq_false, not_false_eq_true, false_imp_iff, true_imp_iff, aup_o, aup_k, ite_true, ite_false, z_fa000, z_fa001, z_fa010, z_fa011, z_fa100, z_fa101, z_fa110, z_fa111, if_true, if_false]
      exact hQ 0
theorem mw_263s (hw : qWF g) (hJ : jJ s) (hI : ¬ bI s 263 a b (-1)) (hS : bS s 263 a (-1)) : mO g (d + 10) mX10_join [.inl (iI a)] s s (.inr 1) := by
  have B : 0 ≤ s 26 6 ∧ s 26 6 ≤ 6 ∧ 0 ≤ s 2 9 ∧ s 2 9 ≤ 400 := by have := jb hJ; omega
  have hx : 0 ≤ a ∧ a ≤ 3 := by unfold bI at hI; omega
  have hs : 400 ≤ s 2 9 ∨ 6 ≤ s 26 6 := by unfold bS at hS; omega
  clear hI hS
  refine m_thr fun m Q hrJ hQ => wX10_join hw (wX10_isTopic hw ?_)
  have e27 := rs_27 hrJ.1
  have e15 := rs_15 hrJ.1
  by_cases h6 : s 26 6 = 6
  · simp (disch := omega) only [z_app, z_rd, z_cl, z_add, z_sub, z_mul, z_neg, z_lit, z_leT, z_leF, z_ltT, z_ltF, z_eqT, z_eqF, i_leT, i_leF, i_ltT, i_ltF, i_eqT, i_eqF, z_le, z_lt, z_eq, z_ite, z_at, z_pt, z_up, z_wr, z_wi1, z_wi0, z_wi, z_inS, z_toInt, z_nb0, z_nb1, Int.cast_ofNat_Int, true_and, and_true, not_true_eq_false, not_false_eq_true, false_imp_iff, true_imp_iff, aup_o, aup_k, ite_true, ite_false, z_fa000, z_fa001, z_fa010, z_fa011, z_fa100, z_fa101, z_fa110, z_fa111, if_true, if_false, e27]
    refine ⟨Or.inr trivial, wX10_join_34 hw ?_⟩
    simp (disch := omega) only [z_app, z_rd, z_cl, z_add, z_sub, z_mul, z_neg, z_lit, z_leT, z_leF, z_ltT, z_ltF, z_eqT, z_eqF, i_leT, i_leF, i_ltT, i_ltF, i_eqT, i_eqF, z_le, z_lt, z_eq, z_ite, z_at, z_pt, z_up, z_wr, z_wi1, z_wi0, z_wi, z_inS, z_toInt, z_nb0, z_nb1, Int.cast_ofNat_Int, true_and, and_true, not_true_eq_false, not_false_eq_true, false_imp_iff, true_imp_iff, aup_o, aup_k, ite_true, ite_false, z_fa000, z_fa001, z_fa010, z_fa011, z_fa100, z_fa101, z_fa110, z_fa111, if_true, if_false]
    exact hQ 0
  · have hf : s 2 9 = 400 := by omega
    simp (disch := omega) only [z_app, z_rd, z_cl, z_add, z_sub, z_mul, z_neg, z_lit, z_leT, z_leF, z_ltT, z_ltF, z_eqT, z_eqF, i_leT, i_leF, i_ltT, i_ltF, i_eqT, i_eqF, z_le, z_lt, z_eq, z_ite, z_at, z_pt, z_up, z_wr, z_wi1, z_wi0, z_wi, z_inS, z_toInt, z_nb0, z_nb1, Int.cast_ofNat_Int, true_and, and_true, not_true_eq_false, not_false_eq_true, false_imp_iff, true_imp_iff, aup_o, aup_k, ite_true, ite_false, z_fa000, z_fa001, z_fa010, z_fa011, z_fa100, z_fa101, z_fa110, z_fa111, if_true, if_false, e27, e15]
    refine ⟨Or.inr trivial, wX10_join_34 hw ?_⟩
    simp (disch := omega) only [z_app, z_rd, z_cl, z_add, z_sub, z_mul, z_neg, z_lit, z_leT, z_leF, z_ltT, z_ltF, z_eqT, z_eqF, i_leT, i_leF, i_ltT, i_ltF, i_eqT, i_eqF, z_le, z_lt, z_eq, z_ite, z_at, z_pt, z_up, z_wr, z_wi1, z_wi0, z_wi, z_inS, z_toInt, z_nb0, z_nb1, Int.cast_ofNat_Int, true_and, and_true, not_true_eq_false, not_false_eq_true, false_imp_iff, true_imp_iff, aup_o, aup_k, ite_true, ite_false, z_fa000, z_fa001, z_fa010, z_fa011, z_fa100, z_fa101, z_fa110, z_fa111, if_true, if_false]
    exact hQ 0
theorem mw_263r (hw : qWF g) (hJ : jJ s) (hI : ¬ bI s 263 a b (-1)) (hS : ¬ bS s 263 a (-1)) : mO g (d + 10) mX10_join [.inl (iI a)] s (stS (opS s 263 a b c (-1))) (.inl (opA s 263 a b c (-1))) := by
  have B := jb hJ
  have hx : 0 ≤ a ∧ a < 4 := by unfold bI at hI; omega
  have n1 : s 2 9 < 400 := by unfold bS at hS; omega
  have hc : s 26 6 < 6 := by unfold bS at hS; omega
  have J1 := (p_263 (c := c) hw hJ hI hS).1
  clear hI hS
  have V0 := (hJ.2.2.2.2.1 a hx.1 hx.2).1
  have ho : okR s 7 (-1) (s 26 6) (s 30 a) a := ⟨by omega, by omega, by omega, by omega, by omega, by omega, by omega, by omega, by omega, by omega, by omega, by omega, fun h => by omega⟩
  have ag : agR s (jnS s a) := agR_up (agR_up (agR_up (agR_up (agR_rf s) (Or.inl (by decide)) (by decide)) (Or.inl (by decide)) (by decide)) (Or.inl (by decide)) (by decide)) (Or.inl (by decide)) (by decide)
  refine m_op_ret (fun x hx => sto s _ _ _ _ _ hx) fun m Q hr0 hQ hr => wX10_join hw (wX10_isTopic hw ?_)
  rw [op_263] at J1 hQ
  have e27 := rs_27 hr
  have e15 := rs_15 hr
  have e101 := rv_101 hr hx.1 hx.2
  simp (disch := omega) only [z_app, z_rd, z_cl, z_add, z_sub, z_mul, z_neg, z_lit, z_leT, z_leF, z_ltT, z_ltF, z_eqT, z_eqF, i_leT, i_leF, i_ltT, i_ltF, i_eqT, i_eqF, z_le, z_lt, z_eq, z_ite, z_at, z_pt, z_up, z_wr, z_wi1, z_wi0, z_wi, z_inS, z_toInt, z_nb0, z_nb1, Int.cast_ofNat_Int, true_and, and_true, not_true_eq_false, not_false_eq_true, false_imp_iff, true_imp_iff, aup_o, aup_k, ite_true, ite_false, z_fa000, z_fa001, z_fa010, z_fa011, z_fa100, z_fa101, z_fa110, z_fa111, if_true, if_false, e27, e15]
  refine ⟨Or.inr trivial, wX10_join_34 hw ?_⟩
  simp (disch := omega) only [z_app, z_rd, z_cl, z_add, z_sub, z_mul, z_neg, z_lit, z_leT, z_leF, z_ltT, z_ltF, z_eqT, z_eqF, i_leT, i_leF, i_ltT, i_ltF, i_eqT, i_eqF, z_le, z_lt, z_eq, z_ite, z_at, z_pt, z_up, z_wr, z_wi1, z_wi0, z_wi, z_inS, z_toInt, z_nb0, z_nb1, Int.cast_ofNat_Int, true_and, and_true, not_true_eq_false, not_false_eq_true, false_imp_iff, true_imp_iff, aup_o, aup_k, ite_true, ite_false, z_fa000, z_fa001, z_fa010, z_fa011, z_fa100, z_fa101, z_fa110, z_fa111, if_true, if_false, e27, e101]
  refine m_effFlush (t := jnS s a) (Q := fun _ s4 => qC g (d + 9) mX10_settle [.inr 86] s4 (fun _ s6 => Q (iI (s 26 6)) s6) (fun _ _ => False)) hw hJ ag rfl rfl (j_hy (s := s) hJ) (rL_jn hJ hr0 hx.1 hx.2 hc) n1 ho (fun b1 h1 f1 => ⟨0, m_settle hw J1 h1 (fun b2 h2 f2 => hQ b2 h2 (mF_tr (mF_tr (mF_86 (by decide) (by decide) (by decide)) (mF_tr (mF_up (by decide) (by decide)) (mF_tr (mF_up (by decide) (by decide)) (mF_up (by decide) (by decide))))) (mF_tr f1 f2)))⟩) (fun _ _ _ h => h)
end MJ
