/-! ===== crash: the class ===== -/
/-- the segment that is open behind a cut -/
def cuT (s : aS) (cut : Int) : Int := s 21 3 - fI (fun i => decide (s 23 (s 21 3 - i) < cut)) 0 (s 21 3 - s 21 2)
theorem cuT_b {s : aS} (hJ : jJ s) {cut : Int} (h0 : s 23 (s 21 2) ≤ cut) : s 21 2 ≤ cuT s cut ∧ cuT s cut ≤ s 21 3 ∧ (∀ i, cuT s cut < i → i ≤ s 21 3 → cut ≤ s 23 i) ∧ s 23 (cuT s cut) ≤ cut := by
  have B := jb hJ
  have F := fI_b (p := fun i => decide (s 23 (s 21 3 - i) < cut)) (hi := s 21 3 - s 21 2) 0 (by omega)
  have e : cuT s cut = s 21 3 - fI (fun i => decide (s 23 (s 21 3 - i) < cut)) 0 (s 21 3 - s 21 2) := rfl
  refine ⟨by omega, by omega, fun i i0 i1 => ?_, ?_⟩
  · have := F.2.2.1 (s 21 3 - i) (by omega) (by omega)
    rw [show s 21 3 - (s 21 3 - i) = i by omega] at this
    have := of_decide_eq_false this
    omega
  · by_cases h : fI (fun i => decide (s 23 (s 21 3 - i) < cut)) 0 (s 21 3 - s 21 2) < s 21 3 - s 21 2
    · have := of_decide_eq_true (F.2.2.2 h)
      rw [← e] at this
      omega
    · rw [show cuT s cut = s 21 2 by omega]
      exact h0
/-- the state behind a cut, cell by cell -/
def crR (s : aS) (cut : Int) (u : aS) : Prop :=
  (∀ x : Nat, x ≠ 2 → x ≠ 18 → x ≠ 21 → x ≠ 23 → x ≠ 25 → x ≠ 30 → x ≠ 36 → x ≠ 41 → x ≠ 43 → x ≠ 55 → x ≠ 59 → u x = s x) ∧
  u 2 9 = cut ∧ u 2 10 = s 2 10 ∧ (∀ k, 0 ≤ k → k < cut → u 18 k = if cut ≤ s 18 k then -1 else s 18 k) ∧
  (∀ t, 0 ≤ t → t < 4 → u 30 t = cbS s t cut) ∧
  (∀ c, 0 ≤ c → c < s 26 6 → u 36 c = if cbS s (s 32 c) cut < s 36 c then cbS s (s 32 c) cut else s 36 c) ∧
  (u 21 2 = s 21 2 ∧ u 21 3 = cuT s cut ∧ u 21 4 = s 21 4 ∧ u 21 5 = sI (s 14) (s 23 (s 21 2)) cut ∧ u 21 6 = s 21 6) ∧
  (∀ i, u 23 i = s 23 i) ∧ (∀ i, i < cuT s cut → u 25 i = s 25 i) ∧ u 25 (cuT s cut) = sI (s 14) (s 23 (cuT s cut)) cut ∧
  (∀ t, 0 ≤ t → t < 4 → u 55 t = -1) ∧ fEq (u 41, u 43) ((eL s (s 1 11) cut).foldl (fch s) (s 46, s 48))
theorem cb_b {s : aS} (hJ : jJ s) {t p : Int} (t0 : 0 ≤ t) (t1 : t < 4) : 0 ≤ cbS s t p ∧ cbS s t p ≤ s 30 t ∧ (∀ i, 0 ≤ i → i < cbS s t p → s 18 (s 28 (400 * t + i)) < p) ∧ (∀ i, cbS s t p ≤ i → i < s 30 t → ¬ s 18 (s 28 (400 * t + i)) < p) := by
  obtain ⟨⟨c0, c1⟩, v1, v2⟩ := hJ.2.2.2.2.1 t t0 t1
  -- the first that is too late
  have F := fI_b (p := fun i => decide (¬ s 18 (s 28 (400 * t + i)) < p)) (hi := s 30 t) 0 c0
  have lo : ∀ i, 0 ≤ i → i < fI (fun i => decide (¬ s 18 (s 28 (400 * t + i)) < p)) 0 (s 30 t) → s 18 (s 28 (400 * t + i)) < p := by
    intro i i0 i1
    have := of_decide_eq_false (F.2.2.1 i i0 i1)
    omega
  have hi : ∀ i, fI (fun i => decide (¬ s 18 (s 28 (400 * t + i)) < p)) 0 (s 30 t) ≤ i → i < s 30 t → ¬ s 18 (s 28 (400 * t + i)) < p := by
    intro i i0 i1
    have h1 := of_decide_eq_true (F.2.2.2 (by omega))
    by_cases e : i = fI (fun i => decide (¬ s 18 (s 28 (400 * t + i)) < p)) 0 (s 30 t)
    · rw [e]; exact h1
    · have := (v2 (fI (fun i => decide (¬ s 18 (s 28 (400 * t + i)) < p)) 0 (s 30 t)) i F.1 (by omega) i1).2
      omega
  have e : cbS s t p = fI (fun i => decide (¬ s 18 (s 28 (400 * t + i)) < p)) 0 (s 30 t) := by
    unfold cbS
    rw [sI_s (mid := fI (fun i => decide (¬ s 18 (s 28 (400 * t + i)) < p)) 0 (s 30 t)) F.1 _ F.2.1, sI_c (g := fun _ => 1) _ (fun i a b => if_pos (lo i a b)), sI_k _ F.1, sI_c (lo := fI (fun i => decide (¬ s 18 (s 28 (400 * t + i)) < p)) 0 (s 30 t)) (g := fun _ => 0) (s 30 t) (fun i a b => if_neg (hi i a b)), sI_k _ F.2.1]
    omega
  rw [e]
  exact ⟨F.1, F.2.1, lo, hi⟩
section KC
variable {g : qG} {s : aS} {d : Nat} {Q : Int32 → qS → Prop} {T : String → qS → Prop} {cut : Int}
theorem k_csbW (hw : qWF g) {u : aS} (hJ : jJ s) {t : Int} (t0 : 0 ≤ t) (t1 : t < 4) (p0 : 0 ≤ cut) (p1 : cut ≤ 400) (e18 : u 18 = s 18) (e28 : u 28 = s 28) (e30 : u 30 t = s 30 t) (hQ : Q (iI (cbS s t cut)) (qi u)) : qC g (d + 1) mX0_countShownBefore [.inr 26, .inl (iI t), .inl (iI cut), .inr 2] (qi u) Q T := by
  have B : s 2 9 ≤ 400 := by have := jb hJ; omega
  have V0 := (hJ.2.2.2.2.1 t t0 t1).1
  have C := cb_b (p := cut) hJ t0 t1
  have key : ∀ n : Int, 0 ≤ n → n ≤ s 30 t → cbS s t cut ≤ n → qV g mX0_countShownBefore (d + 1) 0 14 [some (.inr 26), some (.inl (iI t)), some (.inl (iI cut)), some (.inr 2), some (.inl (iI (s 30 t))), some (.inl (iI n))] [] (qi u) Q T := by
    refine stepDown 0 (fun n ih n0 n1 hn => wX0_countShownBefore_14 hw ?_)
    by_cases h : 0 < n
    · have V := jv hJ (t := t) (i := n - 1) t0 t1 (by omega) (by omega)
      have E := jve hJ (t := t) (i := n - 1) t0 t1 (by omega) (by omega)
      have e : t * 400 + n - 1 = 400 * t + (n - 1) := by omega
      by_cases hh : s 18 (s 28 (400 * t + (n - 1))) < cut
      · have en : cbS s t cut = n := by
          by_cases h2 : cbS s t cut = n
          · exact h2
          · exact absurd hh (C.2.2.2 (n - 1) (by omega) (by omega))
        rw [en] at hQ
        simp (disch := omega) only [z_app, z_rd, z_cl, z_add, z_sub, z_mul, z_neg, z_lit, z_leT, z_leF, z_ltT, z_ltF, z_eqT, z_eqF, i_leT, i_leF, i_ltT, i_ltF, i_eqT, i_eqF, z_le, z_lt, z_eq, z_ite, z_at, z_pt, z_up, z_wr, z_wi1, z_wi0, z_wi, z_inS, z_toInt, z_nb0, z_nb1, Int.cast_ofNat_Int, true_and, and_true, not_true_eq_false, not_false_eq_true, false_imp_iff, true_imp_iff, aup_o, aup_k, ite_true, ite_false, z_fa000, z_fa001, z_fa010, z_fa011, z_fa100, z_fa101, z_fa110, z_fa111, if_true, if_false, e, e18, e28]
        exact hQ
      · simp (disch := omega) only [z_app, z_rd, z_cl, z_add, z_sub, z_mul, z_neg, z_lit, z_leT, z_leF, z_ltT, z_ltF, z_eqT, z_eqF, i_leT, i_leF, i_ltT, i_ltF, i_eqT, i_eqF, z_le, z_lt, z_eq, z_ite, z_at, z_pt, z_up, z_wr, z_wi1, z_wi0, z_wi, z_inS, z_toInt, z_nb0, z_nb1, Int.cast_ofNat_Int, true_and, and_true, not_true_eq_false, not_false_eq_true, false_imp_iff, true_imp_iff, aup_o, aup_k, ite_true, ite_false, z_fa000, z_fa001, z_fa010, z_fa011, z_fa100, z_fa101, z_fa110, z_fa111, if_true, if_false, e, e18, e28]
        have e2 : n + -1 = n - 1 := by omega
        rw [e2]
        refine ih h (by omega) (by omega) ?_
        by_cases h2 : cbS s t cut = n
        · exact absurd (C.2.2.1 (n - 1) (by omega) (by omega)) hh
        · omega
    · have en : cbS s t cut = 0 := by omega
      rw [en] at hQ
      simp (disch := omega) only [z_app, z_rd, z_cl, z_add, z_sub, z_mul, z_neg, z_lit, z_leT, z_leF, z_ltT, z_ltF, z_eqT, z_eqF, i_leT, i_leF, i_ltT, i_ltF, i_eqT, i_eqF, z_le, z_lt, z_eq, z_ite, z_at, z_pt, z_up, z_wr, z_wi1, z_wi0, z_wi, z_inS, z_toInt, z_nb0, z_nb1, Int.cast_ofNat_Int, true_and, and_true, not_true_eq_false, not_false_eq_true, false_imp_iff, true_imp_iff, aup_o, aup_k, ite_true, ite_false, z_fa000, z_fa001, z_fa010, z_fa011, z_fa100, z_fa101, z_fa110, z_fa111, if_true, if_false]
      exact hQ
  refine wX0_countShownBefore hw ?_
  simp (disch := omega) only [z_app, z_rd, z_cl, z_add, z_sub, z_mul, z_neg, z_lit, z_leT, z_leF, z_ltT, z_ltF, z_eqT, z_eqF, i_leT, i_leF, i_ltT, i_ltF, i_eqT, i_eqF, z_le, z_lt, z_eq, z_ite, z_at, z_pt, z_up, z_wr, z_wi1, z_wi0, z_wi, z_inS, z_toInt, z_nb0, z_nb1, Int.cast_ofNat_Int, true_and, and_true, not_true_eq_false, not_false_eq_true, false_imp_iff, true_imp_iff, aup_o, aup_k, ite_true, ite_false, z_fa000, z_fa001, z_fa010, z_fa011, z_fa100, z_fa101, z_fa110, z_fa111, if_true, if_false, e30]
  exact key _ V0.1 (Int.le_refl _) C.2.1
theorem k_hideFrom (hw : qWF g) (hJ : jJ s) (p0 : 0 ≤ cut) (p1 : cut ≤ 400) (hQ : ∀ u, (∀ x : Nat, x ≠ 30 → x ≠ 36 → u x = s x) → (∀ t, 0 ≤ t → t < 4 → u 30 t = cbS s t cut) → (∀ c, 0 ≤ c → c < s 26 6 → u 36 c = if cbS s (s 32 c) cut < s 36 c then cbS s (s 32 c) cut else s 36 c) → Q (iI 0) (qi u)) : qC g (d + 2) mX0_hideFrom [.inr 26, .inl (iI cut), .inr 2] (qi s) Q T := by
  have B : 0 ≤ s 26 6 ∧ s 26 6 ≤ 6 := by have := jb hJ; omega
  have cons : ∀ (c : Int) (u : aS) (o : Option qP), 0 ≤ c → c ≤ s 26 6 → (∀ x : Nat, x ≠ 30 → x ≠ 36 → u x = s x) → (∀ t, 0 ≤ t → t < 4 → u 30 t = cbS s t cut) → (∀ j, 0 ≤ j → j < c → u 36 j = if cbS s (s 32 j) cut < s 36 j then cbS s (s 32 j) cut else s 36 j) → (∀ j, c ≤ j → u 36 j = s 36 j) → qV g mX0_hideFrom (d + 2) 0 30 [some (.inr 26), some (.inl (iI cut)), some (.inr 2), some (.inl (iI c)), o] [] (qi u) Q T := by
    refine stepUp (s 26 6) (fun c ih u o c0 c1 ho h30 hlo hhi => wX0_hideFrom_30 hw ?_)
    have e26 : u 26 6 = s 26 6 := by rw [ho 26 (by decide) (by decide)]
    by_cases h : c < s 26 6
    · have C := jc hJ c0 h
      have D := cb_b (p := cut) hJ C.1 C.2.1
      have e32 : u 32 c = s 32 c := by rw [ho 32 (by decide) (by decide)]
      have e36 := hhi c (Int.le_refl _)
      have e30 := h30 (s 32 c) C.1 C.2.1
      by_cases hh : cbS s (s 32 c) cut < s 36 c
      · simp (disch := omega) only [z_app, z_rd, z_cl, z_add, z_sub, z_mul, z_neg, z_lit, z_leT, z_leF, z_ltT, z_ltF, z_eqT, z_eqF, i_leT, i_leF, i_ltT, i_ltF, i_eqT, i_eqF, z_le, z_lt, z_eq, z_ite, z_at, z_pt, z_up, z_wr, z_wi1, z_wi0, z_wi, z_inS, z_toInt, z_nb0, z_nb1, Int.cast_ofNat_Int, true_and, and_true, not_true_eq_false, not_false_eq_true, false_imp_iff, true_imp_iff, aup_o, aup_k, ite_true, ite_false, z_fa000, z_fa001, z_fa010, z_fa011, z_fa100, z_fa101, z_fa110, z_fa111, if_true, if_false, e26, e32, e36, e30]
        refine ih h _ _ (by omega) (by omega) (fun x h1 h2 => by rw [aup_o h2, ho x h1 h2]) (fun t t0 t1 => by rw [aup_o (by decide)]; exact h30 t t0 t1) (fun j j0 j1 => ?_) (fun j j0 => ?_)
        · rw [aup_k]
          by_cases hj : j = c
          · rw [if_pos hj, hj, if_pos hh]
          · rw [if_neg hj]; exact hlo j j0 (by omega)
        · rw [aup_k, if_neg (by omega)]; exact hhi j (by omega)
      · simp (disch := omega) only [z_app, z_rd, z_cl, z_add, z_sub, z_mul, z_neg, z_lit, z_leT, z_leF, z_ltT, z_ltF, z_eqT, z_eqF, i_leT, i_leF, i_ltT, i_ltF, i_eqT, i_eqF, z_le, z_lt, z_eq, z_ite, z_at, z_pt, z_up, z_wr, z_wi1, z_wi0, z_wi, z_inS, z_toInt, z_nb0, z_nb1, Int.cast_ofNat_Int, true_and, and_true, not_true_eq_false, not_false_eq_true, false_imp_iff, true_imp_iff, aup_o, aup_k, ite_true, ite_false, z_fa000, z_fa001, z_fa010, z_fa011, z_fa100, z_fa101, z_fa110, z_fa111, if_true, if_false, e26, e32, e36, e30]
        refine ih h _ _ (by omega) (by omega) ho h30 (fun j j0 j1 => ?_) (fun j j0 => hhi j (by omega))
        by_cases hj : j = c
        · rw [hj, e36, if_neg hh]
        · exact hlo j j0 (by omega)
    · have e : c = s 26 6 := by omega
      subst e
      simp (disch := omega) only [z_app, z_rd, z_cl, z_add, z_sub, z_mul, z_neg, z_lit, z_leT, z_leF, z_ltT, z_ltF, z_eqT, z_eqF, i_leT, i_leF, i_ltT, i_ltF, i_eqT, i_eqF, z_le, z_lt, z_eq, z_ite, z_at, z_pt, z_up, z_wr, z_wi1, z_wi0, z_wi, z_inS, z_toInt, z_nb0, z_nb1, Int.cast_ofNat_Int, true_and, and_true, not_true_eq_false, not_false_eq_true, false_imp_iff, true_imp_iff, aup_o, aup_k, ite_true, ite_false, z_fa000, z_fa001, z_fa010, z_fa011, z_fa100, z_fa101, z_fa110, z_fa111, if_true, if_false, e26]
      exact hQ u ho h30 hlo
  have tops : ∀ (t : Int) (u : aS) (o : Option qP), 0 ≤ t → t ≤ 4 → (∀ x : Nat, x ≠ 30 → u x = s x) → (∀ j, 0 ≤ j → j < t → u 30 j = cbS s j cut) → (∀ j, t ≤ j → u 30 j = s 30 j) → qV g mX0_hideFrom (d + 2) 0 2 [some (.inr 26), some (.inl (iI cut)), some (.inr 2), some (.inl (iI t)), o] [] (qi u) Q T := by
    refine stepUp 4 (fun t ih u o t0 t1 ho hlo hhi => wX0_hideFrom_2 hw ?_)
    by_cases h : t < 4
    · simp (disch := omega) only [z_app, z_rd, z_cl, z_add, z_sub, z_mul, z_neg, z_lit, z_leT, z_leF, z_ltT, z_ltF, z_eqT, z_eqF, i_leT, i_leF, i_ltT, i_ltF, i_eqT, i_eqF, z_le, z_lt, z_eq, z_ite, z_at, z_pt, z_up, z_wr, z_wi1, z_wi0, z_wi, z_inS, z_toInt, z_nb0, z_nb1, Int.cast_ofNat_Int, true_and, and_true, not_true_eq_false, not_false_eq_true, false_imp_iff, true_imp_iff, aup_o, aup_k, ite_true, ite_false, z_fa000, z_fa001, z_fa010, z_fa011, z_fa100, z_fa101, z_fa110, z_fa111, if_true, if_false]
      refine k_csbW hw hJ t0 h p0 p1 (ho 18 (by decide)) (ho 28 (by decide)) (hhi t (Int.le_refl _)) ?_
      simp (disch := omega) only [z_app, z_rd, z_cl, z_add, z_sub, z_mul, z_neg, z_lit, z_leT, z_leF, z_ltT, z_ltF, z_eqT, z_eqF, i_leT, i_leF, i_ltT, i_ltF, i_eqT, i_eqF, z_le, z_lt, z_eq, z_ite, z_at, z_pt, z_up, z_wr, z_wi1, z_wi0, z_wi, z_inS, z_toInt, z_nb0, z_nb1, Int.cast_ofNat_Int, true_and, and_true, not_true_eq_false, not_false_eq_true, false_imp_iff, true_imp_iff, aup_o, aup_k, ite_true, ite_false, z_fa000, z_fa001, z_fa010, z_fa011, z_fa100, z_fa101, z_fa110, z_fa111, if_true, if_false]
      refine ih h _ _ (by omega) (by omega) (fun x h1 => by rw [aup_o h1, ho x h1]) (fun j j0 j1 => ?_) (fun j j0 => ?_)
      · rw [aup_k]
        by_cases hj : j = t
        · rw [if_pos hj, hj]
        · rw [if_neg hj]; exact hlo j j0 (by omega)
      · rw [aup_k, if_neg (by omega)]; exact hhi j (by omega)
    · have e : t = 4 := by omega
      subst e
      simp (disch := omega) only [z_app, z_rd, z_cl, z_add, z_sub, z_mul, z_neg, z_lit, z_leT, z_leF, z_ltT, z_ltF, z_eqT, z_eqF, i_leT, i_leF, i_ltT, i_ltF, i_eqT, i_eqF, z_le, z_lt, z_eq, z_ite, z_at, z_pt, z_up, z_wr, z_wi1, z_wi0, z_wi, z_inS, z_toInt, z_nb0, z_nb1, Int.cast_ofNat_Int, true_and, and_true, not_true_eq_false, not_false_eq_true, false_imp_iff, true_imp_iff, aup_o, aup_k, ite_true, ite_false, z_fa000, z_fa001, z_fa010, z_fa011, z_fa100, z_fa101, z_fa110, z_fa111, if_true, if_false]
      exact cons 0 u _ (by omega) (by omega) (fun x h1 _ => ho x h1) hlo (fun j j0 j1 => by omega) (fun j _ => by rw [ho 36 (by decide)])
  exact wX0_hideFrom hw ⟨rfl, tops 0 s _ (by omega) (by omega) (fun _ _ => rfl) (fun j j0 j1 => by omega) (fun _ _ => rfl)⟩
theorem k_dropRec (hw : qWF g) {u : aS} (hJ : jJ s) (p0 : 0 ≤ cut) (p1 : cut ≤ s 2 9) (h18 : u 18 = s 18) (hQ : ∀ v, (∀ x : Nat, x ≠ 2 → x ≠ 18 → v x = u x) → v 2 9 = cut → v 2 10 = u 2 10 → (∀ k, 0 ≤ k → k < cut → v 18 k = if cut ≤ s 18 k then -1 else s 18 k) → Q (iI 0) (qi v)) : qC g (d + 1) mX4_dropFrom [.inr 2, .inl (iI cut)] (qi u) Q T := by
  have B : s 2 9 ≤ 400 := by have := jb hJ; omega
  have key : ∀ (k : Int) (v : aS), 0 ≤ k → k ≤ cut → (∀ x : Nat, x ≠ 18 → v x = u x) → (∀ j, 0 ≤ j → j < k → v 18 j = if cut ≤ s 18 j then -1 else s 18 j) → (∀ j, k ≤ j → v 18 j = s 18 j) → qV g mX4_dropFrom (d + 1) 0 2 [some (.inr 2), some (.inl (iI cut)), some (.inl (iI k))] [] (qi v) Q T := by
    refine stepUp cut (fun k ih v k0 k1 ho hlo hhi => wX4_dropFrom_2 hw ?_)
    by_cases h : k < cut
    · have E := j_ef hJ k0 (by omega)
      have e18 := hhi k (Int.le_refl _)
      by_cases hh : cut ≤ s 18 k
      · simp (disch := omega) only [z_app, z_rd, z_cl, z_add, z_sub, z_mul, z_neg, z_lit, z_leT, z_leF, z_ltT, z_ltF, z_eqT, z_eqF, i_leT, i_leF, i_ltT, i_ltF, i_eqT, i_eqF, z_le, z_lt, z_eq, z_ite, z_at, z_pt, z_up, z_wr, z_wi1, z_wi0, z_wi, z_inS, z_toInt, z_nb0, z_nb1, Int.cast_ofNat_Int, true_and, and_true, not_true_eq_false, not_false_eq_true, false_imp_iff, true_imp_iff, aup_o, aup_k, ite_true, ite_false, z_fa000, z_fa001, z_fa010, z_fa011, z_fa100, z_fa101, z_fa110, z_fa111, if_true, if_false, e18]
        refine ih h _ (by omega) (by omega) (fun x h1 => by rw [aup_o h1, ho x h1]) (fun j j0 j1 => ?_) (fun j j0 => by rw [aup_k, if_neg (by omega)]; exact hhi j (by omega))
        rw [aup_k]
        by_cases hj : j = k
        · rw [if_pos hj, hj, if_pos hh]
        · rw [if_neg hj]; exact hlo j j0 (by omega)
      · simp (disch := omega) only [z_app, z_rd, z_cl, z_add, z_sub, z_mul, z_neg, z_lit, z_leT, z_leF, z_ltT, z_ltF, z_eqT, z_eqF, i_leT, i_leF, i_ltT, i_ltF, i_eqT, i_eqF, z_le, z_lt, z_eq, z_ite, z_at, z_pt, z_up, z_wr, z_wi1, z_wi0, z_wi, z_inS, z_toInt, z_nb0, z_nb1, Int.cast_ofNat_Int, true_and, and_true, not_true_eq_false, not_false_eq_true, false_imp_iff, true_imp_iff, aup_o, aup_k, ite_true, ite_false, z_fa000, z_fa001, z_fa010, z_fa011, z_fa100, z_fa101, z_fa110, z_fa111, if_true, if_false, e18]
        refine ih h _ (by omega) (by omega) ho (fun j j0 j1 => ?_) (fun j j0 => hhi j (by omega))
        by_cases hj : j = k
        · rw [hj, e18, if_neg hh]
        · exact hlo j j0 (by omega)
    · have e : k = cut := by omega
      subst e
      simp (disch := omega) only [z_app, z_rd, z_cl, z_add, z_sub, z_mul, z_neg, z_lit, z_leT, z_leF, z_ltT, z_ltF, z_eqT, z_eqF, i_leT, i_leF, i_ltT, i_ltF, i_eqT, i_eqF, z_le, z_lt, z_eq, z_ite, z_at, z_pt, z_up, z_wr, z_wi1, z_wi0, z_wi, z_inS, z_toInt, z_nb0, z_nb1, Int.cast_ofNat_Int, true_and, and_true, not_true_eq_false, not_false_eq_true, false_imp_iff, true_imp_iff, aup_o, aup_k, ite_true, ite_false, z_fa000, z_fa001, z_fa010, z_fa011, z_fa100, z_fa101, z_fa110, z_fa111, if_true, if_false]
      exact hQ _ (fun x h1 h2 => by rw [aup_o h1, ho x h2]) (aup_s _ _ _ _) (by rw [aup_k, if_neg (by decide), ho 2 (by decide)]) (fun j j0 j1 => by rw [aup_o (by decide)]; exact hlo j j0 j1)
  exact wX4_dropFrom hw ⟨rfl, key 0 u (by omega) p0 (fun _ _ => rfl) (fun j j0 j1 => by omega) (fun j _ => by rw [h18])⟩
theorem k_dropSeg (hw : qWF g) {u : aS} (hJ : jJ s) (p0 : s 23 (s 21 2) ≤ cut) (p1 : cut ≤ s 2 9) (h14 : u 14 = s 14) (h21 : u 21 = s 21) (h23 : u 23 = s 23) (h25 : u 25 = s 25) (hQ : ∀ v, (∀ x : Nat, x ≠ 21 → x ≠ 23 → x ≠ 25 → v x = u x) → (v 21 2 = s 21 2 ∧ v 21 3 = cuT s cut ∧ v 21 4 = s 21 4 ∧ v 21 5 = sI (s 14) (s 23 (s 21 2)) cut ∧ v 21 6 = s 21 6) → (∀ i, v 23 i = s 23 i) → (∀ i, i < cuT s cut → v 25 i = s 25 i) → v 25 (cuT s cut) = sI (s 14) (s 23 (cuT s cut)) cut → Q (iI 0) (qi v)) : qC g (d + 1) mX7_dropFrom [.inr 21, .inl (iI cut), .inr 2] (qi u) Q T := by
  have B := jb hJ
  have hS := hJ.2.2.2.2.2.2.1
  have CT := cuT_b hJ p0
  have mono := j_mono hS (i := s 21 2) (Int.le_refl _)
  have tel := j_tel hJ (cuT s cut) CT.1 CT.2.1
  -- the sum of what is left in the open segment
  have left : ∀ (k x : Int) (v : aS), s 23 (cuT s cut) ≤ k → k ≤ cut → v 14 = s 14 → x + sI (s 14) k cut = sI (s 14) (s 23 (cuT s cut)) cut → v 21 3 = cuT s cut → (qi (aup (aup v 21 5 (v 21 5 + (sI (s 14) (s 23 (cuT s cut)) cut - v 25 (cuT s cut)))) 25 (cuT s cut) (sI (s 14) (s 23 (cuT s cut)) cut)) = qi (aup (aup v 21 5 (v 21 5 + (sI (s 14) (s 23 (cuT s cut)) cut - v 25 (cuT s cut)))) 25 (cuT s cut) (sI (s 14) (s 23 (cuT s cut)) cut)) → Q (iI 0) (qi (aup (aup v 21 5 (v 21 5 + (sI (s 14) (s 23 (cuT s cut)) cut - v 25 (cuT s cut)))) 25 (cuT s cut) (sI (s 14) (s 23 (cuT s cut)) cut)))) → qV g mX7_dropFrom (d + 1) 0 97 [some (.inr 21), some (.inl (iI cut)), some (.inr 2), some (.inl (iI x)), some (.inl (iI k))] [] (qi v) Q T := by
    have m0 := mono (cuT s cut) CT.1 CT.2.1
    refine stepUp cut (fun k ih x v k0 k1 e14 hx e3 hq => wX7_dropFrom_97 hw ?_)
    by_cases h : k < cut
    · rw [sI_f _ h, ← Int.add_assoc] at hx
      simp (disch := omega) only [z_app, z_rd, z_cl, z_add, z_sub, z_mul, z_neg, z_lit, z_leT, z_leF, z_ltT, z_ltF, z_eqT, z_eqF, i_leT, i_leF, i_ltT, i_ltF, i_eqT, i_eqF, z_le, z_lt, z_eq, z_ite, z_at, z_pt, z_up, z_wr, z_wi1, z_wi0, z_wi, z_inS, z_toInt, z_nb0, z_nb1, Int.cast_ofNat_Int, true_and, and_true, not_true_eq_false, not_false_eq_true, false_imp_iff, true_imp_iff, aup_o, aup_k, ite_true, ite_false, z_fa000, z_fa001, z_fa010, z_fa011, z_fa100, z_fa101, z_fa110, z_fa111, if_true, if_false, e14]
      exact ih h _ v (by omega) (by omega) e14 hx e3 hq
    · rw [sI_e (by omega), Int.add_zero] at hx
      simp (disch := omega) only [z_app, z_rd, z_cl, z_add, z_sub, z_mul, z_neg, z_lit, z_leT, z_leF, z_ltT, z_ltF, z_eqT, z_eqF, i_leT, i_leF, i_ltT, i_ltF, i_eqT, i_eqF, z_le, z_lt, z_eq, z_ite, z_at, z_pt, z_up, z_wr, z_wi1, z_wi0, z_wi, z_inS, z_toInt, z_nb0, z_nb1, Int.cast_ofNat_Int, true_and, and_true, not_true_eq_false, not_false_eq_true, false_imp_iff, true_imp_iff, aup_o, aup_k, ite_true, ite_false, z_fa000, z_fa001, z_fa010, z_fa011, z_fa100, z_fa101, z_fa110, z_fa111, if_true, if_false, e3, hx]
      exact hq rfl
  have loop : ∀ (i : Int) (v : aS) (o : Option qP), cuT s cut ≤ i → i ≤ s 21 3 → (∀ x : Nat, x ≠ 21 → v x = u x) → v 21 3 = i → v 21 5 = s 21 5 - sI (s 25) (i + 1) (s 21 3 + 1) → (∀ j, j ≠ 3 → j ≠ 5 → v 21 j = s 21 j) → qV g mX7_dropFrom (d + 1) 0 5 [some (.inr 21), some (.inl (iI cut)), some (.inr 2), some (.inl (iI i)), o] [] (qi v) Q T := by
    refine stepDown (cuT s cut) (fun i ih v o i0 i1 ho e3 e5 ej => wX7_dropFrom_5 hw ?_)
    have v2 := ej 2 (by decide) (by decide)
    have v23 : v 23 = s 23 := by rw [ho 23 (by decide), h23]
    have v25 : v 25 = s 25 := by rw [ho 25 (by decide), h25]
    have v14 : v 14 = s 14 := by rw [ho 14 (by decide), h14]
    have m1 := mono i (by omega) i1
    have m2 := j_mono hS (i := i) (by omega) (s 21 3) i1 (Int.le_refl _)
    have s3 := hS.2.2.1
    by_cases h : cuT s cut < i
    · have hc := CT.2.2.1 i h i1
      have l := sI_f (f := s 25) (lo := i) (s 21 3 + 1) (by omega)
      simp (disch := omega) only [z_app, z_rd, z_cl, z_add, z_sub, z_mul, z_neg, z_lit, z_leT, z_leF, z_ltT, z_ltF, z_eqT, z_eqF, i_leT, i_leF, i_ltT, i_ltF, i_eqT, i_eqF, z_le, z_lt, z_eq, z_ite, z_at, z_pt, z_up, z_wr, z_wi1, z_wi0, z_wi, z_inS, z_toInt, z_nb0, z_nb1, Int.cast_ofNat_Int, true_and, and_true, not_true_eq_false, not_false_eq_true, false_imp_iff, true_imp_iff, aup_o, aup_k, ite_true, ite_false, z_fa000, z_fa001, z_fa010, z_fa011, z_fa100, z_fa101, z_fa110, z_fa111, if_true, if_false, v2, v23, v25, e5]
      have ei : i + -1 = i - 1 := by omega
      rw [ei]
      refine ih h _ _ (by omega) (by omega) (fun x hx => by rw [aup_o hx, aup_o hx, ho x hx]) (aup_s _ _ _ _) ?_ (fun j j3 j5 => by rw [aup_k, if_neg j3, aup_k, if_neg j5]; exact ej j j3 j5)
      rw [aup_k, if_neg (by decide), aup_s, show i - 1 + 1 = i by omega]
      omega
    · have ei : i = cuT s cut := by omega
      subst ei
      have fin : ∀ v' : aS, (∀ x : Nat, x ≠ 21 → x ≠ 23 → v' x = u x) → v' 21 = v 21 → v' 23 = s 23 → Q (iI 0) (qi (aup (aup v' 21 5 (v' 21 5 + (sI (s 14) (s 23 (cuT s cut)) cut - v' 25 (cuT s cut)))) 25 (cuT s cut) (sI (s 14) (s 23 (cuT s cut)) cut))) := by
        intro v' ho' e21 e23
        have w25 : v' 25 = s 25 := by rw [ho' 25 (by decide) (by decide), h25]
        refine hQ _ (fun x h1 h2 h3 => by rw [aup_o h3, aup_o h1, ho' x h1 h2]) ⟨?_, ?_, ?_, ?_, ?_⟩ (fun i => by rw [aup_o (by decide), aup_o (by decide), e23]) (fun i hi => by rw [aup_k, if_neg (by omega), aup_o (by decide), w25]) (aup_s _ _ _ _)
        · rw [aup_o (by decide), aup_k, if_neg (by decide), e21, v2]
        · rw [aup_o (by decide), aup_k, if_neg (by decide), e21, e3]
        · rw [aup_o (by decide), aup_k, if_neg (by decide), e21]; exact ej 4 (by decide) (by decide)
        · rw [aup_o (by decide), aup_s, e21, e5, w25]
          -- all bytes, without those of the segments behind, and with what is left
          have t1 := j_tel hJ (s 21 3) (by omega) (Int.le_refl _)
          have t2 := sI_s (f := s 25) (lo := s 21 2) (mid := cuT s cut) CT.1 (s 21 3) CT.2.1
          have t3 := sI_l (f := s 25) (lo := cuT s cut) (hi := s 21 3) CT.2.1
          have t4 := sI_f (f := s 25) (lo := cuT s cut) (s 21 3 + 1) (by omega)
          have t5 := hS.2.2.2.1
          have t6 := hS.2.2.2.2
          have t7 := sI_s (f := s 14) (lo := s 23 (s 21 2)) (mid := s 23 (s 21 3)) (mono (s 21 3) (by omega) (Int.le_refl _)) (s 2 9) s3
          have t8 := sI_s (f := s 14) (lo := s 23 (s 21 2)) (mid := s 23 (cuT s cut)) (mono (cuT s cut) CT.1 CT.2.1) cut CT.2.2.2
          omega
        · rw [aup_o (by decide), aup_k, if_neg (by decide), e21]; exact ej 6 (by decide) (by decide)
      by_cases hh : s 23 (cuT s cut) < cut
      · have L := left (s 23 (cuT s cut)) 0 v (Int.le_refl _) (by omega) v14 (by rw [Int.zero_add]) e3 (fun _ => fin v (fun x h1 _ => ho x h1) rfl v23)
        by_cases hd : cuT s cut = s 21 2
        · simp (disch := omega) only [z_app, z_rd, z_cl, z_add, z_sub, z_mul, z_neg, z_lit, z_leT, z_leF, z_ltT, z_ltF, z_eqT, z_eqF, i_leT, i_leF, i_ltT, i_ltF, i_eqT, i_eqF, z_le, z_lt, z_eq, z_ite, z_at, z_pt, z_up, z_wr, z_wi1, z_wi0, z_wi, z_inS, z_toInt, z_nb0, z_nb1, Int.cast_ofNat_Int, true_and, and_true, not_true_eq_false, not_false_eq_true, false_imp_iff, true_imp_iff, aup_o, aup_k, ite_true, ite_false, z_fa000, z_fa001, z_fa010, z_fa011, z_fa100, z_fa101, z_fa110, z_fa111, if_true, if_false, v2, v23, e3]
          exact L
        · simp (disch := omega) only [z_app, z_rd, z_cl, z_add, z_sub, z_mul, z_neg, z_lit, z_leT, z_leF, z_ltT, z_ltF, z_eqT, z_eqF, i_leT, i_leF, i_ltT, i_ltF, i_eqT, i_eqF, z_le, z_lt, z_eq, z_ite, z_at, z_pt, z_up, z_wr, z_wi1, z_wi0, z_wi, z_inS, z_toInt, z_nb0, z_nb1, Int.cast_ofNat_Int, true_and, and_true, not_true_eq_false, not_false_eq_true, false_imp_iff, true_imp_iff, aup_o, aup_k, ite_true, ite_false, z_fa000, z_fa001, z_fa010, z_fa011, z_fa100, z_fa101, z_fa110, z_fa111, if_true, if_false, v2, v23, e3]
          exact L
      · -- the cut is just where the segment begins
        have ec : s 23 (cuT s cut) = cut := by have := CT.2.2.2; omega
        have hd : cuT s cut = s 21 2 := by
          by_cases hd : cuT s cut = s 21 2
          · exact hd
          · have F := fI_b (p := fun i => decide (s 23 (s 21 3 - i) < cut)) (hi := s 21 3 - s 21 2) 0 (by omega)
            have e : cuT s cut = s 21 3 - fI (fun i => decide (s 23 (s 21 3 - i) < cut)) 0 (s 21 3 - s 21 2) := rfl
            have := of_decide_eq_true (F.2.2.2 (by omega))
            rw [← e] at this
            omega
        have ev : aup v 23 (cuT s cut) cut = v := by
          have := aup_id v 23 (cuT s cut)
          rw [v23, ec] at this
          exact this
        have L := left (s 23 (cuT s cut)) 0 v (Int.le_refl _) (by omega) v14 (by rw [Int.zero_add]) e3 (fun _ => fin v (fun x h1 _ => ho x h1) rfl v23)
        simp (disch := omega) only [z_app, z_rd, z_cl, z_add, z_sub, z_mul, z_neg, z_lit, z_leT, z_leF, z_ltT, z_ltF, z_eqT, z_eqF, i_leT, i_leF, i_ltT, i_ltF, i_eqT, i_eqF, z_le, z_lt, z_eq, z_ite, z_at, z_pt, z_up, z_wr, z_wi1, z_wi0, z_wi, z_inS, z_toInt, z_nb0, z_nb1, Int.cast_ofNat_Int, true_and, and_true, not_true_eq_false, not_false_eq_true, false_imp_iff, true_imp_iff, aup_o, aup_k, ite_true, ite_false, z_fa000, z_fa001, z_fa010, z_fa011, z_fa100, z_fa101, z_fa110, z_fa111, if_true, if_false, v2, v23, e3, ev]
        exact L
  refine wX7_dropFrom hw ⟨rfl, ?_⟩
  have e3 : u 21 3 = s 21 3 := by rw [h21]
  rw [show qi u 21 3 = iI (s 21 3) from by rw [z_app]; exact congrArg iI e3]
  exact loop (s 21 3) u _ CT.2.1 (Int.le_refl _) (fun _ _ => rfl) e3 (by rw [h21, sI_e (by omega), Int.sub_zero]) (fun j _ _ => by rw [h21])
end KC
