/-! ===== effects: lists of records, files, visible messages ===== -/
theorem awl_snoc (s : aS) (k : Nat) (l : List Int) (x : Int) : aup (awl s k 0 l) k (l.length : Int) x = awl s k 0 (l ++ [x]) := by
  rw [awl_app]
  show aup (awl s k 0 l) k (l.length : Int) x = aup (awl s k 0 l) k (0 + (l.length : Int)) x
  rw [Int.zero_add]
/-- as the class lists what a record makes effective -/
def lcS (s : aS) (e : Int) : List Int := if s 4 e = 1 then lI (fun j => decide (s 6 j = s 6 e)) (s 6 e + 1) e else if (3 ≤ s 4 e ∧ s 4 e ≤ 7) ∧ s 6 e = -1 then [e] else []
def llF (s : aS) (lo : Int) : Nat → List Int
  | 0 => []
  | n + 1 => llF s lo n ++ lcS s (lo + n)
def llS (s : aS) (lo hi : Int) : List Int := llF s lo (hi - lo).toNat
theorem ll_e {s : aS} {lo hi : Int} (h : hi ≤ lo) : llS s lo hi = [] := by
  unfold llS
  rw [show (hi - lo).toNat = 0 by omega]
  rfl
theorem ll_l {s : aS} {lo hi : Int} (h : lo ≤ hi) : llS s lo (hi + 1) = llS s lo hi ++ lcS s hi := by
  unfold llS
  rw [show (hi + 1 - lo).toNat = (hi - lo).toNat + 1 by omega]
  show llF s lo (hi - lo).toNat ++ lcS s (lo + ((hi - lo).toNat : Nat)) = _
  rw [show lo + (((hi - lo).toNat : Nat) : Int) = hi by omega]
theorem ll_len {s : aS} {lo : Int} {mid : Int} : ∀ hi : Int, lo ≤ mid → mid ≤ hi → (llS s lo mid).length ≤ (llS s lo hi).length := by
  refine stepDown mid (fun hi ih h0 h1 => ?_)
  by_cases h : mid < hi
  · have a := ih h h0 (by omega)
    have b := ll_l (s := s) (lo := lo) (hi := hi - 1) (by omega)
    rw [show hi - 1 + 1 = hi by omega] at b
    rw [b, List.length_append]
    omega
  · rw [show hi = mid by omega]
    exact Nat.le_refl _
theorem lI_le {p : Int → Bool} {lo hi : Int} (h : lo ≤ hi) : ((lI p lo hi).length : Int) ≤ hi - lo := by
  rw [lI_len]
  have := sI_ub (f := fun i => if p i then 1 else 0) (lo := lo) (c := 1) hi h (fun i _ _ => by split <;> omega)
  omega
section LS
variable {g : qG} {s : aS} {d : Nat} {Q : Int32 → qS → Prop} {T : String → qS → Prop}
theorem k_listCommitted_l (hw : qWF g) {e c : Int} (e0 : 0 ≤ e) (e1 : e ≤ 400) (hb : ∀ j, 0 ≤ j → j < e → -1 ≤ s 6 j ∧ s 6 j ≤ 400) (b0 : -1 ≤ s 6 e) (b1 : s 6 e < e) : ∀ (j : Int) (l : List Int), s 6 e < j → j ≤ e → ((l ++ lI (fun j => decide (s 6 j = s 6 e)) j e).length : Int) ≤ 400 → Q (iI ((l ++ lI (fun j => decide (s 6 j = s 6 e)) j e).length : Int)) (qi (awl s 59 0 (l ++ lI (fun j => decide (s 6 j = s 6 e)) j e))) → qV g mX4_listCommitted (d + 1) 0 19 [some (.inr 2), some (.inl (iI e)), some (.inr 58), some (.inl (iI c)), some (.inl (iI (s 6 e))), some (.inl (iI (l.length : Int))), some (.inl (iI j))] [] (qi (awl s 59 0 l)) Q T := by
  refine stepUp e (fun j ih l j0 j1 hl hQ => wX4_listCommitted_19 hw ?_)
  have e6 : awl s 59 0 l 6 = s 6 := awl_o (by decide) l s 0
  by_cases h : j < e
  · have J := hb j (by omega) h
    rw [lI_f e h] at hQ hl
    by_cases hh : s 6 j = s 6 e
    · rw [if_pos (decide_eq_true hh), ← List.append_assoc] at hQ hl
      rw [List.length_append, List.length_append] at hl
      have hl2 : (l.length : Int) < 400 := by simp only [List.length_singleton] at hl; omega
      simp (disch := omega) only [z_app, z_rd, z_cl, z_add, z_sub, z_mul, z_neg, z_lit, z_leT, z_leF, z_ltT, z_ltF, z_eqT, z_eqF, i_leT, i_leF, i_ltT, i_ltF, i_eqT, i_eqF, z_le, z_lt, z_eq, z_ite, z_at, z_pt, z_up, z_wr, z_wi1, z_wi0, z_wi, z_inS, z_toInt, z_nb0, z_nb1, Int.cast_ofNat_Int, true_and, and_true, not_true_eq_false, not_false_eq_true, false_imp_iff, true_imp_iff, aup_o, aup_k, ite_true, ite_false, z_fa000, z_fa001, z_fa010, z_fa011, z_fa100, z_fa101, z_fa110, z_fa111, if_true, if_false, e6, hh]
      rw [awl_snoc, show (l.length : Int) + 1 = ((l ++ [j]).length : Int) by rw [List.length_append, List.length_singleton]; omega]
      refine ih h (l ++ [j]) (by omega) (by omega) ?_ hQ
      rw [List.length_append, List.length_append]
      exact hl
    · rw [if_neg (by simpa using hh), List.nil_append] at hQ hl
      simp (disch := omega) only [z_app, z_rd, z_cl, z_add, z_sub, z_mul, z_neg, z_lit, z_leT, z_leF, z_ltT, z_ltF, z_eqT, z_eqF, i_leT, i_leF, i_ltT, i_ltF, i_eqT, i_eqF, z_le, z_lt, z_eq, z_ite, z_at, z_pt, z_up, z_wr, z_wi1, z_wi0, z_wi, z_inS, z_toInt, z_nb0, z_nb1, Int.cast_ofNat_Int, true_and, and_true, not_true_eq_false, not_false_eq_true, false_imp_iff, true_imp_iff, aup_o, aup_k, ite_true, ite_false, z_fa000, z_fa001, z_fa010, z_fa011, z_fa100, z_fa101, z_fa110, z_fa111, if_true, if_false, e6]
      exact ih h l (by omega) (by omega) hl hQ
  · rw [lI_e (by omega), List.append_nil] at hQ
    simp (disch := omega) only [z_app, z_rd, z_cl, z_add, z_sub, z_mul, z_neg, z_lit, z_leT, z_leF, z_ltT, z_ltF, z_eqT, z_eqF, i_leT, i_leF, i_ltT, i_ltF, i_eqT, i_eqF, z_le, z_lt, z_eq, z_ite, z_at, z_pt, z_up, z_wr, z_wi1, z_wi0, z_wi, z_inS, z_toInt, z_nb0, z_nb1, Int.cast_ofNat_Int, true_and, and_true, not_true_eq_false, not_false_eq_true, false_imp_iff, true_imp_iff, aup_o, aup_k, ite_true, ite_false, z_fa000, z_fa001, z_fa010, z_fa011, z_fa100, z_fa101, z_fa110, z_fa111, if_true, if_false]
    exact hQ
theorem k_isAlone (hw : qWF g) {e : Int} (e0 : 0 ≤ e) (e1 : e < 400) (t0 : -1 ≤ s 4 e) (t1 : s 4 e ≤ 400) (o0 : -1 ≤ s 6 e) (o1 : s 6 e ≤ 400) (h1 : (3 ≤ s 4 e ∧ s 4 e ≤ 7) ∧ s 6 e = -1 → Q (iI 1) (qi s)) (h0 : ¬ ((3 ≤ s 4 e ∧ s 4 e ≤ 7) ∧ s 6 e = -1) → Q (iI 0) (qi s)) : qC g (d + 1) mX4_isEffectiveAlone [.inr 2, .inl (iI e)] (qi s) Q T := by
  refine wX4_isEffectiveAlone hw ?_
  by_cases a : 3 ≤ s 4 e ∧ s 4 e ≤ 7
  · by_cases b : s 6 e = -1
    · simp (disch := omega) only [z_app, z_rd, z_cl, z_add, z_sub, z_mul, z_neg, z_lit, z_leT, z_leF, z_ltT, z_ltF, z_eqT, z_eqF, i_leT, i_leF, i_ltT, i_ltF, i_eqT, i_eqF, z_le, z_lt, z_eq, z_ite, z_at, z_pt, z_up, z_wr, z_wi1, z_wi0, z_wi, z_inS, z_toInt, z_nb0, z_nb1, Int.cast_ofNat_Int, true_and, and_true, not_true_eq_false, not_false_eq_true, false_imp_iff, true_imp_iff, aup_o, aup_k, ite_true, ite_false, z_fa000, z_fa001, z_fa010, z_fa011, z_fa100, z_fa101, z_fa110, z_fa111, if_true, if_false]
      exact ⟨Or.inr trivial, h1 ⟨a, b⟩⟩
    · simp (disch := omega) only [z_app, z_rd, z_cl, z_add, z_sub, z_mul, z_neg, z_lit, z_leT, z_leF, z_ltT, z_ltF, z_eqT, z_eqF, i_leT, i_leF, i_ltT, i_ltF, i_eqT, i_eqF, z_le, z_lt, z_eq, z_ite, z_at, z_pt, z_up, z_wr, z_wi1, z_wi0, z_wi, z_inS, z_toInt, z_nb0, z_nb1, Int.cast_ofNat_Int, true_and, and_true, not_true_eq_false, not_false_eq_true, false_imp_iff, true_imp_iff, aup_o, aup_k, ite_true, ite_false, z_fa000, z_fa001, z_fa010, z_fa011, z_fa100, z_fa101, z_fa110, z_fa111, if_true, if_false]
      exact ⟨Or.inl trivial, h0 (fun x => b x.2)⟩
  · simp (disch := omega) only [z_app, z_rd, z_cl, z_add, z_sub, z_mul, z_neg, z_lit, z_leT, z_leF, z_ltT, z_ltF, z_eqT, z_eqF, i_leT, i_leF, i_ltT, i_ltF, i_eqT, i_eqF, z_le, z_lt, z_eq, z_ite, z_at, z_pt, z_up, z_wr, z_wi1, z_wi0, z_wi, z_inS, z_toInt, z_nb0, z_nb1, Int.cast_ofNat_Int, true_and, and_true, not_true_eq_false, not_false_eq_true, false_imp_iff, true_imp_iff, aup_o, aup_k, ite_true, ite_false, z_fa000, z_fa001, z_fa010, z_fa011, z_fa100, z_fa101, z_fa110, z_fa111, if_true, if_false]
    exact ⟨Or.inl trivial, h0 (fun x => a x.1)⟩
theorem k_listEffects_l (hw : qWF g) {lo hi : Int} (l0 : 0 ≤ lo) (h1 : hi ≤ 400) (hb : ∀ j, 0 ≤ j → j < hi → (-1 ≤ s 6 j ∧ s 6 j ≤ 400) ∧ (0 ≤ s 4 j ∧ s 4 j ≤ 8) ∧ (s 4 j = 1 → s 6 j < j)) (hl : ((llS s lo hi).length : Int) ≤ 400) (hQ : Q (iI ((llS s lo hi).length : Int)) (qi (awl s 59 0 (llS s lo hi)))) : ∀ (e : Int), lo ≤ e → e ≤ hi → qV g mX4_listEffects (d + 2) 0 6 [some (.inr 2), some (.inl (iI lo)), some (.inl (iI hi)), some (.inr 58), some (.inl (iI ((llS s lo e).length : Int))), some (.inl (iI e))] [] (qi (awl s 59 0 (llS s lo e))) Q T := by
  refine stepUp hi (fun e ih e0 e1 => wX4_listEffects_6 hw ?_)
  have e4 : awl s 59 0 (llS s lo e) 4 = s 4 := awl_o (by decide) _ _ _
  have e6 : awl s 59 0 (llS s lo e) 6 = s 6 := awl_o (by decide) _ _ _
  by_cases h : e < hi
  · obtain ⟨J1, J2, J3⟩ := hb e (by omega) h
    have L := ll_l (s := s) (lo := lo) (hi := e) e0
    have L2 := ll_len (s := s) (lo := lo) (mid := e + 1) hi (by omega) (by omega)
    have IH := ih h (by omega) (by omega)
    by_cases c1 : s 4 e = 1
    · have ec : lcS s e = lI (fun j => decide (s 6 j = s 6 e)) (s 6 e + 1) e := if_pos c1
      simp (disch := omega) only [z_app, z_rd, z_cl, z_add, z_sub, z_mul, z_neg, z_lit, z_leT, z_leF, z_ltT, z_ltF, z_eqT, z_eqF, i_leT, i_leF, i_ltT, i_ltF, i_eqT, i_eqF, z_le, z_lt, z_eq, z_ite, z_at, z_pt, z_up, z_wr, z_wi1, z_wi0, z_wi, z_inS, z_toInt, z_nb0, z_nb1, Int.cast_ofNat_Int, true_and, and_true, not_true_eq_false, not_false_eq_true, false_imp_iff, true_imp_iff, aup_o, aup_k, ite_true, ite_false, z_fa000, z_fa001, z_fa010, z_fa011, z_fa100, z_fa101, z_fa110, z_fa111, if_true, if_false, e4]
      refine wX4_listCommitted hw ?_
      simp (disch := omega) only [z_app, z_rd, z_cl, z_add, z_sub, z_mul, z_neg, z_lit, z_leT, z_leF, z_ltT, z_ltF, z_eqT, z_eqF, i_leT, i_leF, i_ltT, i_ltF, i_eqT, i_eqF, z_le, z_lt, z_eq, z_ite, z_at, z_pt, z_up, z_wr, z_wi1, z_wi0, z_wi, z_inS, z_toInt, z_nb0, z_nb1, Int.cast_ofNat_Int, true_and, and_true, not_true_eq_false, not_false_eq_true, false_imp_iff, true_imp_iff, aup_o, aup_k, ite_true, ite_false, z_fa000, z_fa001, z_fa010, z_fa011, z_fa100, z_fa101, z_fa110, z_fa111, if_true, if_false, e6]
      refine k_listCommitted_l hw (by omega) (by omega) (fun j a b => (hb j a (by omega)).1) J1.1 (J3 c1) _ _ (by omega) (by have := J3 c1; omega) ?_ ?_
      · rw [← ec, ← L]
        omega
      · rw [← ec, ← L]
        exact IH
    · simp (disch := omega) only [z_app, z_rd, z_cl, z_add, z_sub, z_mul, z_neg, z_lit, z_leT, z_leF, z_ltT, z_ltF, z_eqT, z_eqF, i_leT, i_leF, i_ltT, i_ltF, i_eqT, i_eqF, z_le, z_lt, z_eq, z_ite, z_at, z_pt, z_up, z_wr, z_wi1, z_wi0, z_wi, z_inS, z_toInt, z_nb0, z_nb1, Int.cast_ofNat_Int, true_and, and_true, not_true_eq_false, not_false_eq_true, false_imp_iff, true_imp_iff, aup_o, aup_k, ite_true, ite_false, z_fa000, z_fa001, z_fa010, z_fa011, z_fa100, z_fa101, z_fa110, z_fa111, if_true, if_false, e4]
      refine k_isAlone hw (by omega) (by omega) (by rw [e4]; omega) (by rw [e4]; omega) (by rw [e6]; omega) (by rw [e6]; omega) (fun hh => ?_) (fun hh => ?_)
      · rw [e4, e6] at hh
        have ec : lcS s e = [e] := by unfold lcS; rw [if_neg c1, if_pos hh]
        rw [ec] at L
        have hl3 : ((llS s lo e).length : Int) < 400 := by rw [L, List.length_append, List.length_singleton] at L2; omega
        simp (disch := omega) only [z_app, z_rd, z_cl, z_add, z_sub, z_mul, z_neg, z_lit, z_leT, z_leF, z_ltT, z_ltF, z_eqT, z_eqF, i_leT, i_leF, i_ltT, i_ltF, i_eqT, i_eqF, z_le, z_lt, z_eq, z_ite, z_at, z_pt, z_up, z_wr, z_wi1, z_wi0, z_wi, z_inS, z_toInt, z_nb0, z_nb1, Int.cast_ofNat_Int, true_and, and_true, not_true_eq_false, not_false_eq_true, false_imp_iff, true_imp_iff, aup_o, aup_k, ite_true, ite_false, z_fa000, z_fa001, z_fa010, z_fa011, z_fa100, z_fa101, z_fa110, z_fa111, if_true, if_false]
        rw [awl_snoc, ← L]
        have e9 : ((llS s lo e).length : Int) + 1 = ((llS s lo (e + 1)).length : Int) := by rw [L, List.length_append, List.length_singleton]; omega
        rw [e9]
        exact IH
      · rw [e4, e6] at hh
        have ec : lcS s e = [] := by unfold lcS; rw [if_neg c1, if_neg hh]
        rw [ec, List.append_nil] at L
        simp (disch := omega) only [z_app, z_rd, z_cl, z_add, z_sub, z_mul, z_neg, z_lit, z_leT, z_leF, z_ltT, z_ltF, z_eqT, z_eqF, i_leT, i_leF, i_ltT, i_ltF, i_eqT, i_eqF, z_le, z_lt, z_eq, z_ite, z_at, z_pt, z_up, z_wr, z_wi1, z_wi0, z_wi, z_inS, z_toInt, z_nb0, z_nb1, Int.cast_ofNat_Int, true_and, and_true, not_true_eq_false, not_false_eq_true, false_imp_iff, true_imp_iff, aup_o, aup_k, ite_true, ite_false, z_fa000, z_fa001, z_fa010, z_fa011, z_fa100, z_fa101, z_fa110, z_fa111, if_true, if_false]
        rw [L] at IH
        exact IH
  · have e9 : e = hi := by omega
    rw [e9]
    simp (disch := omega) only [z_app, z_rd, z_cl, z_add, z_sub, z_mul, z_neg, z_lit, z_leT, z_leF, z_ltT, z_ltF, z_eqT, z_eqF, i_leT, i_leF, i_ltT, i_ltF, i_eqT, i_eqF, z_le, z_lt, z_eq, z_ite, z_at, z_pt, z_up, z_wr, z_wi1, z_wi0, z_wi, z_inS, z_toInt, z_nb0, z_nb1, Int.cast_ofNat_Int, true_and, and_true, not_true_eq_false, not_false_eq_true, false_imp_iff, true_imp_iff, aup_o, aup_k, ite_true, ite_false, z_fa000, z_fa001, z_fa010, z_fa011, z_fa100, z_fa101, z_fa110, z_fa111, if_true, if_false]
    exact hQ
theorem k_listEffects (hw : qWF g) {lo hi : Int} (l0 : 0 ≤ lo) (lh : lo ≤ hi) (h1 : hi ≤ 400) (hb : ∀ j, 0 ≤ j → j < hi → (-1 ≤ s 6 j ∧ s 6 j ≤ 400) ∧ (0 ≤ s 4 j ∧ s 4 j ≤ 8) ∧ (s 4 j = 1 → s 6 j < j)) (hl : ((llS s lo hi).length : Int) ≤ 400) (hQ : Q (iI ((llS s lo hi).length : Int)) (qi (awl s 59 0 (llS s lo hi)))) : qC g (d + 2) mX4_listEffects [.inr 2, .inl (iI lo), .inl (iI hi), .inr 58] (qi s) Q T := by
  refine wX4_listEffects hw ⟨rfl, ?_⟩
  have := k_listEffects_l (d := d) (T := T) hw l0 h1 hb hl hQ lo (Int.le_refl _) lh
  rw [ll_e (Int.le_refl _)] at this
  exact this
end LS
/-- a record done to the files in cells e (which exist) and b (blocks) -/
def apF (s : aS) (e b : Nat) (k : Int) : aS := fun x i => if x = e then (fch s (s e, s b) k).1 i else if x = b then (fch s (s e, s b) k).2 i else s x i
/-- blocks of a file cleared, a file copied, up to the place o -/
def zfF (s : aS) (e b : Nat) (f o : Int) : aS := fun x i => if x = e ∧ i = f then 1 else if x = b ∧ 4 * f ≤ i ∧ i < 4 * f + o then 0 else s x i
def dpF (s : aS) (e b : Nat) (f t o : Int) : aS := fun x i => if x = e ∧ i = t then s e f else if x = b ∧ 4 * t ≤ i ∧ i < 4 * t + o then s b (4 * f + (i - 4 * t)) else s x i
theorem zf_s {s : aS} {e b : Nat} (hb : b ≠ e) {f o : Int} (o0 : 0 ≤ o) : aup (zfF s e b f o) b (f * 4 + o) 0 = zfF s e b f (o + 1) := by
  funext x i
  unfold aup zfF
  by_cases hx : x = b
  · subst hx
    simp only [hb, false_and, if_false, true_and, if_true]
    by_cases h : i = f * 4 + o
    · rw [if_pos h, if_pos (by omega)]
    · rw [if_neg h]
      by_cases h2 : 4 * f ≤ i ∧ i < 4 * f + o
      · rw [if_pos h2, if_pos (by omega)]
      · rw [if_neg h2, if_neg (by omega)]
  · simp only [hx, if_false, false_and]
theorem dp_s {s : aS} {e b : Nat} (hb : b ≠ e) {f t o : Int} (o0 : 0 ≤ o) (o1 : o < 4) : aup (dpF s e b f t o) b (t * 4 + o) (dpF s e b f t o b (f * 4 + o)) = dpF s e b f t (o + 1) := by
  have ev : dpF s e b f t o b (f * 4 + o) = s b (4 * f + o) := by
    unfold dpF
    simp only [hb, false_and, if_false, true_and]
    rw [if_neg (by omega), show f * 4 + o = 4 * f + o by omega]
  rw [ev]
  funext x i
  unfold aup dpF
  by_cases hx : x = b
  · subst hx
    simp only [hb, false_and, if_false, true_and, if_true]
    by_cases h : i = t * 4 + o
    · rw [if_pos h, if_pos (by omega), show 4 * f + (i - 4 * t) = 4 * f + o by omega]
    · rw [if_neg h]
      by_cases h2 : 4 * t ≤ i ∧ i < 4 * t + o
      · rw [if_pos h2, if_pos (by omega)]
      · rw [if_neg h2, if_neg (by omega)]
  · simp only [hx, if_false, false_and]
theorem ap_w1 {s : aS} {e b : Nat} (hb : b ≠ e) {k : Int} (h3 : s 4 k = 3) (hx : s e (s 8 k) = 1) : aup s b (s 8 k * 4 + s 10 k) (s 12 k) = apF s e b k := by
  funext x i
  unfold aup apF fch fwr fup
  rw [if_pos h3]
  dsimp only
  by_cases h1 : x = e
  · subst h1
    rw [if_neg (fun y => hb y.symm), if_pos rfl]
    by_cases h : i = s 8 k
    · rw [if_pos h, h, hx]
    · rw [if_neg h]
  · rw [if_neg h1]
    by_cases h2 : x = b
    · subst h2
      rw [if_pos rfl, if_pos rfl, if_pos hx]
      by_cases h : i = s 8 k * 4 + s 10 k
      · rw [if_pos h, if_pos (by omega)]
      · rw [if_neg h, if_neg (by omega)]
    · rw [if_neg h2, if_neg h2]
theorem ap_w0 {s : aS} {e b : Nat} (hb : b ≠ e) {k : Int} (h3 : s 4 k = 3) (hx : s e (s 8 k) ≠ 1) : aup (zfF s e b (s 8 k) 4) b (s 8 k * 4 + s 10 k) (s 12 k) = apF s e b k := by
  funext x i
  unfold aup apF fch fwr fup zfF
  rw [if_pos h3]
  dsimp only
  by_cases h1 : x = e
  · subst h1
    rw [if_neg (fun y => hb y.symm), if_pos rfl]
    simp only [true_and]
    by_cases h : i = s 8 k
    · rw [if_pos h, if_pos h]
    · rw [if_neg h, if_neg h, if_neg (fun y => hb y.1.symm)]
  · rw [if_neg h1]
    by_cases h2 : x = b
    · subst h2
      simp only [h1, false_and, if_false, true_and, if_true]
      rw [if_neg hx]
      by_cases h : i = s 8 k * 4 + s 10 k
      · rw [if_pos h, if_pos (by omega)]
      · rw [if_neg h, if_neg (c := i = 4 * s 8 k + s 10 k) (by omega)]
    · rw [if_neg h2, if_neg h2, if_neg (fun y => h1 y.1), if_neg (fun y => h2 y.1)]
theorem ap_r {s : aS} {e b : Nat} (hb : b ≠ e) {k : Int} (h3 : s 4 k = 4) : aup s e (s 8 k) 0 = apF s e b k := by
  funext x i
  unfold aup apF fch fup
  rw [if_neg (c := s 4 k = 3) (by omega), if_pos (c := s 4 k = 4) h3]
  dsimp only
  by_cases h1 : x = e
  · subst h1
    rw [if_pos rfl, if_pos rfl]
  · rw [if_neg h1, if_neg h1]
    by_cases h2 : x = b
    · subst h2
      rw [if_pos rfl]
    · rw [if_neg h2]
theorem ap_c {s : aS} {e b : Nat} (hb : b ≠ e) {k : Int} (h3 : s 4 k = 5) : dpF s e b (s 8 k) (s 10 k) 4 = apF s e b k := by
  funext x i
  unfold dpF apF fch fcp fup
  rw [if_neg (c := s 4 k = 3) (by omega), if_neg (c := s 4 k = 4) (by omega), if_pos (c := s 4 k = 5) h3]
  dsimp only
  by_cases h1 : x = e
  · subst h1
    rw [if_pos rfl]
    simp only [true_and]
    by_cases h : i = s 10 k
    · rw [if_pos h, if_pos h]
    · rw [if_neg h, if_neg h, if_neg (fun y => hb y.1.symm)]
  · rw [if_neg h1, if_neg (fun y => h1 y.1)]
    by_cases h2 : x = b
    · subst h2
      simp only [true_and, if_true]
    · rw [if_neg h2, if_neg (fun y => h2 y.1)]
theorem ap_n {s : aS} {e b : Nat} {k : Int} (h3 : s 4 k ≠ 3) (h4 : s 4 k ≠ 4) (h5 : s 4 k ≠ 5) : apF s e b k = s := by
  funext x i
  unfold apF fch
  rw [if_neg h3, if_neg h4, if_neg h5]
  dsimp only
  by_cases h1 : x = e
  · subst h1; rw [if_pos rfl]
  · rw [if_neg h1]
    by_cases h2 : x = b
    · subst h2; rw [if_pos rfl]
    · rw [if_neg h2]
section AP
variable {g : qG} {s : aS} {d : Nat} {Q : Int32 → qS → Prop} {T : String → qS → Prop}
theorem k_putBlock39_l (hw : qWF g) {f p v : Int} (f0 : 0 ≤ f) (f1 : f < 8) (p0 : 0 ≤ p) (p1 : p < 4) (hQ : Q (iI 0) (qi (aup (zfF s 41 43 f 4) 43 (f * 4 + p) v))) : ∀ o : Int, 0 ≤ o → o ≤ 4 → qV g mX1_putBlock (d + 1) 0 24 [some (.inr 39), some (.inl (iI f)), some (.inl (iI p)), some (.inl (iI v)), some (.inl (iI o))] [] (qi (zfF s 41 43 f o)) Q T := by
  refine stepUp 4 (fun o ih o0 o1 => wX1_putBlockf39_24 hw ?_)
  by_cases h : o < 4
  · simp (disch := omega) only [z_app, z_rd, z_cl, z_add, z_sub, z_mul, z_neg, z_lit, z_leT, z_leF, z_ltT, z_ltF, z_eqT, z_eqF, i_leT, i_leF, i_ltT, i_ltF, i_eqT, i_eqF, z_le, z_lt, z_eq, z_ite, z_at, z_pt, z_up, z_wr, z_wi1, z_wi0, z_wi, z_inS, z_toInt, z_nb0, z_nb1, Int.cast_ofNat_Int, true_and, and_true, not_true_eq_false, not_false_eq_true, false_imp_iff, true_imp_iff, aup_o, aup_k, ite_true, ite_false, z_fa000, z_fa001, z_fa010, z_fa011, z_fa100, z_fa101, z_fa110, z_fa111, if_true, if_false]
    rw [zf_s (by decide) o0]
    exact ih h (by omega) (by omega)
  · have e : o = 4 := by omega
    subst e
    simp (disch := omega) only [z_app, z_rd, z_cl, z_add, z_sub, z_mul, z_neg, z_lit, z_leT, z_leF, z_ltT, z_ltF, z_eqT, z_eqF, i_leT, i_leF, i_ltT, i_ltF, i_eqT, i_eqF, z_le, z_lt, z_eq, z_ite, z_at, z_pt, z_up, z_wr, z_wi1, z_wi0, z_wi, z_inS, z_toInt, z_nb0, z_nb1, Int.cast_ofNat_Int, true_and, and_true, not_true_eq_false, not_false_eq_true, false_imp_iff, true_imp_iff, aup_o, aup_k, ite_true, ite_false, z_fa000, z_fa001, z_fa010, z_fa011, z_fa100, z_fa101, z_fa110, z_fa111, if_true, if_false]
    exact hQ
theorem k_duplicate39_l (hw : qWF g) {f t : Int} (f0 : 0 ≤ f) (f1 : f < 8) (t0 : 0 ≤ t) (t1 : t < 8) (hQ : Q (iI 0) (qi (dpF s 41 43 f t 4))) : ∀ o : Int, 0 ≤ o → o ≤ 4 → qV g mX1_duplicate (d + 1) 0 18 [some (.inr 39), some (.inl (iI f)), some (.inl (iI t)), some (.inl (iI o))] [] (qi (dpF s 41 43 f t o)) Q T := by
  refine stepUp 4 (fun o ih o0 o1 => wX1_duplicatef39_18 hw ?_)
  by_cases h : o < 4
  · simp (disch := omega) only [z_app, z_rd, z_cl, z_add, z_sub, z_mul, z_neg, z_lit, z_leT, z_leF, z_ltT, z_ltF, z_eqT, z_eqF, i_leT, i_leF, i_ltT, i_ltF, i_eqT, i_eqF, z_le, z_lt, z_eq, z_ite, z_at, z_pt, z_up, z_wr, z_wi1, z_wi0, z_wi, z_inS, z_toInt, z_nb0, z_nb1, Int.cast_ofNat_Int, true_and, and_true, not_true_eq_false, not_false_eq_true, false_imp_iff, true_imp_iff, aup_o, aup_k, ite_true, ite_false, z_fa000, z_fa001, z_fa010, z_fa011, z_fa100, z_fa101, z_fa110, z_fa111, if_true, if_false]
    rw [dp_s (by decide) o0 h]
    exact ih h (by omega) (by omega)
  · have e : o = 4 := by omega
    subst e
    simp (disch := omega) only [z_app, z_rd, z_cl, z_add, z_sub, z_mul, z_neg, z_lit, z_leT, z_leF, z_ltT, z_ltF, z_eqT, z_eqF, i_leT, i_leF, i_ltT, i_ltF, i_eqT, i_eqF, z_le, z_lt, z_eq, z_ite, z_at, z_pt, z_up, z_wr, z_wi1, z_wi0, z_wi, z_inS, z_toInt, z_nb0, z_nb1, Int.cast_ofNat_Int, true_and, and_true, not_true_eq_false, not_false_eq_true, false_imp_iff, true_imp_iff, aup_o, aup_k, ite_true, ite_false, z_fa000, z_fa001, z_fa010, z_fa011, z_fa100, z_fa101, z_fa110, z_fa111, if_true, if_false]
    exact hQ
theorem k_apply39 (hw : qWF g) {k : Int} (k0 : 0 ≤ k) (k1 : k < 400) (hR : jR1 s k) (hx : ∀ f, 0 ≤ f → f < 8 → s 41 f = 0 ∨ s 41 f = 1) (hQ : Q (iI 0) (qi (apF s 41 43 k))) : qC g (d + 2) mX1_apply [.inr 39, .inr 2, .inl (iI k)] (qi s) Q T := by
  obtain ⟨⟨t0, t1⟩, ⟨a0, a1⟩, ⟨b0, b1⟩, ⟨c0, c1⟩, -, h3, h4, h5, -, -⟩ := hR
  refine wX1_applyf39 hw ?_
  by_cases c3 : s 4 k = 3
  · have H := h3 c3
    have X := hx (s 8 k) a0 H.1
    simp (disch := omega) only [z_app, z_rd, z_cl, z_add, z_sub, z_mul, z_neg, z_lit, z_leT, z_leF, z_ltT, z_ltF, z_eqT, z_eqF, i_leT, i_leF, i_ltT, i_ltF, i_eqT, i_eqF, z_le, z_lt, z_eq, z_ite, z_at, z_pt, z_up, z_wr, z_wi1, z_wi0, z_wi, z_inS, z_toInt, z_nb0, z_nb1, Int.cast_ofNat_Int, true_and, and_true, not_true_eq_false, not_false_eq_true, false_imp_iff, true_imp_iff, aup_o, aup_k, ite_true, ite_false, z_fa000, z_fa001, z_fa010, z_fa011, z_fa100, z_fa101, z_fa110, z_fa111, if_true, if_false]
    refine wX1_putBlockf39 hw ?_
    by_cases hh : s 41 (s 8 k) = 1
    · simp (disch := omega) only [z_app, z_rd, z_cl, z_add, z_sub, z_mul, z_neg, z_lit, z_leT, z_leF, z_ltT, z_ltF, z_eqT, z_eqF, i_leT, i_leF, i_ltT, i_ltF, i_eqT, i_eqF, z_le, z_lt, z_eq, z_ite, z_at, z_pt, z_up, z_wr, z_wi1, z_wi0, z_wi, z_inS, z_toInt, z_nb0, z_nb1, Int.cast_ofNat_Int, true_and, and_true, not_true_eq_false, not_false_eq_true, false_imp_iff, true_imp_iff, aup_o, aup_k, ite_true, ite_false, z_fa000, z_fa001, z_fa010, z_fa011, z_fa100, z_fa101, z_fa110, z_fa111, if_true, if_false]
      rw [ap_w1 (by decide) c3 hh]
      exact hQ
    · simp (disch := omega) only [z_app, z_rd, z_cl, z_add, z_sub, z_mul, z_neg, z_lit, z_leT, z_leF, z_ltT, z_ltF, z_eqT, z_eqF, i_leT, i_leF, i_ltT, i_ltF, i_eqT, i_eqF, z_le, z_lt, z_eq, z_ite, z_at, z_pt, z_up, z_wr, z_wi1, z_wi0, z_wi, z_inS, z_toInt, z_nb0, z_nb1, Int.cast_ofNat_Int, true_and, and_true, not_true_eq_false, not_false_eq_true, false_imp_iff, true_imp_iff, aup_o, aup_k, ite_true, ite_false, z_fa000, z_fa001, z_fa010, z_fa011, z_fa100, z_fa101, z_fa110, z_fa111, if_true, if_false]
      have e0 : aup s 41 (s 8 k) 1 = zfF s 41 43 (s 8 k) 0 := by
        funext x i
        unfold aup zfF
        by_cases h1 : x = 41
        · by_cases h2 : i = s 8 k
          · rw [if_pos h1, if_pos h2, if_pos ⟨h1, h2⟩]
          · rw [if_pos h1, if_neg h2, if_neg (fun y => h2 y.2), if_neg (by omega)]
        · rw [if_neg h1, if_neg (fun y => h1 y.1), if_neg (by omega)]
      rw [e0]
      refine k_putBlock39_l hw a0 H.1 b0 H.2 ?_ 0 (by omega) (by omega)
      rw [ap_w0 (by decide) c3 hh]
      exact hQ
  · by_cases c4 : s 4 k = 4
    · have H := h4 c4
      simp (disch := omega) only [z_app, z_rd, z_cl, z_add, z_sub, z_mul, z_neg, z_lit, z_leT, z_leF, z_ltT, z_ltF, z_eqT, z_eqF, i_leT, i_leF, i_ltT, i_ltF, i_eqT, i_eqF, z_le, z_lt, z_eq, z_ite, z_at, z_pt, z_up, z_wr, z_wi1, z_wi0, z_wi, z_inS, z_toInt, z_nb0, z_nb1, Int.cast_ofNat_Int, true_and, and_true, not_true_eq_false, not_false_eq_true, false_imp_iff, true_imp_iff, aup_o, aup_k, ite_true, ite_false, z_fa000, z_fa001, z_fa010, z_fa011, z_fa100, z_fa101, z_fa110, z_fa111, if_true, if_false]
      rw [ap_r (b := 43) (by decide) c4]
      exact hQ
    · by_cases c5 : s 4 k = 5
      · have H := h5 c5
        have X := hx (s 8 k) a0 H.1
        simp (disch := omega) only [z_app, z_rd, z_cl, z_add, z_sub, z_mul, z_neg, z_lit, z_leT, z_leF, z_ltT, z_ltF, z_eqT, z_eqF, i_leT, i_leF, i_ltT, i_ltF, i_eqT, i_eqF, z_le, z_lt, z_eq, z_ite, z_at, z_pt, z_up, z_wr, z_wi1, z_wi0, z_wi, z_inS, z_toInt, z_nb0, z_nb1, Int.cast_ofNat_Int, true_and, and_true, not_true_eq_false, not_false_eq_true, false_imp_iff, true_imp_iff, aup_o, aup_k, ite_true, ite_false, z_fa000, z_fa001, z_fa010, z_fa011, z_fa100, z_fa101, z_fa110, z_fa111, if_true, if_false]
        refine wX1_duplicatef39 hw ?_
        simp (disch := omega) only [z_app, z_rd, z_cl, z_add, z_sub, z_mul, z_neg, z_lit, z_leT, z_leF, z_ltT, z_ltF, z_eqT, z_eqF, i_leT, i_leF, i_ltT, i_ltF, i_eqT, i_eqF, z_le, z_lt, z_eq, z_ite, z_at, z_pt, z_up, z_wr, z_wi1, z_wi0, z_wi, z_inS, z_toInt, z_nb0, z_nb1, Int.cast_ofNat_Int, true_and, and_true, not_true_eq_false, not_false_eq_true, false_imp_iff, true_imp_iff, aup_o, aup_k, ite_true, ite_false, z_fa000, z_fa001, z_fa010, z_fa011, z_fa100, z_fa101, z_fa110, z_fa111, if_true, if_false]
        have e0 : aup s 41 (s 10 k) (s 41 (s 8 k)) = dpF s 41 43 (s 8 k) (s 10 k) 0 := by
          funext x i
          unfold aup dpF
          by_cases h1 : x = 41
          · by_cases h2 : i = s 10 k
            · rw [if_pos h1, if_pos h2, if_pos ⟨h1, h2⟩]
            · rw [if_pos h1, if_neg h2, if_neg (fun y => h2 y.2), if_neg (by omega)]
          · rw [if_neg h1, if_neg (fun y => h1 y.1), if_neg (by omega)]
        rw [e0]
        refine k_duplicate39_l hw a0 H.1 b0 H.2 ?_ 0 (by omega) (by omega)
        rw [ap_c (by decide) c5]
        exact hQ
      · rw [ap_n c3 c4 c5] at hQ
        simp (disch := omega) only [z_app, z_rd, z_cl, z_add, z_sub, z_mul, z_neg, z_lit, z_leT, z_leF, z_ltT, z_ltF, z_eqT, z_eqF, i_leT, i_leF, i_ltT, i_ltF, i_eqT, i_eqF, z_le, z_lt, z_eq, z_ite, z_at, z_pt, z_up, z_wr, z_wi1, z_wi0, z_wi, z_inS, z_toInt, z_nb0, z_nb1, Int.cast_ofNat_Int, true_and, and_true, not_true_eq_false, not_false_eq_true, false_imp_iff, true_imp_iff, aup_o, aup_k, ite_true, ite_false, z_fa000, z_fa001, z_fa010, z_fa011, z_fa100, z_fa101, z_fa110, z_fa111, if_true, if_false]
        exact hQ
theorem k_putBlock49_l (hw : qWF g) {f p v : Int} (f0 : 0 ≤ f) (f1 : f < 8) (p0 : 0 ≤ p) (p1 : p < 4) (hQ : Q (iI 0) (qi (aup (zfF s 51 53 f 4) 53 (f * 4 + p) v))) : ∀ o : Int, 0 ≤ o → o ≤ 4 → qV g mX1_putBlock (d + 1) 0 24 [some (.inr 49), some (.inl (iI f)), some (.inl (iI p)), some (.inl (iI v)), some (.inl (iI o))] [] (qi (zfF s 51 53 f o)) Q T := by
  refine stepUp 4 (fun o ih o0 o1 => wX1_putBlockf49_24 hw ?_)
  by_cases h : o < 4
  · simp (disch := omega) only [z_app, z_rd, z_cl, z_add, z_sub, z_mul, z_neg, z_lit, z_leT, z_leF, z_ltT, z_ltF, z_eqT, z_eqF, i_leT, i_leF, i_ltT, i_ltF, i_eqT, i_eqF, z_le, z_lt, z_eq, z_ite, z_at, z_pt, z_up, z_wr, z_wi1, z_wi0, z_wi, z_inS, z_toInt, z_nb0, z_nb1, Int.cast_ofNat_Int, true_and, and_true, not_true_eq_false, not_false_eq_true, false_imp_iff, true_imp_iff, aup_o, aup_k, ite_true, ite_false, z_fa000, z_fa001, z_fa010, z_fa011, z_fa100, z_fa101, z_fa110, z_fa111, if_true, if_false]
    rw [zf_s (by decide) o0]
    exact ih h (by omega) (by omega)
  · have e : o = 4 := by omega
    subst e
    simp (disch := omega) only [z_app, z_rd, z_cl, z_add, z_sub, z_mul, z_neg, z_lit, z_leT, z_leF, z_ltT, z_ltF, z_eqT, z_eqF, i_leT, i_leF, i_ltT, i_ltF, i_eqT, i_eqF, z_le, z_lt, z_eq, z_ite, z_at, z_pt, z_up, z_wr, z_wi1, z_wi0, z_wi, z_inS, z_toInt, z_nb0, z_nb1, Int.cast_ofNat_Int, true_and, and_true, not_true_eq_false, not_false_eq_true, false_imp_iff, true_imp_iff, aup_o, aup_k, ite_true, ite_false, z_fa000, z_fa001, z_fa010, z_fa011, z_fa100, z_fa101, z_fa110, z_fa111, if_true, if_false]
    exact hQ
theorem k_duplicate49_l (hw : qWF g) {f t : Int} (f0 : 0 ≤ f) (f1 : f < 8) (t0 : 0 ≤ t) (t1 : t < 8) (hQ : Q (iI 0) (qi (dpF s 51 53 f t 4))) : ∀ o : Int, 0 ≤ o → o ≤ 4 → qV g mX1_duplicate (d + 1) 0 18 [some (.inr 49), some (.inl (iI f)), some (.inl (iI t)), some (.inl (iI o))] [] (qi (dpF s 51 53 f t o)) Q T := by
  refine stepUp 4 (fun o ih o0 o1 => wX1_duplicatef49_18 hw ?_)
  by_cases h : o < 4
  · simp (disch := omega) only [z_app, z_rd, z_cl, z_add, z_sub, z_mul, z_neg, z_lit, z_leT, z_leF, z_ltT, z_ltF, z_eqT, z_eqF, i_leT, i_leF, i_ltT, i_ltF, i_eqT, i_eqF, z_le, z_lt, z_eq, z_ite, z_at, z_pt, z_up, z_wr, z_wi1, z_wi0, z_wi, z_inS, z_toInt, z_nb0, z_nb1, Int.cast_ofNat_Int, true_and, and_true, not_true_eq_false, not_false_eq_true, false_imp_iff, true_imp_iff, aup_o, aup_k, ite_true, ite_false, z_fa000, z_fa001, z_fa010, z_fa011, z_fa100, z_fa101, z_fa110, z_fa111, if_true, if_false]
    rw [dp_s (by decide) o0 h]
    exact ih h (by omega) (by omega)
  · have e : o = 4 := by omega
    subst e
    simp (disch := omega) only [z_app, z_rd, z_cl, z_add, z_sub, z_mul, z_neg, z_lit, z_leT, z_leF, z_ltT, z_ltF, z_eqT, z_eqF, i_leT, i_leF, i_ltT, i_ltF, i_eqT, i_eqF, z_le, z_lt, z_eq, z_ite, z_at, z_pt, z_up, z_wr, z_wi1, z_wi0, z_wi, z_inS, z_toInt, z_nb0, z_nb1, Int.cast_ofNat_Int, true_and, and_true, not_true_eq_false, not_false_eq_true, false_imp_iff, true_imp_iff, aup_o, aup_k, ite_true, ite_false, z_fa000, z_fa001, z_fa010, z_fa011, z_fa100, z_fa101, z_fa110, z_fa111, if_true, if_false]
    exact hQ
theorem k_apply49 (hw : qWF g) {k : Int} (k0 : 0 ≤ k) (k1 : k < 400) (hR : jR1 s k) (hx : ∀ f, 0 ≤ f → f < 8 → s 51 f = 0 ∨ s 51 f = 1) (hQ : Q (iI 0) (qi (apF s 51 53 k))) : qC g (d + 2) mX1_apply [.inr 49, .inr 2, .inl (iI k)] (qi s) Q T := by
  obtain ⟨⟨t0, t1⟩, ⟨a0, a1⟩, ⟨b0, b1⟩, ⟨c0, c1⟩, -, h3, h4, h5, -, -⟩ := hR
  refine wX1_applyf49 hw ?_
  by_cases c3 : s 4 k = 3
  · have H := h3 c3
    have X := hx (s 8 k) a0 H.1
    simp (disch := omega) only [z_app, z_rd, z_cl, z_add, z_sub, z_mul, z_neg, z_lit, z_leT, z_leF, z_ltT, z_ltF, z_eqT, z_eqF, i_leT, i_leF, i_ltT, i_ltF, i_eqT, i_eqF, z_le, z_lt, z_eq, z_ite, z_at, z_pt, z_up, z_wr, z_wi1, z_wi0, z_wi, z_inS, z_toInt, z_nb0, z_nb1, Int.cast_ofNat_Int, true_and, and_true, not_true_eq_false, not_false_eq_true, false_imp_iff, true_imp_iff, aup_o, aup_k, ite_true, ite_false, z_fa000, z_fa001, z_fa010, z_fa011, z_fa100, z_fa101, z_fa110, z_fa111, if_true, if_false]
    refine wX1_putBlockf49 hw ?_
    by_cases hh : s 51 (s 8 k) = 1
    · simp (disch := omega) only [z_app, z_rd, z_cl, z_add, z_sub, z_mul, z_neg, z_lit, z_leT, z_leF, z_ltT, z_ltF, z_eqT, z_eqF, i_leT, i_leF, i_ltT, i_ltF, i_eqT, i_eqF, z_le, z_lt, z_eq, z_ite, z_at, z_pt, z_up, z_wr, z_wi1, z_wi0, z_wi, z_inS, z_toInt, z_nb0, z_nb1, Int.cast_ofNat_Int, true_and, and_true, not_true_eq_false, not_false_eq_true, false_imp_iff, true_imp_iff, aup_o, aup_k, ite_true, ite_false, z_fa000, z_fa001, z_fa010, z_fa011, z_fa100, z_fa101, z_fa110, z_fa111, if_true, if_false]
      rw [ap_w1 (by decide) c3 hh]
      exact hQ
    · simp (disch := omega) only [z_app, z_rd, z_cl, z_add, z_sub, z_mul, z_neg, z_lit, z_leT, z_leF, z_ltT, z_ltF, z_eqT, z_eqF, i_leT, i_leF, i_ltT, i_ltF, i_eqT, i_eqF, z_le, z_lt, z_eq, z_ite, z_at, z_pt, z_up, z_wr, z_wi1, z_wi0, z_wi, z_inS, z_toInt, z_nb0, z_nb1, Int.cast_ofNat_Int, true_and, and_true, not_true_eq_false, not_false_eq_true, false_imp_iff, true_imp_iff, aup_o, aup_k, ite_true, ite_false, z_fa000, z_fa001, z_fa010, z_fa011, z_fa100, z_fa101, z_fa110, z_fa111, if_true, if_false]
      have e0 : aup s 51 (s 8 k) 1 = zfF s 51 53 (s 8 k) 0 := by
        funext x i
        unfold aup zfF
        by_cases h1 : x = 51
        · by_cases h2 : i = s 8 k
          · rw [if_pos h1, if_pos h2, if_pos ⟨h1, h2⟩]
          · rw [if_pos h1, if_neg h2, if_neg (fun y => h2 y.2), if_neg (by omega)]
        · rw [if_neg h1, if_neg (fun y => h1 y.1), if_neg (by omega)]
      rw [e0]
      refine k_putBlock49_l hw a0 H.1 b0 H.2 ?_ 0 (by omega) (by omega)
      rw [ap_w0 (by decide) c3 hh]
      exact hQ
  · by_cases c4 : s 4 k = 4
    · have H := h4 c4
      simp (disch := omega) only [z_app, z_rd, z_cl, z_add, z_sub, z_mul, z_neg, z_lit, z_leT, z_leF, z_ltT, z_ltF, z_eqT, z_eqF, i_leT, i_leF, i_ltT, i_ltF, i_eqT, i_eqF, z_le, z_lt, z_eq, z_ite, z_at, z_pt, z_up, z_wr, z_wi1, z_wi0, z_wi, z_inS, z_toInt, z_nb0, z_nb1, Int.cast_ofNat_Int, true_and, and_true, not_true_eq_false, not_false_eq_true, false_imp_iff, true_imp_iff, aup_o, aup_k, ite_true, ite_false, z_fa000, z_fa001, z_fa010, z_fa011, z_fa100, z_fa101, z_fa110, z_fa111, if_true, if_false]
      rw [ap_r (b := 53) (by decide) c4]
      exact hQ
    · by_cases c5 : s 4 k = 5
      · have H := h5 c5
        have X := hx (s 8 k) a0 H.1
        simp (disch := omega) only [z_app, z_rd, z_cl, z_add, z_sub, z_mul, z_neg, z_lit, z_leT, z_leF, z_ltT, z_ltF, z_eqT, z_eqF, i_leT, i_leF, i_ltT, i_ltF, i_eqT, i_eqF, z_le, z_lt, z_eq, z_ite, z_at, z_pt, z_up, z_wr, z_wi1, z_wi0, z_wi, z_inS, z_toInt, z_nb0, z_nb1, Int.cast_ofNat_Int, true_and, and_true, not_true_eq_false, not_false_eq_true, false_imp_iff, true_imp_iff, aup_o, aup_k, ite_true, ite_false, z_fa000, z_fa001, z_fa010, z_fa011, z_fa100, z_fa101, z_fa110, z_fa111, if_true, if_false]
        refine wX1_duplicatef49 hw ?_
        simp (disch := omega) only [z_app, z_rd, z_cl, z_add, z_sub, z_mul, z_neg, z_lit, z_leT, z_leF, z_ltT, z_ltF, z_eqT, z_eqF, i_leT, i_leF, i_ltT, i_ltF, i_eqT, i_eqF, z_le, z_lt, z_eq, z_ite, z_at, z_pt, z_up, z_wr, z_wi1, z_wi0, z_wi, z_inS, z_toInt, z_nb0, z_nb1, Int.cast_ofNat_Int, true_and, and_true, not_true_eq_false, not_false_eq_true, false_imp_iff, true_imp_iff, aup_o, aup_k, ite_true, ite_false, z_fa000, z_fa001, z_fa010, z_fa011, z_fa100, z_fa101, z_fa110, z_fa111, if_true, if_false]
        have e0 : aup s 51 (s 10 k) (s 51 (s 8 k)) = dpF s 51 53 (s 8 k) (s 10 k) 0 := by
          funext x i
          unfold aup dpF
          by_cases h1 : x = 51
          · by_cases h2 : i = s 10 k
            · rw [if_pos h1, if_pos h2, if_pos ⟨h1, h2⟩]
            · rw [if_pos h1, if_neg h2, if_neg (fun y => h2 y.2), if_neg (by omega)]
          · rw [if_neg h1, if_neg (fun y => h1 y.1), if_neg (by omega)]
        rw [e0]
        refine k_duplicate49_l hw a0 H.1 b0 H.2 ?_ 0 (by omega) (by omega)
        rw [ap_c (by decide) c5]
        exact hQ
      · rw [ap_n c3 c4 c5] at hQ
        simp (disch := omega) only [z_app, z_rd, z_cl, z_add, z_sub, z_mul, z_neg, z_lit, z_leT, z_leF, z_ltT, z_ltF, z_eqT, z_eqF, i_leT, i_leF, i_ltT, i_ltF, i_eqT, i_eqF, z_le, z_lt, z_eq, z_ite, z_at, z_pt, z_up, z_wr, z_wi1, z_wi0, z_wi, z_inS, z_toInt, z_nb0, z_nb1, Int.cast_ofNat_Int, true_and, and_true, not_true_eq_false, not_false_eq_true, false_imp_iff, true_imp_iff, aup_o, aup_k, ite_true, ite_false, z_fa000, z_fa001, z_fa010, z_fa011, z_fa100, z_fa101, z_fa110, z_fa111, if_true, if_false]
        exact hQ
end AP
