/-! ===== what an operation needs: the class's refusal ===== -/
def frT (s : aS) : Int := fI (fun t => decide (s 55 t = -1)) 0 4
def bI (s : aS) (wd a b tx : Int) : Prop := (tx ≠ -1 ∧ (tx < 0 ∨ 3 < tx)) ∨ ((wd = 257 ∨ wd = 258 ∨ wd = 262 ∨ wd = 263) ∧ (a < 0 ∨ 3 < a)) ∨ ((wd = 259 ∨ wd = 260 ∨ wd = 261) ∧ (a < 0 ∨ 7 < a)) ∨ (wd = 259 ∧ (b < 0 ∨ 3 < b)) ∨ (wd = 261 ∧ (b < 0 ∨ 7 < b)) ∨ (wd = 264 ∧ (a < 0 ∨ s 26 6 ≤ a))
def bA (wd a b c : Int) : Prop := (wd = 259 ∧ (c < 0 ∨ 9999 < c)) ∨ (wd = 261 ∧ a = b) ∨ (wd = 262 ∧ ((b < 0 ∨ 9999 < b) ∨ (c < 0 ∨ 20 < c))) ∨ (wd = 264 ∧ (b < 1 ∨ 50 < b))
def bS (s : aS) (wd a tx : Int) : Prop := wd ≠ 265 ∧ (400 ≤ s 2 9 ∨ (tx ≠ -1 ∧ s 55 tx = -1) ∨ (wd = 256 ∧ frT s = 4) ∨ ((wd = 257 ∨ wd = 258) ∧ s 55 a = -1) ∨ (wd = 263 ∧ 6 ≤ s 26 6))
def wdR (wd : Int) : Prop := 256 ≤ wd ∧ wd ≤ 266
theorem wd_c {wd : Int} (h : wdR wd) : wd = 256 ∨ wd = 257 ∨ wd = 258 ∨ wd = 259 ∨ wd = 260 ∨ wd = 261 ∨ wd = 262 ∨ wd = 263 ∨ wd = 264 ∨ wd = 265 ∨ wd = 266 := by
  unfold wdR at h
  omega
def i32 (z : Int) : Prop := -2147483648 ≤ z ∧ z < 2147483648
section RF
variable {g : qG} {s : aS} {d : Nat} {Q : Int32 → qS → Prop} {T : String → qS → Prop}
theorem k_freeTransaction_l (hw : qWF g) (hJ : jJ s) : ∀ t : Int, 0 ≤ t → t ≤ 4 → (fI (fun t => decide (s 55 t = -1)) t 4 = 4 → Q (iI (-1)) (qi s)) → (fI (fun t => decide (s 55 t = -1)) t 4 < 4 → Q (iI (fI (fun t => decide (s 55 t = -1)) t 4)) (qi s)) → qV g mX2_freeTransaction (d + 1) 0 2 [some (.inr 1), some (.inl (iI t))] [] (qi s) Q T := by
  refine stepUp 4 (fun t ih t0 t1 h1 h2 => wX2_freeTransaction_2 hw ?_)
  by_cases h : t < 4
  · have J := jt hJ t0 h
    rw [fI_f h] at h1 h2
    by_cases hb : s 55 t = -1
    · rw [if_pos (decide_eq_true hb)] at h1 h2
      simp (disch := omega) only [z_app, z_rd, z_cl, z_add, z_sub, z_mul, z_neg, z_lit, z_leT, z_leF, z_ltT, z_ltF, z_eqT, z_eqF, i_leT, i_leF, i_ltT, i_ltF, i_eqT, i_eqF, z_le, z_lt, z_eq, z_ite, z_at, z_pt, z_up, z_wr, z_wi1, z_wi0, z_wi, z_inS, z_toInt, z_nb0, z_nb1, Int.cast_ofNat_Int, true_and, and_true, not_true_eq_false, not_false_eq_true, false_imp_iff, true_imp_iff, aup_o, aup_k, ite_true, ite_false, z_fa000, z_fa001, z_fa010, z_fa011, z_fa100, z_fa101, z_fa110, z_fa111, if_true, if_false]
      exact h2 h
    · rw [if_neg (by simpa using hb)] at h1 h2
      simp (disch := omega) only [z_app, z_rd, z_cl, z_add, z_sub, z_mul, z_neg, z_lit, z_leT, z_leF, z_ltT, z_ltF, z_eqT, z_eqF, i_leT, i_leF, i_ltT, i_ltF, i_eqT, i_eqF, z_le, z_lt, z_eq, z_ite, z_at, z_pt, z_up, z_wr, z_wi1, z_wi0, z_wi, z_inS, z_toInt, z_nb0, z_nb1, Int.cast_ofNat_Int, true_and, and_true, not_true_eq_false, not_false_eq_true, false_imp_iff, true_imp_iff, aup_o, aup_k, ite_true, ite_false, z_fa000, z_fa001, z_fa010, z_fa011, z_fa100, z_fa101, z_fa110, z_fa111, if_true, if_false]
      exact ih h (by omega) (by omega) h1 h2
  · rw [fI_e (by omega)] at h1
    simp (disch := omega) only [z_app, z_rd, z_cl, z_add, z_sub, z_mul, z_neg, z_lit, z_leT, z_leF, z_ltT, z_ltF, z_eqT, z_eqF, i_leT, i_leF, i_ltT, i_ltF, i_eqT, i_eqF, z_le, z_lt, z_eq, z_ite, z_at, z_pt, z_up, z_wr, z_wi1, z_wi0, z_wi, z_inS, z_toInt, z_nb0, z_nb1, Int.cast_ofNat_Int, true_and, and_true, not_true_eq_false, not_false_eq_true, false_imp_iff, true_imp_iff, aup_o, aup_k, ite_true, ite_false, z_fa000, z_fa001, z_fa010, z_fa011, z_fa100, z_fa101, z_fa110, z_fa111, if_true, if_false]
    exact h1 (by omega)
theorem k_freeTransaction (hw : qWF g) (hJ : jJ s) (h1 : frT s = 4 → Q (iI (-1)) (qi s)) (h2 : frT s < 4 → Q (iI (frT s)) (qi s)) : qC g (d + 1) mX2_freeTransaction [.inr 1] (qi s) Q T :=
  wX2_freeTransaction hw ⟨rfl, k_freeTransaction_l hw hJ 0 (by omega) (by omega) h1 h2⟩
theorem frT_b (s : aS) : 0 ≤ frT s ∧ frT s ≤ 4 ∧ (frT s < 4 → s 55 (frT s) = -1) := by
  have F := fI_b (p := fun t => decide (s 55 t = -1)) (hi := 4) 0 (by omega)
  exact ⟨F.1, F.2.1, fun h => of_decide_eq_true (F.2.2.2 h)⟩
theorem k_bi256 (hw : qWF g) (hJ : jJ s) {a b tx : Int} (ia : i32 a) (ib : i32 b) (it : i32 tx) (h1 : bI s 256 a b tx → Q (iI 1) (qi s)) (h0 : ¬ bI s 256 a b tx → Q (iI 0) (qi s)) : qC g (d + 1) mX2_isBadIndex [.inr 1, .inl (iI 256), .inl (iI a), .inl (iI b), .inl (iI tx)] (qi s) Q T := by
  have B : 0 ≤ s 26 6 ∧ s 26 6 ≤ 6 := by have := jb hJ; omega
  unfold i32 at ia ib it
  refine wX2_isBadIndex hw ?_
  simp only [show (iI 256).toInt = 256 from z_toInt (by decide) (by decide), Int.reduceEq, false_imp_iff, true_imp_iff, not_true_eq_false, not_false_eq_true, true_and, and_true]
  by_cases tn : tx = -1
  · simp (disch := omega) only [z_app, z_lit, z_neg, z_wi1, z_wi0, z_leT, z_leF, z_ltT, z_ltF, z_eqT, z_eqF, Int.cast_ofNat_Int, true_and, and_true, not_true_eq_false, not_false_eq_true, false_imp_iff, true_imp_iff, ite_true, ite_false, if_true, if_false, or_self, or_true, true_or, or_false, false_or]
    exact h0 (by unfold bI; omega)
  · by_cases tr : 0 ≤ tx ∧ tx ≤ 3
    · simp (disch := omega) only [z_app, z_lit, z_neg, z_wi1, z_wi0, z_leT, z_leF, z_ltT, z_ltF, z_eqT, z_eqF, Int.cast_ofNat_Int, true_and, and_true, not_true_eq_false, not_false_eq_true, false_imp_iff, true_imp_iff, ite_true, ite_false, if_true, if_false, or_self, or_true, true_or, or_false, false_or]
      exact h0 (by unfold bI; omega)
    · simp (disch := omega) only [z_app, z_lit, z_neg, z_wi1, z_wi0, z_leT, z_leF, z_ltT, z_ltF, z_eqT, z_eqF, Int.cast_ofNat_Int, true_and, and_true, not_true_eq_false, not_false_eq_true, false_imp_iff, true_imp_iff, ite_true, ite_false, if_true, if_false, or_self, or_true, true_or, or_false, false_or]
      exact h1 (by unfold bI; omega)
theorem k_bi257 (hw : qWF g) (hJ : jJ s) {a b tx : Int} (ia : i32 a) (ib : i32 b) (it : i32 tx) (h1 : bI s 257 a b tx → Q (iI 1) (qi s)) (h0 : ¬ bI s 257 a b tx → Q (iI 0) (qi s)) : qC g (d + 1) mX2_isBadIndex [.inr 1, .inl (iI 257), .inl (iI a), .inl (iI b), .inl (iI tx)] (qi s) Q T := by
  have B : 0 ≤ s 26 6 ∧ s 26 6 ≤ 6 := by have := jb hJ; omega
  unfold i32 at ia ib it
  refine wX2_isBadIndex hw ?_
  simp only [show (iI 257).toInt = 257 from z_toInt (by decide) (by decide), Int.reduceEq, false_imp_iff, true_imp_iff, not_true_eq_false, not_false_eq_true, true_and, and_true]
  by_cases tn : tx = -1
  · by_cases ha : 0 ≤ a ∧ a ≤ 3
    · simp (disch := omega) only [z_app, z_lit, z_neg, z_wi1, z_wi0, z_leT, z_leF, z_ltT, z_ltF, z_eqT, z_eqF, Int.cast_ofNat_Int, true_and, and_true, not_true_eq_false, not_false_eq_true, false_imp_iff, true_imp_iff, ite_true, ite_false, if_true, if_false, or_self, or_true, true_or, or_false, false_or]
      exact h0 (by unfold bI; omega)
    · simp (disch := omega) only [z_app, z_lit, z_neg, z_wi1, z_wi0, z_leT, z_leF, z_ltT, z_ltF, z_eqT, z_eqF, Int.cast_ofNat_Int, true_and, and_true, not_true_eq_false, not_false_eq_true, false_imp_iff, true_imp_iff, ite_true, ite_false, if_true, if_false, or_self, or_true, true_or, or_false, false_or]
      exact h1 (by unfold bI; omega)
  · by_cases tr : 0 ≤ tx ∧ tx ≤ 3
    · by_cases ha : 0 ≤ a ∧ a ≤ 3
      · simp (disch := omega) only [z_app, z_lit, z_neg, z_wi1, z_wi0, z_leT, z_leF, z_ltT, z_ltF, z_eqT, z_eqF, Int.cast_ofNat_Int, true_and, and_true, not_true_eq_false, not_false_eq_true, false_imp_iff, true_imp_iff, ite_true, ite_false, if_true, if_false, or_self, or_true, true_or, or_false, false_or]
        exact h0 (by unfold bI; omega)
      · simp (disch := omega) only [z_app, z_lit, z_neg, z_wi1, z_wi0, z_leT, z_leF, z_ltT, z_ltF, z_eqT, z_eqF, Int.cast_ofNat_Int, true_and, and_true, not_true_eq_false, not_false_eq_true, false_imp_iff, true_imp_iff, ite_true, ite_false, if_true, if_false, or_self, or_true, true_or, or_false, false_or]
        exact h1 (by unfold bI; omega)
    · simp (disch := omega) only [z_app, z_lit, z_neg, z_wi1, z_wi0, z_leT, z_leF, z_ltT, z_ltF, z_eqT, z_eqF, Int.cast_ofNat_Int, true_and, and_true, not_true_eq_false, not_false_eq_true, false_imp_iff, true_imp_iff, ite_true, ite_false, if_true, if_false, or_self, or_true, true_or, or_false, false_or]
      exact h1 (by unfold bI; omega)
theorem k_bi258 (hw : qWF g) (hJ : jJ s) {a b tx : Int} (ia : i32 a) (ib : i32 b) (it : i32 tx) (h1 : bI s 258 a b tx → Q (iI 1) (qi s)) (h0 : ¬ bI s 258 a b tx → Q (iI 0) (qi s)) : qC g (d + 1) mX2_isBadIndex [.inr 1, .inl (iI 258), .inl (iI a), .inl (iI b), .inl (iI tx)] (qi s) Q T := by
  have B : 0 ≤ s 26 6 ∧ s 26 6 ≤ 6 := by have := jb hJ; omega
  unfold i32 at ia ib it
  refine wX2_isBadIndex hw ?_
  simp only [show (iI 258).toInt = 258 from z_toInt (by decide) (by decide), Int.reduceEq, false_imp_iff, true_imp_iff, not_true_eq_false, not_false_eq_true, true_and, and_true]
  by_cases tn : tx = -1
  · by_cases ha : 0 ≤ a ∧ a ≤ 3
    · simp (disch := omega) only [z_app, z_lit, z_neg, z_wi1, z_wi0, z_leT, z_leF, z_ltT, z_ltF, z_eqT, z_eqF, Int.cast_ofNat_Int, true_and, and_true, not_true_eq_false, not_false_eq_true, false_imp_iff, true_imp_iff, ite_true, ite_false, if_true, if_false, or_self, or_true, true_or, or_false, false_or]
      exact h0 (by unfold bI; omega)
    · simp (disch := omega) only [z_app, z_lit, z_neg, z_wi1, z_wi0, z_leT, z_leF, z_ltT, z_ltF, z_eqT, z_eqF, Int.cast_ofNat_Int, true_and, and_true, not_true_eq_false, not_false_eq_true, false_imp_iff, true_imp_iff, ite_true, ite_false, if_true, if_false, or_self, or_true, true_or, or_false, false_or]
      exact h1 (by unfold bI; omega)
  · by_cases tr : 0 ≤ tx ∧ tx ≤ 3
    · by_cases ha : 0 ≤ a ∧ a ≤ 3
      · simp (disch := omega) only [z_app, z_lit, z_neg, z_wi1, z_wi0, z_leT, z_leF, z_ltT, z_ltF, z_eqT, z_eqF, Int.cast_ofNat_Int, true_and, and_true, not_true_eq_false, not_false_eq_true, false_imp_iff, true_imp_iff, ite_true, ite_false, if_true, if_false, or_self, or_true, true_or, or_false, false_or]
        exact h0 (by unfold bI; omega)
      · simp (disch := omega) only [z_app, z_lit, z_neg, z_wi1, z_wi0, z_leT, z_leF, z_ltT, z_ltF, z_eqT, z_eqF, Int.cast_ofNat_Int, true_and, and_true, not_true_eq_false, not_false_eq_true, false_imp_iff, true_imp_iff, ite_true, ite_false, if_true, if_false, or_self, or_true, true_or, or_false, false_or]
        exact h1 (by unfold bI; omega)
    · simp (disch := omega) only [z_app, z_lit, z_neg, z_wi1, z_wi0, z_leT, z_leF, z_ltT, z_ltF, z_eqT, z_eqF, Int.cast_ofNat_Int, true_and, and_true, not_true_eq_false, not_false_eq_true, false_imp_iff, true_imp_iff, ite_true, ite_false, if_true, if_false, or_self, or_true, true_or, or_false, false_or]
      exact h1 (by unfold bI; omega)
theorem k_bi259 (hw : qWF g) (hJ : jJ s) {a b tx : Int} (ia : i32 a) (ib : i32 b) (it : i32 tx) (h1 : bI s 259 a b tx → Q (iI 1) (qi s)) (h0 : ¬ bI s 259 a b tx → Q (iI 0) (qi s)) : qC g (d + 1) mX2_isBadIndex [.inr 1, .inl (iI 259), .inl (iI a), .inl (iI b), .inl (iI tx)] (qi s) Q T := by
  have B : 0 ≤ s 26 6 ∧ s 26 6 ≤ 6 := by have := jb hJ; omega
  unfold i32 at ia ib it
  refine wX2_isBadIndex hw ?_
  simp only [show (iI 259).toInt = 259 from z_toInt (by decide) (by decide), Int.reduceEq, false_imp_iff, true_imp_iff, not_true_eq_false, not_false_eq_true, true_and, and_true]
  by_cases tn : tx = -1
  · by_cases ha : 0 ≤ a ∧ a ≤ 7
    · by_cases hb : 0 ≤ b ∧ b ≤ 3
      · simp (disch := omega) only [z_app, z_lit, z_neg, z_wi1, z_wi0, z_leT, z_leF, z_ltT, z_ltF, z_eqT, z_eqF, Int.cast_ofNat_Int, true_and, and_true, not_true_eq_false, not_false_eq_true, false_imp_iff, true_imp_iff, ite_true, ite_false, if_true, if_false, or_self, or_true, true_or, or_false, false_or]
        exact h0 (by unfold bI; omega)
      · simp (disch := omega) only [z_app, z_lit, z_neg, z_wi1, z_wi0, z_leT, z_leF, z_ltT, z_ltF, z_eqT, z_eqF, Int.cast_ofNat_Int, true_and, and_true, not_true_eq_false, not_false_eq_true, false_imp_iff, true_imp_iff, ite_true, ite_false, if_true, if_false, or_self, or_true, true_or, or_false, false_or]
        exact h1 (by unfold bI; omega)
    · by_cases hb : 0 ≤ b ∧ b ≤ 3
      · simp (disch := omega) only [z_app, z_lit, z_neg, z_wi1, z_wi0, z_leT, z_leF, z_ltT, z_ltF, z_eqT, z_eqF, Int.cast_ofNat_Int, true_and, and_true, not_true_eq_false, not_false_eq_true, false_imp_iff, true_imp_iff, ite_true, ite_false, if_true, if_false, or_self, or_true, true_or, or_false, false_or]
        exact h1 (by unfold bI; omega)
      · simp (disch := omega) only [z_app, z_lit, z_neg, z_wi1, z_wi0, z_leT, z_leF, z_ltT, z_ltF, z_eqT, z_eqF, Int.cast_ofNat_Int, true_and, and_true, not_true_eq_false, not_false_eq_true, false_imp_iff, true_imp_iff, ite_true, ite_false, if_true, if_false, or_self, or_true, true_or, or_false, false_or]
        exact h1 (by unfold bI; omega)
  · by_cases tr : 0 ≤ tx ∧ tx ≤ 3
    · by_cases ha : 0 ≤ a ∧ a ≤ 7
      · by_cases hb : 0 ≤ b ∧ b ≤ 3
        · simp (disch := omega) only [z_app, z_lit, z_neg, z_wi1, z_wi0, z_leT, z_leF, z_ltT, z_ltF, z_eqT, z_eqF, Int.cast_ofNat_Int, true_and, and_true, not_true_eq_false, not_false_eq_true, false_imp_iff, true_imp_iff, ite_true, ite_false, if_true, if_false, or_self, or_true, true_or, or_false, false_or]
          exact h0 (by unfold bI; omega)
        · simp (disch := omega) only [z_app, z_lit, z_neg, z_wi1, z_wi0, z_leT, z_leF, z_ltT, z_ltF, z_eqT, z_eqF, Int.cast_ofNat_Int, true_and, and_true, not_true_eq_false, not_false_eq_true, false_imp_iff, true_imp_iff, ite_true, ite_false, if_true, if_false, or_self, or_true, true_or, or_false, false_or]
          exact h1 (by unfold bI; omega)
      · by_cases hb : 0 ≤ b ∧ b ≤ 3
        · simp (disch := omega) only [z_app, z_lit, z_neg, z_wi1, z_wi0, z_leT, z_leF, z_ltT, z_ltF, z_eqT, z_eqF, Int.cast_ofNat_Int, true_and, and_true, not_true_eq_false, not_false_eq_true, false_imp_iff, true_imp_iff, ite_true, ite_false, if_true, if_false, or_self, or_true, true_or, or_false, false_or]
          exact h1 (by unfold bI; omega)
        · simp (disch := omega) only [z_app, z_lit, z_neg, z_wi1, z_wi0, z_leT, z_leF, z_ltT, z_ltF, z_eqT, z_eqF, Int.cast_ofNat_Int, true_and, and_true, not_true_eq_false, not_false_eq_true, false_imp_iff, true_imp_iff, ite_true, ite_false, if_true, if_false, or_self, or_true, true_or, or_false, false_or]
          exact h1 (by unfold bI; omega)
    · simp (disch := omega) only [z_app, z_lit, z_neg, z_wi1, z_wi0, z_leT, z_leF, z_ltT, z_ltF, z_eqT, z_eqF, Int.cast_ofNat_Int, true_and, and_true, not_true_eq_false, not_false_eq_true, false_imp_iff, true_imp_iff, ite_true, ite_false, if_true, if_false, or_self, or_true, true_or, or_false, false_or]
      exact h1 (by unfold bI; omega)
theorem k_bi260 (hw : qWF g) (hJ : jJ s) {a b tx : Int} (ia : i32 a) (ib : i32 b) (it : i32 tx) (h1 : bI s 260 a b tx → Q (iI 1) (qi s)) (h0 : ¬ bI s 260 a b tx → Q (iI 0) (qi s)) : qC g (d + 1) mX2_isBadIndex [.inr 1, .inl (iI 260), .inl (iI a), .inl (iI b), .inl (iI tx)] (qi s) Q T := by
  have B : 0 ≤ s 26 6 ∧ s 26 6 ≤ 6 := by have := jb hJ; omega
  unfold i32 at ia ib it
  refine wX2_isBadIndex hw ?_
  simp only [show (iI 260).toInt = 260 from z_toInt (by decide) (by decide), Int.reduceEq, false_imp_iff, true_imp_iff, not_true_eq_false, not_false_eq_true, true_and, and_true]
  by_cases tn : tx = -1
  · by_cases ha : 0 ≤ a ∧ a ≤ 7
    · simp (disch := omega) only [z_app, z_lit, z_neg, z_wi1, z_wi0, z_leT, z_leF, z_ltT, z_ltF, z_eqT, z_eqF, Int.cast_ofNat_Int, true_and, and_true, not_true_eq_false, not_false_eq_true, false_imp_iff, true_imp_iff, ite_true, ite_false, if_true, if_false, or_self, or_true, true_or, or_false, false_or]
      exact h0 (by unfold bI; omega)
    · simp (disch := omega) only [z_app, z_lit, z_neg, z_wi1, z_wi0, z_leT, z_leF, z_ltT, z_ltF, z_eqT, z_eqF, Int.cast_ofNat_Int, true_and, and_true, not_true_eq_false, not_false_eq_true, false_imp_iff, true_imp_iff, ite_true, ite_false, if_true, if_false, or_self, or_true, true_or, or_false, false_or]
      exact h1 (by unfold bI; omega)
  · by_cases tr : 0 ≤ tx ∧ tx ≤ 3
    · by_cases ha : 0 ≤ a ∧ a ≤ 7
      · simp (disch := omega) only [z_app, z_lit, z_neg, z_wi1, z_wi0, z_leT, z_leF, z_ltT, z_ltF, z_eqT, z_eqF, Int.cast_ofNat_Int, true_and, and_true, not_true_eq_false, not_false_eq_true, false_imp_iff, true_imp_iff, ite_true, ite_false, if_true, if_false, or_self, or_true, true_or, or_false, false_or]
        exact h0 (by unfold bI; omega)
      · simp (disch := omega) only [z_app, z_lit, z_neg, z_wi1, z_wi0, z_leT, z_leF, z_ltT, z_ltF, z_eqT, z_eqF, Int.cast_ofNat_Int, true_and, and_true, not_true_eq_false, not_false_eq_true, false_imp_iff, true_imp_iff, ite_true, ite_false, if_true, if_false, or_self, or_true, true_or, or_false, false_or]
        exact h1 (by unfold bI; omega)
    · simp (disch := omega) only [z_app, z_lit, z_neg, z_wi1, z_wi0, z_leT, z_leF, z_ltT, z_ltF, z_eqT, z_eqF, Int.cast_ofNat_Int, true_and, and_true, not_true_eq_false, not_false_eq_true, false_imp_iff, true_imp_iff, ite_true, ite_false, if_true, if_false, or_self, or_true, true_or, or_false, false_or]
      exact h1 (by unfold bI; omega)
theorem k_bi261 (hw : qWF g) (hJ : jJ s) {a b tx : Int} (ia : i32 a) (ib : i32 b) (it : i32 tx) (h1 : bI s 261 a b tx → Q (iI 1) (qi s)) (h0 : ¬ bI s 261 a b tx → Q (iI 0) (qi s)) : qC g (d + 1) mX2_isBadIndex [.inr 1, .inl (iI 261), .inl (iI a), .inl (iI b), .inl (iI tx)] (qi s) Q T := by
  have B : 0 ≤ s 26 6 ∧ s 26 6 ≤ 6 := by have := jb hJ; omega
  unfold i32 at ia ib it
  refine wX2_isBadIndex hw ?_
  simp only [show (iI 261).toInt = 261 from z_toInt (by decide) (by decide), Int.reduceEq, false_imp_iff, true_imp_iff, not_true_eq_false, not_false_eq_true, true_and, and_true]
  by_cases tn : tx = -1
  · by_cases ha : 0 ≤ a ∧ a ≤ 7
    · by_cases hb : 0 ≤ b ∧ b ≤ 7
      · simp (disch := omega) only [z_app, z_lit, z_neg, z_wi1, z_wi0, z_leT, z_leF, z_ltT, z_ltF, z_eqT, z_eqF, Int.cast_ofNat_Int, true_and, and_true, not_true_eq_false, not_false_eq_true, false_imp_iff, true_imp_iff, ite_true, ite_false, if_true, if_false, or_self, or_true, true_or, or_false, false_or]
        exact h0 (by unfold bI; omega)
      · simp (disch := omega) only [z_app, z_lit, z_neg, z_wi1, z_wi0, z_leT, z_leF, z_ltT, z_ltF, z_eqT, z_eqF, Int.cast_ofNat_Int, true_and, and_true, not_true_eq_false, not_false_eq_true, false_imp_iff, true_imp_iff, ite_true, ite_false, if_true, if_false, or_self, or_true, true_or, or_false, false_or]
        exact h1 (by unfold bI; omega)
    · by_cases hb : 0 ≤ b ∧ b ≤ 7
      · simp (disch := omega) only [z_app, z_lit, z_neg, z_wi1, z_wi0, z_leT, z_leF, z_ltT, z_ltF, z_eqT, z_eqF, Int.cast_ofNat_Int, true_and, and_true, not_true_eq_false, not_false_eq_true, false_imp_iff, true_imp_iff, ite_true, ite_false, if_true, if_false, or_self, or_true, true_or, or_false, false_or]
        exact h1 (by unfold bI; omega)
      · simp (disch := omega) only [z_app, z_lit, z_neg, z_wi1, z_wi0, z_leT, z_leF, z_ltT, z_ltF, z_eqT, z_eqF, Int.cast_ofNat_Int, true_and, and_true, not_true_eq_false, not_false_eq_true, false_imp_iff, true_imp_iff, ite_true, ite_false, if_true, if_false, or_self, or_true, true_or, or_false, false_or]
        exact h1 (by unfold bI; omega)
  · by_cases tr : 0 ≤ tx ∧ tx ≤ 3
    · by_cases ha : 0 ≤ a ∧ a ≤ 7
      · by_cases hb : 0 ≤ b ∧ b ≤ 7
        · simp (disch := omega) only [z_app, z_lit, z_neg, z_wi1, z_wi0, z_leT, z_leF, z_ltT, z_ltF, z_eqT, z_eqF, Int.cast_ofNat_Int, true_and, and_true, not_true_eq_false, not_false_eq_true, false_imp_iff, true_imp_iff, ite_true, ite_false, if_true, if_false, or_self, or_true, true_or, or_false, false_or]
          exact h0 (by unfold bI; omega)
        · simp (disch := omega) only [z_app, z_lit, z_neg, z_wi1, z_wi0, z_leT, z_leF, z_ltT, z_ltF, z_eqT, z_eqF, Int.cast_ofNat_Int, true_and, and_true, not_true_eq_false, not_false_eq_true, false_imp_iff, true_imp_iff, ite_true, ite_false, if_true, if_false, or_self, or_true, true_or, or_false, false_or]
          exact h1 (by unfold bI; omega)
      · by_cases hb : 0 ≤ b ∧ b ≤ 7
        · simp (disch := omega) only [z_app, z_lit, z_neg, z_wi1, z_wi0, z_leT, z_leF, z_ltT, z_ltF, z_eqT, z_eqF, Int.cast_ofNat_Int, true_and, and_true, not_true_eq_false, not_false_eq_true, false_imp_iff, true_imp_iff, ite_true, ite_false, if_true, if_false, or_self, or_true, true_or, or_false, false_or]
          exact h1 (by unfold bI; omega)
        · simp (disch := omega) only [z_app, z_lit, z_neg, z_wi1, z_wi0, z_leT, z_leF, z_ltT, z_ltF, z_eqT, z_eqF, Int.cast_ofNat_Int, true_and, and_true, not_true_eq_false, not_false_eq_true, false_imp_iff, true_imp_iff, ite_true, ite_false, if_true, if_false, or_self, or_true, true_or, or_false, false_or]
          exact h1 (by unfold bI; omega)
    · simp (disch := omega) only [z_app, z_lit, z_neg, z_wi1, z_wi0, z_leT, z_leF, z_ltT, z_ltF, z_eqT, z_eqF, Int.cast_ofNat_Int, true_and, and_true, not_true_eq_false, not_false_eq_true, false_imp_iff, true_imp_iff, ite_true, ite_false, if_true, if_false, or_self, or_true, true_or, or_false, false_or]
      exact h1 (by unfold bI; omega)
theorem k_bi262 (hw : qWF g) (hJ : jJ s) {a b tx : Int} (ia : i32 a) (ib : i32 b) (it : i32 tx) (h1 : bI s 262 a b tx → Q (iI 1) (qi s)) (h0 : ¬ bI s 262 a b tx → Q (iI 0) (qi s)) : qC g (d + 1) mX2_isBadIndex [.inr 1, .inl (iI 262), .inl (iI a), .inl (iI b), .inl (iI tx)] (qi s) Q T := by
  have B : 0 ≤ s 26 6 ∧ s 26 6 ≤ 6 := by have := jb hJ; omega
  unfold i32 at ia ib it
  refine wX2_isBadIndex hw ?_
  simp only [show (iI 262).toInt = 262 from z_toInt (by decide) (by decide), Int.reduceEq, false_imp_iff, true_imp_iff, not_true_eq_false, not_false_eq_true, true_and, and_true]
  by_cases tn : tx = -1
  · by_cases ha : 0 ≤ a ∧ a ≤ 3
    · simp (disch := omega) only [z_app, z_lit, z_neg, z_wi1, z_wi0, z_leT, z_leF, z_ltT, z_ltF, z_eqT, z_eqF, Int.cast_ofNat_Int, true_and, and_true, not_true_eq_false, not_false_eq_true, false_imp_iff, true_imp_iff, ite_true, ite_false, if_true, if_false, or_self, or_true, true_or, or_false, false_or]
      exact h0 (by unfold bI; omega)
    · simp (disch := omega) only [z_app, z_lit, z_neg, z_wi1, z_wi0, z_leT, z_leF, z_ltT, z_ltF, z_eqT, z_eqF, Int.cast_ofNat_Int, true_and, and_true, not_true_eq_false, not_false_eq_true, false_imp_iff, true_imp_iff, ite_true, ite_false, if_true, if_false, or_self, or_true, true_or, or_false, false_or]
      exact h1 (by unfold bI; omega)
  · by_cases tr : 0 ≤ tx ∧ tx ≤ 3
    · by_cases ha : 0 ≤ a ∧ a ≤ 3
      · simp (disch := omega) only [z_app, z_lit, z_neg, z_wi1, z_wi0, z_leT, z_leF, z_ltT, z_ltF, z_eqT, z_eqF, Int.cast_ofNat_Int, true_and, and_true, not_true_eq_false, not_false_eq_true, false_imp_iff, true_imp_iff, ite_true, ite_false, if_true, if_false, or_self, or_true, true_or, or_false, false_or]
        exact h0 (by unfold bI; omega)
      · simp (disch := omega) only [z_app, z_lit, z_neg, z_wi1, z_wi0, z_leT, z_leF, z_ltT, z_ltF, z_eqT, z_eqF, Int.cast_ofNat_Int, true_and, and_true, not_true_eq_false, not_false_eq_true, false_imp_iff, true_imp_iff, ite_true, ite_false, if_true, if_false, or_self, or_true, true_or, or_false, false_or]
        exact h1 (by unfold bI; omega)
    · simp (disch := omega) only [z_app, z_lit, z_neg, z_wi1, z_wi0, z_leT, z_leF, z_ltT, z_ltF, z_eqT, z_eqF, Int.cast_ofNat_Int, true_and, and_true, not_true_eq_false, not_false_eq_true, false_imp_iff, true_imp_iff, ite_true, ite_false, if_true, if_false, or_self, or_true, true_or, or_false, false_or]
      exact h1 (by unfold bI; omega)
theorem k_bi263 (hw : qWF g) (hJ : jJ s) {a b tx : Int} (ia : i32 a) (ib : i32 b) (it : i32 tx) (h1 : bI s 263 a b tx → Q (iI 1) (qi s)) (h0 : ¬ bI s 263 a b tx → Q (iI 0) (qi s)) : qC g (d + 1) mX2_isBadIndex [.inr 1, .inl (iI 263), .inl (iI a), .inl (iI b), .inl (iI tx)] (qi s) Q T := by
  have B : 0 ≤ s 26 6 ∧ s 26 6 ≤ 6 := by have := jb hJ; omega
  unfold i32 at ia ib it
  refine wX2_isBadIndex hw ?_
  simp only [show (iI 263).toInt = 263 from z_toInt (by decide) (by decide), Int.reduceEq, false_imp_iff, true_imp_iff, not_true_eq_false, not_false_eq_true, true_and, and_true]
  by_cases tn : tx = -1
  · by_cases ha : 0 ≤ a ∧ a ≤ 3
    · simp (disch := omega) only [z_app, z_lit, z_neg, z_wi1, z_wi0, z_leT, z_leF, z_ltT, z_ltF, z_eqT, z_eqF, Int.cast_ofNat_Int, true_and, and_true, not_true_eq_false, not_false_eq_true, false_imp_iff, true_imp_iff, ite_true, ite_false, if_true, if_false, or_self, or_true, true_or, or_false, false_or]
      exact h0 (by unfold bI; omega)
    · simp (disch := omega) only [z_app, z_lit, z_neg, z_wi1, z_wi0, z_leT, z_leF, z_ltT, z_ltF, z_eqT, z_eqF, Int.cast_ofNat_Int, true_and, and_true, not_true_eq_false, not_false_eq_true, false_imp_iff, true_imp_iff, ite_true, ite_false, if_true, if_false, or_self, or_true, true_or, or_false, false_or]
      exact h1 (by unfold bI; omega)
  · by_cases tr : 0 ≤ tx ∧ tx ≤ 3
    · by_cases ha : 0 ≤ a ∧ a ≤ 3
      · simp (disch := omega) only [z_app, z_lit, z_neg, z_wi1, z_wi0, z_leT, z_leF, z_ltT, z_ltF, z_eqT, z_eqF, Int.cast_ofNat_Int, true_and, and_true, not_true_eq_false, not_false_eq_true, false_imp_iff, true_imp_iff, ite_true, ite_false, if_true, if_false, or_self, or_true, true_or, or_false, false_or]
        exact h0 (by unfold bI; omega)
      · simp (disch := omega) only [z_app, z_lit, z_neg, z_wi1, z_wi0, z_leT, z_leF, z_ltT, z_ltF, z_eqT, z_eqF, Int.cast_ofNat_Int, true_and, and_true, not_true_eq_false, not_false_eq_true, false_imp_iff, true_imp_iff, ite_true, ite_false, if_true, if_false, or_self, or_true, true_or, or_false, false_or]
        exact h1 (by unfold bI; omega)
    · simp (disch := omega) only [z_app, z_lit, z_neg, z_wi1, z_wi0, z_leT, z_leF, z_ltT, z_ltF, z_eqT, z_eqF, Int.cast_ofNat_Int, true_and, and_true, not_true_eq_false, not_false_eq_true, false_imp_iff, true_imp_iff, ite_true, ite_false, if_true, if_false, or_self, or_true, true_or, or_false, false_or]
      exact h1 (by unfold bI; omega)
theorem k_bi264 (hw : qWF g) (hJ : jJ s) {a b tx : Int} (ia : i32 a) (ib : i32 b) (it : i32 tx) (h1 : bI s 264 a b tx → Q (iI 1) (qi s)) (h0 : ¬ bI s 264 a b tx → Q (iI 0) (qi s)) : qC g (d + 1) mX2_isBadIndex [.inr 1, .inl (iI 264), .inl (iI a), .inl (iI b), .inl (iI tx)] (qi s) Q T := by
  have B : 0 ≤ s 26 6 ∧ s 26 6 ≤ 6 := by have := jb hJ; omega
  unfold i32 at ia ib it
  refine wX2_isBadIndex hw ?_
  simp only [show (iI 264).toInt = 264 from z_toInt (by decide) (by decide), Int.reduceEq, false_imp_iff, true_imp_iff, not_true_eq_false, not_false_eq_true, true_and, and_true]
  by_cases tn : tx = -1
  · by_cases hn : a < 0
    · by_cases ha : a < s 26 6
      · simp (disch := omega) only [z_app, z_lit, z_neg, z_wi1, z_wi0, z_leT, z_leF, z_ltT, z_ltF, z_eqT, z_eqF, Int.cast_ofNat_Int, true_and, and_true, not_true_eq_false, not_false_eq_true, false_imp_iff, true_imp_iff, ite_true, ite_false, if_true, if_false, or_self, or_true, true_or, or_false, false_or]
        exact h1 (by unfold bI; omega)
      · simp (disch := omega) only [z_app, z_lit, z_neg, z_wi1, z_wi0, z_leT, z_leF, z_ltT, z_ltF, z_eqT, z_eqF, Int.cast_ofNat_Int, true_and, and_true, not_true_eq_false, not_false_eq_true, false_imp_iff, true_imp_iff, ite_true, ite_false, if_true, if_false, or_self, or_true, true_or, or_false, false_or]
        exact h1 (by unfold bI; omega)
    · by_cases ha : a < s 26 6
      · simp (disch := omega) only [z_app, z_lit, z_neg, z_wi1, z_wi0, z_leT, z_leF, z_ltT, z_ltF, z_eqT, z_eqF, Int.cast_ofNat_Int, true_and, and_true, not_true_eq_false, not_false_eq_true, false_imp_iff, true_imp_iff, ite_true, ite_false, if_true, if_false, or_self, or_true, true_or, or_false, false_or]
        exact h0 (by unfold bI; omega)
      · simp (disch := omega) only [z_app, z_lit, z_neg, z_wi1, z_wi0, z_leT, z_leF, z_ltT, z_ltF, z_eqT, z_eqF, Int.cast_ofNat_Int, true_and, and_true, not_true_eq_false, not_false_eq_true, false_imp_iff, true_imp_iff, ite_true, ite_false, if_true, if_false, or_self, or_true, true_or, or_false, false_or]
        exact h1 (by unfold bI; omega)
  · by_cases tr : 0 ≤ tx ∧ tx ≤ 3
    · by_cases hn : a < 0
      · by_cases ha : a < s 26 6
        · simp (disch := omega) only [z_app, z_lit, z_neg, z_wi1, z_wi0, z_leT, z_leF, z_ltT, z_ltF, z_eqT, z_eqF, Int.cast_ofNat_Int, true_and, and_true, not_true_eq_false, not_false_eq_true, false_imp_iff, true_imp_iff, ite_true, ite_false, if_true, if_false, or_self, or_true, true_or, or_false, false_or]
          exact h1 (by unfold bI; omega)
        · simp (disch := omega) only [z_app, z_lit, z_neg, z_wi1, z_wi0, z_leT, z_leF, z_ltT, z_ltF, z_eqT, z_eqF, Int.cast_ofNat_Int, true_and, and_true, not_true_eq_false, not_false_eq_true, false_imp_iff, true_imp_iff, ite_true, ite_false, if_true, if_false, or_self, or_true, true_or, or_false, false_or]
          exact h1 (by unfold bI; omega)
      · by_cases ha : a < s 26 6
        · simp (disch := omega) only [z_app, z_lit, z_neg, z_wi1, z_wi0, z_leT, z_leF, z_ltT, z_ltF, z_eqT, z_eqF, Int.cast_ofNat_Int, true_and, and_true, not_true_eq_false, not_false_eq_true, false_imp_iff, true_imp_iff, ite_true, ite_false, if_true, if_false, or_self, or_true, true_or, or_false, false_or]
          exact h0 (by unfold bI; omega)
        · simp (disch := omega) only [z_app, z_lit, z_neg, z_wi1, z_wi0, z_leT, z_leF, z_ltT, z_ltF, z_eqT, z_eqF, Int.cast_ofNat_Int, true_and, and_true, not_true_eq_false, not_false_eq_true, false_imp_iff, true_imp_iff, ite_true, ite_false, if_true, if_false, or_self, or_true, true_or, or_false, false_or]
          exact h1 (by unfold bI; omega)
    · simp (disch := omega) only [z_app, z_lit, z_neg, z_wi1, z_wi0, z_leT, z_leF, z_ltT, z_ltF, z_eqT, z_eqF, Int.cast_ofNat_Int, true_and, and_true, not_true_eq_false, not_false_eq_true, false_imp_iff, true_imp_iff, ite_true, ite_false, if_true, if_false, or_self, or_true, true_or, or_false, false_or]
      exact h1 (by unfold bI; omega)
theorem k_bi265 (hw : qWF g) (hJ : jJ s) {a b tx : Int} (ia : i32 a) (ib : i32 b) (it : i32 tx) (h1 : bI s 265 a b tx → Q (iI 1) (qi s)) (h0 : ¬ bI s 265 a b tx → Q (iI 0) (qi s)) : qC g (d + 1) mX2_isBadIndex [.inr 1, .inl (iI 265), .inl (iI a), .inl (iI b), .inl (iI tx)] (qi s) Q T := by
  have B : 0 ≤ s 26 6 ∧ s 26 6 ≤ 6 := by have := jb hJ; omega
  unfold i32 at ia ib it
  refine wX2_isBadIndex hw ?_
  simp only [show (iI 265).toInt = 265 from z_toInt (by decide) (by decide), Int.reduceEq, false_imp_iff, true_imp_iff, not_true_eq_false, not_false_eq_true, true_and, and_true]
  by_cases tn : tx = -1
  · simp (disch := omega) only [z_app, z_lit, z_neg, z_wi1, z_wi0, z_leT, z_leF, z_ltT, z_ltF, z_eqT, z_eqF, Int.cast_ofNat_Int, true_and, and_true, not_true_eq_false, not_false_eq_true, false_imp_iff, true_imp_iff, ite_true, ite_false, if_true, if_false, or_self, or_true, true_or, or_false, false_or]
    exact h0 (by unfold bI; omega)
  · by_cases tr : 0 ≤ tx ∧ tx ≤ 3
    · simp (disch := omega) only [z_app, z_lit, z_neg, z_wi1, z_wi0, z_leT, z_leF, z_ltT, z_ltF, z_eqT, z_eqF, Int.cast_ofNat_Int, true_and, and_true, not_true_eq_false, not_false_eq_true, false_imp_iff, true_imp_iff, ite_true, ite_false, if_true, if_false, or_self, or_true, true_or, or_false, false_or]
      exact h0 (by unfold bI; omega)
    · simp (disch := omega) only [z_app, z_lit, z_neg, z_wi1, z_wi0, z_leT, z_leF, z_ltT, z_ltF, z_eqT, z_eqF, Int.cast_ofNat_Int, true_and, and_true, not_true_eq_false, not_false_eq_true, false_imp_iff, true_imp_iff, ite_true, ite_false, if_true, if_false, or_self, or_true, true_or, or_false, false_or]
      exact h1 (by unfold bI; omega)
theorem k_bi266 (hw : qWF g) (hJ : jJ s) {a b tx : Int} (ia : i32 a) (ib : i32 b) (it : i32 tx) (h1 : bI s 266 a b tx → Q (iI 1) (qi s)) (h0 : ¬ bI s 266 a b tx → Q (iI 0) (qi s)) : qC g (d + 1) mX2_isBadIndex [.inr 1, .inl (iI 266), .inl (iI a), .inl (iI b), .inl (iI tx)] (qi s) Q T := by
  have B : 0 ≤ s 26 6 ∧ s 26 6 ≤ 6 := by have := jb hJ; omega
  unfold i32 at ia ib it
  refine wX2_isBadIndex hw ?_
  simp only [show (iI 266).toInt = 266 from z_toInt (by decide) (by decide), Int.reduceEq, false_imp_iff, true_imp_iff, not_true_eq_false, not_false_eq_true, true_and, and_true]
  by_cases tn : tx = -1
  · simp (disch := omega) only [z_app, z_lit, z_neg, z_wi1, z_wi0, z_leT, z_leF, z_ltT, z_ltF, z_eqT, z_eqF, Int.cast_ofNat_Int, true_and, and_true, not_true_eq_false, not_false_eq_true, false_imp_iff, true_imp_iff, ite_true, ite_false, if_true, if_false, or_self, or_true, true_or, or_false, false_or]
    exact h0 (by unfold bI; omega)
  · by_cases tr : 0 ≤ tx ∧ tx ≤ 3
    · simp (disch := omega) only [z_app, z_lit, z_neg, z_wi1, z_wi0, z_leT, z_leF, z_ltT, z_ltF, z_eqT, z_eqF, Int.cast_ofNat_Int, true_and, and_true, not_true_eq_false, not_false_eq_true, false_imp_iff, true_imp_iff, ite_true, ite_false, if_true, if_false, or_self, or_true, true_or, or_false, false_or]
      exact h0 (by unfold bI; omega)
    · simp (disch := omega) only [z_app, z_lit, z_neg, z_wi1, z_wi0, z_leT, z_leF, z_ltT, z_ltF, z_eqT, z_eqF, Int.cast_ofNat_Int, true_and, and_true, not_true_eq_false, not_false_eq_true, false_imp_iff, true_imp_iff, ite_true, ite_false, if_true, if_false, or_self, or_true, true_or, or_false, false_or]
      exact h1 (by unfold bI; omega)
theorem k_isBadIndex (hw : qWF g) (hJ : jJ s) {wd a b tx : Int} (hwd : wdR wd) (ia : i32 a) (ib : i32 b) (it : i32 tx) (h1 : bI s wd a b tx → Q (iI 1) (qi s)) (h0 : ¬ bI s wd a b tx → Q (iI 0) (qi s)) : qC g (d + 1) mX2_isBadIndex [.inr 1, .inl (iI wd), .inl (iI a), .inl (iI b), .inl (iI tx)] (qi s) Q T := by
  rcases wd_c hwd with rfl | rfl | rfl | rfl | rfl | rfl | rfl | rfl | rfl | rfl | rfl
  · exact k_bi256 hw hJ ia ib it h1 h0
  · exact k_bi257 hw hJ ia ib it h1 h0
  · exact k_bi258 hw hJ ia ib it h1 h0
  · exact k_bi259 hw hJ ia ib it h1 h0
  · exact k_bi260 hw hJ ia ib it h1 h0
  · exact k_bi261 hw hJ ia ib it h1 h0
  · exact k_bi262 hw hJ ia ib it h1 h0
  · exact k_bi263 hw hJ ia ib it h1 h0
  · exact k_bi264 hw hJ ia ib it h1 h0
  · exact k_bi265 hw hJ ia ib it h1 h0
  · exact k_bi266 hw hJ ia ib it h1 h0
theorem k_isBadArgument (hw : qWF g) {wd a b c : Int} (hwd : wdR wd) (ia : i32 a) (ib : i32 b) (ic : i32 c) (h1 : bA wd a b c → Q (iI 1) (qi s)) (h0 : ¬ bA wd a b c → Q (iI 0) (qi s)) : qC g (d + 1) mX2_isBadArgument [.inr 1, .inl (iI wd), .inl (iI a), .inl (iI b), .inl (iI c)] (qi s) Q T := by
  unfold i32 at ia ib ic
  refine wX2_isBadArgument hw ?_
  rcases wd_c hwd with rfl | rfl | rfl | rfl | rfl | rfl | rfl | rfl | rfl | rfl | rfl
  · simp only [show (iI 256).toInt = 256 from z_toInt (by decide) (by decide), Int.reduceEq, false_imp_iff, true_imp_iff, not_true_eq_false, not_false_eq_true, true_and, and_true]
    simp (disch := omega) only [z_app, z_lit, z_neg, z_wi1, z_wi0, z_leT, z_leF, z_ltT, z_ltF, z_eqT, z_eqF, Int.cast_ofNat_Int, true_and, and_true, not_true_eq_false, not_false_eq_true, false_imp_iff, true_imp_iff, ite_true, ite_false, if_true, if_false, or_self, or_true, true_or, or_false, false_or]
    exact h0 (by unfold bA; omega)
  · simp only [show (iI 257).toInt = 257 from z_toInt (by decide) (by decide), Int.reduceEq, false_imp_iff, true_imp_iff, not_true_eq_false, not_false_eq_true, true_and, and_true]
    simp (disch := omega) only [z_app, z_lit, z_neg, z_wi1, z_wi0, z_leT, z_leF, z_ltT, z_ltF, z_eqT, z_eqF, Int.cast_ofNat_Int, true_and, and_true, not_true_eq_false, not_false_eq_true, false_imp_iff, true_imp_iff, ite_true, ite_false, if_true, if_false, or_self, or_true, true_or, or_false, false_or]
    exact h0 (by unfold bA; omega)
  · simp only [show (iI 258).toInt = 258 from z_toInt (by decide) (by decide), Int.reduceEq, false_imp_iff, true_imp_iff, not_true_eq_false, not_false_eq_true, true_and, and_true]
    simp (disch := omega) only [z_app, z_lit, z_neg, z_wi1, z_wi0, z_leT, z_leF, z_ltT, z_ltF, z_eqT, z_eqF, Int.cast_ofNat_Int, true_and, and_true, not_true_eq_false, not_false_eq_true, false_imp_iff, true_imp_iff, ite_true, ite_false, if_true, if_false, or_self, or_true, true_or, or_false, false_or]
    exact h0 (by unfold bA; omega)
  · simp only [show (iI 259).toInt = 259 from z_toInt (by decide) (by decide), Int.reduceEq, false_imp_iff, true_imp_iff, not_true_eq_false, not_false_eq_true, true_and, and_true]
    by_cases hc : 0 ≤ c ∧ c ≤ 9999
    · simp (disch := omega) only [z_app, z_lit, z_neg, z_wi1, z_wi0, z_leT, z_leF, z_ltT, z_ltF, z_eqT, z_eqF, Int.cast_ofNat_Int, true_and, and_true, not_true_eq_false, not_false_eq_true, false_imp_iff, true_imp_iff, ite_true, ite_false, if_true, if_false, or_self, or_true, true_or, or_false, false_or]
      exact h0 (by unfold bA; omega)
    · simp (disch := omega) only [z_app, z_lit, z_neg, z_wi1, z_wi0, z_leT, z_leF, z_ltT, z_ltF, z_eqT, z_eqF, Int.cast_ofNat_Int, true_and, and_true, not_true_eq_false, not_false_eq_true, false_imp_iff, true_imp_iff, ite_true, ite_false, if_true, if_false, or_self, or_true, true_or, or_false, false_or]
      exact h1 (by unfold bA; omega)
  · simp only [show (iI 260).toInt = 260 from z_toInt (by decide) (by decide), Int.reduceEq, false_imp_iff, true_imp_iff, not_true_eq_false, not_false_eq_true, true_and, and_true]
    simp (disch := omega) only [z_app, z_lit, z_neg, z_wi1, z_wi0, z_leT, z_leF, z_ltT, z_ltF, z_eqT, z_eqF, Int.cast_ofNat_Int, true_and, and_true, not_true_eq_false, not_false_eq_true, false_imp_iff, true_imp_iff, ite_true, ite_false, if_true, if_false, or_self, or_true, true_or, or_false, false_or]
    exact h0 (by unfold bA; omega)
  · simp only [show (iI 261).toInt = 261 from z_toInt (by decide) (by decide), Int.reduceEq, false_imp_iff, true_imp_iff, not_true_eq_false, not_false_eq_true, true_and, and_true]
    by_cases he : ¬ a = b
    · simp (disch := omega) only [z_app, z_lit, z_neg, z_wi1, z_wi0, z_leT, z_leF, z_ltT, z_ltF, z_eqT, z_eqF, Int.cast_ofNat_Int, true_and, and_true, not_true_eq_false, not_false_eq_true, false_imp_iff, true_imp_iff, ite_true, ite_false, if_true, if_false, or_self, or_true, true_or, or_false, false_or]
      exact h0 (by unfold bA; omega)
    · simp (disch := omega) only [z_app, z_lit, z_neg, z_wi1, z_wi0, z_leT, z_leF, z_ltT, z_ltF, z_eqT, z_eqF, Int.cast_ofNat_Int, true_and, and_true, not_true_eq_false, not_false_eq_true, false_imp_iff, true_imp_iff, ite_true, ite_false, if_true, if_false, or_self, or_true, true_or, or_false, false_or]
      exact h1 (by unfold bA; omega)
  · simp only [show (iI 262).toInt = 262 from z_toInt (by decide) (by decide), Int.reduceEq, false_imp_iff, true_imp_iff, not_true_eq_false, not_false_eq_true, true_and, and_true]
    by_cases hb : 0 ≤ b ∧ b ≤ 9999
    · by_cases hc : 0 ≤ c ∧ c ≤ 20
      · simp (disch := omega) only [z_app, z_lit, z_neg, z_wi1, z_wi0, z_leT, z_leF, z_ltT, z_ltF, z_eqT, z_eqF, Int.cast_ofNat_Int, true_and, and_true, not_true_eq_false, not_false_eq_true, false_imp_iff, true_imp_iff, ite_true, ite_false, if_true, if_false, or_self, or_true, true_or, or_false, false_or]
        exact h0 (by unfold bA; omega)
      · simp (disch := omega) only [z_app, z_lit, z_neg, z_wi1, z_wi0, z_leT, z_leF, z_ltT, z_ltF, z_eqT, z_eqF, Int.cast_ofNat_Int, true_and, and_true, not_true_eq_false, not_false_eq_true, false_imp_iff, true_imp_iff, ite_true, ite_false, if_true, if_false, or_self, or_true, true_or, or_false, false_or]
        exact h1 (by unfold bA; omega)
    · by_cases hc : 0 ≤ c ∧ c ≤ 20
      · simp (disch := omega) only [z_app, z_lit, z_neg, z_wi1, z_wi0, z_leT, z_leF, z_ltT, z_ltF, z_eqT, z_eqF, Int.cast_ofNat_Int, true_and, and_true, not_true_eq_false, not_false_eq_true, false_imp_iff, true_imp_iff, ite_true, ite_false, if_true, if_false, or_self, or_true, true_or, or_false, false_or]
        exact h1 (by unfold bA; omega)
      · simp (disch := omega) only [z_app, z_lit, z_neg, z_wi1, z_wi0, z_leT, z_leF, z_ltT, z_ltF, z_eqT, z_eqF, Int.cast_ofNat_Int, true_and, and_true, not_true_eq_false, not_false_eq_true, false_imp_iff, true_imp_iff, ite_true, ite_false, if_true, if_false, or_self, or_true, true_or, or_false, false_or]
        exact h1 (by unfold bA; omega)
  · simp only [show (iI 263).toInt = 263 from z_toInt (by decide) (by decide), Int.reduceEq, false_imp_iff, true_imp_iff, not_true_eq_false, not_false_eq_true, true_and, and_true]
    simp (disch := omega) only [z_app, z_lit, z_neg, z_wi1, z_wi0, z_leT, z_leF, z_ltT, z_ltF, z_eqT, z_eqF, Int.cast_ofNat_Int, true_and, and_true, not_true_eq_false, not_false_eq_true, false_imp_iff, true_imp_iff, ite_true, ite_false, if_true, if_false, or_self, or_true, true_or, or_false, false_or]
    exact h0 (by unfold bA; omega)
  · simp only [show (iI 264).toInt = 264 from z_toInt (by decide) (by decide), Int.reduceEq, false_imp_iff, true_imp_iff, not_true_eq_false, not_false_eq_true, true_and, and_true]
    by_cases hb : 1 ≤ b ∧ b ≤ 50
    · simp (disch := omega) only [z_app, z_lit, z_neg, z_wi1, z_wi0, z_leT, z_leF, z_ltT, z_ltF, z_eqT, z_eqF, Int.cast_ofNat_Int, true_and, and_true, not_true_eq_false, not_false_eq_true, false_imp_iff, true_imp_iff, ite_true, ite_false, if_true, if_false, or_self, or_true, true_or, or_false, false_or]
      exact h0 (by unfold bA; omega)
    · simp (disch := omega) only [z_app, z_lit, z_neg, z_wi1, z_wi0, z_leT, z_leF, z_ltT, z_ltF, z_eqT, z_eqF, Int.cast_ofNat_Int, true_and, and_true, not_true_eq_false, not_false_eq_true, false_imp_iff, true_imp_iff, ite_true, ite_false, if_true, if_false, or_self, or_true, true_or, or_false, false_or]
      exact h1 (by unfold bA; omega)
  · simp only [show (iI 265).toInt = 265 from z_toInt (by decide) (by decide), Int.reduceEq, false_imp_iff, true_imp_iff, not_true_eq_false, not_false_eq_true, true_and, and_true]
    simp (disch := omega) only [z_app, z_lit, z_neg, z_wi1, z_wi0, z_leT, z_leF, z_ltT, z_ltF, z_eqT, z_eqF, Int.cast_ofNat_Int, true_and, and_true, not_true_eq_false, not_false_eq_true, false_imp_iff, true_imp_iff, ite_true, ite_false, if_true, if_false, or_self, or_true, true_or, or_false, false_or]
    exact h0 (by unfold bA; omega)
  · simp only [show (iI 266).toInt = 266 from z_toInt (by decide) (by decide), Int.reduceEq, false_imp_iff, true_imp_iff, not_true_eq_false, not_false_eq_true, true_and, and_true]
    simp (disch := omega) only [z_app, z_lit, z_neg, z_wi1, z_wi0, z_leT, z_leF, z_ltT, z_ltF, z_eqT, z_eqF, Int.cast_ofNat_Int, true_and, and_true, not_true_eq_false, not_false_eq_true, false_imp_iff, true_imp_iff, ite_true, ite_false, if_true, if_false, or_self, or_true, true_or, or_false, false_or]
    exact h0 (by unfold bA; omega)
theorem k_bs256 (hw : qWF g) (hJ : jJ s) {a b tx : Int} (ia : i32 a) (it : i32 tx) (hI : ¬ bI s 256 a b tx) (h1 : bS s 256 a tx → Q (iI 1) (qi s)) (h0 : ¬ bS s 256 a tx → Q (iI 0) (qi s)) : qC g (d + 2) mX2_isBadState [.inr 1, .inl (iI 256), .inl (iI a), .inl (iI tx)] (qi s) Q T := by
  have B : 0 ≤ s 26 6 ∧ s 26 6 ≤ 6 ∧ 0 ≤ s 2 9 ∧ s 2 9 ≤ 400 := by have := jb hJ; omega
  obtain ⟨F1, F2, -⟩ := frT_b s
  unfold i32 at ia it
  have R1 : tx ≠ -1 → 0 ≤ tx ∧ tx ≤ 3 := by unfold bI at hI; omega
  have R2 : True := by first | trivial | (unfold bI at hI; omega)
  clear hI
  refine wX2_isBadState hw ?_
  simp only [show (iI 256).toInt = 256 from z_toInt (by decide) (by decide), Int.reduceEq, false_imp_iff, true_imp_iff, not_true_eq_false, not_false_eq_true, true_and, and_true]
  refine ⟨fun _ => ?_, fun hn => absurd (show ¬ iI 256 = 265 by decide +kernel) hn⟩
  by_cases hf : s 2 9 < 400
  · by_cases tn : tx = -1
    · simp (disch := omega) only [z_app, z_lit, z_neg, z_wi1, z_wi0, z_leT, z_leF, z_ltT, z_ltF, z_eqT, z_eqF, Int.cast_ofNat_Int, true_and, and_true, not_true_eq_false, not_false_eq_true, false_imp_iff, true_imp_iff, ite_true, ite_false, if_true, if_false, or_self, or_true, true_or, or_false, false_or]
      refine k_freeTransaction hw hJ (fun e4 => ?_) (fun e4 => ?_)
      · simp (disch := omega) only [z_app, z_lit, z_neg, z_wi1, z_wi0, z_leT, z_leF, z_ltT, z_ltF, z_eqT, z_eqF, Int.cast_ofNat_Int, true_and, and_true, not_true_eq_false, not_false_eq_true, false_imp_iff, true_imp_iff, ite_true, ite_false, if_true, if_false, or_self, or_true, true_or, or_false, false_or]
        exact h1 (by unfold bS; omega)
      · simp (disch := omega) only [z_app, z_lit, z_neg, z_wi1, z_wi0, z_leT, z_leF, z_ltT, z_ltF, z_eqT, z_eqF, Int.cast_ofNat_Int, true_and, and_true, not_true_eq_false, not_false_eq_true, false_imp_iff, true_imp_iff, ite_true, ite_false, if_true, if_false, or_self, or_true, true_or, or_false, false_or]
        exact h0 (by unfold bS; omega)
    · obtain ⟨R3, R4⟩ := R1 tn
      by_cases to : s 55 tx = -1
      · simp (disch := omega) only [z_app, z_lit, z_neg, z_wi1, z_wi0, z_leT, z_leF, z_ltT, z_ltF, z_eqT, z_eqF, Int.cast_ofNat_Int, true_and, and_true, not_true_eq_false, not_false_eq_true, false_imp_iff, true_imp_iff, ite_true, ite_false, if_true, if_false, or_self, or_true, true_or, or_false, false_or]
        refine k_isOpen0 hw hJ (by omega) (by omega) to ?_
        simp (disch := omega) only [z_app, z_lit, z_neg, z_wi1, z_wi0, z_leT, z_leF, z_ltT, z_ltF, z_eqT, z_eqF, Int.cast_ofNat_Int, true_and, and_true, not_true_eq_false, not_false_eq_true, false_imp_iff, true_imp_iff, ite_true, ite_false, if_true, if_false, or_self, or_true, true_or, or_false, false_or]
        exact h1 (by unfold bS; omega)
      · simp (disch := omega) only [z_app, z_lit, z_neg, z_wi1, z_wi0, z_leT, z_leF, z_ltT, z_ltF, z_eqT, z_eqF, Int.cast_ofNat_Int, true_and, and_true, not_true_eq_false, not_false_eq_true, false_imp_iff, true_imp_iff, ite_true, ite_false, if_true, if_false, or_self, or_true, true_or, or_false, false_or]
        refine k_isOpen1 hw hJ (by omega) (by omega) to ?_
        simp (disch := omega) only [z_app, z_lit, z_neg, z_wi1, z_wi0, z_leT, z_leF, z_ltT, z_ltF, z_eqT, z_eqF, Int.cast_ofNat_Int, true_and, and_true, not_true_eq_false, not_false_eq_true, false_imp_iff, true_imp_iff, ite_true, ite_false, if_true, if_false, or_self, or_true, true_or, or_false, false_or]
        refine k_freeTransaction hw hJ (fun e4 => ?_) (fun e4 => ?_)
        · simp (disch := omega) only [z_app, z_lit, z_neg, z_wi1, z_wi0, z_leT, z_leF, z_ltT, z_ltF, z_eqT, z_eqF, Int.cast_ofNat_Int, true_and, and_true, not_true_eq_false, not_false_eq_true, false_imp_iff, true_imp_iff, ite_true, ite_false, if_true, if_false, or_self, or_true, true_or, or_false, false_or]
          exact h1 (by unfold bS; omega)
        · simp (disch := omega) only [z_app, z_lit, z_neg, z_wi1, z_wi0, z_leT, z_leF, z_ltT, z_ltF, z_eqT, z_eqF, Int.cast_ofNat_Int, true_and, and_true, not_true_eq_false, not_false_eq_true, false_imp_iff, true_imp_iff, ite_true, ite_false, if_true, if_false, or_self, or_true, true_or, or_false, false_or]
          exact h0 (by unfold bS; omega)
  · simp (disch := omega) only [z_app, z_lit, z_neg, z_wi1, z_wi0, z_leT, z_leF, z_ltT, z_ltF, z_eqT, z_eqF, Int.cast_ofNat_Int, true_and, and_true, not_true_eq_false, not_false_eq_true, false_imp_iff, true_imp_iff, ite_true, ite_false, if_true, if_false, or_self, or_true, true_or, or_false, false_or]
    exact h1 (by unfold bS; omega)
theorem k_bs257 (hw : qWF g) (hJ : jJ s) {a b tx : Int} (ia : i32 a) (it : i32 tx) (hI : ¬ bI s 257 a b tx) (h1 : bS s 257 a tx → Q (iI 1) (qi s)) (h0 : ¬ bS s 257 a tx → Q (iI 0) (qi s)) : qC g (d + 2) mX2_isBadState [.inr 1, .inl (iI 257), .inl (iI a), .inl (iI tx)] (qi s) Q T := by
  have B : 0 ≤ s 26 6 ∧ s 26 6 ≤ 6 ∧ 0 ≤ s 2 9 ∧ s 2 9 ≤ 400 := by have := jb hJ; omega
  obtain ⟨F1, F2, -⟩ := frT_b s
  unfold i32 at ia it
  have R1 : tx ≠ -1 → 0 ≤ tx ∧ tx ≤ 3 := by unfold bI at hI; omega
  have R2 : 0 ≤ a ∧ a ≤ 3 := by first | trivial | (unfold bI at hI; omega)
  clear hI
  refine wX2_isBadState hw ?_
  simp only [show (iI 257).toInt = 257 from z_toInt (by decide) (by decide), Int.reduceEq, false_imp_iff, true_imp_iff, not_true_eq_false, not_false_eq_true, true_and, and_true]
  refine ⟨fun _ => ?_, fun hn => absurd (show ¬ iI 257 = 265 by decide +kernel) hn⟩
  by_cases hf : s 2 9 < 400
  · by_cases tn : tx = -1
    · by_cases ho : s 55 a = -1
      · simp (disch := omega) only [z_app, z_lit, z_neg, z_wi1, z_wi0, z_leT, z_leF, z_ltT, z_ltF, z_eqT, z_eqF, Int.cast_ofNat_Int, true_and, and_true, not_true_eq_false, not_false_eq_true, false_imp_iff, true_imp_iff, ite_true, ite_false, if_true, if_false, or_self, or_true, true_or, or_false, false_or]
        refine k_isOpen0 hw hJ (by omega) (by omega) ho ?_
        simp (disch := omega) only [z_app, z_lit, z_neg, z_wi1, z_wi0, z_leT, z_leF, z_ltT, z_ltF, z_eqT, z_eqF, Int.cast_ofNat_Int, true_and, and_true, not_true_eq_false, not_false_eq_true, false_imp_iff, true_imp_iff, ite_true, ite_false, if_true, if_false, or_self, or_true, true_or, or_false, false_or]
        exact h1 (by unfold bS; omega)
      · simp (disch := omega) only [z_app, z_lit, z_neg, z_wi1, z_wi0, z_leT, z_leF, z_ltT, z_ltF, z_eqT, z_eqF, Int.cast_ofNat_Int, true_and, and_true, not_true_eq_false, not_false_eq_true, false_imp_iff, true_imp_iff, ite_true, ite_false, if_true, if_false, or_self, or_true, true_or, or_false, false_or]
        refine k_isOpen1 hw hJ (by omega) (by omega) ho ?_
        simp (disch := omega) only [z_app, z_lit, z_neg, z_wi1, z_wi0, z_leT, z_leF, z_ltT, z_ltF, z_eqT, z_eqF, Int.cast_ofNat_Int, true_and, and_true, not_true_eq_false, not_false_eq_true, false_imp_iff, true_imp_iff, ite_true, ite_false, if_true, if_false, or_self, or_true, true_or, or_false, false_or]
        exact h0 (by unfold bS; omega)
    · obtain ⟨R3, R4⟩ := R1 tn
      by_cases to : s 55 tx = -1
      · simp (disch := omega) only [z_app, z_lit, z_neg, z_wi1, z_wi0, z_leT, z_leF, z_ltT, z_ltF, z_eqT, z_eqF, Int.cast_ofNat_Int, true_and, and_true, not_true_eq_false, not_false_eq_true, false_imp_iff, true_imp_iff, ite_true, ite_false, if_true, if_false, or_self, or_true, true_or, or_false, false_or]
        refine k_isOpen0 hw hJ (by omega) (by omega) to ?_
        simp (disch := omega) only [z_app, z_lit, z_neg, z_wi1, z_wi0, z_leT, z_leF, z_ltT, z_ltF, z_eqT, z_eqF, Int.cast_ofNat_Int, true_and, and_true, not_true_eq_false, not_false_eq_true, false_imp_iff, true_imp_iff, ite_true, ite_false, if_true, if_false, or_self, or_true, true_or, or_false, false_or]
        exact h1 (by unfold bS; omega)
      · simp (disch := omega) only [z_app, z_lit, z_neg, z_wi1, z_wi0, z_leT, z_leF, z_ltT, z_ltF, z_eqT, z_eqF, Int.cast_ofNat_Int, true_and, and_true, not_true_eq_false, not_false_eq_true, false_imp_iff, true_imp_iff, ite_true, ite_false, if_true, if_false, or_self, or_true, true_or, or_false, false_or]
        refine k_isOpen1 hw hJ (by omega) (by omega) to ?_
        by_cases ho : s 55 a = -1
        · simp (disch := omega) only [z_app, z_lit, z_neg, z_wi1, z_wi0, z_leT, z_leF, z_ltT, z_ltF, z_eqT, z_eqF, Int.cast_ofNat_Int, true_and, and_true, not_true_eq_false, not_false_eq_true, false_imp_iff, true_imp_iff, ite_true, ite_false, if_true, if_false, or_self, or_true, true_or, or_false, false_or]
          refine k_isOpen0 hw hJ (by omega) (by omega) ho ?_
          simp (disch := omega) only [z_app, z_lit, z_neg, z_wi1, z_wi0, z_leT, z_leF, z_ltT, z_ltF, z_eqT, z_eqF, Int.cast_ofNat_Int, true_and, and_true, not_true_eq_false, not_false_eq_true, false_imp_iff, true_imp_iff, ite_true, ite_false, if_true, if_false, or_self, or_true, true_or, or_false, false_or]
          exact h1 (by unfold bS; omega)
        · simp (disch := omega) only [z_app, z_lit, z_neg, z_wi1, z_wi0, z_leT, z_leF, z_ltT, z_ltF, z_eqT, z_eqF, Int.cast_ofNat_Int, true_and, and_true, not_true_eq_false, not_false_eq_true, false_imp_iff, true_imp_iff, ite_true, ite_false, if_true, if_false, or_self, or_true, true_or, or_false, false_or]
          refine k_isOpen1 hw hJ (by omega) (by omega) ho ?_
          simp (disch := omega) only [z_app, z_lit, z_neg, z_wi1, z_wi0, z_leT, z_leF, z_ltT, z_ltF, z_eqT, z_eqF, Int.cast_ofNat_Int, true_and, and_true, not_true_eq_false, not_false_eq_true, false_imp_iff, true_imp_iff, ite_true, ite_false, if_true, if_false, or_self, or_true, true_or, or_false, false_or]
          exact h0 (by unfold bS; omega)
  · simp (disch := omega) only [z_app, z_lit, z_neg, z_wi1, z_wi0, z_leT, z_leF, z_ltT, z_ltF, z_eqT, z_eqF, Int.cast_ofNat_Int, true_and, and_true, not_true_eq_false, not_false_eq_true, false_imp_iff, true_imp_iff, ite_true, ite_false, if_true, if_false, or_self, or_true, true_or, or_false, false_or]
    exact h1 (by unfold bS; omega)
theorem k_bs258 (hw : qWF g) (hJ : jJ s) {a b tx : Int} (ia : i32 a) (it : i32 tx) (hI : ¬ bI s 258 a b tx) (h1 : bS s 258 a tx → Q (iI 1) (qi s)) (h0 : ¬ bS s 258 a tx → Q (iI 0) (qi s)) : qC g (d + 2) mX2_isBadState [.inr 1, .inl (iI 258), .inl (iI a), .inl (iI tx)] (qi s) Q T := by
  have B : 0 ≤ s 26 6 ∧ s 26 6 ≤ 6 ∧ 0 ≤ s 2 9 ∧ s 2 9 ≤ 400 := by have := jb hJ; omega
  obtain ⟨F1, F2, -⟩ := frT_b s
  unfold i32 at ia it
  have R1 : tx ≠ -1 → 0 ≤ tx ∧ tx ≤ 3 := by unfold bI at hI; omega
  have R2 : 0 ≤ a ∧ a ≤ 3 := by first | trivial | (unfold bI at hI; omega)
  clear hI
  refine wX2_isBadState hw ?_
  simp only [show (iI 258).toInt = 258 from z_toInt (by decide) (by decide), Int.reduceEq, false_imp_iff, true_imp_iff, not_true_eq_false, not_false_eq_true, true_and, and_true]
  refine ⟨fun _ => ?_, fun hn => absurd (show ¬ iI 258 = 265 by decide +kernel) hn⟩
  by_cases hf : s 2 9 < 400
  · by_cases tn : tx = -1
    · by_cases ho : s 55 a = -1
      · simp (disch := omega) only [z_app, z_lit, z_neg, z_wi1, z_wi0, z_leT, z_leF, z_ltT, z_ltF, z_eqT, z_eqF, Int.cast_ofNat_Int, true_and, and_true, not_true_eq_false, not_false_eq_true, false_imp_iff, true_imp_iff, ite_true, ite_false, if_true, if_false, or_self, or_true, true_or, or_false, false_or]
        refine k_isOpen0 hw hJ (by omega) (by omega) ho ?_
        simp (disch := omega) only [z_app, z_lit, z_neg, z_wi1, z_wi0, z_leT, z_leF, z_ltT, z_ltF, z_eqT, z_eqF, Int.cast_ofNat_Int, true_and, and_true, not_true_eq_false, not_false_eq_true, false_imp_iff, true_imp_iff, ite_true, ite_false, if_true, if_false, or_self, or_true, true_or, or_false, false_or]
        exact h1 (by unfold bS; omega)
      · simp (disch := omega) only [z_app, z_lit, z_neg, z_wi1, z_wi0, z_leT, z_leF, z_ltT, z_ltF, z_eqT, z_eqF, Int.cast_ofNat_Int, true_and, and_true, not_true_eq_false, not_false_eq_true, false_imp_iff, true_imp_iff, ite_true, ite_false, if_true, if_false, or_self, or_true, true_or, or_false, false_or]
        refine k_isOpen1 hw hJ (by omega) (by omega) ho ?_
        simp (disch := omega) only [z_app, z_lit, z_neg, z_wi1, z_wi0, z_leT, z_leF, z_ltT, z_ltF, z_eqT, z_eqF, Int.cast_ofNat_Int, true_and, and_true, not_true_eq_false, not_false_eq_true, false_imp_iff, true_imp_iff, ite_true, ite_false, if_true, if_false, or_self, or_true, true_or, or_false, false_or]
        exact h0 (by unfold bS; omega)
    · obtain ⟨R3, R4⟩ := R1 tn
      by_cases to : s 55 tx = -1
      · simp (disch := omega) only [z_app, z_lit, z_neg, z_wi1, z_wi0, z_leT, z_leF, z_ltT, z_ltF, z_eqT, z_eqF, Int.cast_ofNat_Int, true_and, and_true, not_true_eq_false, not_false_eq_true, false_imp_iff, true_imp_iff, ite_true, ite_false, if_true, if_false, or_self, or_true, true_or, or_false, false_or]
        refine k_isOpen0 hw hJ (by omega) (by omega) to ?_
        simp (disch := omega) only [z_app, z_lit, z_neg, z_wi1, z_wi0, z_leT, z_leF, z_ltT, z_ltF, z_eqT, z_eqF, Int.cast_ofNat_Int, true_and, and_true, not_true_eq_false, not_false_eq_true, false_imp_iff, true_imp_iff, ite_true, ite_false, if_true, if_false, or_self, or_true, true_or, or_false, false_or]
        exact h1 (by unfold bS; omega)
      · simp (disch := omega) only [z_app, z_lit, z_neg, z_wi1, z_wi0, z_leT, z_leF, z_ltT, z_ltF, z_eqT, z_eqF, Int.cast_ofNat_Int, true_and, and_true, not_true_eq_false, not_false_eq_true, false_imp_iff, true_imp_iff, ite_true, ite_false, if_true, if_false, or_self, or_true, true_or, or_false, false_or]
        refine k_isOpen1 hw hJ (by omega) (by omega) to ?_
        by_cases ho : s 55 a = -1
        · simp (disch := omega) only [z_app, z_lit, z_neg, z_wi1, z_wi0, z_leT, z_leF, z_ltT, z_ltF, z_eqT, z_eqF, Int.cast_ofNat_Int, true_and, and_true, not_true_eq_false, not_false_eq_true, false_imp_iff, true_imp_iff, ite_true, ite_false, if_true, if_false, or_self, or_true, true_or, or_false, false_or]
          refine k_isOpen0 hw hJ (by omega) (by omega) ho ?_
          simp (disch := omega) only [z_app, z_lit, z_neg, z_wi1, z_wi0, z_leT, z_leF, z_ltT, z_ltF, z_eqT, z_eqF, Int.cast_ofNat_Int, true_and, and_true, not_true_eq_false, not_false_eq_true, false_imp_iff, true_imp_iff, ite_true, ite_false, if_true, if_false, or_self, or_true, true_or, or_false, false_or]
          exact h1 (by unfold bS; omega)
        · simp (disch := omega) only [z_app, z_lit, z_neg, z_wi1, z_wi0, z_leT, z_leF, z_ltT, z_ltF, z_eqT, z_eqF, Int.cast_ofNat_Int, true_and, and_true, not_true_eq_false, not_false_eq_true, false_imp_iff, true_imp_iff, ite_true, ite_false, if_true, if_false, or_self, or_true, true_or, or_false, false_or]
          refine k_isOpen1 hw hJ (by omega) (by omega) ho ?_
          simp (disch := omega) only [z_app, z_lit, z_neg, z_wi1, z_wi0, z_leT, z_leF, z_ltT, z_ltF, z_eqT, z_eqF, Int.cast_ofNat_Int, true_and, and_true, not_true_eq_false, not_false_eq_true, false_imp_iff, true_imp_iff, ite_true, ite_false, if_true, if_false, or_self, or_true, true_or, or_false, false_or]
          exact h0 (by unfold bS; omega)
  · simp (disch := omega) only [z_app, z_lit, z_neg, z_wi1, z_wi0, z_leT, z_leF, z_ltT, z_ltF, z_eqT, z_eqF, Int.cast_ofNat_Int, true_and, and_true, not_true_eq_false, not_false_eq_true, false_imp_iff, true_imp_iff, ite_true, ite_false, if_true, if_false, or_self, or_true, true_or, or_false, false_or]
    exact h1 (by unfold bS; omega)
theorem k_bs259 (hw : qWF g) (hJ : jJ s) {a b tx : Int} (ia : i32 a) (it : i32 tx) (hI : ¬ bI s 259 a b tx) (h1 : bS s 259 a tx → Q (iI 1) (qi s)) (h0 : ¬ bS s 259 a tx → Q (iI 0) (qi s)) : qC g (d + 2) mX2_isBadState [.inr 1, .inl (iI 259), .inl (iI a), .inl (iI tx)] (qi s) Q T := by
  have B : 0 ≤ s 26 6 ∧ s 26 6 ≤ 6 ∧ 0 ≤ s 2 9 ∧ s 2 9 ≤ 400 := by have := jb hJ; omega
  obtain ⟨F1, F2, -⟩ := frT_b s
  unfold i32 at ia it
  have R1 : tx ≠ -1 → 0 ≤ tx ∧ tx ≤ 3 := by unfold bI at hI; omega
  have R2 : True := by first | trivial | (unfold bI at hI; omega)
  clear hI
  refine wX2_isBadState hw ?_
  simp only [show (iI 259).toInt = 259 from z_toInt (by decide) (by decide), Int.reduceEq, false_imp_iff, true_imp_iff, not_true_eq_false, not_false_eq_true, true_and, and_true]
  refine ⟨fun _ => ?_, fun hn => absurd (show ¬ iI 259 = 265 by decide +kernel) hn⟩
  by_cases hf : s 2 9 < 400
  · by_cases tn : tx = -1
    · simp (disch := omega) only [z_app, z_lit, z_neg, z_wi1, z_wi0, z_leT, z_leF, z_ltT, z_ltF, z_eqT, z_eqF, Int.cast_ofNat_Int, true_and, and_true, not_true_eq_false, not_false_eq_true, false_imp_iff, true_imp_iff, ite_true, ite_false, if_true, if_false, or_self, or_true, true_or, or_false, false_or]
      exact h0 (by unfold bS; omega)
    · obtain ⟨R3, R4⟩ := R1 tn
      by_cases to : s 55 tx = -1
      · simp (disch := omega) only [z_app, z_lit, z_neg, z_wi1, z_wi0, z_leT, z_leF, z_ltT, z_ltF, z_eqT, z_eqF, Int.cast_ofNat_Int, true_and, and_true, not_true_eq_false, not_false_eq_true, false_imp_iff, true_imp_iff, ite_true, ite_false, if_true, if_false, or_self, or_true, true_or, or_false, false_or]
        refine k_isOpen0 hw hJ (by omega) (by omega) to ?_
        simp (disch := omega) only [z_app, z_lit, z_neg, z_wi1, z_wi0, z_leT, z_leF, z_ltT, z_ltF, z_eqT, z_eqF, Int.cast_ofNat_Int, true_and, and_true, not_true_eq_false, not_false_eq_true, false_imp_iff, true_imp_iff, ite_true, ite_false, if_true, if_false, or_self, or_true, true_or, or_false, false_or]
        exact h1 (by unfold bS; omega)
      · simp (disch := omega) only [z_app, z_lit, z_neg, z_wi1, z_wi0, z_leT, z_leF, z_ltT, z_ltF, z_eqT, z_eqF, Int.cast_ofNat_Int, true_and, and_true, not_true_eq_false, not_false_eq_true, false_imp_iff, true_imp_iff, ite_true, ite_false, if_true, if_false, or_self, or_true, true_or, or_false, false_or]
        refine k_isOpen1 hw hJ (by omega) (by omega) to ?_
        simp (disch := omega) only [z_app, z_lit, z_neg, z_wi1, z_wi0, z_leT, z_leF, z_ltT, z_ltF, z_eqT, z_eqF, Int.cast_ofNat_Int, true_and, and_true, not_true_eq_false, not_false_eq_true, false_imp_iff, true_imp_iff, ite_true, ite_false, if_true, if_false, or_self, or_true, true_or, or_false, false_or]
        exact h0 (by unfold bS; omega)
  · simp (disch := omega) only [z_app, z_lit, z_neg, z_wi1, z_wi0, z_leT, z_leF, z_ltT, z_ltF, z_eqT, z_eqF, Int.cast_ofNat_Int, true_and, and_true, not_true_eq_false, not_false_eq_true, false_imp_iff, true_imp_iff, ite_true, ite_false, if_true, if_false, or_self, or_true, true_or, or_false, false_or]
    exact h1 (by unfold bS; omega)
theorem k_bs260 (hw : qWF g) (hJ : jJ s) {a b tx : Int} (ia : i32 a) (it : i32 tx) (hI : ¬ bI s 260 a b tx) (h1 : bS s 260 a tx → Q (iI 1) (qi s)) (h0 : ¬ bS s 260 a tx → Q (iI 0) (qi s)) : qC g (d + 2) mX2_isBadState [.inr 1, .inl (iI 260), .inl (iI a), .inl (iI tx)] (qi s) Q T := by
  have B : 0 ≤ s 26 6 ∧ s 26 6 ≤ 6 ∧ 0 ≤ s 2 9 ∧ s 2 9 ≤ 400 := by have := jb hJ; omega
  obtain ⟨F1, F2, -⟩ := frT_b s
  unfold i32 at ia it
  have R1 : tx ≠ -1 → 0 ≤ tx ∧ tx ≤ 3 := by unfold bI at hI; omega
  have R2 : True := by first | trivial | (unfold bI at hI; omega)
  clear hI
  refine wX2_isBadState hw ?_
  simp only [show (iI 260).toInt = 260 from z_toInt (by decide) (by decide), Int.reduceEq, false_imp_iff, true_imp_iff, not_true_eq_false, not_false_eq_true, true_and, and_true]
  refine ⟨fun _ => ?_, fun hn => absurd (show ¬ iI 260 = 265 by decide +kernel) hn⟩
  by_cases hf : s 2 9 < 400
  · by_cases tn : tx = -1
    · simp (disch := omega) only [z_app, z_lit, z_neg, z_wi1, z_wi0, z_leT, z_leF, z_ltT, z_ltF, z_eqT, z_eqF, Int.cast_ofNat_Int, true_and, and_true, not_true_eq_false, not_false_eq_true, false_imp_iff, true_imp_iff, ite_true, ite_false, if_true, if_false, or_self, or_true, true_or, or_false, false_or]
      exact h0 (by unfold bS; omega)
    · obtain ⟨R3, R4⟩ := R1 tn
      by_cases to : s 55 tx = -1
      · simp (disch := omega) only [z_app, z_lit, z_neg, z_wi1, z_wi0, z_leT, z_leF, z_ltT, z_ltF, z_eqT, z_eqF, Int.cast_ofNat_Int, true_and, and_true, not_true_eq_false, not_false_eq_true, false_imp_iff, true_imp_iff, ite_true, ite_false, if_true, if_false, or_self, or_true, true_or, or_false, false_or]
        refine k_isOpen0 hw hJ (by omega) (by omega) to ?_
        simp (disch := omega) only [z_app, z_lit, z_neg, z_wi1, z_wi0, z_leT, z_leF, z_ltT, z_ltF, z_eqT, z_eqF, Int.cast_ofNat_Int, true_and, and_true, not_true_eq_false, not_false_eq_true, false_imp_iff, true_imp_iff, ite_true, ite_false, if_true, if_false, or_self, or_true, true_or, or_false, false_or]
        exact h1 (by unfold bS; omega)
      · simp (disch := omega) only [z_app, z_lit, z_neg, z_wi1, z_wi0, z_leT, z_leF, z_ltT, z_ltF, z_eqT, z_eqF, Int.cast_ofNat_Int, true_and, and_true, not_true_eq_false, not_false_eq_true, false_imp_iff, true_imp_iff, ite_true, ite_false, if_true, if_false, or_self, or_true, true_or, or_false, false_or]
        refine k_isOpen1 hw hJ (by omega) (by omega) to ?_
        simp (disch := omega) only [z_app, z_lit, z_neg, z_wi1, z_wi0, z_leT, z_leF, z_ltT, z_ltF, z_eqT, z_eqF, Int.cast_ofNat_Int, true_and, and_true, not_true_eq_false, not_false_eq_true, false_imp_iff, true_imp_iff, ite_true, ite_false, if_true, if_false, or_self, or_true, true_or, or_false, false_or]
        exact h0 (by unfold bS; omega)
  · simp (disch := omega) only [z_app, z_lit, z_neg, z_wi1, z_wi0, z_leT, z_leF, z_ltT, z_ltF, z_eqT, z_eqF, Int.cast_ofNat_Int, true_and, and_true, not_true_eq_false, not_false_eq_true, false_imp_iff, true_imp_iff, ite_true, ite_false, if_true, if_false, or_self, or_true, true_or, or_false, false_or]
    exact h1 (by unfold bS; omega)
theorem k_bs261 (hw : qWF g) (hJ : jJ s) {a b tx : Int} (ia : i32 a) (it : i32 tx) (hI : ¬ bI s 261 a b tx) (h1 : bS s 261 a tx → Q (iI 1) (qi s)) (h0 : ¬ bS s 261 a tx → Q (iI 0) (qi s)) : qC g (d + 2) mX2_isBadState [.inr 1, .inl (iI 261), .inl (iI a), .inl (iI tx)] (qi s) Q T := by
  have B : 0 ≤ s 26 6 ∧ s 26 6 ≤ 6 ∧ 0 ≤ s 2 9 ∧ s 2 9 ≤ 400 := by have := jb hJ; omega
  obtain ⟨F1, F2, -⟩ := frT_b s
  unfold i32 at ia it
  have R1 : tx ≠ -1 → 0 ≤ tx ∧ tx ≤ 3 := by unfold bI at hI; omega
  have R2 : True := by first | trivial | (unfold bI at hI; omega)
  clear hI
  refine wX2_isBadState hw ?_
  simp only [show (iI 261).toInt = 261 from z_toInt (by decide) (by decide), Int.reduceEq, false_imp_iff, true_imp_iff, not_true_eq_false, not_false_eq_true, true_and, and_true]
  refine ⟨fun _ => ?_, fun hn => absurd (show ¬ iI 261 = 265 by decide +kernel) hn⟩
  by_cases hf : s 2 9 < 400
  · by_cases tn : tx = -1
    · simp (disch := omega) only [z_app, z_lit, z_neg, z_wi1, z_wi0, z_leT, z_leF, z_ltT, z_ltF, z_eqT, z_eqF, Int.cast_ofNat_Int, true_and, and_true, not_true_eq_false, not_false_eq_true, false_imp_iff, true_imp_iff, ite_true, ite_false, if_true, if_false, or_self, or_true, true_or, or_false, false_or]
      exact h0 (by unfold bS; omega)
    · obtain ⟨R3, R4⟩ := R1 tn
      by_cases to : s 55 tx = -1
      · simp (disch := omega) only [z_app, z_lit, z_neg, z_wi1, z_wi0, z_leT, z_leF, z_ltT, z_ltF, z_eqT, z_eqF, Int.cast_ofNat_Int, true_and, and_true, not_true_eq_false, not_false_eq_true, false_imp_iff, true_imp_iff, ite_true, ite_false, if_true, if_false, or_self, or_true, true_or, or_false, false_or]
        refine k_isOpen0 hw hJ (by omega) (by omega) to ?_
        simp (disch := omega) only [z_app, z_lit, z_neg, z_wi1, z_wi0, z_leT, z_leF, z_ltT, z_ltF, z_eqT, z_eqF, Int.cast_ofNat_Int, true_and, and_true, not_true_eq_false, not_false_eq_true, false_imp_iff, true_imp_iff, ite_true, ite_false, if_true, if_false, or_self, or_true, true_or, or_false, false_or]
        exact h1 (by unfold bS; omega)
      · simp (disch := omega) only [z_app, z_lit, z_neg, z_wi1, z_wi0, z_leT, z_leF, z_ltT, z_ltF, z_eqT, z_eqF, Int.cast_ofNat_Int, true_and, and_true, not_true_eq_false, not_false_eq_true, false_imp_iff, true_imp_iff, ite_true, ite_false, if_true, if_false, or_self, or_true, true_or, or_false, false_or]
        refine k_isOpen1 hw hJ (by omega) (by omega) to ?_
        simp (disch := omega) only [z_app, z_lit, z_neg, z_wi1, z_wi0, z_leT, z_leF, z_ltT, z_ltF, z_eqT, z_eqF, Int.cast_ofNat_Int, true_and, and_true, not_true_eq_false, not_false_eq_true, false_imp_iff, true_imp_iff, ite_true, ite_false, if_true, if_false, or_self, or_true, true_or, or_false, false_or]
        exact h0 (by unfold bS; omega)
  · simp (disch := omega) only [z_app, z_lit, z_neg, z_wi1, z_wi0, z_leT, z_leF, z_ltT, z_ltF, z_eqT, z_eqF, Int.cast_ofNat_Int, true_and, and_true, not_true_eq_false, not_false_eq_true, false_imp_iff, true_imp_iff, ite_true, ite_false, if_true, if_false, or_self, or_true, true_or, or_false, false_or]
    exact h1 (by unfold bS; omega)
theorem k_bs262 (hw : qWF g) (hJ : jJ s) {a b tx : Int} (ia : i32 a) (it : i32 tx) (hI : ¬ bI s 262 a b tx) (h1 : bS s 262 a tx → Q (iI 1) (qi s)) (h0 : ¬ bS s 262 a tx → Q (iI 0) (qi s)) : qC g (d + 2) mX2_isBadState [.inr 1, .inl (iI 262), .inl (iI a), .inl (iI tx)] (qi s) Q T := by
  have B : 0 ≤ s 26 6 ∧ s 26 6 ≤ 6 ∧ 0 ≤ s 2 9 ∧ s 2 9 ≤ 400 := by have := jb hJ; omega
  obtain ⟨F1, F2, -⟩ := frT_b s
  unfold i32 at ia it
  have R1 : tx ≠ -1 → 0 ≤ tx ∧ tx ≤ 3 := by unfold bI at hI; omega
  have R2 : True := by first | trivial | (unfold bI at hI; omega)
  clear hI
  refine wX2_isBadState hw ?_
  simp only [show (iI 262).toInt = 262 from z_toInt (by decide) (by decide), Int.reduceEq, false_imp_iff, true_imp_iff, not_true_eq_false, not_false_eq_true, true_and, and_true]
  refine ⟨fun _ => ?_, fun hn => absurd (show ¬ iI 262 = 265 by decide +kernel) hn⟩
  by_cases hf : s 2 9 < 400
  · by_cases tn : tx = -1
    · simp (disch := omega) only [z_app, z_lit, z_neg, z_wi1, z_wi0, z_leT, z_leF, z_ltT, z_ltF, z_eqT, z_eqF, Int.cast_ofNat_Int, true_and, and_true, not_true_eq_false, not_false_eq_true, false_imp_iff, true_imp_iff, ite_true, ite_false, if_true, if_false, or_self, or_true, true_or, or_false, false_or]
      exact h0 (by unfold bS; omega)
    · obtain ⟨R3, R4⟩ := R1 tn
      by_cases to : s 55 tx = -1
      · simp (disch := omega) only [z_app, z_lit, z_neg, z_wi1, z_wi0, z_leT, z_leF, z_ltT, z_ltF, z_eqT, z_eqF, Int.cast_ofNat_Int, true_and, and_true, not_true_eq_false, not_false_eq_true, false_imp_iff, true_imp_iff, ite_true, ite_false, if_true, if_false, or_self, or_true, true_or, or_false, false_or]
        refine k_isOpen0 hw hJ (by omega) (by omega) to ?_
        simp (disch := omega) only [z_app, z_lit, z_neg, z_wi1, z_wi0, z_leT, z_leF, z_ltT, z_ltF, z_eqT, z_eqF, Int.cast_ofNat_Int, true_and, and_true, not_true_eq_false, not_false_eq_true, false_imp_iff, true_imp_iff, ite_true, ite_false, if_true, if_false, or_self, or_true, true_or, or_false, false_or]
        exact h1 (by unfold bS; omega)
      · simp (disch := omega) only [z_app, z_lit, z_neg, z_wi1, z_wi0, z_leT, z_leF, z_ltT, z_ltF, z_eqT, z_eqF, Int.cast_ofNat_Int, true_and, and_true, not_true_eq_false, not_false_eq_true, false_imp_iff, true_imp_iff, ite_true, ite_false, if_true, if_false, or_self, or_true, true_or, or_false, false_or]
        refine k_isOpen1 hw hJ (by omega) (by omega) to ?_
        simp (disch := omega) only [z_app, z_lit, z_neg, z_wi1, z_wi0, z_leT, z_leF, z_ltT, z_ltF, z_eqT, z_eqF, Int.cast_ofNat_Int, true_and, and_true, not_true_eq_false, not_false_eq_true, false_imp_iff, true_imp_iff, ite_true, ite_false, if_true, if_false, or_self, or_true, true_or, or_false, false_or]
        exact h0 (by unfold bS; omega)
  · simp (disch := omega) only [z_app, z_lit, z_neg, z_wi1, z_wi0, z_leT, z_leF, z_ltT, z_ltF, z_eqT, z_eqF, Int.cast_ofNat_Int, true_and, and_true, not_true_eq_false, not_false_eq_true, false_imp_iff, true_imp_iff, ite_true, ite_false, if_true, if_false, or_self, or_true, true_or, or_false, false_or]
    exact h1 (by unfold bS; omega)
theorem k_bs263 (hw : qWF g) (hJ : jJ s) {a b tx : Int} (ia : i32 a) (it : i32 tx) (hI : ¬ bI s 263 a b tx) (h1 : bS s 263 a tx → Q (iI 1) (qi s)) (h0 : ¬ bS s 263 a tx → Q (iI 0) (qi s)) : qC g (d + 2) mX2_isBadState [.inr 1, .inl (iI 263), .inl (iI a), .inl (iI tx)] (qi s) Q T := by
  have B : 0 ≤ s 26 6 ∧ s 26 6 ≤ 6 ∧ 0 ≤ s 2 9 ∧ s 2 9 ≤ 400 := by have := jb hJ; omega
  obtain ⟨F1, F2, -⟩ := frT_b s
  unfold i32 at ia it
  have R1 : tx ≠ -1 → 0 ≤ tx ∧ tx ≤ 3 := by unfold bI at hI; omega
  have R2 : True := by first | trivial | (unfold bI at hI; omega)
  clear hI
  refine wX2_isBadState hw ?_
  simp only [show (iI 263).toInt = 263 from z_toInt (by decide) (by decide), Int.reduceEq, false_imp_iff, true_imp_iff, not_true_eq_false, not_false_eq_true, true_and, and_true]
  refine ⟨fun _ => ?_, fun hn => absurd (show ¬ iI 263 = 265 by decide +kernel) hn⟩
  by_cases hf : s 2 9 < 400
  · by_cases tn : tx = -1
    · by_cases hc : s 26 6 < 6
      · simp (disch := omega) only [z_app, z_lit, z_neg, z_wi1, z_wi0, z_leT, z_leF, z_ltT, z_ltF, z_eqT, z_eqF, Int.cast_ofNat_Int, true_and, and_true, not_true_eq_false, not_false_eq_true, false_imp_iff, true_imp_iff, ite_true, ite_false, if_true, if_false, or_self, or_true, true_or, or_false, false_or]
        exact h0 (by unfold bS; omega)
      · simp (disch := omega) only [z_app, z_lit, z_neg, z_wi1, z_wi0, z_leT, z_leF, z_ltT, z_ltF, z_eqT, z_eqF, Int.cast_ofNat_Int, true_and, and_true, not_true_eq_false, not_false_eq_true, false_imp_iff, true_imp_iff, ite_true, ite_false, if_true, if_false, or_self, or_true, true_or, or_false, false_or]
        exact h1 (by unfold bS; omega)
    · obtain ⟨R3, R4⟩ := R1 tn
      by_cases to : s 55 tx = -1
      · simp (disch := omega) only [z_app, z_lit, z_neg, z_wi1, z_wi0, z_leT, z_leF, z_ltT, z_ltF, z_eqT, z_eqF, Int.cast_ofNat_Int, true_and, and_true, not_true_eq_false, not_false_eq_true, false_imp_iff, true_imp_iff, ite_true, ite_false, if_true, if_false, or_self, or_true, true_or, or_false, false_or]
        refine k_isOpen0 hw hJ (by omega) (by omega) to ?_
        simp (disch := omega) only [z_app, z_lit, z_neg, z_wi1, z_wi0, z_leT, z_leF, z_ltT, z_ltF, z_eqT, z_eqF, Int.cast_ofNat_Int, true_and, and_true, not_true_eq_false, not_false_eq_true, false_imp_iff, true_imp_iff, ite_true, ite_false, if_true, if_false, or_self, or_true, true_or, or_false, false_or]
        exact h1 (by unfold bS; omega)
      · simp (disch := omega) only [z_app, z_lit, z_neg, z_wi1, z_wi0, z_leT, z_leF, z_ltT, z_ltF, z_eqT, z_eqF, Int.cast_ofNat_Int, true_and, and_true, not_true_eq_false, not_false_eq_true, false_imp_iff, true_imp_iff, ite_true, ite_false, if_true, if_false, or_self, or_true, true_or, or_false, false_or]
        refine k_isOpen1 hw hJ (by omega) (by omega) to ?_
        by_cases hc : s 26 6 < 6
        · simp (disch := omega) only [z_app, z_lit, z_neg, z_wi1, z_wi0, z_leT, z_leF, z_ltT, z_ltF, z_eqT, z_eqF, Int.cast_ofNat_Int, true_and, and_true, not_true_eq_false, not_false_eq_true, false_imp_iff, true_imp_iff, ite_true, ite_false, if_true, if_false, or_self, or_true, true_or, or_false, false_or]
          exact h0 (by unfold bS; omega)
        · simp (disch := omega) only [z_app, z_lit, z_neg, z_wi1, z_wi0, z_leT, z_leF, z_ltT, z_ltF, z_eqT, z_eqF, Int.cast_ofNat_Int, true_and, and_true, not_true_eq_false, not_false_eq_true, false_imp_iff, true_imp_iff, ite_true, ite_false, if_true, if_false, or_self, or_true, true_or, or_false, false_or]
          exact h1 (by unfold bS; omega)
  · simp (disch := omega) only [z_app, z_lit, z_neg, z_wi1, z_wi0, z_leT, z_leF, z_ltT, z_ltF, z_eqT, z_eqF, Int.cast_ofNat_Int, true_and, and_true, not_true_eq_false, not_false_eq_true, false_imp_iff, true_imp_iff, ite_true, ite_false, if_true, if_false, or_self, or_true, true_or, or_false, false_or]
    exact h1 (by unfold bS; omega)
theorem k_bs264 (hw : qWF g) (hJ : jJ s) {a b tx : Int} (ia : i32 a) (it : i32 tx) (hI : ¬ bI s 264 a b tx) (h1 : bS s 264 a tx → Q (iI 1) (qi s)) (h0 : ¬ bS s 264 a tx → Q (iI 0) (qi s)) : qC g (d + 2) mX2_isBadState [.inr 1, .inl (iI 264), .inl (iI a), .inl (iI tx)] (qi s) Q T := by
  have B : 0 ≤ s 26 6 ∧ s 26 6 ≤ 6 ∧ 0 ≤ s 2 9 ∧ s 2 9 ≤ 400 := by have := jb hJ; omega
  obtain ⟨F1, F2, -⟩ := frT_b s
  unfold i32 at ia it
  have R1 : tx ≠ -1 → 0 ≤ tx ∧ tx ≤ 3 := by unfold bI at hI; omega
  have R2 : True := by first | trivial | (unfold bI at hI; omega)
  clear hI
  refine wX2_isBadState hw ?_
  simp only [show (iI 264).toInt = 264 from z_toInt (by decide) (by decide), Int.reduceEq, false_imp_iff, true_imp_iff, not_true_eq_false, not_false_eq_true, true_and, and_true]
  refine ⟨fun _ => ?_, fun hn => absurd (show ¬ iI 264 = 265 by decide +kernel) hn⟩
  by_cases hf : s 2 9 < 400
  · by_cases tn : tx = -1
    · simp (disch := omega) only [z_app, z_lit, z_neg, z_wi1, z_wi0, z_leT, z_leF, z_ltT, z_ltF, z_eqT, z_eqF, Int.cast_ofNat_Int, true_and, and_true, not_true_eq_false, not_false_eq_true, false_imp_iff, true_imp_iff, ite_true, ite_false, if_true, if_false, or_self, or_true, true_or, or_false, false_or]
      exact h0 (by unfold bS; omega)
    · obtain ⟨R3, R4⟩ := R1 tn
      by_cases to : s 55 tx = -1
      · simp (disch := omega) only [z_app, z_lit, z_neg, z_wi1, z_wi0, z_leT, z_leF, z_ltT, z_ltF, z_eqT, z_eqF, Int.cast_ofNat_Int, true_and, and_true, not_true_eq_false, not_false_eq_true, false_imp_iff, true_imp_iff, ite_true, ite_false, if_true, if_false, or_self, or_true, true_or, or_false, false_or]
        refine k_isOpen0 hw hJ (by omega) (by omega) to ?_
        simp (disch := omega) only [z_app, z_lit, z_neg, z_wi1, z_wi0, z_leT, z_leF, z_ltT, z_ltF, z_eqT, z_eqF, Int.cast_ofNat_Int, true_and, and_true, not_true_eq_false, not_false_eq_true, false_imp_iff, true_imp_iff, ite_true, ite_false, if_true, if_false, or_self, or_true, true_or, or_false, false_or]
        exact h1 (by unfold bS; omega)
      · simp (disch := omega) only [z_app, z_lit, z_neg, z_wi1, z_wi0, z_leT, z_leF, z_ltT, z_ltF, z_eqT, z_eqF, Int.cast_ofNat_Int, true_and, and_true, not_true_eq_false, not_false_eq_true, false_imp_iff, true_imp_iff, ite_true, ite_false, if_true, if_false, or_self, or_true, true_or, or_false, false_or]
        refine k_isOpen1 hw hJ (by omega) (by omega) to ?_
        simp (disch := omega) only [z_app, z_lit, z_neg, z_wi1, z_wi0, z_leT, z_leF, z_ltT, z_ltF, z_eqT, z_eqF, Int.cast_ofNat_Int, true_and, and_true, not_true_eq_false, not_false_eq_true, false_imp_iff, true_imp_iff, ite_true, ite_false, if_true, if_false, or_self, or_true, true_or, or_false, false_or]
        exact h0 (by unfold bS; omega)
  · simp (disch := omega) only [z_app, z_lit, z_neg, z_wi1, z_wi0, z_leT, z_leF, z_ltT, z_ltF, z_eqT, z_eqF, Int.cast_ofNat_Int, true_and, and_true, not_true_eq_false, not_false_eq_true, false_imp_iff, true_imp_iff, ite_true, ite_false, if_true, if_false, or_self, or_true, true_or, or_false, false_or]
    exact h1 (by unfold bS; omega)
theorem k_bs265 (hw : qWF g) (hJ : jJ s) {a b tx : Int} (ia : i32 a) (it : i32 tx) (hI : ¬ bI s 265 a b tx) (h1 : bS s 265 a tx → Q (iI 1) (qi s)) (h0 : ¬ bS s 265 a tx → Q (iI 0) (qi s)) : qC g (d + 2) mX2_isBadState [.inr 1, .inl (iI 265), .inl (iI a), .inl (iI tx)] (qi s) Q T := by
  have B : 0 ≤ s 26 6 ∧ s 26 6 ≤ 6 ∧ 0 ≤ s 2 9 ∧ s 2 9 ≤ 400 := by have := jb hJ; omega
  obtain ⟨F1, F2, -⟩ := frT_b s
  unfold i32 at ia it
  have R1 : tx ≠ -1 → 0 ≤ tx ∧ tx ≤ 3 := by unfold bI at hI; omega
  have R2 : True := by first | trivial | (unfold bI at hI; omega)
  clear hI
  refine wX2_isBadState hw ?_
  simp only [show (iI 265).toInt = 265 from z_toInt (by decide) (by decide), Int.reduceEq, false_imp_iff, true_imp_iff, not_true_eq_false, not_false_eq_true, true_and, and_true]
  refine ⟨fun hn => absurd rfl hn, fun _ => ⟨Or.inl trivial, h0 (by unfold bS; omega)⟩⟩
theorem k_bs266 (hw : qWF g) (hJ : jJ s) {a b tx : Int} (ia : i32 a) (it : i32 tx) (hI : ¬ bI s 266 a b tx) (h1 : bS s 266 a tx → Q (iI 1) (qi s)) (h0 : ¬ bS s 266 a tx → Q (iI 0) (qi s)) : qC g (d + 2) mX2_isBadState [.inr 1, .inl (iI 266), .inl (iI a), .inl (iI tx)] (qi s) Q T := by
  have B : 0 ≤ s 26 6 ∧ s 26 6 ≤ 6 ∧ 0 ≤ s 2 9 ∧ s 2 9 ≤ 400 := by have := jb hJ; omega
  obtain ⟨F1, F2, -⟩ := frT_b s
  unfold i32 at ia it
  have R1 : tx ≠ -1 → 0 ≤ tx ∧ tx ≤ 3 := by unfold bI at hI; omega
  have R2 : True := by first | trivial | (unfold bI at hI; omega)
  clear hI
  refine wX2_isBadState hw ?_
  simp only [show (iI 266).toInt = 266 from z_toInt (by decide) (by decide), Int.reduceEq, false_imp_iff, true_imp_iff, not_true_eq_false, not_false_eq_true, true_and, and_true]
  refine ⟨fun _ => ?_, fun hn => absurd (show ¬ iI 266 = 265 by decide +kernel) hn⟩
  by_cases hf : s 2 9 < 400
  · by_cases tn : tx = -1
    · simp (disch := omega) only [z_app, z_lit, z_neg, z_wi1, z_wi0, z_leT, z_leF, z_ltT, z_ltF, z_eqT, z_eqF, Int.cast_ofNat_Int, true_and, and_true, not_true_eq_false, not_false_eq_true, false_imp_iff, true_imp_iff, ite_true, ite_false, if_true, if_false, or_self, or_true, true_or, or_false, false_or]
      exact h0 (by unfold bS; omega)
    · obtain ⟨R3, R4⟩ := R1 tn
      by_cases to : s 55 tx = -1
      · simp (disch := omega) only [z_app, z_lit, z_neg, z_wi1, z_wi0, z_leT, z_leF, z_ltT, z_ltF, z_eqT, z_eqF, Int.cast_ofNat_Int, true_and, and_true, not_true_eq_false, not_false_eq_true, false_imp_iff, true_imp_iff, ite_true, ite_false, if_true, if_false, or_self, or_true, true_or, or_false, false_or]
        refine k_isOpen0 hw hJ (by omega) (by omega) to ?_
        simp (disch := omega) only [z_app, z_lit, z_neg, z_wi1, z_wi0, z_leT, z_leF, z_ltT, z_ltF, z_eqT, z_eqF, Int.cast_ofNat_Int, true_and, and_true, not_true_eq_false, not_false_eq_true, false_imp_iff, true_imp_iff, ite_true, ite_false, if_true, if_false, or_self, or_true, true_or, or_false, false_or]
        exact h1 (by unfold bS; omega)
      · simp (disch := omega) only [z_app, z_lit, z_neg, z_wi1, z_wi0, z_leT, z_leF, z_ltT, z_ltF, z_eqT, z_eqF, Int.cast_ofNat_Int, true_and, and_true, not_true_eq_false, not_false_eq_true, false_imp_iff, true_imp_iff, ite_true, ite_false, if_true, if_false, or_self, or_true, true_or, or_false, false_or]
        refine k_isOpen1 hw hJ (by omega) (by omega) to ?_
        simp (disch := omega) only [z_app, z_lit, z_neg, z_wi1, z_wi0, z_leT, z_leF, z_ltT, z_ltF, z_eqT, z_eqF, Int.cast_ofNat_Int, true_and, and_true, not_true_eq_false, not_false_eq_true, false_imp_iff, true_imp_iff, ite_true, ite_false, if_true, if_false, or_self, or_true, true_or, or_false, false_or]
        exact h0 (by unfold bS; omega)
  · simp (disch := omega) only [z_app, z_lit, z_neg, z_wi1, z_wi0, z_leT, z_leF, z_ltT, z_ltF, z_eqT, z_eqF, Int.cast_ofNat_Int, true_and, and_true, not_true_eq_false, not_false_eq_true, false_imp_iff, true_imp_iff, ite_true, ite_false, if_true, if_false, or_self, or_true, true_or, or_false, false_or]
    exact h1 (by unfold bS; omega)
theorem k_isBadState (hw : qWF g) (hJ : jJ s) {wd a b tx : Int} (hwd : wdR wd) (ia : i32 a) (it : i32 tx) (hI : ¬ bI s wd a b tx) (h1 : bS s wd a tx → Q (iI 1) (qi s)) (h0 : ¬ bS s wd a tx → Q (iI 0) (qi s)) : qC g (d + 2) mX2_isBadState [.inr 1, .inl (iI wd), .inl (iI a), .inl (iI tx)] (qi s) Q T := by
  rcases wd_c hwd with rfl | rfl | rfl | rfl | rfl | rfl | rfl | rfl | rfl | rfl | rfl
  · exact k_bs256 hw hJ ia it hI h1 h0
  · exact k_bs257 hw hJ ia it hI h1 h0
  · exact k_bs258 hw hJ ia it hI h1 h0
  · exact k_bs259 hw hJ ia it hI h1 h0
  · exact k_bs260 hw hJ ia it hI h1 h0
  · exact k_bs261 hw hJ ia it hI h1 h0
  · exact k_bs262 hw hJ ia it hI h1 h0
  · exact k_bs263 hw hJ ia it hI h1 h0
  · exact k_bs264 hw hJ ia it hI h1 h0
  · exact k_bs265 hw hJ ia it hI h1 h0
  · exact k_bs266 hw hJ ia it hI h1 h0
theorem k_refusal (hw : qWF g) (hJ : jJ s) {wd a b c tx : Int} (hwd : wdR wd) (ia : i32 a) (ib : i32 b) (ic : i32 c) (it : i32 tx) (h1 : bI s wd a b tx → Q (iI 1) (qi s)) (h2 : ¬ bI s wd a b tx → bA wd a b c → Q (iI 2) (qi s)) (h3 : ¬ bI s wd a b tx → ¬ bA wd a b c → bS s wd a tx → Q (iI 3) (qi s)) (h0 : ¬ bI s wd a b tx → ¬ bA wd a b c → ¬ bS s wd a tx → Q (iI 0) (qi s)) : qC g (d + 3) mX2_refusal [.inr 1, .inl (iI wd), .inl (iI a), .inl (iI b), .inl (iI c), .inl (iI tx)] (qi s) Q T := by
  refine wX2_refusal hw ?_
  refine k_isBadIndex hw hJ hwd ia ib it (fun c1 => ?_) (fun c1 => ?_)
  · simp (disch := omega) only [z_app, z_rd, z_cl, z_add, z_sub, z_mul, z_neg, z_lit, z_leT, z_leF, z_ltT, z_ltF, z_eqT, z_eqF, i_leT, i_leF, i_ltT, i_ltF, i_eqT, i_eqF, z_le, z_lt, z_eq, z_ite, z_at, z_pt, z_up, z_wr, z_wi1, z_wi0, z_wi, z_inS, z_toInt, z_nb0, z_nb1, Int.cast_ofNat_Int, true_and, and_true, not_true_eq_false, not_false_eq_true, false_imp_iff, true_imp_iff, aup_o, aup_k, ite_true, ite_false, z_fa000, z_fa001, z_fa010, z_fa011, z_fa100, z_fa101, z_fa110, z_fa111, if_true, if_false]
    exact h1 c1
  · simp (disch := omega) only [z_app, z_rd, z_cl, z_add, z_sub, z_mul, z_neg, z_lit, z_leT, z_leF, z_ltT, z_ltF, z_eqT, z_eqF, i_leT, i_leF, i_ltT, i_ltF, i_eqT, i_eqF, z_le, z_lt, z_eq, z_ite, z_at, z_pt, z_up, z_wr, z_wi1, z_wi0, z_wi, z_inS, z_toInt, z_nb0, z_nb1, Int.cast_ofNat_Int, true_and, and_true, not_true_eq_false, not_false_eq_true, false_imp_iff, true_imp_iff, aup_o, aup_k, ite_true, ite_false, z_fa000, z_fa001, z_fa010, z_fa011, z_fa100, z_fa101, z_fa110, z_fa111, if_true, if_false]
    refine k_isBadArgument hw hwd ia ib ic (fun c2 => ?_) (fun c2 => ?_)
    · simp (disch := omega) only [z_app, z_rd, z_cl, z_add, z_sub, z_mul, z_neg, z_lit, z_leT, z_leF, z_ltT, z_ltF, z_eqT, z_eqF, i_leT, i_leF, i_ltT, i_ltF, i_eqT, i_eqF, z_le, z_lt, z_eq, z_ite, z_at, z_pt, z_up, z_wr, z_wi1, z_wi0, z_wi, z_inS, z_toInt, z_nb0, z_nb1, Int.cast_ofNat_Int, true_and, and_true, not_true_eq_false, not_false_eq_true, false_imp_iff, true_imp_iff, aup_o, aup_k, ite_true, ite_false, z_fa000, z_fa001, z_fa010, z_fa011, z_fa100, z_fa101, z_fa110, z_fa111, if_true, if_false]
      exact h2 c1 c2
    · simp (disch := omega) only [z_app, z_rd, z_cl, z_add, z_sub, z_mul, z_neg, z_lit, z_leT, z_leF, z_ltT, z_ltF, z_eqT, z_eqF, i_leT, i_leF, i_ltT, i_ltF, i_eqT, i_eqF, z_le, z_lt, z_eq, z_ite, z_at, z_pt, z_up, z_wr, z_wi1, z_wi0, z_wi, z_inS, z_toInt, z_nb0, z_nb1, Int.cast_ofNat_Int, true_and, and_true, not_true_eq_false, not_false_eq_true, false_imp_iff, true_imp_iff, aup_o, aup_k, ite_true, ite_false, z_fa000, z_fa001, z_fa010, z_fa011, z_fa100, z_fa101, z_fa110, z_fa111, if_true, if_false]
      refine k_isBadState hw hJ hwd ia it c1 (fun c3 => ?_) (fun c3 => ?_)
      · simp (disch := omega) only [z_app, z_rd, z_cl, z_add, z_sub, z_mul, z_neg, z_lit, z_leT, z_leF, z_ltT, z_ltF, z_eqT, z_eqF, i_leT, i_leF, i_ltT, i_ltF, i_eqT, i_eqF, z_le, z_lt, z_eq, z_ite, z_at, z_pt, z_up, z_wr, z_wi1, z_wi0, z_wi, z_inS, z_toInt, z_nb0, z_nb1, Int.cast_ofNat_Int, true_and, and_true, not_true_eq_false, not_false_eq_true, false_imp_iff, true_imp_iff, aup_o, aup_k, ite_true, ite_false, z_fa000, z_fa001, z_fa010, z_fa011, z_fa100, z_fa101, z_fa110, z_fa111, if_true, if_false]
        exact h3 c1 c2 c3
      · simp (disch := omega) only [z_app, z_rd, z_cl, z_add, z_sub, z_mul, z_neg, z_lit, z_leT, z_leF, z_ltT, z_ltF, z_eqT, z_eqF, i_leT, i_leF, i_ltT, i_ltF, i_eqT, i_eqF, z_le, z_lt, z_eq, z_ite, z_at, z_pt, z_up, z_wr, z_wi1, z_wi0, z_wi, z_inS, z_toInt, z_nb0, z_nb1, Int.cast_ofNat_Int, true_and, and_true, not_true_eq_false, not_false_eq_true, false_imp_iff, true_imp_iff, aup_o, aup_k, ite_true, ite_false, z_fa000, z_fa001, z_fa010, z_fa011, z_fa100, z_fa101, z_fa110, z_fa111, if_true, if_false]
        exact h0 c1 c2 c3
end RF
