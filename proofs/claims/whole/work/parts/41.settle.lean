/-! ===== trimming and spilling: pure ===== -/
def u3 (s : aS) (v5 v2 v6 : Int) : aS := fun x y => if x = 21 then (if y = 5 then v5 else if y = 2 then v2 else if y = 6 then v6 else s x y) else s x y
theorem u3_up (s : aS) (p q r p' q' r' : Int) : aup (aup (aup (u3 s p q r) 21 5 p') 21 2 q') 21 6 r' = u3 s p' q' r' := by
  funext x y
  unfold aup u3
  by_cases hx : x = 21
  · simp only [hx, if_true]
    by_cases h6 : y = 6
    · simp [h6]
    · by_cases h2 : y = 2
      · simp [h2]
      · by_cases h5 : y = 5
        · simp [h5]
        · simp [h6, h2, h5]
  · simp [hx]
theorem u3_id (s : aS) : u3 s (s 21 5) (s 21 2) (s 21 6) = s := by
  funext x y
  unfold u3
  by_cases hx : x = 21
  · subst hx
    simp only [if_true]
    by_cases h5 : y = 5
    · simp [h5]
    · by_cases h2 : y = 2
      · simp [h2]
      · by_cases h6 : y = 6
        · simp [h6]
        · simp [h6, h2, h5]
  · simp [hx]
/-- trimmed up to segment k -/
def trS (s : aS) (k : Int) : aS := u3 s (s 21 5 - sI (s 25) (s 21 2) k) k (s 21 6 + (k - s 21 2))
theorem tr_5 (s : aS) (k : Int) : trS s k 21 5 = s 21 5 - sI (s 25) (s 21 2) k := rfl
theorem tr_2 (s : aS) (k : Int) : trS s k 21 2 = k := rfl
theorem tr_6 (s : aS) (k : Int) : trS s k 21 6 = s 21 6 + (k - s 21 2) := rfl
theorem tr_3 (s : aS) (k : Int) : trS s k 21 3 = s 21 3 := rfl
theorem tr_4 (s : aS) (k : Int) : trS s k 21 4 = s 21 4 := rfl
theorem tr_o {s : aS} {k : Int} {x : Nat} (h : x ≠ 21) : trS s k x = s x := by
  funext y
  unfold trS u3
  rw [if_neg h]
theorem tr_id (s : aS) : trS s (s 21 2) = s := by
  unfold trS
  rw [sI_e (Int.le_refl _), Int.sub_zero, Int.sub_self, Int.add_zero]
  exact u3_id s
theorem j_tel {s : aS} (hJ : jJ s) : ∀ k, s 21 2 ≤ k → k ≤ s 21 3 → sI (s 25) (s 21 2) k = sI (s 14) (s 23 (s 21 2)) (s 23 k) := by
  have hS := hJ.2.2.2.2.2.2.1
  refine stepDown (s 21 2) (fun k ih h0 h1 => ?_)
  by_cases h : s 21 2 < k
  · have a := (hS.1 (k - 1) (by omega) (by omega))
    rw [show k - 1 + 1 = k by omega] at a
    have m := j_mono hS (i := s 21 2) (Int.le_refl _) (k - 1) (by omega) (by omega)
    have e := ih h (by omega) (by omega)
    have l := sI_l (f := s 25) (lo := s 21 2) (hi := k - 1) (by omega)
    rw [show k - 1 + 1 = k by omega] at l
    rw [l, e, a.2]
    exact (sI_s (f := s 14) m _ (by omega)).symm
  · rw [show k = s 21 2 by omega, sI_e (Int.le_refl _), sI_e (Int.le_refl _)]
/-- trimming up to k keeps what holds, if a hold lets it -/
theorem j_trim {s : aS} (hJ : jJ s) {k : Int} (k0 : s 21 2 ≤ k) (k1 : k ≤ s 21 3) (hk : s 23 k ≤ hwS s (-1) ∨ k = s 21 2) : jJ (trS s k) := by
  have B := jb hJ
  have H := hw_b hJ (-1)
  by_cases hk2 : k = s 21 2
  · rw [hk2, tr_id]; exact hJ
  have hkk : s 23 k ≤ hwS s (-1) := by
    rcases hk with h | h
    · exact h
    · exact (hk2 h).elim
  obtain ⟨hB, hR, hD, hT, hV, hC, hS, hN, hH, hY⟩ := id hJ
  obtain ⟨⟨b1, b2, b3, b4, b5⟩, ⟨b6, b7, b8⟩, b9, b10, b11, b12⟩ := hB
  have m := j_mono hS (i := s 21 2) (Int.le_refl _) k k0 k1
  have m2 := j_mono hS (i := k) k0 (s 21 3) k1 (Int.le_refl _)
  have L := lb_b hJ
  refine ⟨⟨⟨by show (0 : Int) ≤ k; omega, k1, by show s 21 6 + (k - s 21 2) = k; omega, b4, b5⟩, ⟨by show s 23 k ≤ s 2 10; omega, b7, b8⟩, b9, b10, b11, b12⟩, hR, hD, ?_, hV, hC, ⟨?_, ?_, hS.2.2.1, hS.2.2.2.1, ?_⟩, jN_c (s := s) rfl rfl rfl rfl rfl rfl rfl rfl rfl rfl rfl hN, ?_, hY⟩
  · intro t t0 t1
    rcases hT t t0 t1 with e | ⟨⟨e1, e2, e3⟩, e4⟩
    · exact Or.inl e
    · refine Or.inr ⟨⟨?_, e2, e3⟩, e4⟩
      show s 23 k ≤ s 55 t
      have := (mI_b (f := fun t => if s 55 t = -1 then s 2 9 else s 55 t) (hi := 4) 0 (s 2 9)).2.1 t t0 t1
      have e5 : lbS s ≤ s 55 t := by
        have e6 : lbS s = mI (fun t => if s 55 t = -1 then s 2 9 else s 55 t) 0 4 (s 2 9) := rfl
        rw [← e6] at this
        by_cases hn : s 55 t = -1
        · omega
        · rw [if_neg hn] at this; exact this
      omega
  · intro i i0 i1
    exact hS.1 i (Int.le_trans k0 i0) i1
  · show k ≤ s 23 k
    exact j_seg hJ.1 hS k k0 k1
  · show s 21 5 - sI (s 25) (s 21 2) k = sI (s 14) (s 23 k) (s 2 9)
    rw [j_tel hJ k k0 k1, hS.2.2.2.2, sI_s (f := s 14) m (s 2 9) (by omega)]
    omega
  · intro j j0 j1 hj
    have j1' : j < s 23 k := j1
    by_cases hf : j < s 23 (s 21 2)
    · exact hH j j0 hf hj
    · have F := fI_b (p := fun k => decide (s 4 k ≠ 6 ∧ s 1 11 ≤ s 18 k)) (hi := s 2 9) (s 23 (s 21 2)) (by omega)
      have F3 := F.2.2.1 j (by omega) (by have : lnS s = fI (fun k => decide (s 4 k ≠ 6 ∧ s 1 11 ≤ s 18 k)) (s 23 (s 21 2)) (s 2 9) := rfl; omega)
      have hj' : (3 ≤ s 4 j ∧ s 4 j ≤ 5) ∨ s 4 j = 7 := hj
      have F4 : ¬ (s 4 j ≠ 6 ∧ s 1 11 ≤ s 18 j) := by simpa using F3
      show s 18 j < s 1 11
      omega
/-- .. as far as the hold allows -/
def trH (s : aS) : aS := trS s (tkS s (hwS s (-1)))
theorem tk_b {s : aS} (hJ : jJ s) (h : Int) : s 21 2 ≤ tkS s h ∧ tkS s h ≤ s 21 3 ∧ (s 23 (tkS s h) ≤ h ∨ tkS s h = s 21 2) := by
  have B := jb hJ
  have F := fI_b (p := fun i => decide (h < s 23 (i + 1))) (hi := s 21 3) (s 21 2) (by omega)
  have e : tkS s h = fI (fun i => decide (h < s 23 (i + 1))) (s 21 2) (s 21 3) := rfl
  rw [← e] at F
  refine ⟨F.1, F.2.1, ?_⟩
  by_cases h1 : tkS s h = s 21 2
  · exact Or.inr h1
  · left
    have := F.2.2.1 (tkS s h - 1) (by omega) (by omega)
    rw [show tkS s h - 1 + 1 = tkS s h by omega] at this
    have := of_decide_eq_false this
    omega
theorem j_trH {s : aS} (hJ : jJ s) : jJ (trH s) := j_trim hJ (tk_b hJ _).1 (tk_b hJ _).2.1 (tk_b hJ _).2.2
/-- all unread messages of a consumer spilled -/
def spA (s : aS) (c : Int) : aS := aup s 36 c (s 30 (s 32 c))
theorem j_spA {s : aS} (hJ : jJ s) {c v : Int} (c0 : 0 ≤ c) (c1 : c < s 26 6) (v0 : 0 ≤ v) (v1 : v ≤ s 30 (s 32 c)) : jJ (aup s 36 c v) := by
  obtain ⟨hB, hR, hD, hT, hV, hC, hS, hN, hH, hY⟩ := hJ
  refine ⟨hB, hR, hD, hT, hV, ⟨fun i i0 i1 => ?_, hC.2⟩, hS, jN_c (s := s) rfl rfl rfl rfl rfl rfl rfl rfl rfl rfl rfl hN, hH, hY⟩
  obtain ⟨a1, a2, a3, a4⟩ := hC.1 i i0 i1
  refine ⟨a1, a2, ?_, a4⟩
  show 0 ≤ aup s 36 c v 36 i ∧ aup s 36 c v 36 i ≤ s 30 (s 32 i)
  rw [aup_k]
  by_cases h : i = c
  · rw [if_pos h, h]; exact ⟨v0, v1⟩
  · rw [if_neg h]; exact a3
def stF : Nat → aS → aS
  | 0, s => s
  | n + 1, s => if s 21 5 ≤ s 1 12 then s else if lhS s 0 (-1) = -1 then s else if asS s (lhS s 0 (-1)) = 0 then s else if s 1 13 < sI (spS s) 0 (s 26 6) + asS s (lhS s 0 (-1)) then s else stF n (trH (spA s (lhS s 0 (-1))))
def stS (s : aS) : aS := stF 6 (trH s)
theorem lh_b {s : aS} (hJ : jJ s) : lhS s 0 (-1) = -1 ∨ (0 ≤ lhS s 0 (-1) ∧ lhS s 0 (-1) < s 26 6) := by
  rcases lg_lh hJ 0 (-1) (-1) (by omega) (Or.inl ⟨rfl, rfl⟩) with h | h | h
  · exact Or.inl h.1
  · exact Or.inr ⟨h.1, h.2.1⟩
  · exact Or.inr ⟨h.1, h.2.1⟩
theorem j_spA' {s : aS} (hJ : jJ s) {c : Int} (c0 : 0 ≤ c) (c1 : c < s 26 6) : jJ (spA s c) := by
  have C := jc hJ c0 c1
  exact j_spA hJ c0 c1 C.2.2.2.2.2.2.1 (Int.le_refl _)
theorem j_stF : ∀ (n : Nat) {s : aS}, jJ s → jJ (stF n s) := by
  intro n
  induction n with
  | zero => intro s hJ; exact hJ
  | succ n ih =>
    intro s hJ
    unfold stF
    split
    · exact hJ
    split
    · exact hJ
    split
    · exact hJ
    split
    · exact hJ
    · rename_i h1 _ _
      rcases lh_b hJ with h | h
      · exact (h1 h).elim
      · exact ih (j_trH (j_spA' hJ h.1 h.2))
theorem j_stS {s : aS} (hJ : jJ s) : jJ (stS s) := j_stF 6 (j_trH hJ)
/-- settling touches nothing but the segments' head and the spill ends -/
def frS (s t : aS) : Prop := (∀ k, k ≠ 21 → k ≠ 36 → t k = s k) ∧ t 21 3 = s 21 3 ∧ t 21 4 = s 21 4
theorem frS_trH (s : aS) : frS s (trH s) := ⟨fun k h _ => tr_o h, rfl, rfl⟩
theorem frS_trans {s t u : aS} (h1 : frS s t) (h2 : frS t u) : frS s u := ⟨fun k a b => (h2.1 k a b).trans (h1.1 k a b), h2.2.1.trans h1.2.1, h2.2.2.trans h1.2.2⟩
theorem frS_spA (s : aS) (c : Int) : frS s (spA s c) := ⟨fun k _ h => aup_o h, rfl, rfl⟩
theorem frS_stF : ∀ (n : Nat) (s : aS), frS s (stF n s) := by
  intro n
  induction n with
  | zero => intro s; exact ⟨fun _ _ _ => rfl, rfl, rfl⟩
  | succ n ih =>
    intro s
    unfold stF
    split
    · exact ⟨fun _ _ _ => rfl, rfl, rfl⟩
    split
    · exact ⟨fun _ _ _ => rfl, rfl, rfl⟩
    split
    · exact ⟨fun _ _ _ => rfl, rfl, rfl⟩
    split
    · exact ⟨fun _ _ _ => rfl, rfl, rfl⟩
    · exact frS_trans (frS_trans (frS_spA s _) (frS_trH _)) (ih _)
theorem frS_stS (s : aS) : frS s (stS s) := frS_trans (frS_trH s) (frS_stF 6 _)
section KS
variable {g : qG} {s : aS} {d : Nat} {Q : Int32 → qS → Prop} {T : String → qS → Prop}
theorem k_isBeforeA (hw : qWF g) {i h : Int} (i0 : 0 ≤ i) (i1 : i < 400) (b0 : 0 ≤ s 23 (i + 1)) (b1 : s 23 (i + 1) ≤ 400) (w1 : -2147483648 ≤ h) (w2 : h < 2147483648) (h0 : h < s 23 (i + 1) → Q (iI 0) (qi s)) (h1 : s 23 (i + 1) ≤ h → Q (iI 1) (qi s)) : qC g (d + 1) mX7_isBefore [.inr 21, .inl (iI i), .inl (iI h)] (qi s) Q T := by
  refine wX7_isBefore hw ?_
  by_cases hh : h < s 23 (i + 1)
  · simp +contextual (disch := omega) only [z_app, z_rd, z_cl, z_add, z_sub, z_mul, z_neg, z_lit, z_leT, z_leF, z_ltT, z_ltF, z_eqT, z_eqF, i_leT, i_leF, i_ltT, i_ltF, i_eqT, i_eqF, z_le, z_lt, z_eq, z_ite, z_at, z_pt, z_up, z_wr, z_wi1, z_wi0, z_wi, z_inS, z_toInt, z_nb0, z_nb1, Int.cast_ofNat_Int, true_and, and_true, not_true_eq_false, not_false_eq_true, false_imp_iff, true_imp_iff, aup_o, aup_k, ite_true, ite_false, z_fa000, z_fa001, z_fa010, z_fa011, z_fa100, z_fa101, z_fa110, z_fa111, if_true, if_false]
    exact ⟨Or.inl trivial, h0 hh⟩
  · simp +contextual (disch := omega) only [z_app, z_rd, z_cl, z_add, z_sub, z_mul, z_neg, z_lit, z_leT, z_leF, z_ltT, z_ltF, z_eqT, z_eqF, i_leT, i_leF, i_ltT, i_ltF, i_eqT, i_eqF, z_le, z_lt, z_eq, z_ite, z_at, z_pt, z_up, z_wr, z_wi1, z_wi0, z_wi, z_inS, z_toInt, z_nb0, z_nb1, Int.cast_ofNat_Int, true_and, and_true, not_true_eq_false, not_false_eq_true, false_imp_iff, true_imp_iff, aup_o, aup_k, ite_true, ite_false, z_fa000, z_fa001, z_fa010, z_fa011, z_fa100, z_fa101, z_fa110, z_fa111, if_true, if_false]
    exact ⟨Or.inr trivial, h1 (by omega)⟩
set_option maxRecDepth 8000 in
theorem k_trimBefore_l (hw : qWF g) (hJ : jJ s) {h : Int} (w1 : -2147483648 ≤ h) (w2 : h < 2147483648) : ∀ i : Int, s 21 2 ≤ i → i ≤ s 21 3 → Q (iI 0) (qi (trS s (fI (fun i => decide (h < s 23 (i + 1))) i (s 21 3)))) → qV g mX7_trimBefore (d + 2) 0 5 [some (.inr 21), some (.inl (iI h)), some (.inl (iI i))] [] (qi (trS s i)) Q T := by
  have B := jb hJ
  refine stepUp (s 21 3) (fun i ih i0 i1 hQ => wX7_trimBefore_5 hw ?_)
  have e3 := tr_3 s i
  have e5 := tr_5 s i
  have e6 := tr_6 s i
  have e25 : trS s i 25 = s 25 := tr_o (by decide)
  have e23 : trS s i 23 = s 23 := tr_o (by decide)
  by_cases hi : i < s 21 3
  · have E := e_b hJ (i := i + 1 - s 21 2) (by omega) (by omega)
    rw [show s 21 2 + (i + 1 - s 21 2) = i + 1 by omega] at E
    simp +contextual (disch := omega) only [z_app, z_rd, z_cl, z_add, z_sub, z_mul, z_neg, z_lit, z_leT, z_leF, z_ltT, z_ltF, z_eqT, z_eqF, i_leT, i_leF, i_ltT, i_ltF, i_eqT, i_eqF, z_le, z_lt, z_eq, z_ite, z_at, z_pt, z_up, z_wr, z_wi1, z_wi0, z_wi, z_inS, z_toInt, z_nb0, z_nb1, Int.cast_ofNat_Int, true_and, and_true, not_true_eq_false, not_false_eq_true, false_imp_iff, true_imp_iff, aup_o, aup_k, ite_true, ite_false, z_fa000, z_fa001, z_fa010, z_fa011, z_fa100, z_fa101, z_fa110, z_fa111, if_true, if_false, e3]
    rw [fI_f hi] at hQ
    refine k_isBeforeA hw (by omega) (by omega) (by rw [e23]; omega) (by rw [e23]; omega) w1 w2 (fun hh => ?_) (fun hh => ?_)
    · rw [e23] at hh
      rw [if_pos (decide_eq_true hh)] at hQ
      exact ⟨fun _ => hQ, fun hn => absurd (show iI 0 = iI 0 from rfl) hn⟩
    · rw [e23] at hh
      rw [if_neg (by simpa using hh)] at hQ
      refine ⟨fun hn => absurd hn (by decide +kernel), fun _ => ?_⟩
      simp (disch := omega) only [z_app, z_at, z_lit, z_add, z_sub, z_up, Int.cast_ofNat_Int, aup_k, i_eqF, ite_false, if_false, e5, e6, e25]
      have e : aup (aup (aup (trS s i) 21 5 (s 21 5 - sI (s 25) (s 21 2) i - s 25 i)) 21 2 (i + 1)) 21 6 (s 21 6 + (i - s 21 2) + 1) = trS s (i + 1) := by
        have l := sI_l (f := s 25) (lo := s 21 2) (hi := i) i0
        unfold trS
        rw [u3_up, l, show s 21 5 - (sI (s 25) (s 21 2) i + s 25 i) = s 21 5 - sI (s 25) (s 21 2) i - s 25 i by omega, show s 21 6 + (i + 1 - s 21 2) = s 21 6 + (i - s 21 2) + 1 by omega]
      rw [e]
      exact ih hi (by omega) (by omega) hQ
  · simp +contextual (disch := omega) only [z_app, z_rd, z_cl, z_add, z_sub, z_mul, z_neg, z_lit, z_leT, z_leF, z_ltT, z_ltF, z_eqT, z_eqF, i_leT, i_leF, i_ltT, i_ltF, i_eqT, i_eqF, z_le, z_lt, z_eq, z_ite, z_at, z_pt, z_up, z_wr, z_wi1, z_wi0, z_wi, z_inS, z_toInt, z_nb0, z_nb1, Int.cast_ofNat_Int, true_and, and_true, not_true_eq_false, not_false_eq_true, false_imp_iff, true_imp_iff, aup_o, aup_k, ite_true, ite_false, z_fa000, z_fa001, z_fa010, z_fa011, z_fa100, z_fa101, z_fa110, z_fa111, if_true, if_false, e3]
    rw [fI_e (by omega)] at hQ
    exact hQ
theorem k_trimBefore (hw : qWF g) (hJ : jJ s) {h : Int} (w1 : -2147483648 ≤ h) (w2 : h < 2147483648) (hQ : Q (iI 0) (qi (trS s (tkS s h)))) : qC g (d + 2) mX7_trimBefore [.inr 21, .inl (iI h)] (qi s) Q T := by
  have B := jb hJ
  refine wX7_trimBefore hw ⟨rfl, ?_⟩
  have := k_trimBefore_l (d := d) (T := T) hw hJ w1 w2 (s 21 2) (by omega) (by omega) hQ
  rw [tr_id] at this
  exact this
theorem k_settle_l (hw : qWF g) : ∀ (n : Nat) (s : aS) (r : Int) (o2 o3 : Option qP), jJ s → r + n = 6 → 0 ≤ r → Q (iI 0) (qi (stF n s)) → qV g mX2_settle (d + 4) 0 14 [some (.inr 1), some (.inl (iI r)), o2, o3] [] (qi s) Q T := by
  intro n
  induction n with
  | zero =>
    intro s r o2 o3 hJ hr h0 hQ
    refine wX2_settle_14 hw ?_
    simp +contextual (disch := omega) only [z_app, z_rd, z_cl, z_add, z_sub, z_mul, z_neg, z_lit, z_leT, z_leF, z_ltT, z_ltF, z_eqT, z_eqF, i_leT, i_leF, i_ltT, i_ltF, i_eqT, i_eqF, z_le, z_lt, z_eq, z_ite, z_at, z_pt, z_up, z_wr, z_wi1, z_wi0, z_wi, z_inS, z_toInt, z_nb0, z_nb1, Int.cast_ofNat_Int, true_and, and_true, not_true_eq_false, not_false_eq_true, false_imp_iff, true_imp_iff, aup_o, aup_k, ite_true, ite_false, z_fa000, z_fa001, z_fa010, z_fa011, z_fa100, z_fa101, z_fa110, z_fa111, if_true, if_false]
    exact hQ
  | succ n ih =>
    intro s r o2 o3 hJ hr h0 hQ
    have B := jb hJ
    have T5 := hJ.2.2.2.2.2.2.1.2.2.2.2
    have T6 := j_sum hJ (lo := s 23 (s 21 2)) (hi := s 2 9) (by omega) (by omega) (by omega)
    refine wX2_settle_14 hw ?_
    unfold stF at hQ
    by_cases c1 : s 21 5 ≤ s 1 12
    · rw [if_pos c1] at hQ
      simp +contextual (disch := omega) only [z_app, z_rd, z_cl, z_add, z_sub, z_mul, z_neg, z_lit, z_leT, z_leF, z_ltT, z_ltF, z_eqT, z_eqF, i_leT, i_leF, i_ltT, i_ltF, i_eqT, i_eqF, z_le, z_lt, z_eq, z_ite, z_at, z_pt, z_up, z_wr, z_wi1, z_wi0, z_wi, z_inS, z_toInt, z_nb0, z_nb1, Int.cast_ofNat_Int, true_and, and_true, not_true_eq_false, not_false_eq_true, false_imp_iff, true_imp_iff, aup_o, aup_k, ite_true, ite_false, z_fa000, z_fa001, z_fa010, z_fa011, z_fa100, z_fa101, z_fa110, z_fa111, if_true, if_false]
      exact hQ
    · rw [if_neg c1] at hQ
      simp +contextual (disch := omega) only [z_app, z_rd, z_cl, z_add, z_sub, z_mul, z_neg, z_lit, z_leT, z_leF, z_ltT, z_ltF, z_eqT, z_eqF, i_leT, i_leF, i_ltT, i_ltF, i_eqT, i_eqF, z_le, z_lt, z_eq, z_ite, z_at, z_pt, z_up, z_wr, z_wi1, z_wi0, z_wi, z_inS, z_toInt, z_nb0, z_nb1, Int.cast_ofNat_Int, true_and, and_true, not_true_eq_false, not_false_eq_true, false_imp_iff, true_imp_iff, aup_o, aup_k, ite_true, ite_false, z_fa000, z_fa001, z_fa010, z_fa011, z_fa100, z_fa101, z_fa110, z_fa111, if_true, if_false]
      refine k_leastHolder hw hJ ?_
      by_cases c2 : lhS s 0 (-1) = -1
      · rw [if_pos c2] at hQ
        simp +contextual (disch := omega) only [z_app, z_rd, z_cl, z_add, z_sub, z_mul, z_neg, z_lit, z_leT, z_leF, z_ltT, z_ltF, z_eqT, z_eqF, i_leT, i_leF, i_ltT, i_ltF, i_eqT, i_eqF, z_le, z_lt, z_eq, z_ite, z_at, z_pt, z_up, z_wr, z_wi1, z_wi0, z_wi, z_inS, z_toInt, z_nb0, z_nb1, Int.cast_ofNat_Int, true_and, and_true, not_true_eq_false, not_false_eq_true, false_imp_iff, true_imp_iff, aup_o, aup_k, ite_true, ite_false, z_fa000, z_fa001, z_fa010, z_fa011, z_fa100, z_fa101, z_fa110, z_fa111, if_true, if_false]
        exact hQ
      · rw [if_neg c2] at hQ
        have L : 0 ≤ lhS s 0 (-1) ∧ lhS s 0 (-1) < s 26 6 := (lh_b hJ).resolve_left c2
        have C := jc hJ L.1 L.2
        have S := sp_b hJ L.1 L.2
        have A := as_b hJ L.1 L.2
        have ea : asS s (lhS s 0 (-1)) = s 30 (s 32 (lhS s 0 (-1))) - s 34 (lhS s 0 (-1)) - spS s (lhS s 0 (-1)) := rfl
        have SA1 := sI_lb (f := spS s) (lo := 0) (c := 0) (s 26 6) (by omega) (fun i a b => (sp_b hJ a b).1)
        have SA2 := sI_ub (f := spS s) (lo := 0) (c := 400) (s 26 6) (by omega) (fun i a b => by have := sp_b hJ a b; have := jc hJ a b; omega)
        simp +contextual (disch := omega) only [z_app, z_rd, z_cl, z_add, z_sub, z_mul, z_neg, z_lit, z_leT, z_leF, z_ltT, z_ltF, z_eqT, z_eqF, i_leT, i_leF, i_ltT, i_ltF, i_eqT, i_eqF, z_le, z_lt, z_eq, z_ite, z_at, z_pt, z_up, z_wr, z_wi1, z_wi0, z_wi, z_inS, z_toInt, z_nb0, z_nb1, Int.cast_ofNat_Int, true_and, and_true, not_true_eq_false, not_false_eq_true, false_imp_iff, true_imp_iff, aup_o, aup_k, ite_true, ite_false, z_fa000, z_fa001, z_fa010, z_fa011, z_fa100, z_fa101, z_fa110, z_fa111, if_true, if_false]
        refine k_unreadOf hw hJ L.1 L.2 (k_spilledOf hw hJ L.1 L.2 ?_)
        by_cases c3 : asS s (lhS s 0 (-1)) = 0
        · rw [if_pos c3] at hQ
          simp +contextual (disch := omega) only [z_app, z_rd, z_cl, z_add, z_sub, z_mul, z_neg, z_lit, z_leT, z_leF, z_ltT, z_ltF, z_eqT, z_eqF, i_leT, i_leF, i_ltT, i_ltF, i_eqT, i_eqF, z_le, z_lt, z_eq, z_ite, z_at, z_pt, z_up, z_wr, z_wi1, z_wi0, z_wi, z_inS, z_toInt, z_nb0, z_nb1, Int.cast_ofNat_Int, true_and, and_true, not_true_eq_false, not_false_eq_true, false_imp_iff, true_imp_iff, aup_o, aup_k, ite_true, ite_false, z_fa000, z_fa001, z_fa010, z_fa011, z_fa100, z_fa101, z_fa110, z_fa111, if_true, if_false]
          exact hQ
        · rw [if_neg c3] at hQ
          simp +contextual (disch := omega) only [z_app, z_rd, z_cl, z_add, z_sub, z_mul, z_neg, z_lit, z_leT, z_leF, z_ltT, z_ltF, z_eqT, z_eqF, i_leT, i_leF, i_ltT, i_ltF, i_eqT, i_eqF, z_le, z_lt, z_eq, z_ite, z_at, z_pt, z_up, z_wr, z_wi1, z_wi0, z_wi, z_inS, z_toInt, z_nb0, z_nb1, Int.cast_ofNat_Int, true_and, and_true, not_true_eq_false, not_false_eq_true, false_imp_iff, true_imp_iff, aup_o, aup_k, ite_true, ite_false, z_fa000, z_fa001, z_fa010, z_fa011, z_fa100, z_fa101, z_fa110, z_fa111, if_true, if_false]
          refine k_spilledInAll hw hJ ?_
          by_cases c4 : s 1 13 < sI (spS s) 0 (s 26 6) + asS s (lhS s 0 (-1))
          · rw [if_pos c4] at hQ
            simp +contextual (disch := omega) only [z_app, z_rd, z_cl, z_add, z_sub, z_mul, z_neg, z_lit, z_leT, z_leF, z_ltT, z_ltF, z_eqT, z_eqF, i_leT, i_leF, i_ltT, i_ltF, i_eqT, i_eqF, z_le, z_lt, z_eq, z_ite, z_at, z_pt, z_up, z_wr, z_wi1, z_wi0, z_wi, z_inS, z_toInt, z_nb0, z_nb1, Int.cast_ofNat_Int, true_and, and_true, not_true_eq_false, not_false_eq_true, false_imp_iff, true_imp_iff, aup_o, aup_k, ite_true, ite_false, z_fa000, z_fa001, z_fa010, z_fa011, z_fa100, z_fa101, z_fa110, z_fa111, if_true, if_false]
            exact hQ
          · rw [if_neg c4] at hQ
            simp +contextual (disch := omega) only [z_app, z_rd, z_cl, z_add, z_sub, z_mul, z_neg, z_lit, z_leT, z_leF, z_ltT, z_ltF, z_eqT, z_eqF, i_leT, i_leF, i_ltT, i_ltF, i_eqT, i_eqF, z_le, z_lt, z_eq, z_ite, z_at, z_pt, z_up, z_wr, z_wi1, z_wi0, z_wi, z_inS, z_toInt, z_nb0, z_nb1, Int.cast_ofNat_Int, true_and, and_true, not_true_eq_false, not_false_eq_true, false_imp_iff, true_imp_iff, aup_o, aup_k, ite_true, ite_false, z_fa000, z_fa001, z_fa010, z_fa011, z_fa100, z_fa101, z_fa110, z_fa111, if_true, if_false]
            refine wX0_spillAll hw ?_
            simp +contextual (disch := omega) only [z_app, z_rd, z_cl, z_add, z_sub, z_mul, z_neg, z_lit, z_leT, z_leF, z_ltT, z_ltF, z_eqT, z_eqF, i_leT, i_leF, i_ltT, i_ltF, i_eqT, i_eqF, z_le, z_lt, z_eq, z_ite, z_at, z_pt, z_up, z_wr, z_wi1, z_wi0, z_wi, z_inS, z_toInt, z_nb0, z_nb1, Int.cast_ofNat_Int, true_and, and_true, not_true_eq_false, not_false_eq_true, false_imp_iff, true_imp_iff, aup_o, aup_k, ite_true, ite_false, z_fa000, z_fa001, z_fa010, z_fa011, z_fa100, z_fa101, z_fa110, z_fa111, if_true, if_false]
            have J2 := j_spA' hJ L.1 L.2
            have H2 := hw_b J2 (-1)
            have B2 := jb J2
            refine k_holdWithout hw J2 (by omega) (by omega) (k_trimBefore hw J2 (by omega) (by omega) ?_)
            exact ih _ _ _ _ (j_trH J2) (by omega) (by omega) hQ
theorem k_settle (hw : qWF g) (hJ : jJ s) (hQ : Q (iI 0) (qi (stS s))) : qC g (d + 4) mX2_settle [.inr 1] (qi s) Q T := by
  have B := jb hJ
  have H := hw_b hJ (-1)
  refine wX2_settle hw ?_
  simp +contextual (disch := omega) only [z_app, z_rd, z_cl, z_add, z_sub, z_mul, z_neg, z_lit, z_leT, z_leF, z_ltT, z_ltF, z_eqT, z_eqF, i_leT, i_leF, i_ltT, i_ltF, i_eqT, i_eqF, z_le, z_lt, z_eq, z_ite, z_at, z_pt, z_up, z_wr, z_wi1, z_wi0, z_wi, z_inS, z_toInt, z_nb0, z_nb1, Int.cast_ofNat_Int, true_and, and_true, not_true_eq_false, not_false_eq_true, false_imp_iff, true_imp_iff, aup_o, aup_k, ite_true, ite_false, z_fa000, z_fa001, z_fa010, z_fa011, z_fa100, z_fa101, z_fa110, z_fa111, if_true, if_false]
  refine k_holdWithout hw hJ (by omega) (by omega) (k_trimBefore hw hJ (by omega) (by omega) ?_)
  exact k_settle_l hw 6 _ 0 _ _ (j_trH hJ) (by omega) (by omega) hQ
end KS
