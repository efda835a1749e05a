/-! ===== a new record ===== -/
/-- whether a new segment is begun; the open segment then -/
def nwS (s : aS) (z : Int) : Prop := s 21 4 < s 25 (s 21 3) + z
def tlS (s : aS) (z : Int) : Int := if s 21 4 < s 25 (s 21 3) + z then s 21 3 + 1 else s 21 3
def plS (s : aS) (z : Int) : aS := if s 21 4 < s 25 (s 21 3) + z then aup (aup (aup (aup s 21 3 (s 21 3 + 1)) 23 (s 21 3 + 1) (s 2 9)) 25 (s 21 3 + 1) z) 21 5 (s 21 5 + z) else aup (aup s 25 (s 21 3) (s 25 (s 21 3) + z)) 21 5 (s 21 5 + z)
def rcS (s : aS) (k ow x y w sg : Int) : aS := aup (aup (aup (aup (aup (aup (aup (aup (aup (aup s 4 (s 2 9) k) 6 (s 2 9) (if k = 0 then s 2 9 else ow)) 8 (s 2 9) x) 10 (s 2 9) y) 12 (s 2 9) w) 14 (s 2 9) (szI k w)) 16 (s 2 9) sg) 18 (s 2 9) (-1)) 20 (s 2 9) 0) 2 9 (s 2 9 + 1)
def adS (s : aS) (k ow x y w : Int) : aS := rcS (plS s (szI k w)) k ow x y w (tlS s (szI k w))
theorem pl_o {s : aS} {z : Int} {k : Nat} (h1 : k ≠ 21) (h2 : k ≠ 23) (h3 : k ≠ 25) : plS s z k = s k := by
  unfold plS
  split
  · rw [aup_o h1, aup_o h3, aup_o h2, aup_o h1]
  · rw [aup_o h1, aup_o h3]
theorem pl_21 (s : aS) (z i : Int) : plS s z 21 i = if i = 3 then tlS s z else if i = 5 then s 21 5 + z else s 21 i := by
  unfold plS tlS
  by_cases h : s 21 4 < s 25 (s 21 3) + z
  · rw [if_pos h, if_pos h, aup_k, aup_o (by decide), aup_o (by decide), aup_k]
    by_cases h3 : i = 3
    · subst h3; rfl
    · rw [if_neg h3, if_neg h3]
  · rw [if_neg h, if_neg h, aup_k, aup_o (by decide)]
    by_cases h3 : i = 3
    · subst h3; rfl
    · rw [if_neg h3]
theorem pl_23 (s : aS) (z i : Int) : plS s z 23 i = if s 21 4 < s 25 (s 21 3) + z ∧ i = s 21 3 + 1 then s 2 9 else s 23 i := by
  unfold plS
  by_cases h : s 21 4 < s 25 (s 21 3) + z
  · rw [if_pos h, aup_o (by decide), aup_o (by decide), aup_k, aup_o (by decide)]
    by_cases h3 : i = s 21 3 + 1
    · rw [if_pos h3, if_pos ⟨h, h3⟩]
    · rw [if_neg h3, if_neg (fun x => h3 x.2)]
  · rw [if_neg h, aup_o (by decide), aup_o (by decide), if_neg (fun x => h x.1)]
theorem pl_25 (s : aS) (z i : Int) : plS s z 25 i = if s 21 4 < s 25 (s 21 3) + z then (if i = s 21 3 + 1 then z else s 25 i) else (if i = s 21 3 then s 25 (s 21 3) + z else s 25 i) := by
  unfold plS
  by_cases h : s 21 4 < s 25 (s 21 3) + z
  · rw [if_pos h, if_pos h, aup_o (by decide), aup_k, aup_o (by decide), aup_o (by decide)]
  · rw [if_neg h, if_neg h, aup_o (by decide), aup_k]
theorem ad_n (s : aS) (k ow x y w : Int) : adS s k ow x y w 2 9 = s 2 9 + 1 := by
  unfold adS rcS
  rw [aup_s, pl_o (by decide) (by decide) (by decide)]
theorem ad_2 (s : aS) (k ow x y w : Int) {i : Int} (h : i ≠ 9) : adS s k ow x y w 2 i = s 2 i := by
  unfold adS rcS
  rw [aup_k, if_neg h]
  simp (disch := decide) only [aup_o, pl_o]
theorem ad_4 (s : aS) (k ow x y w j : Int) : adS s k ow x y w 4 j = if j = s 2 9 then k else s 4 j := by
  unfold adS rcS
  simp (disch := decide) only [aup_o, aup_k, pl_o]
theorem ad_6 (s : aS) (k ow x y w j : Int) : adS s k ow x y w 6 j = if j = s 2 9 then (if k = 0 then s 2 9 else ow) else s 6 j := by
  unfold adS rcS
  simp (disch := decide) only [aup_o, aup_k, pl_o]
theorem ad_8 (s : aS) (k ow x y w j : Int) : adS s k ow x y w 8 j = if j = s 2 9 then x else s 8 j := by
  unfold adS rcS
  simp (disch := decide) only [aup_o, aup_k, pl_o]
theorem ad_10 (s : aS) (k ow x y w j : Int) : adS s k ow x y w 10 j = if j = s 2 9 then y else s 10 j := by
  unfold adS rcS
  simp (disch := decide) only [aup_o, aup_k, pl_o]
theorem ad_12 (s : aS) (k ow x y w j : Int) : adS s k ow x y w 12 j = if j = s 2 9 then w else s 12 j := by
  unfold adS rcS
  simp (disch := decide) only [aup_o, aup_k, pl_o]
theorem ad_14 (s : aS) (k ow x y w j : Int) : adS s k ow x y w 14 j = if j = s 2 9 then szI k w else s 14 j := by
  unfold adS rcS
  simp (disch := decide) only [aup_o, aup_k, pl_o]
theorem ad_16 (s : aS) (k ow x y w j : Int) : adS s k ow x y w 16 j = if j = s 2 9 then tlS s (szI k w) else s 16 j := by
  unfold adS rcS
  simp (disch := decide) only [aup_o, aup_k, pl_o]
theorem ad_18 (s : aS) (k ow x y w j : Int) : adS s k ow x y w 18 j = if j = s 2 9 then -1 else s 18 j := by
  unfold adS rcS
  simp (disch := decide) only [aup_o, aup_k, pl_o]
theorem ad_20 (s : aS) (k ow x y w j : Int) : adS s k ow x y w 20 j = if j = s 2 9 then 0 else s 20 j := by
  unfold adS rcS
  simp (disch := decide) only [aup_o, aup_k, pl_o]
theorem ad_21 (s : aS) (k ow x y w i : Int) : adS s k ow x y w 21 i = if i = 3 then tlS s (szI k w) else if i = 5 then s 21 5 + szI k w else s 21 i := by
  rw [← pl_21]
  unfold adS rcS
  simp (disch := decide) only [aup_o]
theorem ad_23 (s : aS) (k ow x y w i : Int) : adS s k ow x y w 23 i = if s 21 4 < s 25 (s 21 3) + szI k w ∧ i = s 21 3 + 1 then s 2 9 else s 23 i := by
  rw [← pl_23]
  unfold adS rcS
  simp (disch := decide) only [aup_o]
theorem ad_25 (s : aS) (k ow x y w i : Int) : adS s k ow x y w 25 i = if s 21 4 < s 25 (s 21 3) + szI k w then (if i = s 21 3 + 1 then szI k w else s 25 i) else (if i = s 21 3 then s 25 (s 21 3) + szI k w else s 25 i) := by
  rw [← pl_25]
  unfold adS rcS
  simp (disch := decide) only [aup_o]
theorem ad_o (s : aS) (k ow x y w : Int) {c : Nat} (h : c ≠ 2 ∧ c ≠ 4 ∧ c ≠ 6 ∧ c ≠ 8 ∧ c ≠ 10 ∧ c ≠ 12 ∧ c ≠ 14 ∧ c ≠ 16 ∧ c ≠ 18 ∧ c ≠ 20 ∧ c ≠ 21 ∧ c ≠ 23 ∧ c ≠ 25) : adS s k ow x y w c = s c := by
  obtain ⟨h1, h2, h3, h4, h5, h6, h7, h8, h9, h10, h11, h12, h13⟩ := h
  unfold adS rcS
  rw [aup_o h1, aup_o h10, aup_o h9, aup_o h8, aup_o h7, aup_o h6, aup_o h5, aup_o h4, aup_o h3, aup_o h2, pl_o h11 h12 h13]
/-- the reference's -/
def adM (s a : aS) (k ow x y w : Int) : aS := aup (aup (aup (aup (aup (aup (aup (aup (aup (aup (if s 21 4 < s 25 (s 21 3) + szI k w then aup (aup (aup a 97 (s 21 3 - s 21 2 + 1) (s 21 3 + 1)) 98 (s 21 3 - s 21 2 + 1) (s 2 9)) 86 19 (s 21 3 - s 21 2 + 2) else a) 88 (s 2 9) k) 89 (s 2 9) ow) 90 (s 2 9) x) 91 (s 2 9) y) 92 (s 2 9) w) 93 (s 2 9) (szI k w)) 94 (s 2 9) (-1)) 95 (s 2 9) (tlS s (szI k w))) 96 (s 2 9) 0) 86 15 (s 2 9 + 1)
theorem am_o (s a : aS) (k ow x y w : Int) {c : Nat} (h : c < 86 ∨ c = 87 ∨ 99 ≤ c) : adM s a k ow x y w c = a c := by
  unfold adM
  rw [aup_o (by omega), aup_o (by omega), aup_o (by omega), aup_o (by omega), aup_o (by omega), aup_o (by omega), aup_o (by omega), aup_o (by omega), aup_o (by omega), aup_o (by omega)]
  split
  · rw [aup_o (by omega), aup_o (by omega), aup_o (by omega)]
  · rfl
theorem am_86 (s a : aS) (k ow x y w : Int) {i : Int} (h1 : i ≠ 15) (h2 : i ≠ 19) : adM s a k ow x y w 86 i = a 86 i := by
  unfold adM
  rw [aup_k, if_neg h1]
  simp (disch := decide) only [aup_o]
  split
  · rw [aup_k, if_neg h2, aup_o (by decide), aup_o (by decide)]
  · rfl
theorem am_15 (s a : aS) (k ow x y w : Int) : adM s a k ow x y w 86 15 = s 2 9 + 1 := aup_s _ _ _ _
theorem am_19 (s a : aS) (k ow x y w : Int) (h : a 86 19 = s 21 3 - s 21 2 + 1) : adM s a k ow x y w 86 19 = tlS s (szI k w) - s 21 2 + 1 := by
  unfold adM tlS
  rw [aup_k, if_neg (by decide)]
  simp (disch := decide) only [aup_o]
  split
  · rw [aup_s]; omega
  · exact h
theorem am_97 (s a : aS) (k ow x y w i : Int) : adM s a k ow x y w 97 i = if s 21 4 < s 25 (s 21 3) + szI k w ∧ i = s 21 3 - s 21 2 + 1 then s 21 3 + 1 else a 97 i := by
  unfold adM
  simp (disch := decide) only [aup_o]
  by_cases h : s 21 4 < s 25 (s 21 3) + szI k w
  · rw [if_pos h, aup_o (by decide), aup_o (by decide), aup_k]
    by_cases h3 : i = s 21 3 - s 21 2 + 1
    · rw [if_pos h3, if_pos ⟨h, h3⟩]
    · rw [if_neg h3, if_neg (fun x => h3 x.2)]
  · rw [if_neg h, if_neg (fun x => h x.1)]
theorem am_98 (s a : aS) (k ow x y w i : Int) : adM s a k ow x y w 98 i = if s 21 4 < s 25 (s 21 3) + szI k w ∧ i = s 21 3 - s 21 2 + 1 then s 2 9 else a 98 i := by
  unfold adM
  simp (disch := decide) only [aup_o]
  by_cases h : s 21 4 < s 25 (s 21 3) + szI k w
  · rw [if_pos h, aup_o (by decide), aup_k, aup_o (by decide)]
    by_cases h3 : i = s 21 3 - s 21 2 + 1
    · rw [if_pos h3, if_pos ⟨h, h3⟩]
    · rw [if_neg h3, if_neg (fun x => h3 x.2)]
  · rw [if_neg h, if_neg (fun x => h x.1)]
/-- the records and segments of both still agree -/
theorem rR_ad {s a : aS} {k ow x y w ow' : Int} (hr : rR s a) (ho : ow' = if k = 0 then s 2 9 else ow) : rR (adS s k ow x y w) (adM s a k ow' x y w) := by
  have hif : ∀ (c : Nat), 88 ≤ c → c ≤ 96 → (if s 21 4 < s 25 (s 21 3) + szI k w then aup (aup (aup a 97 (s 21 3 - s 21 2 + 1) (s 21 3 + 1)) 98 (s 21 3 - s 21 2 + 1) (s 2 9)) 86 19 (s 21 3 - s 21 2 + 2) else a) c = a c := by
    intro c c0 c1
    split
    · rw [aup_o (by omega), aup_o (by omega), aup_o (by omega)]
    · rfl
  intro j j0 j1
  rw [ad_n] at j1
  rw [ad_4, ad_6, ad_8, ad_10, ad_12, ad_14, ad_16, ad_18, ad_20]
  unfold adM
  simp (disch := decide) only [aup_o, aup_k, hif]
  by_cases h : j = s 2 9
  · simp only [if_pos h]
    exact ⟨trivial, ho, trivial, trivial, trivial, trivial, trivial, trivial, trivial⟩
  · simp only [if_neg h]
    exact hr j j0 (by omega)
theorem rG_ad {s a : aS} {k ow x y w ow' : Int} (hr : rG s a) : rG (adS s k ow x y w) (adM s a k ow' x y w) := by
  have e2 : adS s k ow x y w 21 2 = s 21 2 := by rw [ad_21, if_neg (by decide), if_neg (by decide)]
  have e3 : adS s k ow x y w 21 3 = tlS s (szI k w) := by rw [ad_21, if_pos rfl]
  intro i i0 i1
  rw [e2, e3] at i1
  rw [am_97, am_98, ad_23, e2]
  unfold tlS at i1
  by_cases h : s 21 4 < s 25 (s 21 3) + szI k w
  · rw [if_pos h] at i1
    by_cases hi : i = s 21 3 - s 21 2 + 1
    · rw [if_pos ⟨h, hi⟩, if_pos ⟨h, hi⟩, if_pos ⟨h, by omega⟩]
      exact ⟨by omega, rfl⟩
    · rw [if_neg (fun x => hi x.2), if_neg (fun x => hi x.2), if_neg (fun x => hi (by have := x.2; omega))]
      exact hr i i0 (by omega)
  · rw [if_neg h] at i1
    rw [if_neg (fun x => h x.1), if_neg (fun x => h x.1), if_neg (fun x => h x.1)]
    exact hr i i0 i1
theorem mF_ad (s a : aS) (k ow x y w : Int) : mF a (adM s a k ow x y w) := ⟨fun c h1 h2 => am_o s a k ow x y w (by omega), fun c h => am_o s a k ow x y w (by omega), fun i h => am_86 s a k ow x y w (by omega) (by omega)⟩
theorem sz_b {k w : Int} (w0 : 0 ≤ w) (w1 : w ≤ 20 ∨ k ≠ 6) : 4 ≤ szI k w ∧ szI k w ≤ 30 := by
  unfold szI
  repeat' split
  all_goals omega
theorem qsz_I {k w : Int} (k0 : 0 ≤ k) (k1 : k ≤ 8) : qsz (iI k) (iI w) = iI (szI k w) := by
  have hc : k = 0 ∨ k = 1 ∨ k = 2 ∨ k = 3 ∨ k = 4 ∨ k = 5 ∨ k = 6 ∨ k = 7 ∨ k = 8 := by omega
  rcases hc with rfl | rfl | rfl | rfl | rfl | rfl | rfl | rfl | rfl
  · rfl
  · rfl
  · rfl
  · rfl
  · rfl
  · rfl
  · show (10 : Int32) + iI w = iI (10 + w)
    rw [← z_add]
    rfl
  · rfl
  · rfl
section AD
variable {g : qG} {s : aS} {d : Nat} {Q : Int32 → qS → Prop} {T : String → qS → Prop}
theorem k_place (hw : qWF g) {z : Int} (t0 : 0 ≤ s 21 3) (t1 : s 21 3 < 400) (b0 : 0 ≤ s 25 (s 21 3)) (b1 : s 25 (s 21 3) ≤ 12000) (c0 : 0 ≤ s 21 4) (c1 : s 21 4 ≤ 400) (z0 : 0 ≤ z) (z1 : z ≤ 30) (hQ : Q (iI (tlS s z)) (qi (plS s z))) : qC g (d + 1) mX7_place [.inr 21, .inl (iI (s 2 9)), .inl (iI z)] (qi s) Q T := by
  refine wX7_place hw ?_
  unfold tlS plS at hQ
  by_cases h : s 21 4 < s 25 (s 21 3) + z
  · rw [if_pos h, if_pos h] at hQ
    simp (disch := omega) only [z_app, z_rd, z_cl, z_add, z_sub, z_mul, z_neg, z_lit, z_leT, z_leF, z_ltT, z_ltF, z_eqT, z_eqF, i_leT, i_leF, i_ltT, i_ltF, i_eqT, i_eqF, z_le, z_lt, z_eq, z_ite, z_at, z_pt, z_up, z_wr, z_wi1, z_wi0, z_wi, z_inS, z_toInt, z_nb0, z_nb1, Int.cast_ofNat_Int, true_and, and_true, not_true_eq_false, not_false_eq_true, false_imp_iff, true_imp_iff, aup_o, aup_k, ite_true, ite_false, z_fa000, z_fa001, z_fa010, z_fa011, z_fa100, z_fa101, z_fa110, z_fa111, if_true, if_false, aup_aup, Int.zero_add]
    exact hQ
  · rw [if_neg h, if_neg h] at hQ
    simp (disch := omega) only [z_app, z_rd, z_cl, z_add, z_sub, z_mul, z_neg, z_lit, z_leT, z_leF, z_ltT, z_ltF, z_eqT, z_eqF, i_leT, i_leF, i_ltT, i_ltF, i_eqT, i_eqF, z_le, z_lt, z_eq, z_ite, z_at, z_pt, z_up, z_wr, z_wi1, z_wi0, z_wi, z_inS, z_toInt, z_nb0, z_nb1, Int.cast_ofNat_Int, true_and, and_true, not_true_eq_false, not_false_eq_true, false_imp_iff, true_imp_iff, aup_o, aup_k, ite_true, ite_false, z_fa000, z_fa001, z_fa010, z_fa011, z_fa100, z_fa101, z_fa110, z_fa111, if_true, if_false]
    exact hQ
theorem k_radd (hw : qWF g) {k ow x y w sg : Int} (n0 : 0 ≤ s 2 9) (n1 : s 2 9 < 400) (k0 : 0 ≤ k) (k1 : k ≤ 8) (hQ : Q (iI (s 2 9)) (qi (rcS s k ow x y w sg))) : qC g (d + 1) mX4_add [.inr 2, .inl (iI k), .inl (iI ow), .inl (iI x), .inl (iI y), .inl (iI w), .inl (iI sg)] (qi s) Q T := by
  refine wX4_add hw ?_
  unfold rcS at hQ
  have e := qsz_I (w := w) k0 k1
  by_cases h : k = 0
  · rw [if_pos h] at hQ
    simp +contextual (disch := omega) only [z_app, z_rd, z_cl, z_add, z_sub, z_mul, z_neg, z_lit, z_leT, z_leF, z_ltT, z_ltF, z_eqT, z_eqF, i_leT, i_leF, i_ltT, i_ltF, i_eqT, i_eqF, z_le, z_lt, z_eq, z_ite, z_at, z_pt, z_up, z_wr, z_wi1, z_wi0, z_wi, z_inS, z_toInt, z_nb0, z_nb1, Int.cast_ofNat_Int, true_and, and_true, not_true_eq_false, not_false_eq_true, false_imp_iff, true_imp_iff, aup_o, aup_k, ite_true, ite_false, z_fa000, z_fa001, z_fa010, z_fa011, z_fa100, z_fa101, z_fa110, z_fa111, if_true, if_false, e]
    exact hQ
  · rw [if_neg h] at hQ
    simp +contextual (disch := omega) only [z_app, z_rd, z_cl, z_add, z_sub, z_mul, z_neg, z_lit, z_leT, z_leF, z_ltT, z_ltF, z_eqT, z_eqF, i_leT, i_leF, i_ltT, i_ltF, i_eqT, i_eqF, z_le, z_lt, z_eq, z_ite, z_at, z_pt, z_up, z_wr, z_wi1, z_wi0, z_wi, z_inS, z_toInt, z_nb0, z_nb1, Int.cast_ofNat_Int, true_and, and_true, not_true_eq_false, not_false_eq_true, false_imp_iff, true_imp_iff, aup_o, aup_k, ite_true, ite_false, z_fa000, z_fa001, z_fa010, z_fa011, z_fa100, z_fa101, z_fa110, z_fa111, if_true, if_false, e]
    exact hQ
theorem k_add (hw : qWF g) {k ow x y w : Int} (t0 : 0 ≤ s 21 3) (t1 : s 21 3 < 400) (b0 : 0 ≤ s 25 (s 21 3)) (b1 : s 25 (s 21 3) ≤ 12000) (c0 : 0 ≤ s 21 4) (c1 : s 21 4 ≤ 400) (n0 : 0 ≤ s 2 9) (n1 : s 2 9 < 400) (k0 : 0 ≤ k) (k1 : k ≤ 8) (w0 : 0 ≤ w) (w1 : w ≤ 20 ∨ k ≠ 6) (hQ : Q (iI (s 2 9)) (qi (adS s k ow x y w))) : qC g (d + 2) mX2_add [.inr 1, .inl (iI k), .inl (iI ow), .inl (iI x), .inl (iI y), .inl (iI w)] (qi s) Q T := by
  have Z := sz_b w0 w1
  refine wX2_add hw ?_
  rw [qsz_I k0 k1]
  refine k_place hw t0 t1 b0 b1 c0 c1 (by omega) Z.2 ?_
  have e : plS s (szI k w) 2 9 = s 2 9 := by rw [pl_o (by decide) (by decide) (by decide)]
  refine k_radd hw (by rw [e]; exact n0) (by rw [e]; exact n1) k0 k1 ?_
  rw [e]
  exact hQ
theorem m_endOfW (hw : qWF g) {a : aS} (hJ : jJ s) (e15 : a 86 15 = s 2 9) (e19 : a 86 19 = s 21 3 - s 21 2 + 1) (hG : rG s a) {i : Int} (h0 : 0 ≤ i) (h1 : i ≤ s 21 3 - s 21 2) (hQ : Q (iI (eS s i)) (qi a)) : qC g (d + 1) mX10_endOf [.inr 86, .inl (iI i)] (qi a) Q T := by
  have B := jb hJ
  refine wX10_endOf hw ?_
  unfold eS at hQ
  by_cases h : i < s 21 3 - s 21 2
  · rw [if_pos h] at hQ
    have e := (hG (i + 1) (by omega) (by omega)).2
    simp +contextual (disch := omega) only [z_app, z_rd, z_cl, z_add, z_sub, z_mul, z_neg, z_lit, z_leT, z_leF, z_ltT, z_ltF, z_eqT, z_eqF, i_leT, i_leF, i_ltT, i_ltF, i_eqT, i_eqF, z_le, z_lt, z_eq, z_ite, z_at, z_pt, z_up, z_wr, z_wi1, z_wi0, z_wi, z_inS, z_toInt, z_nb0, z_nb1, Int.cast_ofNat_Int, true_and, and_true, not_true_eq_false, not_false_eq_true, false_imp_iff, true_imp_iff, aup_o, aup_k, ite_true, ite_false, z_fa000, z_fa001, z_fa010, z_fa011, z_fa100, z_fa101, z_fa110, z_fa111, if_true, if_false, e15, e19, e]
    rw [← Int.add_assoc]
    exact hQ
  · rw [if_neg h] at hQ
    simp +contextual (disch := omega) only [z_app, z_rd, z_cl, z_add, z_sub, z_mul, z_neg, z_lit, z_leT, z_leF, z_ltT, z_ltF, z_eqT, z_eqF, i_leT, i_leF, i_ltT, i_ltF, i_eqT, i_eqF, z_le, z_lt, z_eq, z_ite, z_at, z_pt, z_up, z_wr, z_wi1, z_wi0, z_wi, z_inS, z_toInt, z_nb0, z_nb1, Int.cast_ofNat_Int, true_and, and_true, not_true_eq_false, not_false_eq_true, false_imp_iff, true_imp_iff, aup_o, aup_k, ite_true, ite_false, z_fa000, z_fa001, z_fa010, z_fa011, z_fa100, z_fa101, z_fa110, z_fa111, if_true, if_false, e15, e19]
    exact hQ
theorem m_bytesOfW_l (hw : qWF g) {a : aS} (hJ : jJ s) (e15 : a 86 15 = s 2 9) (e19 : a 86 19 = s 21 3 - s 21 2 + 1) (hG : rG s a) (hR : rR s a) {i : Int} (h0 : 0 ≤ i) (h1 : i ≤ s 21 3 - s 21 2) : ∀ k x : Int, 0 ≤ k → k ≤ eS s i → Q (iI (x + sI (s 14) k (eS s i))) (qi a) → qV g mX10_bytesOf (d + 2) 0 9 [some (.inr 86), some (.inl (iI i)), some (.inl (iI x)), some (.inl (iI k))] [] (qi a) Q T := by
  have B := jb hJ
  have E := e_b hJ h0 h1
  refine stepUp (eS s i) (fun k ih x k0 k1 hQ => wX10_bytesOf_9 hw ?_)
  refine m_endOfW hw hJ e15 e19 hG h0 h1 ?_
  by_cases h : k < eS s i
  · have e := (hR k k0 (by omega)).2.2.2.2.2.1
    simp +contextual (disch := omega) only [z_app, z_rd, z_cl, z_add, z_sub, z_mul, z_neg, z_lit, z_leT, z_leF, z_ltT, z_ltF, z_eqT, z_eqF, i_leT, i_leF, i_ltT, i_ltF, i_eqT, i_eqF, z_le, z_lt, z_eq, z_ite, z_at, z_pt, z_up, z_wr, z_wi1, z_wi0, z_wi, z_inS, z_toInt, z_nb0, z_nb1, Int.cast_ofNat_Int, true_and, and_true, not_true_eq_false, not_false_eq_true, false_imp_iff, true_imp_iff, aup_o, aup_k, ite_true, ite_false, z_fa000, z_fa001, z_fa010, z_fa011, z_fa100, z_fa101, z_fa110, z_fa111, if_true, if_false, e]
    rw [sI_f _ h, ← Int.add_assoc] at hQ
    exact ih h _ (by omega) (by omega) hQ
  · simp +contextual (disch := omega) only [z_app, z_rd, z_cl, z_add, z_sub, z_mul, z_neg, z_lit, z_leT, z_leF, z_ltT, z_ltF, z_eqT, z_eqF, i_leT, i_leF, i_ltT, i_ltF, i_eqT, i_eqF, z_le, z_lt, z_eq, z_ite, z_at, z_pt, z_up, z_wr, z_wi1, z_wi0, z_wi, z_inS, z_toInt, z_nb0, z_nb1, Int.cast_ofNat_Int, true_and, and_true, not_true_eq_false, not_false_eq_true, false_imp_iff, true_imp_iff, aup_o, aup_k, ite_true, ite_false, z_fa000, z_fa001, z_fa010, z_fa011, z_fa100, z_fa101, z_fa110, z_fa111, if_true, if_false]
    rw [sI_e (by omega), Int.add_zero] at hQ
    exact hQ
theorem m_bytesOfW (hw : qWF g) {a : aS} (hJ : jJ s) (e15 : a 86 15 = s 2 9) (e19 : a 86 19 = s 21 3 - s 21 2 + 1) (hG : rG s a) (hR : rR s a) {i : Int} (h0 : 0 ≤ i) (h1 : i ≤ s 21 3 - s 21 2) (hQ : Q (iI (s 25 (s 21 2 + i))) (qi a)) : qC g (d + 2) mX10_bytesOf [.inr 86, .inl (iI i)] (qi a) Q T := by
  have B := jb hJ
  have E := e_b hJ h0 h1
  have e := (hG i h0 h1).2
  refine wX10_bytesOf hw ?_
  simp +contextual (disch := omega) only [z_app, z_rd, z_cl, z_add, z_sub, z_mul, z_neg, z_lit, z_leT, z_leF, z_ltT, z_ltF, z_eqT, z_eqF, i_leT, i_leF, i_ltT, i_ltF, i_eqT, i_eqF, z_le, z_lt, z_eq, z_ite, z_at, z_pt, z_up, z_wr, z_wi1, z_wi0, z_wi, z_inS, z_toInt, z_nb0, z_nb1, Int.cast_ofNat_Int, true_and, and_true, not_true_eq_false, not_false_eq_true, false_imp_iff, true_imp_iff, aup_o, aup_k, ite_true, ite_false, z_fa000, z_fa001, z_fa010, z_fa011, z_fa100, z_fa101, z_fa110, z_fa111, if_true, if_false, e]
  refine m_bytesOfW_l hw hJ e15 e19 hG hR h0 h1 _ _ E.1 E.2.1 ?_
  rw [E.2.2.2] at hQ
  rw [Int.zero_add]
  exact hQ
theorem m_sizeOf (hw : qWF g) {σ : qS} {k w : Int} (k0 : 0 ≤ k) (k1 : k ≤ 8) (hQ : Q (iI (szI k w)) σ) : qC g (d + 1) mX10_sizeOf [.inl (iI k), .inl (iI w)] σ Q T := by
  refine wX10_sizeOf hw ?_
  have hc : k = 0 ∨ k = 1 ∨ k = 2 ∨ k = 3 ∨ k = 4 ∨ k = 5 ∨ k = 6 ∨ k = 7 ∨ k = 8 := by omega
  rcases hc with rfl | rfl | rfl | rfl | rfl | rfl | rfl | rfl | rfl
  all_goals (simp +contextual (disch := omega) only [z_app, z_rd, z_cl, z_add, z_sub, z_mul, z_neg, z_lit, z_leT, z_leF, z_ltT, z_ltF, z_eqT, z_eqF, i_leT, i_leF, i_ltT, i_ltF, i_eqT, i_eqF, z_le, z_lt, z_eq, z_ite, z_at, z_pt, z_up, z_wr, z_wi1, z_wi0, z_wi, z_inS, z_toInt, z_nb0, z_nb1, Int.cast_ofNat_Int, true_and, and_true, not_true_eq_false, not_false_eq_true, false_imp_iff, true_imp_iff, aup_o, aup_k, ite_true, ite_false, z_fa000, z_fa001, z_fa010, z_fa011, z_fa100, z_fa101, z_fa110, z_fa111, if_true, if_false]; exact hQ)
theorem m_record0 (hw : qWF g) {a : aS} (hJ : jJ s) (e3 : a 86 3 = s 21 4) (e15 : a 86 15 = s 2 9) (e19 : a 86 19 = s 21 3 - s 21 2 + 1) (hG : rG s a) (hR : rR s a) {k ow x y w : Int} (n1 : s 2 9 < 400) (k0 : 0 ≤ k) (k1 : k ≤ 8) (w0 : 0 ≤ w) (w1 : w ≤ 20 ∨ k ≠ 6) (hQ : Q (iI (s 2 9)) (qi (adM s a k ow x y w))) : qC g (d + 3) mX10_record0 [.inr 86, .inl (iI k), .inl (iI ow), .inl (iI x), .inl (iI y), .inl (iI w)] (qi a) Q T := by
  have B := jb hJ
  have Z := sz_b w0 w1
  have L := j_seg hJ.1 hJ.2.2.2.2.2.2.1 (s 21 3) B.2.1 (Int.le_refl _)
  have E := e_b hJ (i := s 21 3 - s 21 2) (by omega) (Int.le_refl _)
  rw [show s 21 2 + (s 21 3 - s 21 2) = s 21 3 by omega] at E
  have SB := j_sum hJ (lo := s 23 (s 21 3)) (hi := eS s (s 21 3 - s 21 2)) E.1 E.2.1 E.2.2.1
  refine wX10_record0 hw (m_sizeOf hw k0 k1 ?_)
  simp +contextual (disch := omega) only [z_app, z_rd, z_cl, z_add, z_sub, z_mul, z_neg, z_lit, z_le, z_lt, z_eq, z_ite, z_at, z_pt, z_up, z_wr, z_wi, z_inS, z_toInt, z_nb0, z_nb1, Int.cast_ofNat_Int, true_and, and_true, not_true_eq_false, not_false_eq_true, false_imp_iff, true_imp_iff, aup_o, aup_k, ite_true, ite_false, e19]
  rw [show s 21 3 - s 21 2 + 1 - 1 = s 21 3 - s 21 2 by omega]
  refine m_bytesOfW hw hJ e15 e19 hG hR (by omega) (Int.le_refl _) ?_
  rw [show s 21 2 + (s 21 3 - s 21 2) = s 21 3 by omega]
  have g1 := (hG (s 21 3 - s 21 2) (by omega) (Int.le_refl _)).1
  have ee : s 21 3 - s 21 2 + 1 - 1 = s 21 3 - s 21 2 := by omega
  unfold adM tlS at hQ
  by_cases h : s 21 4 < s 25 (s 21 3) + szI k w
  · rw [if_pos h, if_pos h] at hQ
    have ea : s 21 2 + (s 21 3 - s 21 2) + 1 = s 21 3 + 1 := by omega
    have eb : s 21 3 - s 21 2 + 1 + 1 = s 21 3 - s 21 2 + 2 := by omega
    simp +contextual (disch := omega) only [z_app, z_rd, z_cl, z_add, z_sub, z_mul, z_neg, z_lit, z_leT, z_leF, z_ltT, z_ltF, z_eqT, z_eqF, i_leT, i_leF, i_ltT, i_ltF, i_eqT, i_eqF, z_le, z_lt, z_eq, z_ite, z_at, z_pt, z_up, z_wr, z_wi1, z_wi0, z_wi, z_inS, z_toInt, z_nb0, z_nb1, Int.cast_ofNat_Int, true_and, and_true, not_true_eq_false, not_false_eq_true, false_imp_iff, true_imp_iff, aup_o, aup_k, ite_true, ite_false, z_fa000, z_fa001, z_fa010, z_fa011, z_fa100, z_fa101, z_fa110, z_fa111, if_true, if_false, e3, e15, e19, ee, g1, ea, eb]
    refine wX10_record0_73 hw ?_
    have ec : s 21 3 - s 21 2 + 2 - 1 = s 21 3 - s 21 2 + 1 := by omega
    simp +contextual (disch := omega) only [z_app, z_rd, z_cl, z_add, z_sub, z_mul, z_neg, z_lit, z_leT, z_leF, z_ltT, z_ltF, z_eqT, z_eqF, i_leT, i_leF, i_ltT, i_ltF, i_eqT, i_eqF, z_le, z_lt, z_eq, z_ite, z_at, z_pt, z_up, z_wr, z_wi1, z_wi0, z_wi, z_inS, z_toInt, z_nb0, z_nb1, Int.cast_ofNat_Int, true_and, and_true, not_true_eq_false, not_false_eq_true, false_imp_iff, true_imp_iff, aup_o, aup_k, ite_true, ite_false, z_fa000, z_fa001, z_fa010, z_fa011, z_fa100, z_fa101, z_fa110, z_fa111, if_true, if_false, e15, ec]
    exact hQ
  · rw [if_neg h, if_neg h] at hQ
    simp +contextual (disch := omega) only [z_app, z_rd, z_cl, z_add, z_sub, z_mul, z_neg, z_lit, z_leT, z_leF, z_ltT, z_ltF, z_eqT, z_eqF, i_leT, i_leF, i_ltT, i_ltF, i_eqT, i_eqF, z_le, z_lt, z_eq, z_ite, z_at, z_pt, z_up, z_wr, z_wi1, z_wi0, z_wi, z_inS, z_toInt, z_nb0, z_nb1, Int.cast_ofNat_Int, true_and, and_true, not_true_eq_false, not_false_eq_true, false_imp_iff, true_imp_iff, aup_o, aup_k, ite_true, ite_false, z_fa000, z_fa001, z_fa010, z_fa011, z_fa100, z_fa101, z_fa110, z_fa111, if_true, if_false, e3]
    refine wX10_record0_73 hw ?_
    have ec : s 21 2 + (s 21 3 - s 21 2) = s 21 3 := by omega
    simp +contextual (disch := omega) only [z_app, z_rd, z_cl, z_add, z_sub, z_mul, z_neg, z_lit, z_leT, z_leF, z_ltT, z_ltF, z_eqT, z_eqF, i_leT, i_leF, i_ltT, i_ltF, i_eqT, i_eqF, z_le, z_lt, z_eq, z_ite, z_at, z_pt, z_up, z_wr, z_wi1, z_wi0, z_wi, z_inS, z_toInt, z_nb0, z_nb1, Int.cast_ofNat_Int, true_and, and_true, not_true_eq_false, not_false_eq_true, false_imp_iff, true_imp_iff, aup_o, aup_k, ite_true, ite_false, z_fa000, z_fa001, z_fa010, z_fa011, z_fa100, z_fa101, z_fa110, z_fa111, if_true, if_false, e15, e19, ee, g1, ec]
    exact hQ
end AD
