/-! ===== the reference's scanner ===== -/
def tR (C V : Int) (m : aS) : Prop := (0 ≤ C ∧ C ≤ 255 ∧ m 86 40 = 3 ∧ m 86 43 = C) ∨ (256 ≤ C ∧ C ≤ 273 ∧ m 86 40 = 1 ∧ m 86 44 = C - 256) ∨ (C = 301 ∧ m 86 40 = 2 ∧ m 86 42 = V ∧ 0 ≤ V ∧ V ≤ 99999) ∨ (C = 302 ∧ m 86 40 = 4) ∨ (C = 302 ∧ m 86 40 = 1 ∧ m 86 44 = -1) ∨ (C = 303 ∧ m 86 40 = 0)
/-- the scanner stands at the j-th token -/
def scA (m w : aS) (e : Int → Int) (c j : Int) : Prop := m 86 41 = w 82 j ∧ m 86 39 = (if j < c then e j else w 82 c) ∧ tR (w 80 j) (w 84 j) m
/-- what the scanner leaves alone -/
def scF (m m' : aS) : Prop := (∀ x : Nat, x ≠ 86 → m' x = m x) ∧ (∀ i, i < 39 ∨ 44 < i → m' 86 i = m 86 i)
theorem scF_rf (m : aS) : scF m m := ⟨fun _ _ => rfl, fun _ _ => rfl⟩
theorem scF_tr {a b c : aS} (h1 : scF a b) (h2 : scF b c) : scF a c := ⟨fun x hx => by rw [h2.1 x hx, h1.1 x hx], fun i hi => by rw [h2.2 i hi, h1.2 i hi]⟩
theorem scF_up {m : aS} {i v : Int} (h0 : 39 ≤ i) (h1 : i ≤ 44) : scF m (aup m 86 i v) := ⟨fun x hx => aup_o hx, fun j hj => aup_i (by omega)⟩
/-- what scanWord does -/
def kSW (g : qG) : Prop := ∀ (d : Nat) (m : aS) (S e : Int) (Q : Int32 → qS → Prop) (T : String → qS → Prop), m 86 39 = S → m 86 41 = S → 0 ≤ S → S < e → e ≤ m 86 38 → m 86 38 ≤ 900 → (∀ x, 0 ≤ x → x < m 86 38 → 0 ≤ m 87 x ∧ m 87 x < 256) → (∀ x, S ≤ x → x < e → 97 ≤ m 87 x ∧ m 87 x ≤ 122) → (e < m 86 38 → ¬ (97 ≤ m 87 e ∧ m 87 e ≤ 122)) → m 86 44 = -1 → (∀ m' : aS, scF m m' → m' 86 41 = S → m' 86 39 = e → m' 86 40 = (if e - S ≤ 8 then 1 else 4) → (e - S ≤ 8 → m' 86 44 = kw (lt (m 87) S (e - S).toNat)) → Q (iI 0) (qi m')) → qC g (d + 3) mX10_scanWord [.inr 86] (qi m) Q T
/-- the text that the scanner reads -/
def scT (m : aS) (b : Int → Int) (n : Int) : Prop := m 86 38 = n ∧ n ≤ 900 ∧ ∀ x, 0 ≤ x → x < n → m 87 x = b x ∧ 0 ≤ b x ∧ b x < 256
theorem scT_F {m m' : aS} {b : Int → Int} {n : Int} (h : scT m b n) (hf : scF m m') : scT m' b n := ⟨by rw [hf.2 38 (by omega)]; exact h.1, h.2.1, by rw [hf.1 87 (by decide)]; exact h.2.2⟩
section SC
variable {g : qG} {d : Nat} {Q : Int32 → qS → Prop} {T : String → qS → Prop} {m w : aS} {b : Int → Int} {n c : Int} {e : Int → Int}
theorem m_byteAt1 (hw : qWF g) (ht : scT m b n) {x : Int} (x0 : 0 ≤ x) (x1 : x < n) (hQ : Q (iI (b x)) (qi m)) : qC g (d + 1) mX10_byteAt [.inr 86, .inl (iI x)] (qi m) Q T := by
  obtain ⟨t1, t2, t3⟩ := ht
  have t4 := t3 x x0 x1
  refine wX10_byteAt hw ?_
  simp (disch := omega) only [z_app, z_rd, z_cl, z_add, z_sub, z_mul, z_neg, z_lit, z_leT, z_leF, z_ltT, z_ltF, z_eqT, z_eqF, i_leT, i_leF, i_ltT, i_ltF, i_eqT, i_eqF, z_le, z_lt, z_eq, z_ite, z_at, z_pt, z_up, z_wr, z_wi1, z_wi0, z_wi, z_inS, z_toInt, z_nb0, z_nb1, Int.cast_ofNat_Int, true_and, and_true, not_true_eq_false, not_false_eq_true, false_imp_iff, true_imp_iff, aup_o, aup_k, ite_true, ite_false, z_fa000, z_fa001, z_fa010, z_fa011, z_fa100, z_fa101, z_fa110, z_fa111, if_true, if_false, t1, t4.1]
  exact hQ
theorem m_byteAt0 (hw : qWF g) (ht : scT m b n) {x : Int} (x0 : 0 ≤ n) (x1 : x = n) (hQ : Q (iI (-1)) (qi m)) : qC g (d + 1) mX10_byteAt [.inr 86, .inl (iI x)] (qi m) Q T := by
  obtain ⟨t1, t2, t3⟩ := ht
  refine wX10_byteAt hw ?_
  simp (disch := omega) only [z_app, z_rd, z_cl, z_add, z_sub, z_mul, z_neg, z_lit, z_leT, z_leF, z_ltT, z_ltF, z_eqT, z_eqF, i_leT, i_leF, i_ltT, i_ltF, i_eqT, i_eqF, z_le, z_lt, z_eq, z_ite, z_at, z_pt, z_up, z_wr, z_wi1, z_wi0, z_wi, z_inS, z_toInt, z_nb0, z_nb1, Int.cast_ofNat_Int, true_and, and_true, not_true_eq_false, not_false_eq_true, false_imp_iff, true_imp_iff, aup_o, aup_k, ite_true, ite_false, z_fa000, z_fa001, z_fa010, z_fa011, z_fa100, z_fa101, z_fa110, z_fa111, if_true, if_false, t1]
  exact hQ
theorem m_isL1 (hw : qWF g) (ht : scT m b n) {x : Int} (x0 : 0 ≤ x) (x1 : x < n) (h : 97 ≤ b x ∧ b x ≤ 122) (hQ : Q (iI 1) (qi m)) : qC g (d + 2) mX10_isLetter [.inr 86, .inl (iI x)] (qi m) Q T := by
  refine wX10_isLetter hw (m_byteAt1 hw ht x0 x1 ?_)
  simp (disch := omega) only [z_app, z_rd, z_cl, z_add, z_sub, z_mul, z_neg, z_lit, z_leT, z_leF, z_ltT, z_ltF, z_eqT, z_eqF, i_leT, i_leF, i_ltT, i_ltF, i_eqT, i_eqF, z_le, z_lt, z_eq, z_ite, z_at, z_pt, z_up, z_wr, z_wi1, z_wi0, z_wi, z_inS, z_toInt, z_nb0, z_nb1, Int.cast_ofNat_Int, true_and, and_true, not_true_eq_false, not_false_eq_true, false_imp_iff, true_imp_iff, aup_o, aup_k, ite_true, ite_false, z_fa000, z_fa001, z_fa010, z_fa011, z_fa100, z_fa101, z_fa110, z_fa111, if_true, if_false]
  exact ⟨Or.inr trivial, hQ⟩
theorem m_isL0 (hw : qWF g) (ht : scT m b n) {x : Int} (x0 : 0 ≤ x) (x1 : x < n) (h : ¬ (97 ≤ b x ∧ b x ≤ 122)) (hQ : Q (iI 0) (qi m)) : qC g (d + 2) mX10_isLetter [.inr 86, .inl (iI x)] (qi m) Q T := by
  have B := (ht.2.2 x x0 x1).2
  refine wX10_isLetter hw (m_byteAt1 hw ht x0 x1 ?_)
  simp (disch := omega) only [z_app, z_rd, z_cl, z_add, z_sub, z_mul, z_neg, z_lit, z_leT, z_leF, z_ltT, z_ltF, z_eqT, z_eqF, i_leT, i_leF, i_ltT, i_ltF, i_eqT, i_eqF, z_le, z_lt, z_eq, z_ite, z_at, z_pt, z_up, z_wr, z_wi1, z_wi0, z_wi, z_inS, z_toInt, z_nb0, z_nb1, Int.cast_ofNat_Int, true_and, and_true, not_true_eq_false, not_false_eq_true, false_imp_iff, true_imp_iff, aup_o, aup_k, ite_true, ite_false, z_fa000, z_fa001, z_fa010, z_fa011, z_fa100, z_fa101, z_fa110, z_fa111, if_true, if_false]
  exact ⟨Or.inl trivial, hQ⟩
theorem m_isD1 (hw : qWF g) (ht : scT m b n) {x : Int} (x0 : 0 ≤ x) (x1 : x < n) (h : 48 ≤ b x ∧ b x ≤ 57) (hQ : Q (iI 1) (qi m)) : qC g (d + 2) mX10_isDigit [.inr 86, .inl (iI x)] (qi m) Q T := by
  refine wX10_isDigit hw (m_byteAt1 hw ht x0 x1 ?_)
  simp (disch := omega) only [z_app, z_rd, z_cl, z_add, z_sub, z_mul, z_neg, z_lit, z_leT, z_leF, z_ltT, z_ltF, z_eqT, z_eqF, i_leT, i_leF, i_ltT, i_ltF, i_eqT, i_eqF, z_le, z_lt, z_eq, z_ite, z_at, z_pt, z_up, z_wr, z_wi1, z_wi0, z_wi, z_inS, z_toInt, z_nb0, z_nb1, Int.cast_ofNat_Int, true_and, and_true, not_true_eq_false, not_false_eq_true, false_imp_iff, true_imp_iff, aup_o, aup_k, ite_true, ite_false, z_fa000, z_fa001, z_fa010, z_fa011, z_fa100, z_fa101, z_fa110, z_fa111, if_true, if_false]
  exact ⟨Or.inr trivial, hQ⟩
theorem m_isD0 (hw : qWF g) (ht : scT m b n) {x : Int} (x0 : 0 ≤ x) (x1 : x < n) (h : ¬ (48 ≤ b x ∧ b x ≤ 57)) (hQ : Q (iI 0) (qi m)) : qC g (d + 2) mX10_isDigit [.inr 86, .inl (iI x)] (qi m) Q T := by
  have B := (ht.2.2 x x0 x1).2
  refine wX10_isDigit hw (m_byteAt1 hw ht x0 x1 ?_)
  simp (disch := omega) only [z_app, z_rd, z_cl, z_add, z_sub, z_mul, z_neg, z_lit, z_leT, z_leF, z_ltT, z_ltF, z_eqT, z_eqF, i_leT, i_leF, i_ltT, i_ltF, i_eqT, i_eqF, z_le, z_lt, z_eq, z_ite, z_at, z_pt, z_up, z_wr, z_wi1, z_wi0, z_wi, z_inS, z_toInt, z_nb0, z_nb1, Int.cast_ofNat_Int, true_and, and_true, not_true_eq_false, not_false_eq_true, false_imp_iff, true_imp_iff, aup_o, aup_k, ite_true, ite_false, z_fa000, z_fa001, z_fa010, z_fa011, z_fa100, z_fa101, z_fa110, z_fa111, if_true, if_false]
  exact ⟨Or.inl trivial, hQ⟩
theorem m_isDe (hw : qWF g) (ht : scT m b n) {x : Int} (x0 : 0 ≤ n) (x1 : x = n) (hQ : Q (iI 0) (qi m)) : qC g (d + 2) mX10_isDigit [.inr 86, .inl (iI x)] (qi m) Q T := by
  refine wX10_isDigit hw (m_byteAt0 hw ht x0 x1 ?_)
  simp (disch := omega) only [z_app, z_rd, z_cl, z_add, z_sub, z_mul, z_neg, z_lit, z_leT, z_leF, z_ltT, z_ltF, z_eqT, z_eqF, i_leT, i_leF, i_ltT, i_ltF, i_eqT, i_eqF, z_le, z_lt, z_eq, z_ite, z_at, z_pt, z_up, z_wr, z_wi1, z_wi0, z_wi, z_inS, z_toInt, z_nb0, z_nb1, Int.cast_ofNat_Int, true_and, and_true, not_true_eq_false, not_false_eq_true, false_imp_iff, true_imp_iff, aup_o, aup_k, ite_true, ite_false, z_fa000, z_fa001, z_fa010, z_fa011, z_fa100, z_fa101, z_fa110, z_fa111, if_true, if_false]
  exact ⟨Or.inl trivial, hQ⟩
theorem m_scanNumber_l (hw : qWF g) {S f : Int} (S0 : 0 ≤ S) (Sf : S < f) (fn : f ≤ n) (hd : ∀ x, S ≤ x → x < f → 48 ≤ b x ∧ b x ≤ 57) (he : f < n → ¬ (48 ≤ b f ∧ b f ≤ 57)) (hQ : ∀ m' : aS, scF m m' → m' 86 41 = S → m' 86 39 = f → m' 86 40 = (if f - S ≤ 5 then 2 else 4) → (f - S ≤ 5 → m' 86 42 = nv b S f) → Q (iI 0) (qi m')) : ∀ (x : Int) (q : aS), S ≤ x → x ≤ f → scT q b n → scF m q → q 86 41 = S → q 86 39 = x → q 86 40 = 2 → q 86 42 = (if x - S ≤ 5 then nv b S x else nv b S (S + 5)) → qV g mX10_scanNumber (d + 3) 0 10 [some (.inr 86)] [] (qi q) Q T := by
  refine stepUp f (fun x ih q x0 x1 ht hf h41 h39 h40 h42 => wX10_scanNumber_10 hw ?_)
  by_cases h : x < f
  · have D := hd x x0 h
    have tn := ht.2.1
    simp (disch := omega) only [z_app, z_rd, z_cl, z_add, z_sub, z_mul, z_neg, z_lit, z_leT, z_leF, z_ltT, z_ltF, z_eqT, z_eqF, i_leT, i_leF, i_ltT, i_ltF, i_eqT, i_eqF, z_le, z_lt, z_eq, z_ite, z_at, z_pt, z_up, z_wr, z_wi1, z_wi0, z_wi, z_inS, z_toInt, z_nb0, z_nb1, Int.cast_ofNat_Int, true_and, and_true, not_true_eq_false, not_false_eq_true, false_imp_iff, true_imp_iff, aup_o, aup_k, ite_true, ite_false, z_fa000, z_fa001, z_fa010, z_fa011, z_fa100, z_fa101, z_fa110, z_fa111, if_true, if_false, h39]
    refine m_isD1 hw ht (by omega) (by omega) D ?_
    by_cases h5 : 5 ≤ x - S
    · have e5 : (if x - S ≤ 5 then nv b S x else nv b S (S + 5)) = nv b S (S + 5) := by
        by_cases e : x - S ≤ 5
        · rw [if_pos e, show x = S + 5 by omega]
        · rw [if_neg e]
      rw [e5] at h42
      have st := ih h (aup q 86 39 (x + 1)) (by omega) (by omega) (scT_F ht (scF_up (by decide) (by decide))) (scF_tr hf (scF_up (by decide) (by decide))) (by rw [aup_i (by decide)]; exact h41) (aup_s _ _ _ _) (by rw [aup_i (by decide)]; exact h40) (by rw [aup_i (by decide), if_neg (by omega)]; exact h42)
      simp (disch := omega) only [z_app, z_rd, z_cl, z_add, z_sub, z_mul, z_neg, z_lit, z_leT, z_leF, z_ltT, z_ltF, z_eqT, z_eqF, i_leT, i_leF, i_ltT, i_ltF, i_eqT, i_eqF, z_le, z_lt, z_eq, z_ite, z_at, z_pt, z_up, z_wr, z_wi1, z_wi0, z_wi, z_inS, z_toInt, z_nb0, z_nb1, Int.cast_ofNat_Int, true_and, and_true, not_true_eq_false, not_false_eq_true, false_imp_iff, true_imp_iff, aup_o, aup_k, ite_true, ite_false, z_fa000, z_fa001, z_fa010, z_fa011, z_fa100, z_fa101, z_fa110, z_fa111, if_true, if_false, h39, h41]
      exact st
    · rw [if_pos (by omega)] at h42
      have nb := nv_b (f := b) (a := S) (e := x) x0 (by omega) (fun y y0 y1 => hd y y0 (by omega))
      have st := ih h (aup (aup q 86 42 (10 * nv b S x + (b x - 48))) 86 39 (x + 1)) (by omega) (by omega) (scT_F ht (scF_tr (scF_up (by decide) (by decide)) (scF_up (by decide) (by decide)))) (scF_tr hf (scF_tr (scF_up (by decide) (by decide)) (scF_up (by decide) (by decide)))) (by rw [aup_i (by decide), aup_i (by decide)]; exact h41) (aup_s _ _ _ _) (by rw [aup_i (by decide), aup_i (by decide)]; exact h40) (by rw [aup_i (by decide), aup_s, if_pos (by omega), nv_l x0])
      have e48 : 10 * nv b S x + b x - 48 = 10 * nv b S x + (b x - 48) := by omega
      simp (disch := omega) only [z_app, z_rd, z_cl, z_add, z_sub, z_mul, z_neg, z_lit, z_leT, z_leF, z_ltT, z_ltF, z_eqT, z_eqF, i_leT, i_leF, i_ltT, i_ltF, i_eqT, i_eqF, z_le, z_lt, z_eq, z_ite, z_at, z_pt, z_up, z_wr, z_wi1, z_wi0, z_wi, z_inS, z_toInt, z_nb0, z_nb1, Int.cast_ofNat_Int, true_and, and_true, not_true_eq_false, not_false_eq_true, false_imp_iff, true_imp_iff, aup_o, aup_k, ite_true, ite_false, z_fa000, z_fa001, z_fa010, z_fa011, z_fa100, z_fa101, z_fa110, z_fa111, if_true, if_false, h39, h41]
      refine m_byteAt1 hw ht (by omega) (by omega) ?_
      simp (disch := omega) only [z_app, z_rd, z_cl, z_add, z_sub, z_mul, z_neg, z_lit, z_leT, z_leF, z_ltT, z_ltF, z_eqT, z_eqF, i_leT, i_leF, i_ltT, i_ltF, i_eqT, i_eqF, z_le, z_lt, z_eq, z_ite, z_at, z_pt, z_up, z_wr, z_wi1, z_wi0, z_wi, z_inS, z_toInt, z_nb0, z_nb1, Int.cast_ofNat_Int, true_and, and_true, not_true_eq_false, not_false_eq_true, false_imp_iff, true_imp_iff, aup_o, aup_k, ite_true, ite_false, z_fa000, z_fa001, z_fa010, z_fa011, z_fa100, z_fa101, z_fa110, z_fa111, if_true, if_false, h39, h42, e48]
      exact st
  · have ex : x = f := by omega
    rw [ex] at h39 h42
    have fin : ∀ q' : aS, scF q q' → q' 86 41 = S → q' 86 39 = f → q' 86 40 = (if f - S ≤ 5 then 2 else 4) → q' 86 42 = q 86 42 → Q (iI 0) (qi q') := fun q' a1 a2 a3 a4 a5 => hQ q' (scF_tr hf a1) a2 a3 a4 (fun h5 => by rw [a5, h42, if_pos h5])
    have done : qC g (d + 2) mX10_isDigit [.inr 86, .inl (iI f)] (qi q) (fun r s2 => r = iI 0 ∧ s2 = qi q) T := by
      by_cases hn : f < n
      · exact m_isD0 hw ht (by omega) hn (he hn) ⟨rfl, rfl⟩
      · exact m_isDe hw ht (by omega) (by omega) ⟨rfl, rfl⟩
    have ex2 : ∀ (Q' : Int32 → qS → Prop), Q' (iI 0) (qi q) → qC g (d + 2) mX10_isDigit [.inr 86, .inl (iI f)] (qi q) Q' T := fun Q' h => by
      by_cases hn : f < n
      · exact m_isD0 hw ht (by omega) hn (he hn) h
      · exact m_isDe hw ht (by omega) (by omega) h
    have tn := ht.2.1
    simp (disch := omega) only [z_app, z_rd, z_cl, z_add, z_sub, z_mul, z_neg, z_lit, z_leT, z_leF, z_ltT, z_ltF, z_eqT, z_eqF, i_leT, i_leF, i_ltT, i_ltF, i_eqT, i_eqF, z_le, z_lt, z_eq, z_ite, z_at, z_pt, z_up, z_wr, z_wi1, z_wi0, z_wi, z_inS, z_toInt, z_nb0, z_nb1, Int.cast_ofNat_Int, true_and, and_true, not_true_eq_false, not_false_eq_true, false_imp_iff, true_imp_iff, aup_o, aup_k, ite_true, ite_false, z_fa000, z_fa001, z_fa010, z_fa011, z_fa100, z_fa101, z_fa110, z_fa111, if_true, if_false, h39]
    refine ex2 _ ?_
    by_cases h5 : f - S ≤ 5
    · have q0 := fin q (scF_rf q) h41 h39 (by rw [if_pos h5]; exact h40) rfl
      simp (disch := omega) only [z_app, z_rd, z_cl, z_add, z_sub, z_mul, z_neg, z_lit, z_leT, z_leF, z_ltT, z_ltF, z_eqT, z_eqF, i_leT, i_leF, i_ltT, i_ltF, i_eqT, i_eqF, z_le, z_lt, z_eq, z_ite, z_at, z_pt, z_up, z_wr, z_wi1, z_wi0, z_wi, z_inS, z_toInt, z_nb0, z_nb1, Int.cast_ofNat_Int, true_and, and_true, not_true_eq_false, not_false_eq_true, false_imp_iff, true_imp_iff, aup_o, aup_k, ite_true, ite_false, z_fa000, z_fa001, z_fa010, z_fa011, z_fa100, z_fa101, z_fa110, z_fa111, if_true, if_false, h39, h41]
      exact q0
    · have q0 := fin (aup q 86 40 4) (scF_up (by decide) (by decide)) (by rw [aup_i (by decide)]; exact h41) (by rw [aup_i (by decide)]; exact h39) (by rw [aup_s, if_neg h5]) (by rw [aup_i (by decide)])
      simp (disch := omega) only [z_app, z_rd, z_cl, z_add, z_sub, z_mul, z_neg, z_lit, z_leT, z_leF, z_ltT, z_ltF, z_eqT, z_eqF, i_leT, i_leF, i_ltT, i_ltF, i_eqT, i_eqF, z_le, z_lt, z_eq, z_ite, z_at, z_pt, z_up, z_wr, z_wi1, z_wi0, z_wi, z_inS, z_toInt, z_nb0, z_nb1, Int.cast_ofNat_Int, true_and, and_true, not_true_eq_false, not_false_eq_true, false_imp_iff, true_imp_iff, aup_o, aup_k, ite_true, ite_false, z_fa000, z_fa001, z_fa010, z_fa011, z_fa100, z_fa101, z_fa110, z_fa111, if_true, if_false, h39, h41]
      exact q0
theorem m_scanNumber (hw : qWF g) {S f : Int} (ht : scT m b n) (h39 : m 86 39 = S) (h41 : m 86 41 = S) (S0 : 0 ≤ S) (Sf : S < f) (fn : f ≤ n) (hd : ∀ x, S ≤ x → x < f → 48 ≤ b x ∧ b x ≤ 57) (he : f < n → ¬ (48 ≤ b f ∧ b f ≤ 57)) (hQ : ∀ m' : aS, scF m m' → m' 86 41 = S → m' 86 39 = f → m' 86 40 = (if f - S ≤ 5 then 2 else 4) → (f - S ≤ 5 → m' 86 42 = nv b S f) → Q (iI 0) (qi m')) : qC g (d + 3) mX10_scanNumber [.inr 86] (qi m) Q T := by
  have l := m_scanNumber_l (d := d) (T := T) (m := m) hw S0 Sf fn hd he hQ S (aup (aup m 86 40 2) 86 42 0) (Int.le_refl _) (by omega) (scT_F ht (scF_tr (scF_up (by decide) (by decide)) (scF_up (by decide) (by decide)))) (scF_tr (scF_up (by decide) (by decide)) (scF_up (by decide) (by decide))) (by rw [aup_i (by decide), aup_i (by decide)]; exact h41) (by rw [aup_i (by decide), aup_i (by decide)]; exact h39) (by rw [aup_i (by decide), aup_s]) (by rw [aup_s, if_pos (by omega), nv_e])
  refine wX10_scanNumber hw ?_
  simp (disch := omega) only [z_app, z_rd, z_cl, z_add, z_sub, z_mul, z_neg, z_lit, z_leT, z_leF, z_ltT, z_ltF, z_eqT, z_eqF, i_leT, i_leF, i_ltT, i_ltF, i_eqT, i_eqF, z_le, z_lt, z_eq, z_ite, z_at, z_pt, z_up, z_wr, z_wi1, z_wi0, z_wi, z_inS, z_toInt, z_nb0, z_nb1, Int.cast_ofNat_Int, true_and, and_true, not_true_eq_false, not_false_eq_true, false_imp_iff, true_imp_iff, aup_o, aup_k, ite_true, ite_false, z_fa000, z_fa001, z_fa010, z_fa011, z_fa100, z_fa101, z_fa110, z_fa111, if_true, if_false]
  exact l
theorem m_scan_l (hw : qWF g) (hs : kSW g) (hF : tkF w b n c e) {j : Int} (j0 : 0 ≤ j) (j1 : j ≤ c) : ∀ (x : Int) (m : aS), ep e j ≤ x → x ≤ w 82 j → scT m b n → m 86 39 = x → (∀ m' : aS, scF m m' → scA m' w e c j → Q (iI 0) (qi m')) → qV g mX10_scan (d + 4) 0 0 [some (.inr 86)] [] (qi m) Q T := by
  refine stepUp (w 82 j) (fun x ih m x0 x1 ht h39 hQ => wX10_scan_0 hw ?_)
  obtain ⟨⟨F1, F2, F3, F4, F5⟩, F6, F7⟩ := hF
  obtain ⟨G1, G2, G3⟩ := F6 j j0 j1
  have tn := ht.2.1
  by_cases hx : x < w 82 j
  · have wn : w 82 j ≤ n := by
      by_cases e1 : j < c
      · have := (F7 j j0 e1).1; omega
      · rw [show j = c by omega, F5]; exact Int.le_refl _
    have k0 := kd0.mp (G3 x x0 hx)
    have up := scF_up (m := m) (i := 39) (v := x + 1) (by decide) (by decide)
    have st := ih hx (aup m 86 39 (x + 1)) (by omega) (by omega) (scT_F ht up) (aup_s _ _ _ _) (fun m' a1 a2 => hQ m' (scF_tr up a1) a2)
    by_cases h32 : b x = 32
    · simp (disch := omega) only [z_app, z_rd, z_cl, z_add, z_sub, z_mul, z_neg, z_lit, z_leT, z_leF, z_ltT, z_ltF, z_eqT, z_eqF, i_leT, i_leF, i_ltT, i_ltF, i_eqT, i_eqF, z_le, z_lt, z_eq, z_ite, z_at, z_pt, z_up, z_wr, z_wi1, z_wi0, z_wi, z_inS, z_toInt, z_nb0, z_nb1, Int.cast_ofNat_Int, true_and, and_true, not_true_eq_false, not_false_eq_true, false_imp_iff, true_imp_iff, aup_o, aup_k, ite_true, ite_false, z_fa000, z_fa001, z_fa010, z_fa011, z_fa100, z_fa101, z_fa110, z_fa111, if_true, if_false, h39]
      refine m_byteAt1 hw ht (by omega) (by omega) ?_
      simp (disch := omega) only [z_app, z_rd, z_cl, z_add, z_sub, z_mul, z_neg, z_lit, z_leT, z_leF, z_ltT, z_ltF, z_eqT, z_eqF, i_leT, i_leF, i_ltT, i_ltF, i_eqT, i_eqF, z_le, z_lt, z_eq, z_ite, z_at, z_pt, z_up, z_wr, z_wi1, z_wi0, z_wi, z_inS, z_toInt, z_nb0, z_nb1, Int.cast_ofNat_Int, true_and, and_true, not_true_eq_false, not_false_eq_true, false_imp_iff, true_imp_iff, aup_o, aup_k, ite_true, ite_false, z_fa000, z_fa001, z_fa010, z_fa011, z_fa100, z_fa101, z_fa110, z_fa111, if_true, if_false, h39]
      exact st
    · have h10 : b x = 10 := by omega
      simp (disch := omega) only [z_app, z_rd, z_cl, z_add, z_sub, z_mul, z_neg, z_lit, z_leT, z_leF, z_ltT, z_ltF, z_eqT, z_eqF, i_leT, i_leF, i_ltT, i_ltF, i_eqT, i_eqF, z_le, z_lt, z_eq, z_ite, z_at, z_pt, z_up, z_wr, z_wi1, z_wi0, z_wi, z_inS, z_toInt, z_nb0, z_nb1, Int.cast_ofNat_Int, true_and, and_true, not_true_eq_false, not_false_eq_true, false_imp_iff, true_imp_iff, aup_o, aup_k, ite_true, ite_false, z_fa000, z_fa001, z_fa010, z_fa011, z_fa100, z_fa101, z_fa110, z_fa111, if_true, if_false, h39]
      refine m_byteAt1 hw ht (by omega) (by omega) ?_
      simp (disch := omega) only [z_app, z_rd, z_cl, z_add, z_sub, z_mul, z_neg, z_lit, z_leT, z_leF, z_ltT, z_ltF, z_eqT, z_eqF, i_leT, i_leF, i_ltT, i_ltF, i_eqT, i_eqF, z_le, z_lt, z_eq, z_ite, z_at, z_pt, z_up, z_wr, z_wi1, z_wi0, z_wi, z_inS, z_toInt, z_nb0, z_nb1, Int.cast_ofNat_Int, true_and, and_true, not_true_eq_false, not_false_eq_true, false_imp_iff, true_imp_iff, aup_o, aup_k, ite_true, ite_false, z_fa000, z_fa001, z_fa010, z_fa011, z_fa100, z_fa101, z_fa110, z_fa111, if_true, if_false, h39]
      refine m_byteAt1 hw ht (by omega) (by omega) ?_
      simp (disch := omega) only [z_app, z_rd, z_cl, z_add, z_sub, z_mul, z_neg, z_lit, z_leT, z_leF, z_ltT, z_ltF, z_eqT, z_eqF, i_leT, i_leF, i_ltT, i_ltF, i_eqT, i_eqF, z_le, z_lt, z_eq, z_ite, z_at, z_pt, z_up, z_wr, z_wi1, z_wi0, z_wi, z_inS, z_toInt, z_nb0, z_nb1, Int.cast_ofNat_Int, true_and, and_true, not_true_eq_false, not_false_eq_true, false_imp_iff, true_imp_iff, aup_o, aup_k, ite_true, ite_false, z_fa000, z_fa001, z_fa010, z_fa011, z_fa100, z_fa101, z_fa110, z_fa111, if_true, if_false, h39]
      exact st
  · have ex : x = w 82 j := by omega
    have up := scF_tr (scF_up (m := m) (i := 41) (v := x) (by decide) (by decide)) (scF_up (i := 44) (v := -1) (by decide) (by decide))
    have t1 : scT (aup (aup m 86 41 x) 86 44 (-1)) b n := scT_F ht up
    have y39 : aup (aup m 86 41 x) 86 44 (-1) 86 39 = x := by rw [aup_i (by decide), aup_i (by decide)]; exact h39
    have y41 : aup (aup m 86 41 x) 86 44 (-1) 86 41 = x := by rw [aup_i (by decide), aup_s]
    by_cases jc : j < c
    · obtain ⟨⟨H1, H2⟩, ⟨H3, H4⟩, H5, H6, H7, H8⟩ := F7 j j0 jc
      rw [← ex] at H1 H3 H4 H5 H6 H7 H8
      have hB := (ht.2.2 x (by omega) (by omega)).2
      have nk : ¬ (b x = 32 ∨ b x = 10) := fun h => H5 (kd0.mpr h)
      have n32 : b x ≠ 32 := fun h => nk (Or.inl h)
      have n10 : b x ≠ 10 := fun h => nk (Or.inr h)
      clear nk F6 F7 G3 ih
      simp (disch := omega) only [z_app, z_rd, z_cl, z_add, z_sub, z_mul, z_neg, z_lit, z_leT, z_leF, z_ltT, z_ltF, z_eqT, z_eqF, i_leT, i_leF, i_ltT, i_ltF, i_eqT, i_eqF, z_le, z_lt, z_eq, z_ite, z_at, z_pt, z_up, z_wr, z_wi1, z_wi0, z_wi, z_inS, z_toInt, z_nb0, z_nb1, Int.cast_ofNat_Int, true_and, and_true, not_true_eq_false, not_false_eq_true, false_imp_iff, true_imp_iff, aup_o, aup_k, ite_true, ite_false, z_fa000, z_fa001, z_fa010, z_fa011, z_fa100, z_fa101, z_fa110, z_fa111, if_true, if_false, h39]
      refine m_byteAt1 hw ht (by omega) (by omega) ?_
      simp (disch := omega) only [z_app, z_rd, z_cl, z_add, z_sub, z_mul, z_neg, z_lit, z_leT, z_leF, z_ltT, z_ltF, z_eqT, z_eqF, i_leT, i_leF, i_ltT, i_ltF, i_eqT, i_eqF, z_le, z_lt, z_eq, z_ite, z_at, z_pt, z_up, z_wr, z_wi1, z_wi0, z_wi, z_inS, z_toInt, z_nb0, z_nb1, Int.cast_ofNat_Int, true_and, and_true, not_true_eq_false, not_false_eq_true, false_imp_iff, true_imp_iff, aup_o, aup_k, ite_true, ite_false, z_fa000, z_fa001, z_fa010, z_fa011, z_fa100, z_fa101, z_fa110, z_fa111, if_true, if_false, h39]
      refine m_byteAt1 hw ht (by omega) (by omega) ?_
      simp (disch := omega) only [z_app, z_rd, z_cl, z_add, z_sub, z_mul, z_neg, z_lit, z_leT, z_leF, z_ltT, z_ltF, z_eqT, z_eqF, i_leT, i_leF, i_ltT, i_ltF, i_eqT, i_eqF, z_le, z_lt, z_eq, z_ite, z_at, z_pt, z_up, z_wr, z_wi1, z_wi0, z_wi, z_inS, z_toInt, z_nb0, z_nb1, Int.cast_ofNat_Int, true_and, and_true, not_true_eq_false, not_false_eq_true, false_imp_iff, true_imp_iff, aup_o, aup_k, ite_true, ite_false, z_fa000, z_fa001, z_fa010, z_fa011, z_fa100, z_fa101, z_fa110, z_fa111, if_true, if_false, h39]
      refine m_byteAt1 hw t1 (by omega) (by omega) ?_
      simp (disch := omega) only [z_app, z_rd, z_cl, z_add, z_sub, z_mul, z_neg, z_lit, z_leT, z_leF, z_ltT, z_ltF, z_eqT, z_eqF, i_leT, i_leF, i_ltT, i_ltF, i_eqT, i_eqF, z_le, z_lt, z_eq, z_ite, z_at, z_pt, z_up, z_wr, z_wi1, z_wi0, z_wi, z_inS, z_toInt, z_nb0, z_nb1, Int.cast_ofNat_Int, true_and, and_true, not_true_eq_false, not_false_eq_true, false_imp_iff, true_imp_iff, aup_o, aup_k, ite_true, ite_false, z_fa000, z_fa001, z_fa010, z_fa011, z_fa100, z_fa101, z_fa110, z_fa111, if_true, if_false, h39]
      by_cases k1 : kd (b x) = 1
      · refine m_isL1 hw t1 (by omega) (by omega) (kd1 k1) ?_
        simp (disch := omega) only [z_app, z_rd, z_cl, z_add, z_sub, z_mul, z_neg, z_lit, z_leT, z_leF, z_ltT, z_ltF, z_eqT, z_eqF, i_leT, i_leF, i_ltT, i_ltF, i_eqT, i_eqF, z_le, z_lt, z_eq, z_ite, z_at, z_pt, z_up, z_wr, z_wi1, z_wi0, z_wi, z_inS, z_toInt, z_nb0, z_nb1, Int.cast_ofNat_Int, true_and, and_true, not_true_eq_false, not_false_eq_true, false_imp_iff, true_imp_iff, aup_o, aup_k, ite_true, ite_false, z_fa000, z_fa001, z_fa010, z_fa011, z_fa100, z_fa101, z_fa110, z_fa111, if_true, if_false, h39]
        refine hs d _ x (e j) _ _ y39 y41 (by omega) H1 (by rw [t1.1]; exact H2) (by rw [t1.1]; exact tn) (fun y y0 y1 => by rw [t1.1] at y1; rw [(t1.2.2 y y0 y1).1]; exact (t1.2.2 y y0 y1).2) (fun y y0 y1 => by rw [(t1.2.2 y (by omega) (by omega)).1]; exact kd1 ((H7 y y0 y1).trans k1)) (fun hl => by rw [t1.1] at hl; rw [(t1.2.2 (e j) (by omega) hl).1]; exact fun hh => H8 (by omega) hl ((kd1' hh).trans k1.symm)) (aup_s _ _ _ _) (fun m' a1 a2 a3 a4 a5 => ?_)
        refine hQ m' (scF_tr up a1) ⟨by rw [a2, ex], by rw [if_pos jc]; exact a3, ?_⟩
        rw [H3]
        unfold fc tR
        rw [if_neg (show ¬ kd (b x) = 3 by omega), if_pos k1]
        have lc : lt (aup (aup m 86 41 x) 86 44 (-1) 87) x (e j - x).toNat = lt b x (e j - x).toNat := lt_c _ (fun y y0 y1 => (t1.2.2 y (by omega) (by omega)).1)
        rw [lc] at a5
        by_cases h8 : e j - x ≤ 8
        · rw [if_pos (show (e j - x).toNat ≤ 8 by omega)]
          rw [if_pos h8] at a4
          have a6 := a5 h8
          have kb := kw_b (lt b x (e j - x).toNat)
          by_cases hk : kw (lt b x (e j - x).toNat) = -1
          · rw [if_pos hk]
            right; right; right; right; left
            exact ⟨rfl, a4, by rw [a6]; exact hk⟩
          · rw [if_neg hk]
            right; left
            exact ⟨by omega, by omega, a4, by omega⟩
        · rw [if_neg (show ¬ (e j - x).toNat ≤ 8 by omega)]
          rw [if_neg h8] at a4
          right; right; right; left
          exact ⟨rfl, a4⟩
      refine m_isL0 hw t1 (by omega) (by omega) (fun hh => k1 (kd1' hh)) ?_
      simp (disch := omega) only [z_app, z_rd, z_cl, z_add, z_sub, z_mul, z_neg, z_lit, z_leT, z_leF, z_ltT, z_ltF, z_eqT, z_eqF, i_leT, i_leF, i_ltT, i_ltF, i_eqT, i_eqF, z_le, z_lt, z_eq, z_ite, z_at, z_pt, z_up, z_wr, z_wi1, z_wi0, z_wi, z_inS, z_toInt, z_nb0, z_nb1, Int.cast_ofNat_Int, true_and, and_true, not_true_eq_false, not_false_eq_true, false_imp_iff, true_imp_iff, aup_o, aup_k, ite_true, ite_false, z_fa000, z_fa001, z_fa010, z_fa011, z_fa100, z_fa101, z_fa110, z_fa111, if_true, if_false, h39]
      by_cases k2 : kd (b x) = 2
      · refine m_isD1 hw t1 (by omega) (by omega) (kd2 k2) ?_
        simp (disch := omega) only [z_app, z_rd, z_cl, z_add, z_sub, z_mul, z_neg, z_lit, z_leT, z_leF, z_ltT, z_ltF, z_eqT, z_eqF, i_leT, i_leF, i_ltT, i_ltF, i_eqT, i_eqF, z_le, z_lt, z_eq, z_ite, z_at, z_pt, z_up, z_wr, z_wi1, z_wi0, z_wi, z_inS, z_toInt, z_nb0, z_nb1, Int.cast_ofNat_Int, true_and, and_true, not_true_eq_false, not_false_eq_true, false_imp_iff, true_imp_iff, aup_o, aup_k, ite_true, ite_false, z_fa000, z_fa001, z_fa010, z_fa011, z_fa100, z_fa101, z_fa110, z_fa111, if_true, if_false, h39]
        refine m_scanNumber hw t1 y39 y41 (by omega) H1 H2 (fun y y0 y1 => kd2 ((H7 y y0 y1).trans k2)) (fun hl hh => H8 (by omega) hl ((kd2' hh).trans k2.symm)) (fun m' a1 a2 a3 a4 a5 => ?_)
        refine hQ m' (scF_tr up a1) ⟨by rw [a2, ex], by rw [if_pos jc]; exact a3, ?_⟩
        rw [H3, H4]
        unfold fc fv tR
        rw [if_neg (show ¬ kd (b x) = 3 by omega), if_neg k1]
        by_cases h5 : e j - x ≤ 5
        · rw [if_pos h5, if_pos ⟨k2, h5⟩, show x + (e j - x) = e j by omega]
          rw [if_pos h5] at a4
          right; right; left
          have nb := nv_b (f := b) (a := x) (e := e j) (by omega) (by omega) (fun y y0 y1 => kd2 ((H7 y y0 y1).trans k2))
          exact ⟨rfl, a4, a5 h5, nb.1, nb.2⟩
        · rw [if_neg h5]
          rw [if_neg h5] at a4
          right; right; right; left
          exact ⟨rfl, a4⟩
      · have K := kd_b (b x)
        have k3 : kd (b x) = 3 := by omega
        have e1 := H6 k3
        refine m_isD0 hw t1 (by omega) (by omega) (fun hh => k2 (kd2' hh)) ?_
        have up2 := scF_up (m := aup (aup m 86 41 x) 86 44 (-1)) (i := 40) (v := 3) (by decide) (by decide)
        have fin := hQ (aup (aup (aup (aup (aup m 86 41 x) 86 44 (-1)) 86 40 3) 86 43 (b x)) 86 39 (x + 1)) (scF_tr up (scF_tr up2 (scF_tr (scF_up (by decide) (by decide)) (scF_up (by decide) (by decide))))) ⟨by rw [← ex, aup_i (by decide), aup_i (by decide), aup_i (by decide)]; exact y41, by rw [aup_s, if_pos jc]; exact e1.symm, by
          rw [H3]
          unfold fc tR
          rw [if_pos k3]
          left
          exact ⟨hB.1, by omega, by rw [aup_i (by decide), aup_i (by decide), aup_s], by rw [aup_i (by decide), aup_s]⟩⟩
        simp (disch := omega) only [z_app, z_rd, z_cl, z_add, z_sub, z_mul, z_neg, z_lit, z_leT, z_leF, z_ltT, z_ltF, z_eqT, z_eqF, i_leT, i_leF, i_ltT, i_ltF, i_eqT, i_eqF, z_le, z_lt, z_eq, z_ite, z_at, z_pt, z_up, z_wr, z_wi1, z_wi0, z_wi, z_inS, z_toInt, z_nb0, z_nb1, Int.cast_ofNat_Int, true_and, and_true, not_true_eq_false, not_false_eq_true, false_imp_iff, true_imp_iff, aup_o, aup_k, ite_true, ite_false, z_fa000, z_fa001, z_fa010, z_fa011, z_fa100, z_fa101, z_fa110, z_fa111, if_true, if_false, h39]
        refine m_byteAt1 hw (scT_F t1 up2) (by omega) (by omega) ?_
        simp (disch := omega) only [z_app, z_rd, z_cl, z_add, z_sub, z_mul, z_neg, z_lit, z_leT, z_leF, z_ltT, z_ltF, z_eqT, z_eqF, i_leT, i_leF, i_ltT, i_ltF, i_eqT, i_eqF, z_le, z_lt, z_eq, z_ite, z_at, z_pt, z_up, z_wr, z_wi1, z_wi0, z_wi, z_inS, z_toInt, z_nb0, z_nb1, Int.cast_ofNat_Int, true_and, and_true, not_true_eq_false, not_false_eq_true, false_imp_iff, true_imp_iff, aup_o, aup_k, ite_true, ite_false, z_fa000, z_fa001, z_fa010, z_fa011, z_fa100, z_fa101, z_fa110, z_fa111, if_true, if_false, h39]
        exact fin
    · have ec : j = c := by omega
      have xn : x = n := by rw [ex, ec]; exact F5
      have fin := hQ (aup (aup (aup m 86 41 x) 86 44 (-1)) 86 40 0) (scF_tr up (scF_up (by decide) (by decide))) ⟨by rw [← ex, aup_i (by decide)]; exact y41, by rw [aup_i (by decide), if_neg jc, ← ec, ← ex]; exact y39, by
        rw [ec, F4]
        unfold tR
        right; right; right; right; right
        exact ⟨rfl, aup_s _ _ _ _⟩⟩
      simp (disch := omega) only [z_app, z_rd, z_cl, z_add, z_sub, z_mul, z_neg, z_lit, z_leT, z_leF, z_ltT, z_ltF, z_eqT, z_eqF, i_leT, i_leF, i_ltT, i_ltF, i_eqT, i_eqF, z_le, z_lt, z_eq, z_ite, z_at, z_pt, z_up, z_wr, z_wi1, z_wi0, z_wi, z_inS, z_toInt, z_nb0, z_nb1, Int.cast_ofNat_Int, true_and, and_true, not_true_eq_false, not_false_eq_true, false_imp_iff, true_imp_iff, aup_o, aup_k, ite_true, ite_false, z_fa000, z_fa001, z_fa010, z_fa011, z_fa100, z_fa101, z_fa110, z_fa111, if_true, if_false, h39]
      refine m_byteAt0 hw ht (by omega) xn ?_
      simp (disch := omega) only [z_app, z_rd, z_cl, z_add, z_sub, z_mul, z_neg, z_lit, z_leT, z_leF, z_ltT, z_ltF, z_eqT, z_eqF, i_leT, i_leF, i_ltT, i_ltF, i_eqT, i_eqF, z_le, z_lt, z_eq, z_ite, z_at, z_pt, z_up, z_wr, z_wi1, z_wi0, z_wi, z_inS, z_toInt, z_nb0, z_nb1, Int.cast_ofNat_Int, true_and, and_true, not_true_eq_false, not_false_eq_true, false_imp_iff, true_imp_iff, aup_o, aup_k, ite_true, ite_false, z_fa000, z_fa001, z_fa010, z_fa011, z_fa100, z_fa101, z_fa110, z_fa111, if_true, if_false, h39]
      refine m_byteAt0 hw ht (by omega) xn ?_
      simp (disch := omega) only [z_app, z_rd, z_cl, z_add, z_sub, z_mul, z_neg, z_lit, z_leT, z_leF, z_ltT, z_ltF, z_eqT, z_eqF, i_leT, i_leF, i_ltT, i_ltF, i_eqT, i_eqF, z_le, z_lt, z_eq, z_ite, z_at, z_pt, z_up, z_wr, z_wi1, z_wi0, z_wi, z_inS, z_toInt, z_nb0, z_nb1, Int.cast_ofNat_Int, true_and, and_true, not_true_eq_false, not_false_eq_true, false_imp_iff, true_imp_iff, aup_o, aup_k, ite_true, ite_false, z_fa000, z_fa001, z_fa010, z_fa011, z_fa100, z_fa101, z_fa110, z_fa111, if_true, if_false, h39]
      refine m_byteAt0 hw t1 (by omega) xn ?_
      simp (disch := omega) only [z_app, z_rd, z_cl, z_add, z_sub, z_mul, z_neg, z_lit, z_leT, z_leF, z_ltT, z_ltF, z_eqT, z_eqF, i_leT, i_leF, i_ltT, i_ltF, i_eqT, i_eqF, z_le, z_lt, z_eq, z_ite, z_at, z_pt, z_up, z_wr, z_wi1, z_wi0, z_wi, z_inS, z_toInt, z_nb0, z_nb1, Int.cast_ofNat_Int, true_and, and_true, not_true_eq_false, not_false_eq_true, false_imp_iff, true_imp_iff, aup_o, aup_k, ite_true, ite_false, z_fa000, z_fa001, z_fa010, z_fa011, z_fa100, z_fa101, z_fa110, z_fa111, if_true, if_false, h39]
      exact fin
theorem m_scan (hw : qWF g) (hs : kSW g) (hF : tkF w b n c e) {j : Int} (j0 : 0 ≤ j) (j1 : j ≤ c) (ht : scT m b n) (h39 : m 86 39 = ep e j) (hQ : ∀ m' : aS, scF m m' → scA m' w e c j → Q (iI 0) (qi m')) : qC g (d + 4) mX10_scan [.inr 86] (qi m) Q T := by
  have lp : ∀ (m : aS), (hl : ep e j < w 82 j) → scT m b n → m 86 39 = ep e j + 1 → (∀ m' : aS, scF m m' → scA m' w e c j → Q (iI 0) (qi m')) → qV g mX10_scan (d + 4) 0 0 [some (.inr 86)] [] (qi m) Q T := fun m hl a1 a2 a3 => m_scan_l hw hs hF j0 j1 (ep e j + 1) m (by omega) (by omega) a1 a2 a3
  have x0 : ep e j ≤ ep e j := Int.le_refl _
  refine wX10_scan hw ?_
  obtain ⟨x, hxx⟩ : ∃ x, x = ep e j := ⟨_, rfl⟩
  rw [← hxx] at h39 x0 lp
  obtain ⟨⟨F1, F2, F3, F4, F5⟩, F6, F7⟩ := hF
  obtain ⟨G1, G2, G3⟩ := F6 j j0 j1
  rw [← hxx] at G1 G2 G3
  have tn := ht.2.1
  by_cases hx : x < w 82 j
  · have wn : w 82 j ≤ n := by
      by_cases e1 : j < c
      · have := (F7 j j0 e1).1; omega
      · rw [show j = c by omega, F5]; exact Int.le_refl _
    have k0 := kd0.mp (G3 x x0 hx)
    have up := scF_up (m := m) (i := 39) (v := x + 1) (by decide) (by decide)
    have st := lp (aup m 86 39 (x + 1)) hx (scT_F ht up) (aup_s _ _ _ _) (fun m' a1 a2 => hQ m' (scF_tr up a1) a2)
    by_cases h32 : b x = 32
    · simp (disch := omega) only [z_app, z_rd, z_cl, z_add, z_sub, z_mul, z_neg, z_lit, z_leT, z_leF, z_ltT, z_ltF, z_eqT, z_eqF, i_leT, i_leF, i_ltT, i_ltF, i_eqT, i_eqF, z_le, z_lt, z_eq, z_ite, z_at, z_pt, z_up, z_wr, z_wi1, z_wi0, z_wi, z_inS, z_toInt, z_nb0, z_nb1, Int.cast_ofNat_Int, true_and, and_true, not_true_eq_false, not_false_eq_true, false_imp_iff, true_imp_iff, aup_o, aup_k, ite_true, ite_false, z_fa000, z_fa001, z_fa010, z_fa011, z_fa100, z_fa101, z_fa110, z_fa111, if_true, if_false, h39]
      refine m_byteAt1 hw ht (by omega) (by omega) ?_
      simp (disch := omega) only [z_app, z_rd, z_cl, z_add, z_sub, z_mul, z_neg, z_lit, z_leT, z_leF, z_ltT, z_ltF, z_eqT, z_eqF, i_leT, i_leF, i_ltT, i_ltF, i_eqT, i_eqF, z_le, z_lt, z_eq, z_ite, z_at, z_pt, z_up, z_wr, z_wi1, z_wi0, z_wi, z_inS, z_toInt, z_nb0, z_nb1, Int.cast_ofNat_Int, true_and, and_true, not_true_eq_false, not_false_eq_true, false_imp_iff, true_imp_iff, aup_o, aup_k, ite_true, ite_false, z_fa000, z_fa001, z_fa010, z_fa011, z_fa100, z_fa101, z_fa110, z_fa111, if_true, if_false, h39]
      exact st
    · have h10 : b x = 10 := by omega
      simp (disch := omega) only [z_app, z_rd, z_cl, z_add, z_sub, z_mul, z_neg, z_lit, z_leT, z_leF, z_ltT, z_ltF, z_eqT, z_eqF, i_leT, i_leF, i_ltT, i_ltF, i_eqT, i_eqF, z_le, z_lt, z_eq, z_ite, z_at, z_pt, z_up, z_wr, z_wi1, z_wi0, z_wi, z_inS, z_toInt, z_nb0, z_nb1, Int.cast_ofNat_Int, true_and, and_true, not_true_eq_false, not_false_eq_true, false_imp_iff, true_imp_iff, aup_o, aup_k, ite_true, ite_false, z_fa000, z_fa001, z_fa010, z_fa011, z_fa100, z_fa101, z_fa110, z_fa111, if_true, if_false, h39]
      refine m_byteAt1 hw ht (by omega) (by omega) ?_
      simp (disch := omega) only [z_app, z_rd, z_cl, z_add, z_sub, z_mul, z_neg, z_lit, z_leT, z_leF, z_ltT, z_ltF, z_eqT, z_eqF, i_leT, i_leF, i_ltT, i_ltF, i_eqT, i_eqF, z_le, z_lt, z_eq, z_ite, z_at, z_pt, z_up, z_wr, z_wi1, z_wi0, z_wi, z_inS, z_toInt, z_nb0, z_nb1, Int.cast_ofNat_Int, true_and, and_true, not_true_eq_false, not_false_eq_true, false_imp_iff, true_imp_iff, aup_o, aup_k, ite_true, ite_false, z_fa000, z_fa001, z_fa010, z_fa011, z_fa100, z_fa101, z_fa110, z_fa111, if_true, if_false, h39]
      refine m_byteAt1 hw ht (by omega) (by omega) ?_
      simp (disch := omega) only [z_app, z_rd, z_cl, z_add, z_sub, z_mul, z_neg, z_lit, z_leT, z_leF, z_ltT, z_ltF, z_eqT, z_eqF, i_leT, i_leF, i_ltT, i_ltF, i_eqT, i_eqF, z_le, z_lt, z_eq, z_ite, z_at, z_pt, z_up, z_wr, z_wi1, z_wi0, z_wi, z_inS, z_toInt, z_nb0, z_nb1, Int.cast_ofNat_Int, true_and, and_true, not_true_eq_false, not_false_eq_true, false_imp_iff, true_imp_iff, aup_o, aup_k, ite_true, ite_false, z_fa000, z_fa001, z_fa010, z_fa011, z_fa100, z_fa101, z_fa110, z_fa111, if_true, if_false, h39]
      exact st
  · have ex : x = w 82 j := by omega
    have up := scF_tr (scF_up (m := m) (i := 41) (v := x) (by decide) (by decide)) (scF_up (i := 44) (v := -1) (by decide) (by decide))
    have t1 : scT (aup (aup m 86 41 x) 86 44 (-1)) b n := scT_F ht up
    have y39 : aup (aup m 86 41 x) 86 44 (-1) 86 39 = x := by rw [aup_i (by decide), aup_i (by decide)]; exact h39
    have y41 : aup (aup m 86 41 x) 86 44 (-1) 86 41 = x := by rw [aup_i (by decide), aup_s]
    by_cases jc : j < c
    · obtain ⟨⟨H1, H2⟩, ⟨H3, H4⟩, H5, H6, H7, H8⟩ := F7 j j0 jc
      rw [← ex] at H1 H3 H4 H5 H6 H7 H8
      have hB := (ht.2.2 x (by omega) (by omega)).2
      have nk : ¬ (b x = 32 ∨ b x = 10) := fun h => H5 (kd0.mpr h)
      have n32 : b x ≠ 32 := fun h => nk (Or.inl h)
      have n10 : b x ≠ 10 := fun h => nk (Or.inr h)
      clear nk F6 F7 G3 lp
      simp (disch := omega) only [z_app, z_rd, z_cl, z_add, z_sub, z_mul, z_neg, z_lit, z_leT, z_leF, z_ltT, z_ltF, z_eqT, z_eqF, i_leT, i_leF, i_ltT, i_ltF, i_eqT, i_eqF, z_le, z_lt, z_eq, z_ite, z_at, z_pt, z_up, z_wr, z_wi1, z_wi0, z_wi, z_inS, z_toInt, z_nb0, z_nb1, Int.cast_ofNat_Int, true_and, and_true, not_true_eq_false, not_false_eq_true, false_imp_iff, true_imp_iff, aup_o, aup_k, ite_true, ite_false, z_fa000, z_fa001, z_fa010, z_fa011, z_fa100, z_fa101, z_fa110, z_fa111, if_true, if_false, h39]
      refine m_byteAt1 hw ht (by omega) (by omega) ?_
      simp (disch := omega) only [z_app, z_rd, z_cl, z_add, z_sub, z_mul, z_neg, z_lit, z_leT, z_leF, z_ltT, z_ltF, z_eqT, z_eqF, i_leT, i_leF, i_ltT, i_ltF, i_eqT, i_eqF, z_le, z_lt, z_eq, z_ite, z_at, z_pt, z_up, z_wr, z_wi1, z_wi0, z_wi, z_inS, z_toInt, z_nb0, z_nb1, Int.cast_ofNat_Int, true_and, and_true, not_true_eq_false, not_false_eq_true, false_imp_iff, true_imp_iff, aup_o, aup_k, ite_true, ite_false, z_fa000, z_fa001, z_fa010, z_fa011, z_fa100, z_fa101, z_fa110, z_fa111, if_true, if_false, h39]
      refine m_byteAt1 hw ht (by omega) (by omega) ?_
      simp (disch := omega) only [z_app, z_rd, z_cl, z_add, z_sub, z_mul, z_neg, z_lit, z_leT, z_leF, z_ltT, z_ltF, z_eqT, z_eqF, i_leT, i_leF, i_ltT, i_ltF, i_eqT, i_eqF, z_le, z_lt, z_eq, z_ite, z_at, z_pt, z_up, z_wr, z_wi1, z_wi0, z_wi, z_inS, z_toInt, z_nb0, z_nb1, Int.cast_ofNat_Int, true_and, and_true, not_true_eq_false, not_false_eq_true, false_imp_iff, true_imp_iff, aup_o, aup_k, ite_true, ite_false, z_fa000, z_fa001, z_fa010, z_fa011, z_fa100, z_fa101, z_fa110, z_fa111, if_true, if_false, h39]
      refine m_byteAt1 hw t1 (by omega) (by omega) ?_
      simp (disch := omega) only [z_app, z_rd, z_cl, z_add, z_sub, z_mul, z_neg, z_lit, z_leT, z_leF, z_ltT, z_ltF, z_eqT, z_eqF, i_leT, i_leF, i_ltT, i_ltF, i_eqT, i_eqF, z_le, z_lt, z_eq, z_ite, z_at, z_pt, z_up, z_wr, z_wi1, z_wi0, z_wi, z_inS, z_toInt, z_nb0, z_nb1, Int.cast_ofNat_Int, true_and, and_true, not_true_eq_false, not_false_eq_true, false_imp_iff, true_imp_iff, aup_o, aup_k, ite_true, ite_false, z_fa000, z_fa001, z_fa010, z_fa011, z_fa100, z_fa101, z_fa110, z_fa111, if_true, if_false, h39]
      by_cases k1 : kd (b x) = 1
      · refine m_isL1 hw t1 (by omega) (by omega) (kd1 k1) ?_
        simp (disch := omega) only [z_app, z_rd, z_cl, z_add, z_sub, z_mul, z_neg, z_lit, z_leT, z_leF, z_ltT, z_ltF, z_eqT, z_eqF, i_leT, i_leF, i_ltT, i_ltF, i_eqT, i_eqF, z_le, z_lt, z_eq, z_ite, z_at, z_pt, z_up, z_wr, z_wi1, z_wi0, z_wi, z_inS, z_toInt, z_nb0, z_nb1, Int.cast_ofNat_Int, true_and, and_true, not_true_eq_false, not_false_eq_true, false_imp_iff, true_imp_iff, aup_o, aup_k, ite_true, ite_false, z_fa000, z_fa001, z_fa010, z_fa011, z_fa100, z_fa101, z_fa110, z_fa111, if_true, if_false, h39]
        refine hs d _ x (e j) _ _ y39 y41 (by omega) H1 (by rw [t1.1]; exact H2) (by rw [t1.1]; exact tn) (fun y y0 y1 => by rw [t1.1] at y1; rw [(t1.2.2 y y0 y1).1]; exact (t1.2.2 y y0 y1).2) (fun y y0 y1 => by rw [(t1.2.2 y (by omega) (by omega)).1]; exact kd1 ((H7 y y0 y1).trans k1)) (fun hl => by rw [t1.1] at hl; rw [(t1.2.2 (e j) (by omega) hl).1]; exact fun hh => H8 (by omega) hl ((kd1' hh).trans k1.symm)) (aup_s _ _ _ _) (fun m' a1 a2 a3 a4 a5 => ?_)
        refine hQ m' (scF_tr up a1) ⟨by rw [a2, ex], by rw [if_pos jc]; exact a3, ?_⟩
        rw [H3]
        unfold fc tR
        rw [if_neg (show ¬ kd (b x) = 3 by omega), if_pos k1]
        have lc : lt (aup (aup m 86 41 x) 86 44 (-1) 87) x (e j - x).toNat = lt b x (e j - x).toNat := lt_c _ (fun y y0 y1 => (t1.2.2 y (by omega) (by omega)).1)
        rw [lc] at a5
        by_cases h8 : e j - x ≤ 8
        · rw [if_pos (show (e j - x).toNat ≤ 8 by omega)]
          rw [if_pos h8] at a4
          have a6 := a5 h8
          have kb := kw_b (lt b x (e j - x).toNat)
          by_cases hk : kw (lt b x (e j - x).toNat) = -1
          · rw [if_pos hk]
            right; right; right; right; left
            exact ⟨rfl, a4, by rw [a6]; exact hk⟩
          · rw [if_neg hk]
            right; left
            exact ⟨by omega, by omega, a4, by omega⟩
        · rw [if_neg (show ¬ (e j - x).toNat ≤ 8 by omega)]
          rw [if_neg h8] at a4
          right; right; right; left
          exact ⟨rfl, a4⟩
      refine m_isL0 hw t1 (by omega) (by omega) (fun hh => k1 (kd1' hh)) ?_
      simp (disch := omega) only [z_app, z_rd, z_cl, z_add, z_sub, z_mul, z_neg, z_lit, z_leT, z_leF, z_ltT, z_ltF, z_eqT, z_eqF, i_leT, i_leF, i_ltT, i_ltF, i_eqT, i_eqF, z_le, z_lt, z_eq, z_ite, z_at, z_pt, z_up, z_wr, z_wi1, z_wi0, z_wi, z_inS, z_toInt, z_nb0, z_nb1, Int.cast_ofNat_Int, true_and, and_true, not_true_eq_false, not_false_eq_true, false_imp_iff, true_imp_iff, aup_o, aup_k, ite_true, ite_false, z_fa000, z_fa001, z_fa010, z_fa011, z_fa100, z_fa101, z_fa110, z_fa111, if_true, if_false, h39]
      by_cases k2 : kd (b x) = 2
      · refine m_isD1 hw t1 (by omega) (by omega) (kd2 k2) ?_
        simp (disch := omega) only [z_app, z_rd, z_cl, z_add, z_sub, z_mul, z_neg, z_lit, z_leT, z_leF, z_ltT, z_ltF, z_eqT, z_eqF, i_leT, i_leF, i_ltT, i_ltF, i_eqT, i_eqF, z_le, z_lt, z_eq, z_ite, z_at, z_pt, z_up, z_wr, z_wi1, z_wi0, z_wi, z_inS, z_toInt, z_nb0, z_nb1, Int.cast_ofNat_Int, true_and, and_true, not_true_eq_false, not_false_eq_true, false_imp_iff, true_imp_iff, aup_o, aup_k, ite_true, ite_false, z_fa000, z_fa001, z_fa010, z_fa011, z_fa100, z_fa101, z_fa110, z_fa111, if_true, if_false, h39]
        refine m_scanNumber hw t1 y39 y41 (by omega) H1 H2 (fun y y0 y1 => kd2 ((H7 y y0 y1).trans k2)) (fun hl hh => H8 (by omega) hl ((kd2' hh).trans k2.symm)) (fun m' a1 a2 a3 a4 a5 => ?_)
        refine hQ m' (scF_tr up a1) ⟨by rw [a2, ex], by rw [if_pos jc]; exact a3, ?_⟩
        rw [H3, H4]
        unfold fc fv tR
        rw [if_neg (show ¬ kd (b x) = 3 by omega), if_neg k1]
        by_cases h5 : e j - x ≤ 5
        · rw [if_pos h5, if_pos ⟨k2, h5⟩, show x + (e j - x) = e j by omega]
          rw [if_pos h5] at a4
          right; right; left
          have nb := nv_b (f := b) (a := x) (e := e j) (by omega) (by omega) (fun y y0 y1 => kd2 ((H7 y y0 y1).trans k2))
          exact ⟨rfl, a4, a5 h5, nb.1, nb.2⟩
        · rw [if_neg h5]
          rw [if_neg h5] at a4
          right; right; right; left
          exact ⟨rfl, a4⟩
      · have K := kd_b (b x)
        have k3 : kd (b x) = 3 := by omega
        have e1 := H6 k3
        refine m_isD0 hw t1 (by omega) (by omega) (fun hh => k2 (kd2' hh)) ?_
        have up2 := scF_up (m := aup (aup m 86 41 x) 86 44 (-1)) (i := 40) (v := 3) (by decide) (by decide)
        have fin := hQ (aup (aup (aup (aup (aup m 86 41 x) 86 44 (-1)) 86 40 3) 86 43 (b x)) 86 39 (x + 1)) (scF_tr up (scF_tr up2 (scF_tr (scF_up (by decide) (by decide)) (scF_up (by decide) (by decide))))) ⟨by rw [← ex, aup_i (by decide), aup_i (by decide), aup_i (by decide)]; exact y41, by rw [aup_s, if_pos jc]; exact e1.symm, by
          rw [H3]
          unfold fc tR
          rw [if_pos k3]
          left
          exact ⟨hB.1, by omega, by rw [aup_i (by decide), aup_i (by decide), aup_s], by rw [aup_i (by decide), aup_s]⟩⟩
        simp (disch := omega) only [z_app, z_rd, z_cl, z_add, z_sub, z_mul, z_neg, z_lit, z_leT, z_leF, z_ltT, z_ltF, z_eqT, z_eqF, i_leT, i_leF, i_ltT, i_ltF, i_eqT, i_eqF, z_le, z_lt, z_eq, z_ite, z_at, z_pt, z_up, z_wr, z_wi1, z_wi0, z_wi, z_inS, z_toInt, z_nb0, z_nb1, Int.cast_ofNat_Int, true_and, and_true, not_true_eq_false, not_false_eq_true, false_imp_iff, true_imp_iff, aup_o, aup_k, ite_true, ite_false, z_fa000, z_fa001, z_fa010, z_fa011, z_fa100, z_fa101, z_fa110, z_fa111, if_true, if_false, h39]
        refine m_byteAt1 hw (scT_F t1 up2) (by omega) (by omega) ?_
        simp (disch := omega) only [z_app, z_rd, z_cl, z_add, z_sub, z_mul, z_neg, z_lit, z_leT, z_leF, z_ltT, z_ltF, z_eqT, z_eqF, i_leT, i_leF, i_ltT, i_ltF, i_eqT, i_eqF, z_le, z_lt, z_eq, z_ite, z_at, z_pt, z_up, z_wr, z_wi1, z_wi0, z_wi, z_inS, z_toInt, z_nb0, z_nb1, Int.cast_ofNat_Int, true_and, and_true, not_true_eq_false, not_false_eq_true, false_imp_iff, true_imp_iff, aup_o, aup_k, ite_true, ite_false, z_fa000, z_fa001, z_fa010, z_fa011, z_fa100, z_fa101, z_fa110, z_fa111, if_true, if_false, h39]
        exact fin
    · have ec : j = c := by omega
      have xn : x = n := by rw [ex, ec]; exact F5
      have fin := hQ (aup (aup (aup m 86 41 x) 86 44 (-1)) 86 40 0) (scF_tr up (scF_up (by decide) (by decide))) ⟨by rw [← ex, aup_i (by decide)]; exact y41, by rw [aup_i (by decide), if_neg jc, ← ec, ← ex]; exact y39, by
        rw [ec, F4]
        unfold tR
        right; right; right; right; right
        exact ⟨rfl, aup_s _ _ _ _⟩⟩
      simp (disch := omega) only [z_app, z_rd, z_cl, z_add, z_sub, z_mul, z_neg, z_lit, z_leT, z_leF, z_ltT, z_ltF, z_eqT, z_eqF, i_leT, i_leF, i_ltT, i_ltF, i_eqT, i_eqF, z_le, z_lt, z_eq, z_ite, z_at, z_pt, z_up, z_wr, z_wi1, z_wi0, z_wi, z_inS, z_toInt, z_nb0, z_nb1, Int.cast_ofNat_Int, true_and, and_true, not_true_eq_false, not_false_eq_true, false_imp_iff, true_imp_iff, aup_o, aup_k, ite_true, ite_false, z_fa000, z_fa001, z_fa010, z_fa011, z_fa100, z_fa101, z_fa110, z_fa111, if_true, if_false, h39]
      refine m_byteAt0 hw ht (by omega) xn ?_
      simp (disch := omega) only [z_app, z_rd, z_cl, z_add, z_sub, z_mul, z_neg, z_lit, z_leT, z_leF, z_ltT, z_ltF, z_eqT, z_eqF, i_leT, i_leF, i_ltT, i_ltF, i_eqT, i_eqF, z_le, z_lt, z_eq, z_ite, z_at, z_pt, z_up, z_wr, z_wi1, z_wi0, z_wi, z_inS, z_toInt, z_nb0, z_nb1, Int.cast_ofNat_Int, true_and, and_true, not_true_eq_false, not_false_eq_true, false_imp_iff, true_imp_iff, aup_o, aup_k, ite_true, ite_false, z_fa000, z_fa001, z_fa010, z_fa011, z_fa100, z_fa101, z_fa110, z_fa111, if_true, if_false, h39]
      refine m_byteAt0 hw ht (by omega) xn ?_
      simp (disch := omega) only [z_app, z_rd, z_cl, z_add, z_sub, z_mul, z_neg, z_lit, z_leT, z_leF, z_ltT, z_ltF, z_eqT, z_eqF, i_leT, i_leF, i_ltT, i_ltF, i_eqT, i_eqF, z_le, z_lt, z_eq, z_ite, z_at, z_pt, z_up, z_wr, z_wi1, z_wi0, z_wi, z_inS, z_toInt, z_nb0, z_nb1, Int.cast_ofNat_Int, true_and, and_true, not_true_eq_false, not_false_eq_true, false_imp_iff, true_imp_iff, aup_o, aup_k, ite_true, ite_false, z_fa000, z_fa001, z_fa010, z_fa011, z_fa100, z_fa101, z_fa110, z_fa111, if_true, if_false, h39]
      refine m_byteAt0 hw t1 (by omega) xn ?_
      simp (disch := omega) only [z_app, z_rd, z_cl, z_add, z_sub, z_mul, z_neg, z_lit, z_leT, z_leF, z_ltT, z_ltF, z_eqT, z_eqF, i_leT, i_leF, i_ltT, i_ltF, i_eqT, i_eqF, z_le, z_lt, z_eq, z_ite, z_at, z_pt, z_up, z_wr, z_wi1, z_wi0, z_wi, z_inS, z_toInt, z_nb0, z_nb1, Int.cast_ofNat_Int, true_and, and_true, not_true_eq_false, not_false_eq_true, false_imp_iff, true_imp_iff, aup_o, aup_k, ite_true, ite_false, z_fa000, z_fa001, z_fa010, z_fa011, z_fa100, z_fa101, z_fa110, z_fa111, if_true, if_false, h39]
      exact fin
end SC
