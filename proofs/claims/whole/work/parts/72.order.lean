/-! ===== order ===== -/
def nt : List Int → Int → Int
  | [], _ => -1
  | x :: t, w => if w = 0 then x else nt t (w - 1)
theorem nt_c (x : Int) (t : List Int) (w : Int) : nt (x :: t) w = if w = 0 then x else nt t (w - 1) := rfl
theorem nt_snoc (k : Int) : ∀ (P : List Int) (w : Int), nt (P ++ [k]) w = if w = P.length then k else nt P w := by
  intro P
  induction P with
  | nil => intro w; rfl
  | cons x t ih =>
    intro w
    show nt (x :: (t ++ [k])) w = _
    rw [nt_c, nt_c, ih, List.length_cons]
    by_cases h : w = 0
    · rw [if_pos h, if_neg (by omega), if_pos h]
    · rw [if_neg h, if_neg h]
      by_cases h2 : w - 1 = t.length
      · rw [if_pos h2, if_pos (by omega)]
      · rw [if_neg h2, if_neg (by omega)]
theorem nt_m : ∀ (P : List Int) (w : Int), nt P w = -1 ∨ nt P w ∈ P := by
  intro P
  induction P with
  | nil => intro w; left; rfl
  | cons x t ih =>
    intro w
    rw [nt_c]
    by_cases h : w = 0
    · rw [if_pos h]; right; exact List.mem_cons_self
    · rw [if_neg h]
      rcases ih (w - 1) with h1 | h1
      · left; exact h1
      · right; exact List.mem_cons_of_mem _ h1
def moL (s : aS) (e : Int) : List Int := (eL s 0 e).filter (fun k => decide (s 23 (s 21 2) ≤ k))
theorem mo_0 {s : aS} : ∀ e : Int, e ≤ s 23 (s 21 2) → moL s e = [] := by
  refine stepDown 0 (fun e ih h => ?_)
  unfold moL at ih ⊢
  by_cases h0 : 0 < e
  · have x := eL_l (s := s) (lo := 0) (hi := e - 1) (by omega)
    rw [show e - 1 + 1 = e by omega] at x
    rw [x, List.filter_append, ih h0 (by omega), List.nil_append, List.filter_eq_nil_iff]
    intro k hk
    have := (lI_m _).mp hk
    rw [decide_eq_true_iff]
    omega
  · rw [eL_e (by omega)]; rfl
theorem mo_l {s : aS} (h0 : 0 ≤ s 23 (s 21 2)) {e : Int} (h : s 23 (s 21 2) ≤ e) : moL s (e + 1) = moL s e ++ lI (fun k => decide (s 18 k = e)) (s 23 (s 21 2)) (e + 1) := by
  unfold moL
  rw [eL_l (by omega), List.filter_append, lI_s (lo := 0) (mid := s 23 (s 21 2)) h0 (e + 1) (by omega), List.filter_append]
  have f1 : (lI (fun k => decide (s 18 k = e)) 0 (s 23 (s 21 2))).filter (fun k => decide (s 23 (s 21 2) ≤ k)) = [] := List.filter_eq_nil_iff.mpr (fun k hk => by have := (lI_m _).mp hk; rw [decide_eq_true_iff]; omega)
  have f2 : (lI (fun k => decide (s 18 k = e)) (s 23 (s 21 2)) (e + 1)).filter (fun k => decide (s 23 (s 21 2) ≤ k)) = lI (fun k => decide (s 18 k = e)) (s 23 (s 21 2)) (e + 1) := List.filter_eq_self.mpr (fun k hk => by have := (lI_m _).mp hk; rw [decide_eq_true_iff]; omega)
  rw [f1, f2, List.nil_append]
theorem mo_le {s : aS} (hJ : jJ s) {e : Int} (h0 : 0 ≤ e) (h : e ≤ s 2 9) : ((moL s e).length : Int) ≤ 400 := by
  have := el_le hJ (lo := 0) (by omega) h0 h
  have h2 : (moL s e).length ≤ (eL s 0 e).length := List.length_filter_le _ _
  omega
theorem mo_m {s : aS} {e k : Int} (h : k ∈ moL s e) : 0 ≤ k ∧ k < e := by
  have m := eL_m (Int.le_refl 0) e (List.mem_filter.mp h).1
  omega
theorem z_eqw {x : Int} (h : x ≠ 0) (h1 : -4294967296 < x) (h2 : x < 4294967296) : (iI x = iI 0) = False := by
  refine eq_false (fun e => ?_)
  have e2 : (Int32.ofInt x).toInt = (Int32.ofInt 0).toInt := congrArg Int32.toInt e
  rw [Int32.toInt_ofInt, Int32.toInt_ofInt] at e2
  simp only [Int32.size, Int.bmod] at e2
  omega
theorem mO_v {g : qG} {D : Nat} {M : qMd} {as : List qP} {s t : aS} {o : Int ⊕ Nat} (h : mO g D M as s s o) (hf : ∀ k : Nat, k ≠ 51 → k ≠ 53 → k ≠ 59 → t k = s k) : mO g D M as s t o := fun a Q hr hQ => h a Q hr (fun b r h1 h2 h3 h4 => hQ b r (rJ_v h1 hf) h2 h3 h4)
section OR1
variable {g : qG} {s : aS} {d : Nat} {Q : Int32 → qS → Prop} {T : String → qS → Prop}
theorem k_nap_l (hw : qWF g) (hJ : jJ s) {n p w : Int} (n1 : n ≤ 400) (w0 : -2147483648 ≤ w) (w1 : w < 2147483648) : ∀ (l : List Int) (i ps : Int), 0 ≤ ps → ps ≤ i → i + l.length = n → (∀ (j : Nat) (x : Int), l[j]? = some x → s 59 (i + j) = x) → (∀ k ∈ l, 0 ≤ k ∧ k < s 2 9) → Q (iI (nt (l.filter (fun k => decide (s 23 (s 21 2) ≤ k))) (w - ps))) (qi s) → qV g mX2_numberAtPlace (d + 3) 0 20 [some (.inr 1), some (.inl (iI p)), some (.inl (iI w)), some (.inl (iI n)), some (.inl (iI ps)), some (.inl (iI i))] [] (qi s) Q T := by
  have B : 0 ≤ s 2 9 ∧ s 2 9 ≤ 400 := by have := jb hJ; omega
  intro l
  induction l with
  | nil =>
    intro i ps p0 p1 hn hl hk hQ
    have hn' : i = n := by rw [← hn]; show i = i + ((0 : Nat) : Int); omega
    refine wX2_numberAtPlace_20 hw ?_
    simp (disch := omega) only [z_app, z_rd, z_cl, z_add, z_sub, z_mul, z_neg, z_lit, z_leT, z_leF, z_ltT, z_ltF, z_eqT, z_eqF, i_leT, i_leF, i_ltT, i_ltF, i_eqT, i_eqF, z_le, z_lt, z_eq, z_ite, z_at, z_pt, z_up, z_wr, z_wi1, z_wi0, z_wi, z_inS, z_toInt, z_nb0, z_nb1, Int.cast_ofNat_Int, true_and, and_true, not_true_eq_false, not_false_eq_true, false_imp_iff, true_imp_iff, aup_o, aup_k, ite_true, ite_false, z_fa000, z_fa001, z_fa010, z_fa011, z_fa100, z_fa101, z_fa110, z_fa111, if_true, if_false]
    exact hQ
  | cons k t ih =>
    intro i ps p0 p1 hn hl hk hQ
    rw [List.length_cons] at hn
    have h9 : s 59 i = k := by
      have := hl 0 k rfl
      rw [show i + ((0 : Nat) : Int) = i by omega] at this
      exact this
    have K := hk k List.mem_cons_self
    have hl' : ∀ (j : Nat) (x : Int), t[j]? = some x → s 59 (i + 1 + j) = x := fun j x hj => by
      have := hl (j + 1) x hj
      rw [show i + ((j + 1 : Nat) : Int) = i + 1 + (j : Int) by omega] at this
      exact this
    refine wX2_numberAtPlace_20 hw ?_
    by_cases hf : s 23 (s 21 2) ≤ k
    · have ef : (k :: t).filter (fun k => decide (s 23 (s 21 2) ≤ k)) = k :: t.filter (fun k => decide (s 23 (s 21 2) ≤ k)) := List.filter_cons_of_pos (decide_eq_true hf)
      rw [ef, nt_c] at hQ
      simp (disch := omega) only [z_app, z_rd, z_cl, z_add, z_sub, z_mul, z_neg, z_lit, z_leT, z_leF, z_ltT, z_ltF, z_eqT, z_eqF, i_leT, i_leF, i_ltT, i_ltF, i_eqT, i_eqF, z_le, z_lt, z_eq, z_ite, z_at, z_pt, z_up, z_wr, z_wi1, z_wi0, z_wi, z_inS, z_toInt, z_nb0, z_nb1, Int.cast_ofNat_Int, true_and, and_true, not_true_eq_false, not_false_eq_true, false_imp_iff, true_imp_iff, aup_o, aup_k, ite_true, ite_false, z_fa000, z_fa001, z_fa010, z_fa011, z_fa100, z_fa101, z_fa110, z_fa111, if_true, if_false, h9]
      refine k_hasRecord1 hw hJ hf K.2 ?_
      by_cases hp : ps = w
      · rw [if_pos (by omega)] at hQ
        simp (disch := omega) only [z_app, z_rd, z_cl, z_add, z_sub, z_mul, z_neg, z_lit, z_leT, z_leF, z_ltT, z_ltF, z_eqT, z_eqF, i_leT, i_leF, i_ltT, i_ltF, i_eqT, i_eqF, z_le, z_lt, z_eq, z_ite, z_at, z_pt, z_up, z_wr, z_wi1, z_wi0, z_wi, z_inS, z_toInt, z_nb0, z_nb1, Int.cast_ofNat_Int, true_and, and_true, not_true_eq_false, not_false_eq_true, false_imp_iff, true_imp_iff, aup_o, aup_k, ite_true, ite_false, z_fa000, z_fa001, z_fa010, z_fa011, z_fa100, z_fa101, z_fa110, z_fa111, if_true, if_false, h9]
        exact hQ
      · rw [if_neg (by omega)] at hQ
        simp (disch := omega) only [z_app, z_rd, z_cl, z_add, z_sub, z_mul, z_neg, z_lit, z_leT, z_leF, z_ltT, z_ltF, z_eqT, z_eqF, i_leT, i_leF, i_ltT, i_ltF, i_eqT, i_eqF, z_le, z_lt, z_eq, z_ite, z_at, z_pt, z_up, z_wr, z_wi1, z_wi0, z_wi, z_inS, z_toInt, z_nb0, z_nb1, Int.cast_ofNat_Int, true_and, and_true, not_true_eq_false, not_false_eq_true, false_imp_iff, true_imp_iff, aup_o, aup_k, ite_true, ite_false, z_fa000, z_fa001, z_fa010, z_fa011, z_fa100, z_fa101, z_fa110, z_fa111, if_true, if_false]
        exact ih (i + 1) (ps + 1) (by omega) (by omega) (by omega) hl' (fun j hj => hk j (List.mem_cons_of_mem _ hj)) (by rw [show w - (ps + 1) = w - ps - 1 by omega]; exact hQ)
    · have ef : (k :: t).filter (fun k => decide (s 23 (s 21 2) ≤ k)) = t.filter (fun k => decide (s 23 (s 21 2) ≤ k)) := List.filter_cons_of_neg (by rw [decide_eq_true_iff]; exact hf)
      rw [ef] at hQ
      simp (disch := omega) only [z_app, z_rd, z_cl, z_add, z_sub, z_mul, z_neg, z_lit, z_leT, z_leF, z_ltT, z_ltF, z_eqT, z_eqF, i_leT, i_leF, i_ltT, i_ltF, i_eqT, i_eqF, z_le, z_lt, z_eq, z_ite, z_at, z_pt, z_up, z_wr, z_wi1, z_wi0, z_wi, z_inS, z_toInt, z_nb0, z_nb1, Int.cast_ofNat_Int, true_and, and_true, not_true_eq_false, not_false_eq_true, false_imp_iff, true_imp_iff, aup_o, aup_k, ite_true, ite_false, z_fa000, z_fa001, z_fa010, z_fa011, z_fa100, z_fa101, z_fa110, z_fa111, if_true, if_false, h9]
      refine k_hasRecord0 hw hJ (by omega) (by omega) (by omega) ?_
      simp (disch := omega) only [z_app, z_rd, z_cl, z_add, z_sub, z_mul, z_neg, z_lit, z_leT, z_leF, z_ltT, z_ltF, z_eqT, z_eqF, i_leT, i_leF, i_ltT, i_ltF, i_eqT, i_eqF, z_le, z_lt, z_eq, z_ite, z_at, z_pt, z_up, z_wr, z_wi1, z_wi0, z_wi, z_inS, z_toInt, z_nb0, z_nb1, Int.cast_ofNat_Int, true_and, and_true, not_true_eq_false, not_false_eq_true, false_imp_iff, true_imp_iff, aup_o, aup_k, ite_true, ite_false, z_fa000, z_fa001, z_fa010, z_fa011, z_fa100, z_fa101, z_fa110, z_fa111, if_true, if_false]
      exact ih (i + 1) ps (by omega) (by omega) (by omega) hl' (fun j hj => hk j (List.mem_cons_of_mem _ hj)) hQ
theorem k_numberAtPlace (hw : qWF g) (hJ : jJ s) {p w : Int} (p0 : 0 ≤ p) (p1 : p ≤ s 2 9) (w0 : -2147483648 ≤ w) (w1 : w < 2147483648) (hQ : Q (iI (nt (moL s p) w)) (qi (awl s 59 0 (eL s 0 p)))) : qC g (d + 4) mX2_numberAtPlace [.inr 1, .inl (iI p), .inl (iI w)] (qi s) Q T := by
  have B : 0 ≤ s 2 9 ∧ s 2 9 ≤ 400 := by have := jb hJ; omega
  have L := ll_el hJ (lo := 0) (by omega) p p1
  have LL := el_le hJ (lo := 0) (by omega) p0 p1
  have hf : ∀ k : Nat, k ≠ 51 → k ≠ 53 → k ≠ 59 → awl s 59 0 (eL s 0 p) k = s k := fun k _ _ h => awl_o h _ _ _
  have J := jJ_v hJ hf
  refine wX2_numberAtPlace hw ?_
  simp (disch := omega) only [z_app, z_rd, z_cl, z_add, z_sub, z_mul, z_neg, z_lit, z_leT, z_leF, z_ltT, z_ltF, z_eqT, z_eqF, i_leT, i_leF, i_ltT, i_ltF, i_eqT, i_eqF, z_le, z_lt, z_eq, z_ite, z_at, z_pt, z_up, z_wr, z_wi1, z_wi0, z_wi, z_inS, z_toInt, z_nb0, z_nb1, Int.cast_ofNat_Int, true_and, and_true, not_true_eq_false, not_false_eq_true, false_imp_iff, true_imp_iff, aup_o, aup_k, ite_true, ite_false, z_fa000, z_fa001, z_fa010, z_fa011, z_fa100, z_fa101, z_fa110, z_fa111, if_true, if_false]
  refine k_listEffects hw (by omega) p0 (by omega) (fun j j0 j1 => ?_) (by rw [L]; exact LL) ?_
  · obtain ⟨r1, r2⟩ := hJ.2.1 j j0 (by omega)
    have q2 := r2.1
    exact ⟨⟨q2.1, by omega⟩, r1.1, fun h => r2.2.2.1 (by omega)⟩
  · rw [L]
    refine k_nap_l hw J LL w0 w1 _ 0 0 (by omega) (by omega) (by omega) (fun j x hj => awl_at _ _ 0 j x hj) (fun k hk => ?_) ?_
    · have m := eL_m (Int.le_refl 0) _ hk
      rw [awl_o (by decide)]
      exact ⟨m.1, by omega⟩
    · rw [awl_o (by decide), awl_o (by decide), Int.sub_zero]
      exact hQ
theorem m_order_l (hw : qWF g) (hJ : jJ s) {a : aS} (hr : rL s a) {p w : Int} (p0 : 0 ≤ p) (p1 : p ≤ s 2 9) (w0 : -2147483648 ≤ w) (w1 : w < 2147483648) (h1 : nt (moL s p) w ≠ -1 → Q (iI (nt (moL s p) w)) (qi (aup a 86 0 0))) (h2 : nt (moL s p) w = -1 → Q (iI 0) (qi (aup a 86 0 2))) : ∀ (e : Int) (o7 : Option qP), s 23 (s 21 2) ≤ e → e ≤ p ∨ e = s 23 (s 21 2) → qV g mX10_order (d + 1) 0 18 [some (.inr 86), some (.inl (iI p)), some (.inl (iI w)), some (.inl (iI 1)), some (.inl (iI (nt (moL s e) w))), some (.inl (iI (w - (moL s e).length))), some (.inl (iI e)), o7] [] (qi a) Q T := by
  have B : 0 ≤ s 23 (s 21 2) ∧ s 23 (s 21 2) ≤ 400 ∧ 0 ≤ s 2 9 ∧ s 2 9 ≤ 400 ∧ a 98 0 = s 23 (s 21 2) := by
    have b := jb hJ
    have e98 := (hr.2.2.1 0 (by omega) (by omega)).2
    rw [Int.add_zero] at e98
    omega
  refine stepUp p (fun e ih o7 e0 e1 => wX10_order_18 hw ?_)
  have R : -1 ≤ nt (moL s e) w ∧ nt (moL s e) w < 2147483648 := by
    rcases nt_m (moL s e) w with h | h
    · omega
    · have := mo_m h
      have : e ≤ 400 := by rcases e1 with h | h <;> omega
      omega
  by_cases h : e < p
  · clear e1 h1 h2
    have inner : ∀ k : Int, s 23 (s 21 2) ≤ k → k ≤ e + 1 → qV g mX10_order (d + 1) 0 34 [some (.inr 86), some (.inl (iI p)), some (.inl (iI w)), some (.inl (iI 1)), some (.inl (iI (nt (moL s e ++ lI (fun k => decide (s 18 k = e)) (s 23 (s 21 2)) k) w))), some (.inl (iI (w - (moL s e ++ lI (fun k => decide (s 18 k = e)) (s 23 (s 21 2)) k).length))), some (.inl (iI e)), some (.inl (iI k))] [] (qi a) Q T := by
      refine stepUp (e + 1) (fun k ih2 k0 k1 => wX10_order_34 hw ?_)
      by_cases hk : k < e + 1
      · have K := rr_94 hr (k := k) (by omega) (by omega)
        have LB : 0 ≤ ((moL s e ++ lI (fun k => decide (s 18 k = e)) (s 23 (s 21 2)) k).length : Int) ∧ ((moL s e ++ lI (fun k => decide (s 18 k = e)) (s 23 (s 21 2)) k).length : Int) ≤ 400 := by
          have x := mo_le hJ (e := e + 1) (by omega) (by omega)
          rw [mo_l B.1 e0, lI_s (lo := s 23 (s 21 2)) (mid := k) k0 (e + 1) (by omega), ← List.append_assoc, List.length_append] at x
          omega
        have st := ih2 hk
        rw [lI_l k0, ← List.append_assoc] at st
        have E := j_ef hJ (k := k) (by omega) (by omega)
        generalize moL s e ++ lI (fun k => decide (s 18 k = e)) (s 23 (s 21 2)) k = P at LB st ⊢
        by_cases he : s 18 k = e
        · rw [if_pos (decide_eq_true he), nt_snoc, List.length_append] at st
          have st2 := st (by omega) (by omega)
          rw [show w - ((P.length + [k].length : Nat) : Int) = w - P.length + -1 by show w - ((P.length + 1 : Nat) : Int) = _; omega] at st2
          by_cases hz : w = P.length
          · rw [if_pos hz] at st2
            have e5 : (iI (w - P.length) = iI 0) = True := by rw [show w - (P.length : Int) = 0 by omega]; exact eq_true rfl
            simp (disch := omega) only [z_app, z_rd, z_cl, z_add, z_sub, z_mul, z_neg, z_lit, z_leT, z_leF, z_ltT, z_ltF, z_eqT, z_eqF, i_leT, i_leF, i_ltT, i_ltF, i_eqT, i_eqF, z_le, z_lt, z_eq, z_ite, z_at, z_pt, z_up, z_wr, z_wi1, z_wi0, z_wi, z_inS, z_toInt, z_nb0, z_nb1, Int.cast_ofNat_Int, true_and, and_true, not_true_eq_false, not_false_eq_true, false_imp_iff, true_imp_iff, aup_o, aup_k, ite_true, ite_false, z_fa000, z_fa001, z_fa010, z_fa011, z_fa100, z_fa101, z_fa110, z_fa111, if_true, if_false, K, he, e5]
            exact st2
          · rw [if_neg hz] at st2
            have e5 : (iI (w - P.length) = iI 0) = False := z_eqw (by omega) (by omega) (by omega)
            simp (disch := omega) only [z_app, z_rd, z_cl, z_add, z_sub, z_mul, z_neg, z_lit, z_leT, z_leF, z_ltT, z_ltF, z_eqT, z_eqF, i_leT, i_leF, i_ltT, i_ltF, i_eqT, i_eqF, z_le, z_lt, z_eq, z_ite, z_at, z_pt, z_up, z_wr, z_wi1, z_wi0, z_wi, z_inS, z_toInt, z_nb0, z_nb1, Int.cast_ofNat_Int, true_and, and_true, not_true_eq_false, not_false_eq_true, false_imp_iff, true_imp_iff, aup_o, aup_k, ite_true, ite_false, z_fa000, z_fa001, z_fa010, z_fa011, z_fa100, z_fa101, z_fa110, z_fa111, if_true, if_false, K, he, e5]
            exact st2
        · rw [if_neg (by rw [decide_eq_true_iff]; exact he), List.append_nil] at st
          simp (disch := omega) only [z_app, z_rd, z_cl, z_add, z_sub, z_mul, z_neg, z_lit, z_leT, z_leF, z_ltT, z_ltF, z_eqT, z_eqF, i_leT, i_leF, i_ltT, i_ltF, i_eqT, i_eqF, z_le, z_lt, z_eq, z_ite, z_at, z_pt, z_up, z_wr, z_wi1, z_wi0, z_wi, z_inS, z_toInt, z_nb0, z_nb1, Int.cast_ofNat_Int, true_and, and_true, not_true_eq_false, not_false_eq_true, false_imp_iff, true_imp_iff, aup_o, aup_k, ite_true, ite_false, z_fa000, z_fa001, z_fa010, z_fa011, z_fa100, z_fa101, z_fa110, z_fa111, if_true, if_false, K]
          exact st (by omega) (by omega)
      · have ek : k = e + 1 := by omega
        subst ek
        rw [← mo_l B.1 e0]
        simp (disch := omega) only [z_app, z_rd, z_cl, z_add, z_sub, z_mul, z_neg, z_lit, z_leT, z_leF, z_ltT, z_ltF, z_eqT, z_eqF, i_leT, i_leF, i_ltT, i_ltF, i_eqT, i_eqF, z_le, z_lt, z_eq, z_ite, z_at, z_pt, z_up, z_wr, z_wi1, z_wi0, z_wi, z_inS, z_toInt, z_nb0, z_nb1, Int.cast_ofNat_Int, true_and, and_true, not_true_eq_false, not_false_eq_true, false_imp_iff, true_imp_iff, aup_o, aup_k, ite_true, ite_false, z_fa000, z_fa001, z_fa010, z_fa011, z_fa100, z_fa101, z_fa110, z_fa111, if_true, if_false]
        exact ih h _ (by omega) (Or.inl (by omega))
    have i0 := inner (s 23 (s 21 2)) (Int.le_refl _) (by omega)
    rw [lI_e (Int.le_refl _), List.append_nil] at i0
    simp (disch := omega) only [z_app, z_rd, z_cl, z_add, z_sub, z_mul, z_neg, z_lit, z_leT, z_leF, z_ltT, z_ltF, z_eqT, z_eqF, i_leT, i_leF, i_ltT, i_ltF, i_eqT, i_eqF, z_le, z_lt, z_eq, z_ite, z_at, z_pt, z_up, z_wr, z_wi1, z_wi0, z_wi, z_inS, z_toInt, z_nb0, z_nb1, Int.cast_ofNat_Int, true_and, and_true, not_true_eq_false, not_false_eq_true, false_imp_iff, true_imp_iff, aup_o, aup_k, ite_true, ite_false, z_fa000, z_fa001, z_fa010, z_fa011, z_fa100, z_fa101, z_fa110, z_fa111, if_true, if_false, B.2.2.2.2]
    exact i0
  · have em : moL s e = moL s p := by
      rcases e1 with h3 | h3
      · rw [show e = p by omega]
      · rw [mo_0 e (by omega), mo_0 p (by omega)]
    rw [em] at R ⊢
    have e4 : e ≤ 400 := by rcases e1 with h3 | h3 <;> omega
    clear e1
    by_cases hn : nt (moL s p) w = -1
    · have q := h2 hn
      simp (disch := omega) only [z_app, z_rd, z_cl, z_add, z_sub, z_mul, z_neg, z_lit, z_leT, z_leF, z_ltT, z_ltF, z_eqT, z_eqF, i_leT, i_leF, i_ltT, i_ltF, i_eqT, i_eqF, z_le, z_lt, z_eq, z_ite, z_at, z_pt, z_up, z_wr, z_wi1, z_wi0, z_wi, z_inS, z_toInt, z_nb0, z_nb1, Int.cast_ofNat_Int, true_and, and_true, not_true_eq_false, not_false_eq_true, false_imp_iff, true_imp_iff, aup_o, aup_k, ite_true, ite_false, z_fa000, z_fa001, z_fa010, z_fa011, z_fa100, z_fa101, z_fa110, z_fa111, if_true, if_false]
      exact q
    · have q := h1 hn
      simp (disch := omega) only [z_app, z_rd, z_cl, z_add, z_sub, z_mul, z_neg, z_lit, z_leT, z_leF, z_ltT, z_ltF, z_eqT, z_eqF, i_leT, i_leF, i_ltT, i_ltF, i_eqT, i_eqF, z_le, z_lt, z_eq, z_ite, z_at, z_pt, z_up, z_wr, z_wi1, z_wi0, z_wi, z_inS, z_toInt, z_nb0, z_nb1, Int.cast_ofNat_Int, true_and, and_true, not_true_eq_false, not_false_eq_true, false_imp_iff, true_imp_iff, aup_o, aup_k, ite_true, ite_false, z_fa000, z_fa001, z_fa010, z_fa011, z_fa100, z_fa101, z_fa110, z_fa111, if_true, if_false]
      exact q
theorem pr_27 (hw : qWF g) (he : kEl g) : ∀ (σ : qS) (a1 a2 : Int32), lR σ → lPair g 20 lR mX9_order mX10_order [.inl a1, .inl a2] ["java/lang/IllegalArgumentException", "java/util/NoSuchElementException"] σ := by
  rintro σ x0 x1 ⟨a, rfl, hJ, hr⟩
  obtain ⟨p, ⟨j1, j2⟩, rfl⟩ := z_of x0
  obtain ⟨w, ⟨i1, i2⟩, rfl⟩ := z_of x1
  have B : 0 ≤ a 1 11 ∧ a 1 11 ≤ a 2 9 ∧ a 2 9 ≤ 400 := by have := jb hJ; omega
  by_cases hp : a 1 11 ≤ p ∧ p ≤ a 2 9
  · have hf : ∀ k : Nat, k ≠ 51 → k ≠ 53 → k ≠ 59 → awl a 59 0 (eL a 0 p) k = a k := fun k _ _ h => awl_o h _ _ _
    have J := jJ_v hJ hf
    have ml : ∀ (m : aS) (Q : Int32 → qS → Prop), rJ a m → (nt (moL a p) w ≠ -1 → Q (iI (nt (moL a p) w)) (qi (aup m 86 0 0))) → (nt (moL a p) w = -1 → Q (iI 0) (qi (aup m 86 0 2))) → qC g 20 mX10_order [.inr 86, .inl (iI p), .inl (iI w)] (qi m) Q (fun _ _ => False) := by
      intro m Q hr0 h1 h2
      have b := jb hJ
      have e28 := rs_28 hr0.1
      have e15 := rs_15 hr0.1
      have e98 := (hr0.1.2.2.1 0 (by omega) (by omega)).2
      rw [Int.add_zero] at e98
      refine wX10_order hw (wX10_isPrefix hw ?_)
      clear b
      simp (disch := omega) only [z_app, z_rd, z_cl, z_add, z_sub, z_mul, z_neg, z_lit, z_leT, z_leF, z_ltT, z_ltF, z_eqT, z_eqF, i_leT, i_leF, i_ltT, i_ltF, i_eqT, i_eqF, z_le, z_lt, z_eq, z_ite, z_at, z_pt, z_up, z_wr, z_wi1, z_wi0, z_wi, z_inS, z_toInt, z_nb0, z_nb1, Int.cast_ofNat_Int, true_and, and_true, not_true_eq_false, not_false_eq_true, false_imp_iff, true_imp_iff, aup_o, aup_k, ite_true, ite_false, z_fa000, z_fa001, z_fa010, z_fa011, z_fa100, z_fa101, z_fa110, z_fa111, if_true, if_false, e28, e15, e98]
      refine ⟨Or.inr trivial, ?_⟩
      have x := m_order_l (d := 19) hw hJ hr0.1 (p := p) (w := w) (by omega) hp.2 i1 i2 h1 h2 (T := fun _ _ => False) (a 23 (a 21 2)) none (Int.le_refl _) (Or.inr rfl)
      rw [mo_0 _ (Int.le_refl _)] at x
      rw [show w - (([] : List Int).length : Int) = w by show w - ((0 : Nat) : Int) = w; omega] at x
      exact x
    have R : nt (moL a p) w = -1 ∨ (0 ≤ nt (moL a p) w ∧ nt (moL a p) w < p) := by
      rcases nt_m (moL a p) w with h | h
      · exact Or.inl h
      · exact Or.inr (mo_m h)
    by_cases hn : nt (moL a p) w = -1
    · refine pair_of (o := .inr 1) (a' := awl a 59 0 (eL a 0 p)) (k_thr rfl fun Q T hT => wX9_order hw (wX2_isRecoverable hw ?_)) (mO_v (m_thr fun m Q hr0 hQ => ml m Q hr0 (fun h => absurd hn h) (fun _ => hQ 0)) hf) hr J (fun k hk => awl_o (by omega) _ _ _) (es_n2 (by decide))
      clear R
      simp (disch := omega) only [z_app, z_rd, z_cl, z_add, z_sub, z_mul, z_neg, z_lit, z_leT, z_leF, z_ltT, z_ltF, z_eqT, z_eqF, i_leT, i_leF, i_ltT, i_ltF, i_eqT, i_eqF, z_le, z_lt, z_eq, z_ite, z_at, z_pt, z_up, z_wr, z_wi1, z_wi0, z_wi, z_inS, z_toInt, z_nb0, z_nb1, Int.cast_ofNat_Int, true_and, and_true, not_true_eq_false, not_false_eq_true, false_imp_iff, true_imp_iff, aup_o, aup_k, ite_true, ite_false, z_fa000, z_fa001, z_fa010, z_fa011, z_fa100, z_fa101, z_fa110, z_fa111, if_true, if_false]
      refine ⟨Or.inr trivial, k_rA1 hw (k_numberAtPlace hw hJ (by omega) hp.2 i1 i2 ?_)⟩
      rw [hn]
      exact k_el0 he hT
    · have R2 : 0 ≤ nt (moL a p) w ∧ nt (moL a p) w < p := by omega
      refine pair_of (o := .inl (nt (moL a p) w)) (a' := awl a 59 0 (eL a 0 p)) (k_ret fun Q T hQ => wX9_order hw (wX2_isRecoverable hw ?_)) (mO_v (m_ret fun m Q hr0 hQ => ml m Q hr0 (fun _ => hQ) (fun h => absurd h hn)) hf) hr J (fun k hk => awl_o (by omega) _ _ _) (es_n2 (by decide))
      clear R
      simp (disch := omega) only [z_app, z_rd, z_cl, z_add, z_sub, z_mul, z_neg, z_lit, z_leT, z_leF, z_ltT, z_ltF, z_eqT, z_eqF, i_leT, i_leF, i_ltT, i_ltF, i_eqT, i_eqF, z_le, z_lt, z_eq, z_ite, z_at, z_pt, z_up, z_wr, z_wi1, z_wi0, z_wi, z_inS, z_toInt, z_nb0, z_nb1, Int.cast_ofNat_Int, true_and, and_true, not_true_eq_false, not_false_eq_true, false_imp_iff, true_imp_iff, aup_o, aup_k, ite_true, ite_false, z_fa000, z_fa001, z_fa010, z_fa011, z_fa100, z_fa101, z_fa110, z_fa111, if_true, if_false]
      refine ⟨Or.inr trivial, k_rA1 hw (k_numberAtPlace hw hJ (by omega) hp.2 i1 i2 ?_)⟩
      exact k_el1 he (by omega) (by omega) hQ
  · refine pair_of (o := .inr 0) (a' := a) (k_thr rfl fun Q T hT => wX9_order hw (wX2_isRecoverable hw ?_)) (m_thr fun m Q hr0 hQ => wX10_order hw (wX10_isPrefix hw ?_)) hr hJ (fun _ _ => rfl) (es_n2 (by decide))
    · simp (disch := omega) only [z_app, z_rd, z_cl, z_add, z_sub, z_mul, z_neg, z_lit, z_leT, z_leF, z_ltT, z_ltF, z_eqT, z_eqF, i_leT, i_leF, i_ltT, i_ltF, i_eqT, i_eqF, z_le, z_lt, z_eq, z_ite, z_at, z_pt, z_up, z_wr, z_wi1, z_wi0, z_wi, z_inS, z_toInt, z_nb0, z_nb1, Int.cast_ofNat_Int, true_and, and_true, not_true_eq_false, not_false_eq_true, false_imp_iff, true_imp_iff, aup_o, aup_k, ite_true, ite_false, z_fa000, z_fa001, z_fa010, z_fa011, z_fa100, z_fa101, z_fa110, z_fa111, if_true, if_false]
      exact ⟨Or.inl trivial, k_rA0 hw hT⟩
    · have e28 := rs_28 hr0.1
      have e15 := rs_15 hr0.1
      have b := jb hJ
      have e98 := (hr0.1.2.2.1 0 (by omega) (by omega)).2
      rw [Int.add_zero] at e98
      clear b
      simp (disch := omega) only [z_app, z_rd, z_cl, z_add, z_sub, z_mul, z_neg, z_lit, z_leT, z_leF, z_ltT, z_ltF, z_eqT, z_eqF, i_leT, i_leF, i_ltT, i_ltF, i_eqT, i_eqF, z_le, z_lt, z_eq, z_ite, z_at, z_pt, z_up, z_wr, z_wi1, z_wi0, z_wi, z_inS, z_toInt, z_nb0, z_nb1, Int.cast_ofNat_Int, true_and, and_true, not_true_eq_false, not_false_eq_true, false_imp_iff, true_imp_iff, aup_o, aup_k, ite_true, ite_false, z_fa000, z_fa001, z_fa010, z_fa011, z_fa100, z_fa101, z_fa110, z_fa111, if_true, if_false, e28, e15, e98]
      refine ⟨Or.inl trivial, wX10_order_18 hw ?_⟩
      simp (disch := omega) only [z_app, z_rd, z_cl, z_add, z_sub, z_mul, z_neg, z_lit, z_leT, z_leF, z_ltT, z_ltF, z_eqT, z_eqF, i_leT, i_leF, i_ltT, i_ltF, i_eqT, i_eqF, z_le, z_lt, z_eq, z_ite, z_at, z_pt, z_up, z_wr, z_wi1, z_wi0, z_wi, z_inS, z_toInt, z_nb0, z_nb1, Int.cast_ofNat_Int, true_and, and_true, not_true_eq_false, not_false_eq_true, false_imp_iff, true_imp_iff, aup_o, aup_k, ite_true, ite_false, z_fa000, z_fa001, z_fa010, z_fa011, z_fa100, z_fa101, z_fa110, z_fa111, if_true, if_false]
      exact hQ 0
end OR1
