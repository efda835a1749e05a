/-! ===== records that take effect ===== -/
def shS (s : aS) (k : Int) : aS := aup (aup s 28 (400 * s 8 k + s 30 (s 8 k)) k) 30 (s 8 k) (s 30 (s 8 k) + 1)
def e1S (s : aS) (e k : Int) : aS := if s 4 k = 6 then shS (aup s 18 k e) k else apF (aup s 18 k e) 41 43 k
def efS (s : aS) (e : Int) (l : List Int) : aS := l.foldl (fun t k => e1S t e k) s
theorem ap_o {s : aS} {e b : Nat} {k : Int} {x : Nat} (h1 : x ≠ e) (h2 : x ≠ b) : apF s e b k x = s x := by
  funext i
  unfold apF
  rw [if_neg h1, if_neg h2]
theorem e1_o (s : aS) (e k : Int) {x : Nat} (h : x ≠ 18 ∧ x ≠ 28 ∧ x ≠ 30 ∧ x ≠ 41 ∧ x ≠ 43) : e1S s e k x = s x := by
  unfold e1S
  split
  · unfold shS
    rw [aup_o h.2.2.1, aup_o h.2.1, aup_o h.1]
  · rw [ap_o h.2.2.2.1 h.2.2.2.2, aup_o h.1]
theorem e1_18 (s : aS) (e k j : Int) : e1S s e k 18 j = if j = k then e else s 18 j := by
  unfold e1S
  split
  · unfold shS
    rw [aup_o (by decide), aup_o (by decide), aup_k]
  · rw [ap_o (by decide) (by decide), aup_k]
theorem ef_o (e : Int) {x : Nat} (h : x ≠ 18 ∧ x ≠ 28 ∧ x ≠ 30 ∧ x ≠ 41 ∧ x ≠ 43) : ∀ (l : List Int) (s : aS), efS s e l x = s x := by
  intro l
  induction l with
  | nil => intro s; rfl
  | cons k t ih => intro s; show efS (e1S s e k) e t x = s x; rw [ih, e1_o s e k h]
theorem ef_18 (e j : Int) : ∀ (l : List Int) (s : aS), efS s e l 18 j = if j ∈ l then e else s 18 j := by
  intro l
  induction l with
  | nil => intro s; rw [if_neg (by simp)]; rfl
  | cons k t ih =>
    intro s
    show efS (e1S s e k) e t 18 j = _
    rw [ih, e1_18]
    by_cases h1 : j ∈ t
    · rw [if_pos h1, if_pos (List.mem_cons_of_mem _ h1)]
    · rw [if_neg h1]
      by_cases h2 : j = k
      · rw [if_pos h2, if_pos (by rw [h2]; exact List.mem_cons_self)]
      · rw [if_neg h2, if_neg (fun x => (List.mem_cons.mp x).elim h2 h1)]
/-- the files of now -/
theorem e1_now (s : aS) (e k : Int) : (e1S s e k 41, e1S s e k 43) = fch s (s 41, s 43) k := by
  unfold e1S
  by_cases h : s 4 k = 6
  · rw [if_pos h]
    unfold shS fch
    rw [if_neg (by omega), if_neg (by omega), if_neg (by omega), aup_o (by decide), aup_o (by decide), aup_o (by decide), aup_o (by decide), aup_o (by decide), aup_o (by decide)]
  · rw [if_neg h]
    have e4 : aup s 18 k e 4 = s 4 := aup_o (by decide)
    have e8 : aup s 18 k e 8 = s 8 := aup_o (by decide)
    have e10 : aup s 18 k e 10 = s 10 := aup_o (by decide)
    have e12 : aup s 18 k e 12 = s 12 := aup_o (by decide)
    have e41 : aup s 18 k e 41 = s 41 := aup_o (by decide)
    have e43 : aup s 18 k e 43 = s 43 := aup_o (by decide)
    have ec : fch (aup s 18 k e) = fch s := fch_c e4 e8 e10 e12
    have a1 : apF (aup s 18 k e) 41 43 k 41 = (fch s (s 41, s 43) k).1 := by
      funext i
      unfold apF
      rw [if_pos rfl, ec, e41, e43]
    have a2 : apF (aup s 18 k e) 41 43 k 43 = (fch s (s 41, s 43) k).2 := by
      funext i
      unfold apF
      rw [if_neg (by decide), if_pos rfl, ec, e41, e43]
    rw [a1, a2]
theorem ef_now (e : Int) : ∀ (l : List Int) (s : aS), (efS s e l 41, efS s e l 43) = l.foldl (fch s) (s 41, s 43) := by
  intro l
  induction l with
  | nil => intro s; rfl
  | cons k t ih =>
    intro s
    show (efS (e1S s e k) e t 41, efS (e1S s e k) e t 43) = t.foldl (fch s) (fch s (s 41, s 43) k)
    have ec : fch (e1S s e k) = fch s := fch_c (e1_o s e k (by decide)) (e1_o s e k (by decide)) (e1_o s e k (by decide)) (e1_o s e k (by decide))
    rw [ih, ec, e1_now]
/-- which files exist: 0 or 1 -/
def f01 (x : Int → Int) : Prop := ∀ f, 0 ≤ f → f < 8 → x f = 0 ∨ x f = 1
theorem f01_ch {s : aS} {x : fF} {k : Int} (hR : jR1 s k) (h : f01 x.1) : f01 (fch s x k).1 := by
  obtain ⟨⟨t0, t1⟩, ⟨a0, a1⟩, ⟨b0, b1⟩, ⟨c0, c1⟩, -, h3, h4, h5, -, -⟩ := hR
  intro f f0 f1
  unfold fch
  by_cases c3 : s 4 k = 3
  · rw [if_pos c3]
    show fup x.1 (s 8 k) 1 f = 0 ∨ fup x.1 (s 8 k) 1 f = 1
    unfold fup
    split
    · exact Or.inr rfl
    · exact h f f0 f1
  rw [if_neg c3]
  by_cases c4 : s 4 k = 4
  · rw [if_pos c4]
    show fup x.1 (s 8 k) 0 f = 0 ∨ fup x.1 (s 8 k) 0 f = 1
    unfold fup
    split
    · exact Or.inl rfl
    · exact h f f0 f1
  rw [if_neg c4]
  by_cases c5 : s 4 k = 5
  · rw [if_pos c5]
    show fup x.1 (s 10 k) (x.1 (s 8 k)) f = 0 ∨ fup x.1 (s 10 k) (x.1 (s 8 k)) f = 1
    unfold fup
    split
    · exact h _ a0 (h5 c5).1
    · exact h f f0 f1
  rw [if_neg c5]
  exact h f f0 f1
theorem f01_fold {s : aS} : ∀ (l : List Int) (x : fF), (∀ k ∈ l, jR1 s k) → f01 x.1 → f01 (l.foldl (fch s) x).1 := by
  intro l
  induction l with
  | nil => intro x _ h; exact h
  | cons k t ih => intro x hR h; exact ih _ (fun j hj => hR j (List.mem_cons_of_mem _ hj)) (f01_ch (hR k List.mem_cons_self) h)
/-- what taking effect needs -/
def okE (e : Int) : List Int → aS → Prop
  | [], _ => True
  | k :: t, s => ((0 ≤ k ∧ k < 400) ∧ jR1 s k ∧ f01 (s 41) ∧ (s 4 k = 6 → 0 ≤ s 30 (s 8 k) ∧ s 30 (s 8 k) < 400)) ∧ okE e t (e1S s e k)
section TE
variable {g : qG} {d : Nat} {Q : Int32 → qS → Prop} {T : String → qS → Prop}
theorem k_show (hw : qWF g) {s : aS} {k : Int} (t0 : 0 ≤ s 8 k) (t1 : s 8 k < 4) (c0 : 0 ≤ s 30 (s 8 k)) (c1 : s 30 (s 8 k) < 400) (hQ : Q (iI 0) (qi (shS s k))) : qC g (d + 1) mX0_show [.inr 26, .inl (iI (s 8 k)), .inl (iI k)] (qi s) Q T := by
  refine wX0_show hw ?_
  have e : s 8 k * 400 + s 30 (s 8 k) = 400 * s 8 k + s 30 (s 8 k) := by omega
  simp (disch := omega) only [z_app, z_rd, z_cl, z_add, z_sub, z_mul, z_neg, z_lit, z_leT, z_leF, z_ltT, z_ltF, z_eqT, z_eqF, i_leT, i_leF, i_ltT, i_ltF, i_eqT, i_eqF, z_le, z_lt, z_eq, z_ite, z_at, z_pt, z_up, z_wr, z_wi1, z_wi0, z_wi, z_inS, z_toInt, z_nb0, z_nb1, Int.cast_ofNat_Int, true_and, and_true, not_true_eq_false, not_false_eq_true, false_imp_iff, true_imp_iff, aup_o, aup_k, ite_true, ite_false, z_fa000, z_fa001, z_fa010, z_fa011, z_fa100, z_fa101, z_fa110, z_fa111, if_true, if_false, e]
  exact hQ
theorem k_takeEffect_l (hw : qWF g) {e n : Int} (n1 : n ≤ 400) : ∀ (l : List Int) (s : aS) (i : Int) (o : Option qP), 0 ≤ i → i + l.length = n → (∀ (j : Nat) (x : Int), l[j]? = some x → s 59 (i + j) = x) → okE e l s → Q (iI 0) (qi (efS s e l)) → qV g mX2_takeEffect (d + 3) 0 18 [some (.inr 1), some (.inl (iI e)), some (.inl (iI n)), some (.inl (iI i)), o] [] (qi s) Q T := by
  intro l
  induction l with
  | nil =>
    intro s i o i0 hn hl hk hQ
    have hn' : i = n := by rw [← hn]; show i = i + ((0 : Nat) : Int); omega
    refine wX2_takeEffect_18 hw ?_
    simp (disch := omega) only [z_app, z_rd, z_cl, z_add, z_sub, z_mul, z_neg, z_lit, z_leT, z_leF, z_ltT, z_ltF, z_eqT, z_eqF, i_leT, i_leF, i_ltT, i_ltF, i_eqT, i_eqF, z_le, z_lt, z_eq, z_ite, z_at, z_pt, z_up, z_wr, z_wi1, z_wi0, z_wi, z_inS, z_toInt, z_nb0, z_nb1, Int.cast_ofNat_Int, true_and, and_true, not_true_eq_false, not_false_eq_true, false_imp_iff, true_imp_iff, aup_o, aup_k, ite_true, ite_false, z_fa000, z_fa001, z_fa010, z_fa011, z_fa100, z_fa101, z_fa110, z_fa111, if_true, if_false]
    exact hQ
  | cons k t ih =>
    intro s i o i0 hn hl hk hQ
    rw [List.length_cons] at hn
    obtain ⟨⟨⟨k0, k1⟩, hR, hx, hc⟩, hk2⟩ := hk
    have h9 : s 59 i = k := by
      have := hl 0 k rfl
      rw [show i + ((0 : Nat) : Int) = i by omega] at this
      exact this
    have hR0 := id hR
    obtain ⟨⟨t0, t1⟩, ⟨a0, a1⟩, -, -, -, -, -, -, h6, -⟩ := hR0
    have e4 : aup s 18 k e 4 = s 4 := aup_o (by decide)
    have e8 : aup s 18 k e 8 = s 8 := aup_o (by decide)
    have e10 : aup s 18 k e 10 = s 10 := aup_o (by decide)
    have e12 : aup s 18 k e 12 = s 12 := aup_o (by decide)
    have e14 : aup s 18 k e 14 = s 14 := aup_o (by decide)
    have e30 : aup s 18 k e 30 = s 30 := aup_o (by decide)
    have e41 : aup s 18 k e 41 = s 41 := aup_o (by decide)
    have hR' : jR1 (aup s 18 k e) k := by
      unfold jR1 at hR ⊢
      rw [e4, e8, e10, e12, e14]
      exact hR
    have hl' : ∀ (j : Nat) (x : Int), t[j]? = some x → s 59 (i + 1 + j) = x := by
      intro j x hj
      have := hl (j + 1) x hj
      rw [show i + ((j + 1 : Nat) : Int) = i + 1 + (j : Int) by omega] at this
      exact this
    refine wX2_takeEffect_18 hw ?_
    simp (disch := omega) only [z_app, z_rd, z_cl, z_add, z_sub, z_mul, z_neg, z_lit, z_leT, z_leF, z_ltT, z_ltF, z_eqT, z_eqF, i_leT, i_leF, i_ltT, i_ltF, i_eqT, i_eqF, z_le, z_lt, z_eq, z_ite, z_at, z_pt, z_up, z_wr, z_wi1, z_wi0, z_wi, z_inS, z_toInt, z_nb0, z_nb1, Int.cast_ofNat_Int, true_and, and_true, not_true_eq_false, not_false_eq_true, false_imp_iff, true_imp_iff, aup_o, aup_k, ite_true, ite_false, z_fa000, z_fa001, z_fa010, z_fa011, z_fa100, z_fa101, z_fa110, z_fa111, if_true, if_false, h9]
    refine k_apply39 hw k0 k1 hR' (by rw [e41]; exact hx) ?_
    by_cases h : s 4 k = 6
    · have H := hc h
      have eap : apF (aup s 18 k e) 41 43 k = aup s 18 k e := ap_n (by rw [e4]; omega) (by rw [e4]; omega) (by rw [e4]; omega)
      have ee : e1S s e k = shS (aup s 18 k e) k := if_pos h
      rw [eap]
      simp (disch := omega) only [z_app, z_rd, z_cl, z_add, z_sub, z_mul, z_neg, z_lit, z_leT, z_leF, z_ltT, z_ltF, z_eqT, z_eqF, i_leT, i_leF, i_ltT, i_ltF, i_eqT, i_eqF, z_le, z_lt, z_eq, z_ite, z_at, z_pt, z_up, z_wr, z_wi1, z_wi0, z_wi, z_inS, z_toInt, z_nb0, z_nb1, Int.cast_ofNat_Int, true_and, and_true, not_true_eq_false, not_false_eq_true, false_imp_iff, true_imp_iff, aup_o, aup_k, ite_true, ite_false, z_fa000, z_fa001, z_fa010, z_fa011, z_fa100, z_fa101, z_fa110, z_fa111, if_true, if_false]
      have e88 : s 8 k = aup s 18 k e 8 k := by rw [e8]
      rw [e88]
      refine k_show hw (by rw [e8]; exact a0) (by rw [e8]; exact (h6 h).1) (by rw [e8, e30]; exact H.1) (by rw [e8, e30]; exact H.2) ?_
      rw [← ee]
      refine ih (e1S s e k) (i + 1) _ (by omega) (by omega) (fun j x hj => ?_) hk2 hQ
      rw [e1_o s e k (by decide)]
      exact hl' j x hj
    · have ee : e1S s e k = apF (aup s 18 k e) 41 43 k := if_neg h
      rw [← ee]
      have f4 : e1S s e k 4 = s 4 := e1_o s e k (by decide)
      simp (disch := omega) only [z_app, z_rd, z_cl, z_add, z_sub, z_mul, z_neg, z_lit, z_leT, z_leF, z_ltT, z_ltF, z_eqT, z_eqF, i_leT, i_leF, i_ltT, i_ltF, i_eqT, i_eqF, z_le, z_lt, z_eq, z_ite, z_at, z_pt, z_up, z_wr, z_wi1, z_wi0, z_wi, z_inS, z_toInt, z_nb0, z_nb1, Int.cast_ofNat_Int, true_and, and_true, not_true_eq_false, not_false_eq_true, false_imp_iff, true_imp_iff, aup_o, aup_k, ite_true, ite_false, z_fa000, z_fa001, z_fa010, z_fa011, z_fa100, z_fa101, z_fa110, z_fa111, if_true, if_false, f4]
      refine ih (e1S s e k) (i + 1) _ (by omega) (by omega) (fun j x hj => ?_) hk2 hQ
      rw [e1_o s e k (by decide)]
      exact hl' j x hj
theorem k_takeEffect (hw : qWF g) {s : aS} {e : Int} (e0 : 0 ≤ e) (e1 : e < 400) (hb : ∀ j, 0 ≤ j → j < e + 1 → (-1 ≤ s 6 j ∧ s 6 j ≤ 400) ∧ (0 ≤ s 4 j ∧ s 4 j ≤ 8) ∧ (s 4 j = 1 → s 6 j < j)) (hk : okE e (lcS s e) (awl s 59 0 (lcS s e))) (hQ : Q (iI 0) (qi (efS (awl s 59 0 (lcS s e)) e (lcS s e)))) : qC g (d + 4) mX2_takeEffect [.inr 1, .inl (iI e)] (qi s) Q T := by
  have L : llS s e (e + 1) = lcS s e := by rw [ll_l (Int.le_refl _), ll_e (Int.le_refl _), List.nil_append]
  have LL : ((lcS s e).length : Int) ≤ 400 := by
    unfold lcS
    by_cases h1 : s 4 e = 1
    · rw [if_pos h1]
      obtain ⟨J1, -, J3⟩ := hb e e0 (by omega)
      have := lI_le (p := fun j => decide (s 6 j = s 6 e)) (lo := s 6 e + 1) (hi := e) (by have := J3 h1; omega)
      omega
    · rw [if_neg h1]
      split
      · show ((1 : Nat) : Int) ≤ 400; omega
      · show ((0 : Nat) : Int) ≤ 400; omega
  refine wX2_takeEffect hw ?_
  simp (disch := omega) only [z_app, z_rd, z_cl, z_add, z_sub, z_mul, z_neg, z_lit, z_leT, z_leF, z_ltT, z_ltF, z_eqT, z_eqF, i_leT, i_leF, i_ltT, i_ltF, i_eqT, i_eqF, z_le, z_lt, z_eq, z_ite, z_at, z_pt, z_up, z_wr, z_wi1, z_wi0, z_wi, z_inS, z_toInt, z_nb0, z_nb1, Int.cast_ofNat_Int, true_and, and_true, not_true_eq_false, not_false_eq_true, false_imp_iff, true_imp_iff, aup_o, aup_k, ite_true, ite_false, z_fa000, z_fa001, z_fa010, z_fa011, z_fa100, z_fa101, z_fa110, z_fa111, if_true, if_false]
  refine k_listEffects hw e0 (by omega) (by omega) hb (by rw [L]; exact LL) ?_
  rw [L]
  refine k_takeEffect_l hw LL _ _ 0 _ (by omega) (by omega) (fun j x hj => ?_) hk hQ
  have := awl_at (k := 59) (lcS s e) s 0 j x hj
  exact this
/-- the reference's -/
def e1M (s a : aS) (e k : Int) : aS := if s 4 k = 6 then aup (aup (aup a 94 k e) 100 (400 * s 8 k + s 30 (s 8 k)) k) 101 (s 8 k) (s 30 (s 8 k) + 1) else aup a 94 k e
theorem m_makeEffective (hw : qWF g) {s a : aS} (hR : rR s a) (hV : rV s a) {e k : Int} (k0 : 0 ≤ k) (k1 : k < s 2 9) (n1 : s 2 9 ≤ 400) (hJ : jR1 s k) (hc : s 4 k = 6 → 0 ≤ s 30 (s 8 k) ∧ s 30 (s 8 k) < 400) (hQ : Q (iI 0) (qi (e1M s a e k))) : qC g (d + 1) mX10_makeEffective [.inr 86, .inl (iI k), .inl (iI e)] (qi a) Q T := by
  obtain ⟨⟨t0, t1⟩, ⟨a0, a1⟩, -, -, -, -, -, -, h6, -⟩ := hJ
  obtain ⟨r88, -, r90, -⟩ := hR k k0 k1
  unfold e1M at hQ
  refine wX10_makeEffective hw ?_
  by_cases h : s 4 k = 6
  · have H := hc h
    have H6 := h6 h
    have r101 := (hV (s 8 k) a0 H6.1).1
    rw [if_pos h] at hQ
    simp (disch := omega) only [z_app, z_rd, z_cl, z_add, z_sub, z_mul, z_neg, z_lit, z_leT, z_leF, z_ltT, z_ltF, z_eqT, z_eqF, i_leT, i_leF, i_ltT, i_ltF, i_eqT, i_eqF, z_le, z_lt, z_eq, z_ite, z_at, z_pt, z_up, z_wr, z_wi1, z_wi0, z_wi, z_inS, z_toInt, z_nb0, z_nb1, Int.cast_ofNat_Int, true_and, and_true, not_true_eq_false, not_false_eq_true, false_imp_iff, true_imp_iff, aup_o, aup_k, ite_true, ite_false, z_fa000, z_fa001, z_fa010, z_fa011, z_fa100, z_fa101, z_fa110, z_fa111, if_true, if_false, r88, r90, r101]
    exact hQ
  · rw [if_neg h] at hQ
    simp (disch := omega) only [z_app, z_rd, z_cl, z_add, z_sub, z_mul, z_neg, z_lit, z_leT, z_leF, z_ltT, z_ltF, z_eqT, z_eqF, i_leT, i_leF, i_ltT, i_ltF, i_eqT, i_eqF, z_le, z_lt, z_eq, z_ite, z_at, z_pt, z_up, z_wr, z_wi1, z_wi0, z_wi, z_inS, z_toInt, z_nb0, z_nb1, Int.cast_ofNat_Int, true_and, and_true, not_true_eq_false, not_false_eq_true, false_imp_iff, true_imp_iff, aup_o, aup_k, ite_true, ite_false, z_fa000, z_fa001, z_fa010, z_fa011, z_fa100, z_fa101, z_fa110, z_fa111, if_true, if_false, r88]
    exact hQ
theorem rR_e1 {s a : aS} {e k : Int} (hR : rR s a) : rR (e1S s e k) (e1M s a e k) := by
  have b : ∀ x : Nat, 88 ≤ x → x ≤ 96 → x ≠ 94 → e1M s a e k x = a x := by
    intro x h1 h2 h3
    unfold e1M
    split
    · rw [aup_o (by omega), aup_o (by omega), aup_o h3]
    · rw [aup_o h3]
  have b4 : ∀ j, e1M s a e k 94 j = if j = k then e else a 94 j := by
    intro j
    unfold e1M
    split
    · rw [aup_o (by decide), aup_o (by decide), aup_k]
    · rw [aup_k]
  intro j j0 j1
  rw [e1_o s e k (by decide)] at j1
  rw [b 88 (by decide) (by decide) (by decide), b 89 (by decide) (by decide) (by decide), b 90 (by decide) (by decide) (by decide), b 91 (by decide) (by decide) (by decide), b 92 (by decide) (by decide) (by decide), b 93 (by decide) (by decide) (by decide), b 95 (by decide) (by decide) (by decide), b 96 (by decide) (by decide) (by decide), b4, e1_18]
  rw [e1_o s e k (x := 4) (by decide), e1_o s e k (x := 6) (by decide), e1_o s e k (x := 8) (by decide), e1_o s e k (x := 10) (by decide), e1_o s e k (x := 12) (by decide), e1_o s e k (x := 14) (by decide), e1_o s e k (x := 16) (by decide), e1_o s e k (x := 20) (by decide)]
  obtain ⟨q1, q2, q3, q4, q5, q6, q7, q8, q9⟩ := hR j j0 j1
  refine ⟨q1, q2, q3, q4, q5, q6, ?_, q8, q9⟩
  split
  · rfl
  · exact q7
theorem rV_e1 {s a : aS} {e k : Int} (hV : rV s a) (h8 : s 4 k = 6 → 0 ≤ s 8 k ∧ s 8 k < 4 ∧ 0 ≤ s 30 (s 8 k) ∧ s 30 (s 8 k) < 400) (hc : ∀ t, 0 ≤ t → t < 4 → s 30 t ≤ 400) : rV (e1S s e k) (e1M s a e k) := by
  intro t t0 t1
  unfold e1S e1M
  by_cases h : s 4 k = 6
  · have H := h8 h
    rw [if_pos h, if_pos h]
    unfold shS
    have x8 : aup s 18 k e 8 = s 8 := aup_o (by decide)
    have x30 : aup s 18 k e 30 = s 30 := aup_o (by decide)
    rw [x8, x30]
    simp (disch := decide) only [aup_k, aup_o]
    obtain ⟨v1, v2⟩ := hV t t0 t1
    have C := hc t t0 t1
    refine ⟨?_, fun i i0 i1 => ?_⟩
    · split
      · rfl
      · exact v1
    · by_cases ht : t = s 8 k
      · rw [if_pos ht] at i1
        by_cases hi : i = s 30 (s 8 k)
        · rw [if_pos (by omega), if_pos (by omega)]
        · rw [if_neg (by omega), if_neg (by omega)]
          exact v2 i i0 (by rw [ht]; omega)
      · rw [if_neg ht] at i1
        rw [if_neg (by omega), if_neg (by omega)]
        exact v2 i i0 i1
  · rw [if_neg h, if_neg h]
    rw [ap_o (by decide) (by decide), ap_o (by decide) (by decide), aup_o (by decide), aup_o (by decide), aup_o (by decide), aup_o (by decide)]
    exact hV t t0 t1
theorem e1M_o (s a : aS) (e k : Int) {x : Nat} (h : x ≠ 94 ∧ x ≠ 100 ∧ x ≠ 101) : e1M s a e k x = a x := by
  unfold e1M
  split
  · rw [aup_o h.2.2, aup_o h.2.1, aup_o h.1]
  · rw [aup_o h.1]
theorem mF_e1 (s a : aS) (e k : Int) : mF a (e1M s a e k) := by
  unfold e1M
  split
  · exact mF_tr (mF_up (by decide) (by decide)) (mF_tr (mF_up (by decide) (by decide)) (mF_up (by decide) (by decide)))
  · exact mF_up (by decide) (by decide)
end TE
