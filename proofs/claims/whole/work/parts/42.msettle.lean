/-! ===== trimming and spilling by the reference ===== -/
def mF (a b : aS) : Prop := (∀ k, k < 88 → k ≠ 86 → b k = a k) ∧ (∀ k, 111 ≤ k → b k = a k) ∧ (∀ i, i = 0 ∨ i = 2 ∨ 38 ≤ i → b 86 i = a 86 i)
theorem mF_rf (a : aS) : mF a a := ⟨fun _ _ _ => rfl, fun _ _ => rfl, fun _ _ => rfl⟩
theorem mF_tr {a b c : aS} (h1 : mF a b) (h2 : mF b c) : mF a c := ⟨fun k x y => (h2.1 k x y).trans (h1.1 k x y), fun k x => (h2.2.1 k x).trans (h1.2.1 k x), fun i x => (h2.2.2 i x).trans (h1.2.2 i x)⟩
theorem mF_up {a : aS} {k : Nat} {i v : Int} (h0 : 88 ≤ k) (h1 : k < 111) : mF a (aup a k i v) := ⟨fun x a b => aup_o (by omega), fun x a => aup_o (by omega), fun j _ => by rw [aup_o (by omega)]⟩
theorem mF_86 {a : aS} {i v : Int} (h0 : i ≠ 0) (h1 : i ≠ 2) (h2 : i < 38) : mF a (aup a 86 i v) := ⟨fun x a b => aup_o b, fun x a => aup_o (by omega), fun j hj => by rw [aup_k, if_neg (by omega)]⟩
theorem rR_b {s a b : aS} (h : ∀ k, 88 ≤ k → k ≤ 96 → b k = a k) (hr : rR s a) : rR s b := by
  unfold rR at hr ⊢
  rw [h 88 (by decide) (by decide), h 89 (by decide) (by decide), h 90 (by decide) (by decide), h 91 (by decide) (by decide), h 92 (by decide) (by decide), h 93 (by decide) (by decide), h 94 (by decide) (by decide), h 95 (by decide) (by decide), h 96 (by decide) (by decide)]
  exact hr
theorem rG_b {s a b : aS} (h7 : b 97 = a 97) (h8 : b 98 = a 98) (hr : rG s a) : rG s b := by
  unfold rG at hr ⊢
  rw [h7, h8]
  exact hr
theorem rT_b {s a b : aS} (h : b 99 = a 99) (hr : rT s a) : rT s b := by
  unfold rT at hr ⊢
  rw [h]
  exact hr
theorem rV_b {s a b : aS} (h : b 100 = a 100) (h1 : b 101 = a 101) (hr : rV s a) : rV s b := by
  unfold rV at hr ⊢
  rw [h, h1]
  exact hr
theorem rC_b {s a b : aS} (h : b 102 = a 102) (h1 : b 103 = a 103) (hr : rC s a) : rC s b := by
  unfold rC at hr ⊢
  rw [h, h1]
  exact hr
theorem rP_b {s a b : aS} (h : b 104 = a 104) (hr : rP s a) : rP s b := by
  unfold rP at hr ⊢
  rw [h]
  exact hr
theorem rK_b {s a b : aS} (h : b 86 29 = a 86 29) (h1 : b 105 = a 105) (h2 : b 106 = a 106) (h3 : b 107 = a 107) (hr : rK s a) : rK s b := by
  unfold rK at hr ⊢
  rw [h, h1, h2, h3]
  exact hr
theorem rM_b {s a b : aS} (h : b 108 = a 108) (hr : rM s a) : rM s b := by
  unfold rM at hr ⊢
  rw [h]
  exact hr
section MS
variable {g : qG} {s : aS} {d : Nat} {Q : Int32 → qS → Prop} {T : String → qS → Prop}
theorem m_trim_l (hw : qWF g) {a : aS} (hJ : jJ s) (hr : rL s a) {n : Int} (n0 : 0 < n) (n1 : n ≤ s 21 3 - s 21 2) (hQ : ∀ b, rL (trS s (s 21 2 + n)) b → mF a b → Q (iI 0) (qi b)) :
    ∀ (j : Int) (b : aS), 0 ≤ j → j ≤ s 21 3 - s 21 2 - n + 1 → mF a b → (∀ k, 88 ≤ k → k ≠ 97 → k ≠ 98 → b k = a k) → (∀ i, i ≠ 19 → i ≠ 20 → b 86 i = a 86 i) → b 86 19 = s 21 3 - s 21 2 - n + 1 → b 86 20 = s 21 2 + n → (∀ i, 0 ≤ i → i < j → b 97 i = s 21 2 + n + i ∧ b 98 i = s 23 (s 21 2 + n + i)) → (∀ i, j ≤ i → b 97 i = a 97 i ∧ b 98 i = a 98 i) → qV g mX10_trim (d + 1) 0 36 [some (.inr 86), some (.inl (iI n)), some (.inl (iI j))] [] (qi b) Q T := by
  have B := jb hJ
  refine stepUp (s 21 3 - s 21 2 - n + 1) (fun j ih b j0 j1 hF h1 h2 h3 h4 h5 h6 => wX10_trim_36 hw ?_)
  by_cases h : j < s 21 3 - s 21 2 - n + 1
  · have e1 := (h6 (j + n) (by omega)).1
    have e2 := (h6 (j + n) (by omega)).2
    simp +contextual (disch := omega) only [z_app, z_rd, z_cl, z_add, z_sub, z_mul, z_neg, z_lit, z_leT, z_leF, z_ltT, z_ltF, z_eqT, z_eqF, i_leT, i_leF, i_ltT, i_ltF, i_eqT, i_eqF, z_le, z_lt, z_eq, z_ite, z_at, z_pt, z_up, z_wr, z_wi1, z_wi0, z_wi, z_inS, z_toInt, z_nb0, z_nb1, Int.cast_ofNat_Int, true_and, and_true, not_true_eq_false, not_false_eq_true, false_imp_iff, true_imp_iff, aup_o, aup_k, ite_true, ite_false, z_fa000, z_fa001, z_fa010, z_fa011, z_fa100, z_fa101, z_fa110, z_fa111, if_true, if_false, h3, e1, e2]
    have g1 := rg_97 hr (i := j + n) (by omega) (by omega)
    have g2 := rg_98 hr (i := j + n) (by omega) (by omega)
    refine ih h _ (by omega) (by omega) (mF_tr hF (mF_tr (mF_up (by decide) (by decide)) (mF_up (by decide) (by decide)))) ?_ ?_ ?_ ?_ ?_ ?_
    · intro k k0 k1 k2
      rw [aup_o k2, aup_o k1]
      exact h1 k k0 k1 k2
    · intro i i0 i1
      rw [aup_o (by decide), aup_o (by decide)]
      exact h2 i i0 i1
    · rw [aup_o (by decide), aup_o (by decide)]
      exact h3
    · rw [aup_o (by decide), aup_o (by decide)]
      exact h4
    · intro i i0 i1
      rw [aup_o (k' := 97) (by decide), aup_k, aup_k, aup_o (k' := 98) (by decide)]
      by_cases e : i = j
      · subst e
        rw [if_pos rfl, if_pos rfl, g1, g2]
        exact ⟨by omega, by rw [show s 21 2 + (i + n) = s 21 2 + n + i by omega]⟩
      · rw [if_neg e, if_neg e]
        exact h5 i i0 (by omega)
    · intro i i0
      rw [aup_o (k' := 97) (by decide), aup_k, aup_k, aup_o (k' := 98) (by decide), if_neg (by omega), if_neg (by omega)]
      exact h6 i (by omega)
  · simp +contextual (disch := omega) only [z_app, z_rd, z_cl, z_add, z_sub, z_mul, z_neg, z_lit, z_leT, z_leF, z_ltT, z_ltF, z_eqT, z_eqF, i_leT, i_leF, i_ltT, i_ltF, i_eqT, i_eqF, z_le, z_lt, z_eq, z_ite, z_at, z_pt, z_up, z_wr, z_wi1, z_wi0, z_wi, z_inS, z_toInt, z_nb0, z_nb1, Int.cast_ofNat_Int, true_and, and_true, not_true_eq_false, not_false_eq_true, false_imp_iff, true_imp_iff, aup_o, aup_k, ite_true, ite_false, z_fa000, z_fa001, z_fa010, z_fa011, z_fa100, z_fa101, z_fa110, z_fa111, if_true, if_false, h3]
    refine hQ b ?_ hF
    obtain ⟨r1, r2, r3, r4, r5, r6, r7, r8, r9⟩ := id hr
    refine ⟨⟨?_, ?_, ?_, ?_, ?_, ?_, ?_, ?_, ?_, ?_⟩, rR_b (fun k k0 k1 => h1 k k0 (by omega) (by omega)) r2, ?_, rT_b (h1 99 (by decide) (by decide) (by decide)) r4, rV_b (h1 100 (by decide) (by decide) (by decide)) (h1 101 (by decide) (by decide) (by decide)) r5, rC_b (h1 102 (by decide) (by decide) (by decide)) (h1 103 (by decide) (by decide) (by decide)) r6, rP_b (h1 104 (by decide) (by decide) (by decide)) r7, rK_b (h2 29 (by decide) (by decide)) (h1 105 (by decide) (by decide) (by decide)) (h1 106 (by decide) (by decide) (by decide)) (h1 107 (by decide) (by decide) (by decide)) r8, rM_b (h1 108 (by decide) (by decide) (by decide)) r9⟩
    · rw [h2 3 (by decide) (by decide)]; have := rs_3 (s := s) (a := a) hr; exact this
    · rw [h2 4 (by decide) (by decide)]; have := rs_4 (s := s) (a := a) hr; exact this
    · rw [h2 5 (by decide) (by decide)]; have := rs_5 (s := s) (a := a) hr; exact this
    · rw [h2 15 (by decide) (by decide)]; have := rs_15 (s := s) (a := a) hr; exact this
    · rw [h2 16 (by decide) (by decide)]; have := rs_16 (s := s) (a := a) hr; exact this
    · rw [h3, tr_3, tr_2]; omega
    · rw [h4, tr_2]
    · rw [h2 27 (by decide) (by decide)]; have := rs_27 (s := s) (a := a) hr; exact this
    · rw [h2 28 (by decide) (by decide)]; have := rs_28 (s := s) (a := a) hr; exact this
    · rw [h2 34 (by decide) (by decide)]; have := rs_34 (s := s) (a := a) hr; exact this
    · intro i i0 i1
      rw [tr_3, tr_2] at i1
      exact h5 i i0 (by omega)
theorem m_trim (hw : qWF g) {a : aS} (hJ : jJ s) (hr : rL s a) (hQ : ∀ b, rL (trH s) b → mF a b → Q (iI 0) (qi b)) : qC g (d + 6) mX10_trim [.inr 86] (qi a) Q T := by
  have B := jb hJ
  have H := hw_b hJ (-1)
  have K := tk_b hJ (hwS s (-1))
  refine wX10_trim hw (m_hold hw hJ hr (m_freeSegments hw hJ hr (by omega) (by omega) ?_))
  by_cases h : tkS s (hwS s (-1)) = s 21 2
  · rw [h, Int.sub_self]
    refine ⟨fun hn => absurd rfl hn, fun _ => hQ a ?_ (mF_rf a)⟩
    unfold trH
    rw [h, tr_id]
    exact hr
  · simp +contextual (disch := omega) only [z_app, z_rd, z_cl, z_add, z_sub, z_mul, z_neg, z_lit, z_leT, z_leF, z_ltT, z_ltF, z_eqT, z_eqF, i_leT, i_leF, i_ltT, i_ltF, i_eqT, i_eqF, z_le, z_lt, z_eq, z_ite, z_at, z_pt, z_up, z_wr, z_wi1, z_wi0, z_wi, z_inS, z_toInt, z_nb0, z_nb1, Int.cast_ofNat_Int, true_and, and_true, not_true_eq_false, not_false_eq_true, false_imp_iff, true_imp_iff, aup_o, aup_k, ite_true, ite_false, z_fa000, z_fa001, z_fa010, z_fa011, z_fa100, z_fa101, z_fa110, z_fa111, if_true, if_false, rs_3 hr, rs_4 hr, rs_5 hr, rs_15 hr, rs_16 hr, rs_19 hr, rs_20 hr, rs_27 hr, rs_28 hr, rs_34 hr, rr_88 hr, rr_89 hr, rr_90 hr, rr_91 hr, rr_92 hr, rr_93 hr, rr_94 hr, rr_95 hr, rr_96 hr, rg_97 hr, rg_98 hr, rt_99 hr, rv_100 hr, rv_101 hr, rc_102 hr, rc_103 hr, rp_104 hr]
    have e : s 21 2 + (tkS s (hwS s (-1)) - s 21 2) = tkS s (hwS s (-1)) := by omega
    refine m_trim_l hw hJ hr (n := tkS s (hwS s (-1)) - s 21 2) (by omega) (by omega) ?_ 0 _ (by omega) (by omega) ?_ ?_ ?_ ?_ ?_ ?_ ?_
    · rw [e]
      exact hQ
    · exact mF_tr (mF_86 (by decide) (by decide) (by decide)) (mF_86 (by decide) (by decide) (by decide))
    · intro k k0 k1 k2
      rw [aup_o (by omega), aup_o (by omega)]
    · intro i i0 i1
      rw [aup_k, if_neg i0, aup_k, if_neg i1]
    · rw [aup_k, if_pos rfl]
      omega
    · rw [aup_k, if_neg (by decide), aup_k, if_pos rfl]
    · intro i i0 i1; omega
    · intro i i0
      rw [aup_o (by decide), aup_o (by decide), aup_o (by decide), aup_o (by decide)]
      exact ⟨rfl, rfl⟩
/-- marking messages of a consumer as spilled, from k on -/
theorem m_mark_l (hw : qWF g) (hJ : jJ s) {c : Int} (c0 : 0 ≤ c) (c1 : c < s 26 6) (a : aS) (hX : ∀ b, rL (spA s c) b → mF a b → qV g mX10_settle (d + 1) 0 53 [some (.inr 86), some (.inl (iI c)), some (.inl (iI (s 30 (s 32 c))))] [] (qi b) Q T) :
    ∀ (k : Int) (b : aS), s 34 c ≤ k → k ≤ s 30 (s 32 c) → mF a b → rL (aup s 36 c (mx k (s 36 c))) b → qV g mX10_settle (d + 1) 0 53 [some (.inr 86), some (.inl (iI c)), some (.inl (iI k))] [] (qi b) Q T := by
  have B := jb hJ
  have C := jc hJ c0 c1
  refine stepUp (s 30 (s 32 c)) (fun k ih b k0 k1 hF hr => ?_)
  by_cases h : k < s 30 (s 32 c)
  · refine wX10_settle_53 hw ?_
    have e1 : b 102 c = s 32 c := rc_102 (s := aup s 36 c (mx k (s 36 c))) hr c0 c1
    have e2 : b 101 (s 32 c) = s 30 (s 32 c) := rv_101 (s := aup s 36 c (mx k (s 36 c))) hr C.1 C.2.1
    simp +contextual (disch := omega) only [z_app, z_rd, z_cl, z_add, z_sub, z_mul, z_neg, z_lit, z_leT, z_leF, z_ltT, z_ltF, z_eqT, z_eqF, i_leT, i_leF, i_ltT, i_ltF, i_eqT, i_eqF, z_le, z_lt, z_eq, z_ite, z_at, z_pt, z_up, z_wr, z_wi1, z_wi0, z_wi, z_inS, z_toInt, z_nb0, z_nb1, Int.cast_ofNat_Int, true_and, and_true, not_true_eq_false, not_false_eq_true, false_imp_iff, true_imp_iff, aup_o, aup_k, ite_true, ite_false, z_fa000, z_fa001, z_fa010, z_fa011, z_fa100, z_fa101, z_fa110, z_fa111, if_true, if_false, e1, e2]
    refine ih h _ (by omega) (by omega) (mF_tr hF (mF_up (by decide) (by decide))) ?_
    obtain ⟨r1, r2, r3, r4, r5, r6, r7, r8, r9⟩ := id hr
    refine ⟨r1, r2, r3, r4, r5, r6, ?_, r8, r9⟩
    intro c' j a0 a1 a2 a3
    have q := r7 c' j a0 a1 a2 a3
    show aup b 104 (400 * c + k) 1 104 (400 * c' + j) = if c' < s 26 6 ∧ s 34 c' ≤ j ∧ j < aup s 36 c (mx (k + 1) (s 36 c)) 36 c' then 1 else 0
    have q' : b 104 (400 * c' + j) = if c' < s 26 6 ∧ s 34 c' ≤ j ∧ j < aup s 36 c (mx k (s 36 c)) 36 c' then 1 else 0 := q
    rw [aup_k] at q' ⊢
    rw [aup_k, q']
    by_cases hc : c' = c
    · subst hc
      rw [if_pos rfl, if_pos rfl]
      have m1 : mx k (s 36 c') = k ∨ k < mx k (s 36 c') := by unfold mx; split <;> omega
      have m2 : mx (k + 1) (s 36 c') = if k < mx k (s 36 c') then mx k (s 36 c') else k + 1 := by unfold mx; split <;> split <;> split <;> omega
      by_cases hj : j = k
      · rw [if_pos (by omega), if_pos ⟨c1, by omega, by rw [m2]; split <;> omega⟩]
      · rw [if_neg (by omega)]
        by_cases hh : c' < s 26 6 ∧ s 34 c' ≤ j ∧ j < mx k (s 36 c')
        · rw [if_pos hh, if_pos ⟨hh.1, hh.2.1, by rw [m2]; split <;> omega⟩]
        · rw [if_neg hh, if_neg (fun x => hh ⟨x.1, x.2.1, by have := x.2.2; rw [m2] at this; split at this <;> omega⟩)]
    · rw [if_neg hc, if_neg hc, if_neg (by omega)]
  · have e : mx k (s 36 c) = s 30 (s 32 c) := by unfold mx; split <;> omega
    rw [e] at hr
    rw [show k = s 30 (s 32 c) by omega]
    exact hX b hr hF
/-- how many consumers have messages that are neither read nor spilled -/
def naS (s : aS) : Int := sI (fun c => if 0 < asS s c then 1 else 0) 0 (s 26 6)
theorem na_b (hJ : jJ s) : 0 ≤ naS s ∧ naS s ≤ 6 := by
  have B := jb hJ
  have a := sI_lb (f := fun c => if 0 < asS s c then 1 else 0) (lo := 0) (c := 0) (s 26 6) (by omega) (fun i _ _ => by split <;> omega)
  have b := sI_ub (f := fun c => if 0 < asS s c then 1 else 0) (lo := 0) (c := 1) (s 26 6) (by omega) (fun i _ _ => by split <;> omega)
  unfold naS
  omega
theorem sI_one {f h : Int → Int} {lo c : Int} (hc : lo ≤ c) : ∀ hi : Int, c < hi → (∀ i, lo ≤ i → i < hi → i ≠ c → f i = h i) → sI f lo hi = sI h lo hi - h c + f c := by
  intro hi h1 h2
  have a1 := sI_s (f := f) hc hi (by omega)
  have a2 := sI_s (f := h) hc hi (by omega)
  have b1 := sI_f (f := f) hi h1
  have b2 := sI_f (f := h) hi h1
  have c1 := sI_c (f := f) (g := h) (lo := lo) c (fun i x y => h2 i x (by omega) (by omega))
  have c2 := sI_c (f := f) (g := h) (lo := c + 1) hi (fun i x y => h2 i (by omega) y (by omega))
  omega
theorem as_tr (s : aS) (k c : Int) : asS (trS s k) c = asS s c := rfl
theorem na_step (hJ : jJ s) {c : Int} (c0 : 0 ≤ c) (c1 : c < s 26 6) (hc : 0 < asS s c) : naS (trH (spA s c)) = naS s - 1 := by
  have C := jc hJ c0 c1
  show sI (fun i => if 0 < asS (spA s c) i then 1 else 0) 0 (s 26 6) = sI (fun i => if 0 < asS s i then 1 else 0) 0 (s 26 6) - 1
  rw [sI_one (h := fun i => if 0 < asS s i then 1 else 0) c0 (s 26 6) c1 (fun i i0 i1 i2 => ?_), if_pos hc, if_neg]
  · omega
  · have e : spA s c 36 c = s 30 (s 32 c) := aup_s _ _ _ _
    have e2 : asS (spA s c) c = s 30 (s 32 c) - s 34 c - (if spA s c 36 c - s 34 c ≤ 0 then 0 else spA s c 36 c - s 34 c) := rfl
    rw [e2, e]
    split <;> omega
  · have e : spA s c 36 i = s 36 i := by unfold spA; rw [aup_k, if_neg i2]
    have e2 : asS (spA s c) i = s 30 (s 32 i) - s 34 i - (if spA s c 36 i - s 34 i ≤ 0 then 0 else spA s c 36 i - s 34 i) := rfl
    have e3 : asS (spA s c) i = asS s i := by rw [e2, e]; rfl
    show (if 0 < asS (spA s c) i then (1 : Int) else 0) = if 0 < asS s i then 1 else 0
    rw [e3]
theorem na_0 (hJ : jJ s) (h : naS s ≤ 0) {c : Int} (c0 : 0 ≤ c) (c1 : c < s 26 6) : ¬ 0 < asS s c := by
  intro hc
  have a := sI_s (f := fun c => if 0 < asS s c then 1 else 0) c0 (s 26 6) (by omega)
  have b := sI_f (f := fun c => if 0 < asS s c then 1 else 0) (s 26 6) c1
  have l1 := sI_lb (f := fun c => if 0 < asS s c then 1 else 0) (lo := 0) (c := 0) c c0 (fun i _ _ => by split <;> omega)
  have l2 := sI_lb (f := fun c => if 0 < asS s c then 1 else 0) (lo := c + 1) (c := 0) (s 26 6) (by omega) (fun i _ _ => by split <;> omega)
  rw [if_pos hc] at b
  unfold naS at h
  omega
def lvS (s : aS) : Int := if s 21 5 ≤ s 1 12 then -1 else lgS s 0 (-1)
theorem m_settle_l (hw : qWF g) (a : aS) : ∀ (n : Nat) (s b : aS) (o : Option qP), jJ s → rL s b → mF a b → naS s ≤ n → (∀ b', rL (stF n s) b' → mF a b' → Q (iI 0) (qi b')) → qV g mX10_settle (d + 7) 0 24 [some (.inr 86), some (.inl (iI (lvS s))), o] [] (qi b) Q T := by
  intro n
  induction n with
  | zero =>
    intro s b o hJ hr hF hn hQ
    have L := lg_lh hJ 0 (-1) (-1) (by omega) (Or.inl ⟨rfl, rfl⟩)
    have e : lvS s = -1 := by
      unfold lvS
      split
      · rfl
      · rcases L with h | h | h
        · exact h.2
        · exact h.2.2.2
        · have := (as_hd hJ h.1 h.2.1).2 (na_0 hJ hn h.1 h.2.1)
          omega
    rw [e]
    exact wX10_settle_24 hw ⟨fun _ => hQ b hr hF, fun hne => absurd rfl hne⟩
  | succ n ih =>
    intro s b o hJ hr hF hn hQ
    have B := jb hJ
    have T5 := hJ.2.2.2.2.2.2.1.2.2.2.2
    have T6 := j_sum hJ (lo := s 23 (s 21 2)) (hi := s 2 9) (by omega) (by omega) (by omega)
    have L := lg_lh hJ 0 (-1) (-1) (by omega) (Or.inl ⟨rfl, rfl⟩)
    unfold stF at hQ
    by_cases h1 : s 21 5 ≤ s 1 12
    · rw [if_pos h1] at hQ
      rw [show lvS s = -1 from if_pos h1]
      exact wX10_settle_24 hw ⟨fun _ => hQ b hr hF, fun hne => absurd rfl hne⟩
    · rw [if_neg h1] at hQ
      rw [show lvS s = lgS s 0 (-1) from if_neg h1]
      rcases L with ⟨l1, l2⟩ | ⟨l1, l2, l3, l4⟩ | ⟨l1, l2, l3, l4⟩
      · rw [if_pos l1] at hQ
        rw [l2]
        exact wX10_settle_24 hw ⟨fun _ => hQ b hr hF, fun hne => absurd rfl hne⟩
      · have e0 : asS s (lhS s 0 (-1)) = 0 := by
          have p := as_hd hJ l1 l2
          by_cases hp : 0 < asS s (lhS s 0 (-1))
          · have := p.1 hp; omega
          · exact (p.2 hp).2
        rw [if_neg (by omega), if_pos e0] at hQ
        rw [l4]
        exact wX10_settle_24 hw ⟨fun _ => hQ b hr hF, fun hne => absurd rfl hne⟩
      · have hp : 0 < asS s (lhS s 0 (-1)) := by
          have p := as_hd hJ l1 l2
          by_cases hp : 0 < asS s (lhS s 0 (-1))
          · exact hp
          · have := (p.2 hp).1; omega
        rw [if_neg (by omega), if_neg (by omega)] at hQ
        rw [l4]
        have A := as_b hJ l1 l2
        have C := jc hJ l1 l2
        have SA1 := sI_lb (f := spS s) (lo := 0) (c := 0) (s 26 6) (by omega) (fun i a b => (sp_b hJ a b).1)
        have SA2 := sI_ub (f := spS s) (lo := 0) (c := 400) (s 26 6) (by omega) (fun i a b => by have := sp_b hJ a b; have := jc hJ a b; omega)
        refine wX10_settle_24 hw ?_
        simp +contextual (disch := omega) only [z_app, z_rd, z_cl, z_add, z_sub, z_mul, z_neg, z_lit, z_leT, z_leF, z_ltT, z_ltF, z_eqT, z_eqF, i_leT, i_leF, i_ltT, i_ltF, i_eqT, i_eqF, z_le, z_lt, z_eq, z_ite, z_at, z_pt, z_up, z_wr, z_wi1, z_wi0, z_wi, z_inS, z_toInt, z_nb0, z_nb1, Int.cast_ofNat_Int, true_and, and_true, not_true_eq_false, not_false_eq_true, false_imp_iff, true_imp_iff, aup_o, aup_k, ite_true, ite_false, z_fa000, z_fa001, z_fa010, z_fa011, z_fa100, z_fa101, z_fa110, z_fa111, if_true, if_false, rs_3 hr, rs_4 hr, rs_5 hr, rs_15 hr, rs_16 hr, rs_19 hr, rs_20 hr, rs_27 hr, rs_28 hr, rs_34 hr, rr_88 hr, rr_89 hr, rr_90 hr, rr_91 hr, rr_92 hr, rr_93 hr, rr_94 hr, rr_95 hr, rr_96 hr, rg_97 hr, rg_98 hr, rt_99 hr, rv_100 hr, rv_101 hr, rc_102 hr, rc_103 hr, rp_104 hr]
        refine m_spilled hw hJ hr (m_asideOf hw hJ hr l1 l2 ?_)
        by_cases h4 : s 1 13 < sI (spS s) 0 (s 26 6) + asS s (lhS s 0 (-1))
        · rw [if_pos h4] at hQ
          simp +contextual (disch := omega) only [z_app, z_rd, z_cl, z_add, z_sub, z_mul, z_neg, z_lit, z_leT, z_leF, z_ltT, z_ltF, z_eqT, z_eqF, i_leT, i_leF, i_ltT, i_ltF, i_eqT, i_eqF, z_le, z_lt, z_eq, z_ite, z_at, z_pt, z_up, z_wr, z_wi1, z_wi0, z_wi, z_inS, z_toInt, z_nb0, z_nb1, Int.cast_ofNat_Int, true_and, and_true, not_true_eq_false, not_false_eq_true, false_imp_iff, true_imp_iff, aup_o, aup_k, ite_true, ite_false, z_fa000, z_fa001, z_fa010, z_fa011, z_fa100, z_fa101, z_fa110, z_fa111, if_true, if_false, rs_3 hr, rs_4 hr, rs_5 hr, rs_15 hr, rs_16 hr, rs_19 hr, rs_20 hr, rs_27 hr, rs_28 hr, rs_34 hr, rr_88 hr, rr_89 hr, rr_90 hr, rr_91 hr, rr_92 hr, rr_93 hr, rr_94 hr, rr_95 hr, rr_96 hr, rg_97 hr, rg_98 hr, rt_99 hr, rv_100 hr, rv_101 hr, rc_102 hr, rc_103 hr, rp_104 hr]
          exact hQ b hr hF
        · rw [if_neg h4] at hQ
          simp +contextual (disch := omega) only [z_app, z_rd, z_cl, z_add, z_sub, z_mul, z_neg, z_lit, z_leT, z_leF, z_ltT, z_ltF, z_eqT, z_eqF, i_leT, i_leF, i_ltT, i_ltF, i_eqT, i_eqF, z_le, z_lt, z_eq, z_ite, z_at, z_pt, z_up, z_wr, z_wi1, z_wi0, z_wi, z_inS, z_toInt, z_nb0, z_nb1, Int.cast_ofNat_Int, true_and, and_true, not_true_eq_false, not_false_eq_true, false_imp_iff, true_imp_iff, aup_o, aup_k, ite_true, ite_false, z_fa000, z_fa001, z_fa010, z_fa011, z_fa100, z_fa101, z_fa110, z_fa111, if_true, if_false, rs_3 hr, rs_4 hr, rs_5 hr, rs_15 hr, rs_16 hr, rs_19 hr, rs_20 hr, rs_27 hr, rs_28 hr, rs_34 hr, rr_88 hr, rr_89 hr, rr_90 hr, rr_91 hr, rr_92 hr, rr_93 hr, rr_94 hr, rr_95 hr, rr_96 hr, rg_97 hr, rg_98 hr, rt_99 hr, rv_100 hr, rv_101 hr, rc_102 hr, rc_103 hr, rp_104 hr]
          have J2 := j_spA' hJ l1 l2
          have J3 := j_trH J2
          have hr0 : rL (aup s 36 (lhS s 0 (-1)) (mx (s 34 (lhS s 0 (-1))) (s 36 (lhS s 0 (-1))))) b := by
            obtain ⟨r1, r2, r3, r4, r5, r6, r7, r8, r9⟩ := id hr
            refine ⟨r1, r2, r3, r4, r5, r6, ?_, r8, r9⟩
            intro c' j a0 a1 a2 a3
            have q := r7 c' j a0 a1 a2 a3
            show b 104 (400 * c' + j) = if c' < s 26 6 ∧ s 34 c' ≤ j ∧ j < aup s 36 (lhS s 0 (-1)) (mx (s 34 (lhS s 0 (-1))) (s 36 (lhS s 0 (-1)))) 36 c' then 1 else 0
            rw [q, aup_k]
            by_cases hc : c' = lhS s 0 (-1)
            · rw [if_pos hc, hc]
              have m : mx (s 34 (lhS s 0 (-1))) (s 36 (lhS s 0 (-1))) = if s 36 (lhS s 0 (-1)) ≤ s 34 (lhS s 0 (-1)) then s 34 (lhS s 0 (-1)) else s 36 (lhS s 0 (-1)) := rfl
              rw [m]
              repeat' split
              all_goals omega
            · rw [if_neg hc]
          refine m_mark_l hw hJ l1 l2 b ?_ _ b (Int.le_refl _) C.2.2.2.1 (mF_rf b) hr0
          intro b2 hr2 hF2
          refine wX10_settle_53 hw ?_
          have e1 : b2 102 (lhS s 0 (-1)) = s 32 (lhS s 0 (-1)) := rc_102 (s := spA s (lhS s 0 (-1))) hr2 l1 l2
          have e2 : b2 101 (s 32 (lhS s 0 (-1))) = s 30 (s 32 (lhS s 0 (-1))) := rv_101 (s := spA s (lhS s 0 (-1))) hr2 C.1 C.2.1
          simp +contextual (disch := omega) only [z_app, z_rd, z_cl, z_add, z_sub, z_mul, z_neg, z_lit, z_leT, z_leF, z_ltT, z_ltF, z_eqT, z_eqF, i_leT, i_leF, i_ltT, i_ltF, i_eqT, i_eqF, z_le, z_lt, z_eq, z_ite, z_at, z_pt, z_up, z_wr, z_wi1, z_wi0, z_wi, z_inS, z_toInt, z_nb0, z_nb1, Int.cast_ofNat_Int, true_and, and_true, not_true_eq_false, not_false_eq_true, false_imp_iff, true_imp_iff, aup_o, aup_k, ite_true, ite_false, z_fa000, z_fa001, z_fa010, z_fa011, z_fa100, z_fa101, z_fa110, z_fa111, if_true, if_false, e1, e2]
          refine m_trim hw J2 hr2 (fun b3 hr3 hF3 => ?_)
          refine m_bytes hw J3 hr3 ?_
          have e3 : b3 86 4 = s 1 12 := rs_4 (s := trH (spA s (lhS s 0 (-1)))) hr3
          have B3 := jb J3
          have T53 := J3.2.2.2.2.2.2.1.2.2.2.2
          have T63 := j_sum J3 (lo := trH (spA s (lhS s 0 (-1))) 23 (trH (spA s (lhS s 0 (-1))) 21 2)) (hi := trH (spA s (lhS s 0 (-1))) 2 9) (by omega) (by omega) (by omega)
          have hn3 : naS (trH (spA s (lhS s 0 (-1)))) ≤ n := by
            rw [na_step hJ l1 l2 hp]
            omega
          have hFF := mF_tr hF (mF_tr hF2 hF3)
          by_cases h5 : trH (spA s (lhS s 0 (-1))) 21 5 ≤ s 1 12
          · simp +contextual (disch := omega) only [z_app, z_rd, z_cl, z_add, z_sub, z_mul, z_neg, z_lit, z_leT, z_leF, z_ltT, z_ltF, z_eqT, z_eqF, i_leT, i_leF, i_ltT, i_ltF, i_eqT, i_eqF, z_le, z_lt, z_eq, z_ite, z_at, z_pt, z_up, z_wr, z_wi1, z_wi0, z_wi, z_inS, z_toInt, z_nb0, z_nb1, Int.cast_ofNat_Int, true_and, and_true, not_true_eq_false, not_false_eq_true, false_imp_iff, true_imp_iff, aup_o, aup_k, ite_true, ite_false, z_fa000, z_fa001, z_fa010, z_fa011, z_fa100, z_fa101, z_fa110, z_fa111, if_true, if_false, e3]
            have e5 : lvS (trH (spA s (lhS s 0 (-1)))) = -1 := if_pos h5
            have := ih (trH (spA s (lhS s 0 (-1)))) b3 (some (.inl (iI (s 30 (s 32 (lhS s 0 (-1))))))) J3 hr3 hFF hn3 hQ
            rw [e5] at this
            exact this
          · simp +contextual (disch := omega) only [z_app, z_rd, z_cl, z_add, z_sub, z_mul, z_neg, z_lit, z_leT, z_leF, z_ltT, z_ltF, z_eqT, z_eqF, i_leT, i_leF, i_ltT, i_ltF, i_eqT, i_eqF, z_le, z_lt, z_eq, z_ite, z_at, z_pt, z_up, z_wr, z_wi1, z_wi0, z_wi, z_inS, z_toInt, z_nb0, z_nb1, Int.cast_ofNat_Int, true_and, and_true, not_true_eq_false, not_false_eq_true, false_imp_iff, true_imp_iff, aup_o, aup_k, ite_true, ite_false, z_fa000, z_fa001, z_fa010, z_fa011, z_fa100, z_fa101, z_fa110, z_fa111, if_true, if_false, e3]
            refine m_lagging hw J3 hr3 ?_
            have e5 : lvS (trH (spA s (lhS s 0 (-1)))) = lgS (trH (spA s (lhS s 0 (-1)))) 0 (-1) := if_neg h5
            have := ih (trH (spA s (lhS s 0 (-1)))) b3 (some (.inl (iI (s 30 (s 32 (lhS s 0 (-1))))))) J3 hr3 hFF hn3 hQ
            rw [e5] at this
            exact this
theorem m_settle (hw : qWF g) {a : aS} (hJ : jJ s) (hr : rL s a) (hQ : ∀ b, rL (stS s) b → mF a b → Q (iI 0) (qi b)) : qC g (d + 7) mX10_settle [.inr 86] (qi a) Q T := by
  have J3 := j_trH hJ
  refine wX10_settle hw (m_trim hw hJ hr (fun b3 hr3 hF3 => m_bytes hw J3 hr3 ?_))
  have e3 : b3 86 4 = s 1 12 := rs_4 (s := trH s) hr3
  have B3 := jb J3
  have T53 := J3.2.2.2.2.2.2.1.2.2.2.2
  have T63 := j_sum J3 (lo := trH s 23 (trH s 21 2)) (hi := trH s 2 9) (by omega) (by omega) (by omega)
  have N := na_b J3
  have B0 := jb hJ
  by_cases h5 : trH s 21 5 ≤ s 1 12
  · simp +contextual (disch := omega) only [z_app, z_rd, z_cl, z_add, z_sub, z_mul, z_neg, z_lit, z_leT, z_leF, z_ltT, z_ltF, z_eqT, z_eqF, i_leT, i_leF, i_ltT, i_ltF, i_eqT, i_eqF, z_le, z_lt, z_eq, z_ite, z_at, z_pt, z_up, z_wr, z_wi1, z_wi0, z_wi, z_inS, z_toInt, z_nb0, z_nb1, Int.cast_ofNat_Int, true_and, and_true, not_true_eq_false, not_false_eq_true, false_imp_iff, true_imp_iff, aup_o, aup_k, ite_true, ite_false, z_fa000, z_fa001, z_fa010, z_fa011, z_fa100, z_fa101, z_fa110, z_fa111, if_true, if_false, e3]
    have e5 : lvS (trH s) = -1 := if_pos h5
    have := m_settle_l (d := d) (T := T) hw a 6 (trH s) b3 none J3 hr3 hF3 (by omega) hQ
    rw [e5] at this
    exact this
  · simp +contextual (disch := omega) only [z_app, z_rd, z_cl, z_add, z_sub, z_mul, z_neg, z_lit, z_leT, z_leF, z_ltT, z_ltF, z_eqT, z_eqF, i_leT, i_leF, i_ltT, i_ltF, i_eqT, i_eqF, z_le, z_lt, z_eq, z_ite, z_at, z_pt, z_up, z_wr, z_wi1, z_wi0, z_wi, z_inS, z_toInt, z_nb0, z_nb1, Int.cast_ofNat_Int, true_and, and_true, not_true_eq_false, not_false_eq_true, false_imp_iff, true_imp_iff, aup_o, aup_k, ite_true, ite_false, z_fa000, z_fa001, z_fa010, z_fa011, z_fa100, z_fa101, z_fa110, z_fa111, if_true, if_false, e3]
    refine m_lagging hw J3 hr3 ?_
    have e5 : lvS (trH s) = lgS (trH s) 0 (-1) := if_neg h5
    have := m_settle_l (d := d) (T := T) hw a 6 (trH s) b3 none J3 hr3 hF3 (by omega) hQ
    rw [e5] at this
    exact this
end MS
