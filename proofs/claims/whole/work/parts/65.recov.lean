/-! ===== views: recovery by the class, and the pairs of block and blockAt ===== -/
theorem fEq_sy {x y : fF} (h : fEq x y) : fEq y x := fun f f0 f1 => by
  obtain ⟨a, b⟩ := h f f0 f1
  exact ⟨a.symm, fun hy p p0 p1 => (b (by rw [a]; exact hy) p p0 p1).symm⟩
theorem fEq_tr {x y z : fF} (h : fEq x y) (h' : fEq y z) : fEq x z := fun f f0 f1 => by
  obtain ⟨a, b⟩ := h f f0 f1
  obtain ⟨a', b'⟩ := h' f f0 f1
  exact ⟨a.trans a', fun hx p p0 p1 => (b hx p p0 p1).trans (b' (by rw [← a]; exact hx) p p0 p1)⟩
def bkV (x : fF) (f p : Int) : Int := if x.1 f = 1 then x.2 (4 * f + p) else -1
theorem bk_eq {x y : fF} (h : fEq x y) {f p : Int} (f0 : 0 ≤ f) (f1 : f < 8) (p0 : 0 ≤ p) (p1 : p < 4) : bkV x f p = bkV y f p := by
  obtain ⟨a, b⟩ := h f f0 f1
  unfold bkV
  by_cases hx : x.1 f = 1
  · rw [if_pos hx, if_pos (by rw [← a]; exact hx)]
    exact b hx p p0 p1
  · rw [if_neg hx, if_neg (by rw [← a]; exact hx)]
/-- the class's list of effects is the true one -/
theorem lc_el {s : aS} (hJ : jJ s) {e : Int} (e0 : 0 ≤ e) (e1 : e < s 2 9) : lcS s e = lI (fun k => decide (s 18 k = e)) 0 (e + 1) := by
  have R1 := (hJ.2.1 e e0 e1).1.1
  obtain ⟨o1, o2, o3, o4, o5, o6, o7, o8, o9⟩ := (hJ.2.1 e e0 e1).2
  -- what has its effect at e, and is not e itself
  have key : ∀ j, 0 ≤ j → j < e → s 18 j = e → s 4 e = 1 ∧ s 6 e = s 6 j ∧ s 6 j < j := by
    intro j j0 j1 hj
    have T := (hJ.2.1 j j0 (by omega)).1.1
    obtain ⟨p1, p2, p3, p4, p5, p6, p7, p8, p9⟩ := (hJ.2.1 j j0 (by omega)).2
    by_cases h8 : s 4 j ≤ 2 ∨ s 4 j = 8
    · have := p6 h8; omega
    by_cases ho : s 6 j = -1
    · have := p7 ⟨by omega, by omega, ho⟩; omega
    by_cases h7 : s 4 j = 7
    · have := p4 (Or.inl h7); omega
    rcases p8 ⟨by omega, by omega, by omega⟩ with h | ⟨h1, h2, h3, h4⟩
    · omega
    · rw [hj] at h3 h4
      exact ⟨h3, h4, p3 (by omega)⟩
  unfold lcS
  by_cases h1 : s 4 e = 1
  · have ow := o5 (Or.inl h1)
    have ol := o3 (by omega)
    rw [if_pos h1, lI_l (by omega), if_neg, List.append_nil, lI_s (p := fun k => decide (s 18 k = e)) (lo := 0) (mid := s 6 e + 1) (by omega) _ (by omega), lI_n (lo := 0) (s 6 e + 1), List.nil_append]
    · refine lI_c _ (fun j a b => ?_)
      by_cases hh : s 6 j = s 6 e
      · rw [decide_eq_true hh, decide_eq_true (o9 h1 j (by omega) b hh).2]
      · rw [decide_eq_false hh, decide_eq_false (fun hj => hh (key j (by omega) b hj).2.1.symm)]
    · intro j a b
      refine decide_eq_false (fun hj => ?_)
      have := key j a (by omega) hj
      omega
    · intro hd
      have := of_decide_eq_true hd
      have := o6 (Or.inl (by omega))
      omega
  · rw [if_neg h1, lI_l (by omega), lI_n (lo := 0) e (fun j a b => decide_eq_false (fun hj => h1 (key j a b hj).1)), List.nil_append]
    by_cases h2 : (3 ≤ s 4 e ∧ s 4 e ≤ 7) ∧ s 6 e = -1
    · rw [if_pos h2, if_pos (decide_eq_true (o7 ⟨h2.1.1, h2.1.2, h2.2⟩))]
    · rw [if_neg h2, if_neg]
      intro hd
      have hd := of_decide_eq_true hd
      by_cases h8 : s 4 e ≤ 2 ∨ s 4 e = 8
      · have := o6 h8; omega
      · by_cases ho : s 6 e = -1
        · exact h2 ⟨by omega, ho⟩
        · by_cases h7 : s 4 e = 7
          · have := o4 (Or.inl h7); omega
          · rcases o8 ⟨by omega, by omega, by omega⟩ with h | h <;> omega
theorem ll_el {s : aS} (hJ : jJ s) {lo : Int} (l0 : 0 ≤ lo) : ∀ hi : Int, hi ≤ s 2 9 → llS s lo hi = eL s lo hi := by
  refine stepDown lo (fun hi ih h => ?_)
  by_cases h1 : lo < hi
  · have e := eL_l (s := s) (lo := lo) (hi := hi - 1) (by omega)
    have e' := ll_l (s := s) (lo := lo) (hi := hi - 1) (by omega)
    rw [show hi - 1 + 1 = hi by omega] at e e'
    rw [e, e', ih h1 (by omega), lc_el hJ (by omega) (by omega), show hi - 1 + 1 = hi by omega]
  · rw [eL_e (by omega), ll_e (by omega)]
/-- no more effects than records -/
theorem el_len {s : aS} (hJ : jJ s) {lo : Int} (l0 : 0 ≤ lo) : ∀ hi : Int, hi ≤ s 2 9 → ((eL s lo hi).length : Int) = sI (fun k => if lo ≤ s 18 k ∧ s 18 k < hi then 1 else 0) 0 hi := by
  refine stepDown lo (fun hi ih h => ?_)
  by_cases h1 : lo < hi
  · have e := eL_l (s := s) (lo := lo) (hi := hi - 1) (by omega)
    rw [show hi - 1 + 1 = hi by omega] at e
    rw [e, List.length_append, Int.natCast_add, ih h1 (by omega), lI_len]
    have sp := sI_l (f := fun k => if lo ≤ s 18 k ∧ s 18 k < hi - 1 then (1 : Int) else 0) (lo := 0) (hi := hi - 1) (by omega)
    rw [show hi - 1 + 1 = hi by omega] at sp
    have z : (if lo ≤ s 18 (hi - 1) ∧ s 18 (hi - 1) < hi - 1 then (1 : Int) else 0) = 0 := by
      rw [if_neg]
      intro hh
      have := j_ef hJ (k := hi - 1) (by omega) (by omega)
      omega
    have sp2 : sI (fun k => if lo ≤ s 18 k ∧ s 18 k < hi - 1 then (1 : Int) else 0) 0 (hi - 1) = sI (fun k => if lo ≤ s 18 k ∧ s 18 k < hi - 1 then (1 : Int) else 0) 0 hi := by omega
    rw [sp2, ← sI_add]
    refine sI_c _ (fun k a b => ?_)
    by_cases c1 : s 18 k = hi - 1
    · rw [decide_eq_true c1, if_neg (by omega), if_pos rfl, if_pos (by omega)]; rfl
    · rw [decide_eq_false c1, if_neg (c := false = true) (by decide)]
      by_cases c2 : lo ≤ s 18 k ∧ s 18 k < hi
      · rw [if_pos (by omega), if_pos c2]; rfl
      · rw [if_neg (by omega), if_neg c2]; rfl
  · rw [eL_e (by omega)]
    by_cases hz : 0 ≤ hi
    · rw [sI_c (g := fun _ => 0) hi (fun k a b => if_neg (by omega)), sI_k _ hz, Int.zero_mul]
      rfl
    · rw [sI_e (by omega)]
      rfl
theorem el_le {s : aS} (hJ : jJ s) {lo hi : Int} (l0 : 0 ≤ lo) (h0 : 0 ≤ hi) (h : hi ≤ s 2 9) : ((eL s lo hi).length : Int) ≤ 400 := by
  have B := jb hJ
  rw [el_len hJ l0 hi h]
  have := sI_ub (f := fun k => if lo ≤ s 18 k ∧ s 18 k < hi then (1 : Int) else 0) (lo := 0) (c := 1) hi h0 (fun i _ _ => by split <;> omega)
  omega
theorem jJ_v {a b : aS} (h : jJ a) (hf : ∀ k : Nat, k ≠ 51 → k ≠ 53 → k ≠ 59 → b k = a k) : jJ b := by
  have el0 : ∀ (lo : Int) (n : Nat), el b lo n = el a lo n := by
    intro lo n
    induction n with
    | zero => rfl
    | succ n ih => show el b lo n ++ lI (fun k => decide (b 18 k = lo + n)) 0 (lo + n + 1) = el a lo n ++ lI (fun k => decide (a 18 k = lo + n)) 0 (lo + n + 1); rw [ih, hf 18 (by decide) (by decide) (by decide)]
  have ec : fch b = fch a := by
    funext x k
    unfold fch
    rw [hf 4 (by decide) (by decide) (by decide), hf 8 (by decide) (by decide) (by decide), hf 10 (by decide) (by decide) (by decide), hf 12 (by decide) (by decide) (by decide)]
  unfold jJ jB jR jR1 jR2 jD jT jV jC jS jN jH jY eL at h ⊢
  rw [ec]
  simp only [el0]
  rw [hf 0 (by decide) (by decide) (by decide), hf 1 (by decide) (by decide) (by decide), hf 2 (by decide) (by decide) (by decide), hf 4 (by decide) (by decide) (by decide), hf 6 (by decide) (by decide) (by decide), hf 8 (by decide) (by decide) (by decide), hf 10 (by decide) (by decide) (by decide), hf 12 (by decide) (by decide) (by decide), hf 14 (by decide) (by decide) (by decide), hf 18 (by decide) (by decide) (by decide), hf 20 (by decide) (by decide) (by decide), hf 21 (by decide) (by decide) (by decide), hf 23 (by decide) (by decide) (by decide), hf 25 (by decide) (by decide) (by decide), hf 26 (by decide) (by decide) (by decide), hf 28 (by decide) (by decide) (by decide), hf 30 (by decide) (by decide) (by decide), hf 32 (by decide) (by decide) (by decide), hf 34 (by decide) (by decide) (by decide), hf 36 (by decide) (by decide) (by decide), hf 38 (by decide) (by decide) (by decide), hf 41 (by decide) (by decide) (by decide), hf 43 (by decide) (by decide) (by decide), hf 46 (by decide) (by decide) (by decide), hf 48 (by decide) (by decide) (by decide), hf 55 (by decide) (by decide) (by decide), hf 57 (by decide) (by decide) (by decide), hf 61 (by decide) (by decide) (by decide), hf 85 (by decide) (by decide) (by decide)]
  exact h
theorem rJ_v {s t a : aS} (h : rJ s a) (hf : ∀ k : Nat, k ≠ 51 → k ≠ 53 → k ≠ 59 → t k = s k) : rJ t a := by
  unfold rJ rL rS rR rG rT rV rC rP rK rM rX at h ⊢
  rw [hf 0 (by decide) (by decide) (by decide), hf 1 (by decide) (by decide) (by decide), hf 2 (by decide) (by decide) (by decide), hf 4 (by decide) (by decide) (by decide), hf 6 (by decide) (by decide) (by decide), hf 8 (by decide) (by decide) (by decide), hf 10 (by decide) (by decide) (by decide), hf 12 (by decide) (by decide) (by decide), hf 14 (by decide) (by decide) (by decide), hf 16 (by decide) (by decide) (by decide), hf 18 (by decide) (by decide) (by decide), hf 20 (by decide) (by decide) (by decide), hf 21 (by decide) (by decide) (by decide), hf 23 (by decide) (by decide) (by decide), hf 26 (by decide) (by decide) (by decide), hf 28 (by decide) (by decide) (by decide), hf 30 (by decide) (by decide) (by decide), hf 32 (by decide) (by decide) (by decide), hf 34 (by decide) (by decide) (by decide), hf 36 (by decide) (by decide) (by decide), hf 38 (by decide) (by decide) (by decide), hf 46 (by decide) (by decide) (by decide), hf 48 (by decide) (by decide) (by decide), hf 55 (by decide) (by decide) (by decide), hf 61 (by decide) (by decide) (by decide), hf 62 (by decide) (by decide) (by decide), hf 63 (by decide) (by decide) (by decide), hf 85 (by decide) (by decide) (by decide)]
  exact h
theorem rL_vF {s a b : aS} (h : rL s a) (hf : vF a b) : rL s b := by
  unfold rL rS rR rG rT rV rC rP rK rM at h ⊢
  rw [hf 86 (by decide) (by decide), hf 88 (by decide) (by decide), hf 89 (by decide) (by decide), hf 90 (by decide) (by decide), hf 91 (by decide) (by decide), hf 92 (by decide) (by decide), hf 93 (by decide) (by decide), hf 94 (by decide) (by decide), hf 95 (by decide) (by decide), hf 96 (by decide) (by decide), hf 97 (by decide) (by decide), hf 98 (by decide) (by decide), hf 99 (by decide) (by decide), hf 100 (by decide) (by decide), hf 101 (by decide) (by decide), hf 102 (by decide) (by decide), hf 103 (by decide) (by decide), hf 104 (by decide) (by decide), hf 105 (by decide) (by decide), hf 106 (by decide) (by decide), hf 107 (by decide) (by decide), hf 108 (by decide) (by decide)]
  exact h
theorem m_v_ret {g : qG} {D : Nat} {M : qMd} {as : List qP} {s : aS} {r : Int} (h : ∀ (a : aS) (Q : Int32 → qS → Prop), rL s (aup a 86 0 0) → (∀ u, vF (aup a 86 0 0) u → Q (iI r) (qi u)) → rL s a → qC g D M (.inr 86 :: as) (qi a) Q (fun _ _ => False)) : mO g D M as s s (.inl r) := by
  intro a Q hr hQ
  refine h a Q (rJ_t hr 0).1 (fun u hv => hQ u r ⟨rL_vF (rJ_t hr 0).1 hv, ?_⟩ (fun k hk => ?_) (fun v hv' => ⟨?_, by cases hv'; rfl⟩) (fun j hj => by cases hj)) hr.1
  · refine rX_fr hr.2 ?_ (fun i hi => ?_)
    · rw [hv 87 (by decide) (by decide), aup_o (by decide)]
    · rw [hv 86 (by decide) (by decide), aup_k, if_neg hi]
  · rw [hv k (by omega) (by omega), aup_o (by omega)]
  · rw [hv 86 (by decide) (by decide), aup_s]
section RV
variable {g : qG} {s : aS} {d : Nat} {Q : Int32 → qS → Prop} {T : String → qS → Prop}
theorem k_recover49_l (hw : qWF g) {n p : Int} (n1 : n ≤ 400) : ∀ (l : List Int) (u : aS) (i : Int), 0 ≤ i → i + l.length = n → (∀ (j : Nat) (x : Int), l[j]? = some x → u 59 (i + j) = x) → (∀ k ∈ l, (0 ≤ k ∧ k < 400) ∧ jR1 s k) → (∀ x : Nat, x ≠ 51 → x ≠ 53 → x ≠ 59 → u x = s x) → f01 (u 51) → (∀ u' : aS, (∀ x : Nat, x ≠ 51 → x ≠ 53 → x ≠ 59 → u' x = s x) → f01 (u' 51) → (u' 51, u' 53) = l.foldl (fch s) (u 51, u 53) → Q (iI 0) (qi u')) → qV g mX2_recover (d + 3) 0 28 [some (.inr 1), some (.inr 49), some (.inl (iI p)), some (.inl (iI n)), some (.inl (iI i))] [] (qi u) Q T := by
  intro l
  induction l with
  | nil =>
    intro u i i0 hn hl hk ho hx hQ
    have hn' : i = n := by rw [← hn]; show i = i + ((0 : Nat) : Int); omega
    refine wX2_recoverf49_28 hw ?_
    simp (disch := omega) only [z_app, z_rd, z_cl, z_add, z_sub, z_mul, z_neg, z_lit, z_leT, z_leF, z_ltT, z_ltF, z_eqT, z_eqF, i_leT, i_leF, i_ltT, i_ltF, i_eqT, i_eqF, z_le, z_lt, z_eq, z_ite, z_at, z_pt, z_up, z_wr, z_wi1, z_wi0, z_wi, z_inS, z_toInt, z_nb0, z_nb1, Int.cast_ofNat_Int, true_and, and_true, not_true_eq_false, not_false_eq_true, false_imp_iff, true_imp_iff, aup_o, aup_k, ite_true, ite_false, z_fa000, z_fa001, z_fa010, z_fa011, z_fa100, z_fa101, z_fa110, z_fa111, if_true, if_false]
    exact hQ u ho hx rfl
  | cons k t ih =>
    intro u i i0 hn hl hk ho hx hQ
    rw [List.length_cons] at hn
    have h9 : u 59 i = k := by
      have := hl 0 k rfl
      rw [show i + ((0 : Nat) : Int) = i by omega] at this
      exact this
    obtain ⟨⟨k0, k1⟩, hR⟩ := hk k List.mem_cons_self
    have o4 := ho 4 (by decide) (by decide) (by decide)
    have o8 := ho 8 (by decide) (by decide) (by decide)
    have o10 := ho 10 (by decide) (by decide) (by decide)
    have o12 := ho 12 (by decide) (by decide) (by decide)
    have o14 := ho 14 (by decide) (by decide) (by decide)
    have ec : fch u = fch s := fch_c o4 o8 o10 o12
    have hR' : jR1 u k := by
      unfold jR1 at hR ⊢
      rw [o4, o8, o10, o12, o14]
      exact hR
    have v1 : apF u 51 53 k 51 = (fch s (u 51, u 53) k).1 := by funext i; unfold apF; rw [if_pos rfl, ec]
    have v2 : apF u 51 53 k 53 = (fch s (u 51, u 53) k).2 := by funext i; unfold apF; rw [if_neg (by decide), if_pos rfl, ec]
    refine wX2_recoverf49_28 hw ?_
    simp (disch := omega) only [z_app, z_rd, z_cl, z_add, z_sub, z_mul, z_neg, z_lit, z_leT, z_leF, z_ltT, z_ltF, z_eqT, z_eqF, i_leT, i_leF, i_ltT, i_ltF, i_eqT, i_eqF, z_le, z_lt, z_eq, z_ite, z_at, z_pt, z_up, z_wr, z_wi1, z_wi0, z_wi, z_inS, z_toInt, z_nb0, z_nb1, Int.cast_ofNat_Int, true_and, and_true, not_true_eq_false, not_false_eq_true, false_imp_iff, true_imp_iff, aup_o, aup_k, ite_true, ite_false, z_fa000, z_fa001, z_fa010, z_fa011, z_fa100, z_fa101, z_fa110, z_fa111, if_true, if_false, h9]
    refine k_apply49 hw k0 k1 hR' hx ?_
    refine ih (apF u 51 53 k) (i + 1) (by omega) (by omega) (fun j x hj => ?_) (fun j hj => hk j (List.mem_cons_of_mem _ hj)) (fun x h1 h2 h3 => by rw [ap_o h1 h2, ho x h1 h2 h3]) (by rw [v1]; exact f01_ch hR hx) (fun u' a1 a2 a3 => hQ u' a1 a2 ?_)
    · rw [ap_o (by decide) (by decide)]
      have := hl (j + 1) x hj
      rw [show i + ((j + 1 : Nat) : Int) = i + 1 + (j : Int) by omega] at this
      exact this
    · rw [a3, v1, v2]
      rfl
theorem k_recover49W (hw : qWF g) {p : Int} (m0 : 0 ≤ s 1 11) (p0 : s 1 11 ≤ p) (p1 : p ≤ 400) (hR : ∀ j, 0 ≤ j → j < p → jR1 s j ∧ (-1 ≤ s 6 j ∧ s 6 j ≤ 400) ∧ (s 4 j = 1 → s 6 j < j)) (K46 : f01 (s 46)) (hL : llS s (s 1 11) p = eL s (s 1 11) p) (LL : ((eL s (s 1 11) p).length : Int) ≤ 400) (hQ : ∀ u' : aS, (∀ x : Nat, x ≠ 51 → x ≠ 53 → x ≠ 59 → u' x = s x) → f01 (u' 51) → fEq (u' 51, u' 53) ((eL s (s 1 11) p).foldl (fch s) (s 46, s 48)) → Q (iI 0) (qi u')) : qC g (d + 4) mX2_recover [.inr 1, .inr 49, .inl (iI p)] (qi s) Q T := by
  have so : ∀ x : Nat, x ≠ 51 → x ≠ 53 → bcF s 51 53 46 48 8 32 x = s x := by
    intro x h1 h2
    funext i
    unfold bcF
    rw [if_neg (fun y => h1 y.1), if_neg (fun y => h2 y.1)]
  have L0 : llS (bcF s 51 53 46 48 8 32) (s 1 11) p = eL s (s 1 11) p := by
    rw [← hL]
    have : ∀ n, llF (bcF s 51 53 46 48 8 32) (s 1 11) n = llF s (s 1 11) n := by
      intro n
      induction n with
      | zero => rfl
      | succ n ih =>
        show llF (bcF s 51 53 46 48 8 32) (s 1 11) n ++ lcS (bcF s 51 53 46 48 8 32) (s 1 11 + n) = llF s (s 1 11) n ++ lcS s (s 1 11 + n)
        rw [ih]
        rfl
    exact this _
  have e11 : bcF s 51 53 46 48 8 32 1 11 = s 1 11 := rfl
  refine wX2_recoverf49 hw (k_become49x44 hw ?_)
  simp (disch := omega) only [z_app, z_rd, z_cl, z_add, z_sub, z_mul, z_neg, z_lit, z_leT, z_leF, z_ltT, z_ltF, z_eqT, z_eqF, i_leT, i_leF, i_ltT, i_ltF, i_eqT, i_eqF, z_le, z_lt, z_eq, z_ite, z_at, z_pt, z_up, z_wr, z_wi1, z_wi0, z_wi, z_inS, z_toInt, z_nb0, z_nb1, Int.cast_ofNat_Int, true_and, and_true, not_true_eq_false, not_false_eq_true, false_imp_iff, true_imp_iff, aup_o, aup_k, ite_true, ite_false, z_fa000, z_fa001, z_fa010, z_fa011, z_fa100, z_fa101, z_fa110, z_fa111, if_true, if_false, e11]
  refine k_listEffects (s := bcF s 51 53 46 48 8 32) hw m0 p0 p1 (fun j j0 j1 => ?_) (by rw [L0]; exact LL) ?_
  · obtain ⟨r1, r2, r3⟩ := hR j j0 j1
    rw [so 4 (by decide) (by decide), so 6 (by decide) (by decide)]
    exact ⟨r2, r1.1, r3⟩
  · rw [L0]
    have x1 : ∀ f, 0 ≤ f → f < 8 → awl (bcF s 51 53 46 48 8 32) 59 0 (eL s (s 1 11) p) 51 f = s 46 f := by
      intro f f0 f1
      rw [awl_o (by decide)]
      unfold bcF
      rw [if_pos ⟨rfl, f0, f1⟩]
    have x2 : ∀ f, 0 ≤ f → f < 32 → awl (bcF s 51 53 46 48 8 32) 59 0 (eL s (s 1 11) p) 53 f = s 48 f := by
      intro f f0 f1
      rw [awl_o (by decide)]
      unfold bcF
      rw [if_neg (by simp), if_pos ⟨rfl, f0, f1⟩]
    refine k_recover49_l (s := s) hw LL _ _ 0 (by omega) (by omega) (fun j x hj => awl_at _ _ 0 j x hj) (fun k hk => ?_) (fun x h1 h2 h3 => by rw [awl_o h3, so x h1 h2]) (fun f f0 f1 => by rw [x1 f f0 f1]; exact K46 f f0 f1) (fun u' a1 a2 a3 => hQ u' a1 a2 ?_)
    · have m := eL_m m0 _ hk
      exact ⟨⟨m.1, by omega⟩, (hR k m.1 (by omega)).1⟩
    · rw [a3]
      refine fEq_fold _ _ _ (fun k hk => ?_) (fun f f0 f1 => ⟨x1 f f0 f1, fun _ q q0 q1 => x2 _ (by omega) (by omega)⟩)
      have m := eL_m m0 _ hk
      exact (hR k m.1 (by omega)).1
theorem k_recover49 (hw : qWF g) (hJ : jJ s) {p : Int} (p0 : s 1 11 ≤ p) (p1 : p ≤ s 2 9) (hQ : ∀ u' : aS, (∀ x : Nat, x ≠ 51 → x ≠ 53 → x ≠ 59 → u' x = s x) → f01 (u' 51) → fEq (u' 51, u' 53) ((eL s (s 1 11) p).foldl (fch s) (s 46, s 48)) → Q (iI 0) (qi u')) : qC g (d + 4) mX2_recover [.inr 1, .inr 49, .inl (iI p)] (qi s) Q T := by
  have B := jb hJ
  refine k_recover49W hw (by omega) p0 (by omega) (fun j j0 j1 => ?_) (f01_kept hJ) (ll_el hJ (by omega) p p1) (el_le hJ (by omega) (by omega) p1) hQ
  obtain ⟨r1, r2⟩ := hJ.2.1 j j0 (by omega)
  have q2 := r2.1
  exact ⟨r1, ⟨q2.1, by omega⟩, fun h => r2.2.2.1 (by omega)⟩
theorem k_valueOf49 (hw : qWF g) {f p : Int} (f0 : 0 ≤ f) (f1 : f < 8) (p0 : 0 ≤ p) (p1 : p < 4) (hx : f01 (s 51)) (hQ : Q (iI (bkV (s 51, s 53) f p)) (qi s)) : qC g (d + 1) mX1_valueOf [.inr 49, .inl (iI f), .inl (iI p)] (qi s) Q T := by
  have X := hx f f0 f1
  refine wX1_valueOff49 hw ?_
  unfold bkV at hQ
  have e : f * 4 + p = 4 * f + p := by omega
  by_cases h : s 51 f = 1
  · rw [if_pos h] at hQ
    simp (disch := omega) only [z_app, z_rd, z_cl, z_add, z_sub, z_mul, z_neg, z_lit, z_leT, z_leF, z_ltT, z_ltF, z_eqT, z_eqF, i_leT, i_leF, i_ltT, i_ltF, i_eqT, i_eqF, z_le, z_lt, z_eq, z_ite, z_at, z_pt, z_up, z_wr, z_wi1, z_wi0, z_wi, z_inS, z_toInt, z_nb0, z_nb1, Int.cast_ofNat_Int, true_and, and_true, not_true_eq_false, not_false_eq_true, false_imp_iff, true_imp_iff, aup_o, aup_k, ite_true, ite_false, z_fa000, z_fa001, z_fa010, z_fa011, z_fa100, z_fa101, z_fa110, z_fa111, if_true, if_false, e]
    exact hQ
  · rw [if_neg h] at hQ
    simp (disch := omega) only [z_app, z_rd, z_cl, z_add, z_sub, z_mul, z_neg, z_lit, z_leT, z_leF, z_ltT, z_ltF, z_eqT, z_eqF, i_leT, i_leF, i_ltT, i_ltF, i_eqT, i_eqF, z_le, z_lt, z_eq, z_ite, z_at, z_pt, z_up, z_wr, z_wi1, z_wi0, z_wi, z_inS, z_toInt, z_nb0, z_nb1, Int.cast_ofNat_Int, true_and, and_true, not_true_eq_false, not_false_eq_true, false_imp_iff, true_imp_iff, aup_o, aup_k, ite_true, ite_false, z_fa000, z_fa001, z_fa010, z_fa011, z_fa100, z_fa101, z_fa110, z_fa111, if_true, if_false]
    exact hQ
theorem k_recover39_l (hw : qWF g) {n p : Int} (n1 : n ≤ 400) : ∀ (l : List Int) (u : aS) (i : Int), 0 ≤ i → i + l.length = n → (∀ (j : Nat) (x : Int), l[j]? = some x → u 59 (i + j) = x) → (∀ k ∈ l, (0 ≤ k ∧ k < 400) ∧ jR1 s k) → (∀ x : Nat, x ≠ 41 → x ≠ 43 → x ≠ 59 → u x = s x) → f01 (u 41) → (∀ u' : aS, (∀ x : Nat, x ≠ 41 → x ≠ 43 → x ≠ 59 → u' x = s x) → f01 (u' 41) → (u' 41, u' 43) = l.foldl (fch s) (u 41, u 43) → Q (iI 0) (qi u')) → qV g mX2_recover (d + 3) 0 28 [some (.inr 1), some (.inr 39), some (.inl (iI p)), some (.inl (iI n)), some (.inl (iI i))] [] (qi u) Q T := by
  intro l
  induction l with
  | nil =>
    intro u i i0 hn hl hk ho hx hQ
    have hn' : i = n := by rw [← hn]; show i = i + ((0 : Nat) : Int); omega
    refine wX2_recoverf39_28 hw ?_
    simp (disch := omega) only [z_app, z_rd, z_cl, z_add, z_sub, z_mul, z_neg, z_lit, z_leT, z_leF, z_ltT, z_ltF, z_eqT, z_eqF, i_leT, i_leF, i_ltT, i_ltF, i_eqT, i_eqF, z_le, z_lt, z_eq, z_ite, z_at, z_pt, z_up, z_wr, z_wi1, z_wi0, z_wi, z_inS, z_toInt, z_nb0, z_nb1, Int.cast_ofNat_Int, true_and, and_true, not_true_eq_false, not_false_eq_true, false_imp_iff, true_imp_iff, aup_o, aup_k, ite_true, ite_false, z_fa000, z_fa001, z_fa010, z_fa011, z_fa100, z_fa101, z_fa110, z_fa111, if_true, if_false]
    exact hQ u ho hx rfl
  | cons k t ih =>
    intro u i i0 hn hl hk ho hx hQ
    rw [List.length_cons] at hn
    have h9 : u 59 i = k := by
      have := hl 0 k rfl
      rw [show i + ((0 : Nat) : Int) = i by omega] at this
      exact this
    obtain ⟨⟨k0, k1⟩, hR⟩ := hk k List.mem_cons_self
    have o4 := ho 4 (by decide) (by decide) (by decide)
    have o8 := ho 8 (by decide) (by decide) (by decide)
    have o10 := ho 10 (by decide) (by decide) (by decide)
    have o12 := ho 12 (by decide) (by decide) (by decide)
    have o14 := ho 14 (by decide) (by decide) (by decide)
    have ec : fch u = fch s := fch_c o4 o8 o10 o12
    have hR' : jR1 u k := by
      unfold jR1 at hR ⊢
      rw [o4, o8, o10, o12, o14]
      exact hR
    have v1 : apF u 41 43 k 41 = (fch s (u 41, u 43) k).1 := by funext i; unfold apF; rw [if_pos rfl, ec]
    have v2 : apF u 41 43 k 43 = (fch s (u 41, u 43) k).2 := by funext i; unfold apF; rw [if_neg (by decide), if_pos rfl, ec]
    refine wX2_recoverf39_28 hw ?_
    simp (disch := omega) only [z_app, z_rd, z_cl, z_add, z_sub, z_mul, z_neg, z_lit, z_leT, z_leF, z_ltT, z_ltF, z_eqT, z_eqF, i_leT, i_leF, i_ltT, i_ltF, i_eqT, i_eqF, z_le, z_lt, z_eq, z_ite, z_at, z_pt, z_up, z_wr, z_wi1, z_wi0, z_wi, z_inS, z_toInt, z_nb0, z_nb1, Int.cast_ofNat_Int, true_and, and_true, not_true_eq_false, not_false_eq_true, false_imp_iff, true_imp_iff, aup_o, aup_k, ite_true, ite_false, z_fa000, z_fa001, z_fa010, z_fa011, z_fa100, z_fa101, z_fa110, z_fa111, if_true, if_false, h9]
    refine k_apply39 hw k0 k1 hR' hx ?_
    refine ih (apF u 41 43 k) (i + 1) (by omega) (by omega) (fun j x hj => ?_) (fun j hj => hk j (List.mem_cons_of_mem _ hj)) (fun x h1 h2 h3 => by rw [ap_o h1 h2, ho x h1 h2 h3]) (by rw [v1]; exact f01_ch hR hx) (fun u' a1 a2 a3 => hQ u' a1 a2 ?_)
    · rw [ap_o (by decide) (by decide)]
      have := hl (j + 1) x hj
      rw [show i + ((j + 1 : Nat) : Int) = i + 1 + (j : Int) by omega] at this
      exact this
    · rw [a3, v1, v2]
      rfl
theorem k_recover39W (hw : qWF g) {p : Int} (m0 : 0 ≤ s 1 11) (p0 : s 1 11 ≤ p) (p1 : p ≤ 400) (hR : ∀ j, 0 ≤ j → j < p → jR1 s j ∧ (-1 ≤ s 6 j ∧ s 6 j ≤ 400) ∧ (s 4 j = 1 → s 6 j < j)) (K46 : f01 (s 46)) (hL : llS s (s 1 11) p = eL s (s 1 11) p) (LL : ((eL s (s 1 11) p).length : Int) ≤ 400) (hQ : ∀ u' : aS, (∀ x : Nat, x ≠ 41 → x ≠ 43 → x ≠ 59 → u' x = s x) → f01 (u' 41) → fEq (u' 41, u' 43) ((eL s (s 1 11) p).foldl (fch s) (s 46, s 48)) → Q (iI 0) (qi u')) : qC g (d + 4) mX2_recover [.inr 1, .inr 39, .inl (iI p)] (qi s) Q T := by
  have so : ∀ x : Nat, x ≠ 41 → x ≠ 43 → bcF s 41 43 46 48 8 32 x = s x := by
    intro x h1 h2
    funext i
    unfold bcF
    rw [if_neg (fun y => h1 y.1), if_neg (fun y => h2 y.1)]
  have L0 : llS (bcF s 41 43 46 48 8 32) (s 1 11) p = eL s (s 1 11) p := by
    rw [← hL]
    have : ∀ n, llF (bcF s 41 43 46 48 8 32) (s 1 11) n = llF s (s 1 11) n := by
      intro n
      induction n with
      | zero => rfl
      | succ n ih =>
        show llF (bcF s 41 43 46 48 8 32) (s 1 11) n ++ lcS (bcF s 41 43 46 48 8 32) (s 1 11 + n) = llF s (s 1 11) n ++ lcS s (s 1 11 + n)
        rw [ih]
        rfl
    exact this _
  have e11 : bcF s 41 43 46 48 8 32 1 11 = s 1 11 := rfl
  refine wX2_recoverf39 hw (k_become39x44 hw ?_)
  simp (disch := omega) only [z_app, z_rd, z_cl, z_add, z_sub, z_mul, z_neg, z_lit, z_leT, z_leF, z_ltT, z_ltF, z_eqT, z_eqF, i_leT, i_leF, i_ltT, i_ltF, i_eqT, i_eqF, z_le, z_lt, z_eq, z_ite, z_at, z_pt, z_up, z_wr, z_wi1, z_wi0, z_wi, z_inS, z_toInt, z_nb0, z_nb1, Int.cast_ofNat_Int, true_and, and_true, not_true_eq_false, not_false_eq_true, false_imp_iff, true_imp_iff, aup_o, aup_k, ite_true, ite_false, z_fa000, z_fa001, z_fa010, z_fa011, z_fa100, z_fa101, z_fa110, z_fa111, if_true, if_false, e11]
  refine k_listEffects (s := bcF s 41 43 46 48 8 32) hw m0 p0 p1 (fun j j0 j1 => ?_) (by rw [L0]; exact LL) ?_
  · obtain ⟨r1, r2, r3⟩ := hR j j0 j1
    rw [so 4 (by decide) (by decide), so 6 (by decide) (by decide)]
    exact ⟨r2, r1.1, r3⟩
  · rw [L0]
    have x1 : ∀ f, 0 ≤ f → f < 8 → awl (bcF s 41 43 46 48 8 32) 59 0 (eL s (s 1 11) p) 41 f = s 46 f := by
      intro f f0 f1
      rw [awl_o (by decide)]
      unfold bcF
      rw [if_pos ⟨rfl, f0, f1⟩]
    have x2 : ∀ f, 0 ≤ f → f < 32 → awl (bcF s 41 43 46 48 8 32) 59 0 (eL s (s 1 11) p) 43 f = s 48 f := by
      intro f f0 f1
      rw [awl_o (by decide)]
      unfold bcF
      rw [if_neg (by simp), if_pos ⟨rfl, f0, f1⟩]
    refine k_recover39_l (s := s) hw LL _ _ 0 (by omega) (by omega) (fun j x hj => awl_at _ _ 0 j x hj) (fun k hk => ?_) (fun x h1 h2 h3 => by rw [awl_o h3, so x h1 h2]) (fun f f0 f1 => by rw [x1 f f0 f1]; exact K46 f f0 f1) (fun u' a1 a2 a3 => hQ u' a1 a2 ?_)
    · have m := eL_m m0 _ hk
      exact ⟨⟨m.1, by omega⟩, (hR k m.1 (by omega)).1⟩
    · rw [a3]
      refine fEq_fold _ _ _ (fun k hk => ?_) (fun f f0 f1 => ⟨x1 f f0 f1, fun _ q q0 q1 => x2 _ (by omega) (by omega)⟩)
      have m := eL_m m0 _ hk
      exact (hR k m.1 (by omega)).1
theorem k_recover39 (hw : qWF g) (hJ : jJ s) {p : Int} (p0 : s 1 11 ≤ p) (p1 : p ≤ s 2 9) (hQ : ∀ u' : aS, (∀ x : Nat, x ≠ 41 → x ≠ 43 → x ≠ 59 → u' x = s x) → f01 (u' 41) → fEq (u' 41, u' 43) ((eL s (s 1 11) p).foldl (fch s) (s 46, s 48)) → Q (iI 0) (qi u')) : qC g (d + 4) mX2_recover [.inr 1, .inr 39, .inl (iI p)] (qi s) Q T := by
  have B := jb hJ
  refine k_recover39W hw (by omega) p0 (by omega) (fun j j0 j1 => ?_) (f01_kept hJ) (ll_el hJ (by omega) p p1) (el_le hJ (by omega) (by omega) p1) hQ
  obtain ⟨r1, r2⟩ := hJ.2.1 j j0 (by omega)
  have q2 := r2.1
  exact ⟨r1, ⟨q2.1, by omega⟩, fun h => r2.2.2.1 (by omega)⟩
theorem k_valueOf39 (hw : qWF g) {f p : Int} (f0 : 0 ≤ f) (f1 : f < 8) (p0 : 0 ≤ p) (p1 : p < 4) (hx : f01 (s 41)) (hQ : Q (iI (bkV (s 41, s 43) f p)) (qi s)) : qC g (d + 1) mX1_valueOf [.inr 39, .inl (iI f), .inl (iI p)] (qi s) Q T := by
  have X := hx f f0 f1
  refine wX1_valueOff39 hw ?_
  unfold bkV at hQ
  have e : f * 4 + p = 4 * f + p := by omega
  by_cases h : s 41 f = 1
  · rw [if_pos h] at hQ
    simp (disch := omega) only [z_app, z_rd, z_cl, z_add, z_sub, z_mul, z_neg, z_lit, z_leT, z_leF, z_ltT, z_ltF, z_eqT, z_eqF, i_leT, i_leF, i_ltT, i_ltF, i_eqT, i_eqF, z_le, z_lt, z_eq, z_ite, z_at, z_pt, z_up, z_wr, z_wi1, z_wi0, z_wi, z_inS, z_toInt, z_nb0, z_nb1, Int.cast_ofNat_Int, true_and, and_true, not_true_eq_false, not_false_eq_true, false_imp_iff, true_imp_iff, aup_o, aup_k, ite_true, ite_false, z_fa000, z_fa001, z_fa010, z_fa011, z_fa100, z_fa101, z_fa110, z_fa111, if_true, if_false, e]
    exact hQ
  · rw [if_neg h] at hQ
    simp (disch := omega) only [z_app, z_rd, z_cl, z_add, z_sub, z_mul, z_neg, z_lit, z_leT, z_leF, z_ltT, z_ltF, z_eqT, z_eqF, i_leT, i_leF, i_ltT, i_ltF, i_eqT, i_eqF, z_le, z_lt, z_eq, z_ite, z_at, z_pt, z_up, z_wr, z_wi1, z_wi0, z_wi, z_inS, z_toInt, z_nb0, z_nb1, Int.cast_ofNat_Int, true_and, and_true, not_true_eq_false, not_false_eq_true, false_imp_iff, true_imp_iff, aup_o, aup_k, ite_true, ite_false, z_fa000, z_fa001, z_fa010, z_fa011, z_fa100, z_fa101, z_fa110, z_fa111, if_true, if_false]
    exact hQ
theorem m_seen (hw : qWF g) {m : aS} (hJ : jJ s) (hr : rL s m) {p f q : Int} (p0 : s 1 11 ≤ p) (p1 : p ≤ s 2 9) (f0 : 0 ≤ f) (f1 : f < 8) (q0 : 0 ≤ q) (q1 : q < 4) (hQ : ∀ u, vF m u → Q (iI (bkV ((eL s (s 1 11) p).foldl (fch s) (s 46, s 48)) f q)) (qi u)) : qC g (d + 3) mX10_seen [.inr 86, .inl (iI p), .inl (iI f), .inl (iI q)] (qi m) Q T := by
  refine wX10_seen hw (m_layView hw hJ hr p0 p1 (fun u hv hx hf => ?_))
  have X := hx f f0 f1
  have h1 := hQ u hv
  rw [bk_eq hf f0 f1 q0 q1] at h1
  unfold bkV at h1
  by_cases h : u 110 f = 1
  · have h1' : Q (iI (u 109 (4 * f + q))) (qi u) := by rw [if_pos h] at h1; exact h1
    simp (disch := omega) only [z_app, z_rd, z_cl, z_add, z_sub, z_mul, z_neg, z_lit, z_leT, z_leF, z_ltT, z_ltF, z_eqT, z_eqF, i_leT, i_leF, i_ltT, i_ltF, i_eqT, i_eqF, z_le, z_lt, z_eq, z_ite, z_at, z_pt, z_up, z_wr, z_wi1, z_wi0, z_wi, z_inS, z_toInt, z_nb0, z_nb1, Int.cast_ofNat_Int, true_and, and_true, not_true_eq_false, not_false_eq_true, false_imp_iff, true_imp_iff, aup_o, aup_k, ite_true, ite_false, z_fa000, z_fa001, z_fa010, z_fa011, z_fa100, z_fa101, z_fa110, z_fa111, if_true, if_false]
    exact h1'
  · have h1' : Q (iI (-1)) (qi u) := by rw [if_neg h] at h1; exact h1
    simp (disch := omega) only [z_app, z_rd, z_cl, z_add, z_sub, z_mul, z_neg, z_lit, z_leT, z_leF, z_ltT, z_ltF, z_eqT, z_eqF, i_leT, i_leF, i_ltT, i_ltF, i_eqT, i_eqF, z_le, z_lt, z_eq, z_ite, z_at, z_pt, z_up, z_wr, z_wi1, z_wi0, z_wi, z_inS, z_toInt, z_nb0, z_nb1, Int.cast_ofNat_Int, true_and, and_true, not_true_eq_false, not_false_eq_true, false_imp_iff, true_imp_iff, aup_o, aup_k, ite_true, ite_false, z_fa000, z_fa001, z_fa010, z_fa011, z_fa100, z_fa101, z_fa110, z_fa111, if_true, if_false]
    exact h1'
end RV
section PV
variable {g : qG}
theorem pr_29 (hw : qWF g) : ∀ (σ : qS) (a1 a2 : Int32), lR σ → lPair g 20 lR mX9_block mX10_block [.inl a1, .inl a2] ["java/lang/IndexOutOfBoundsException"] σ := by
  rintro σ x1 x2 ⟨a, rfl, hJ, hr⟩
  obtain ⟨f, ⟨i1, i2⟩, rfl⟩ := z_of x1
  obtain ⟨w, ⟨w1, w2⟩, rfl⟩ := z_of x2
  have B := jb hJ
  by_cases hf : 0 ≤ f ∧ f ≤ 7
  · by_cases hb : 0 ≤ w ∧ w ≤ 3
    · refine pair_of (o := .inl (bkV (a 41, a 43) f w)) (a' := a) (k_ret fun Q T hQ => wX9_block hw ?_) (m_v_ret fun m Q hr0 hQ hr1 => wX10_block hw (wX10_isBlock hw (wX10_isFile hw ?_))) hr hJ (fun _ _ => rfl) (es_n1 _)
      · simp (disch := omega) only [z_app, z_rd, z_cl, z_add, z_sub, z_mul, z_neg, z_lit, z_leT, z_leF, z_ltT, z_ltF, z_eqT, z_eqF, i_leT, i_leF, i_ltT, i_ltF, i_eqT, i_eqF, z_le, z_lt, z_eq, z_ite, z_at, z_pt, z_up, z_wr, z_wi1, z_wi0, z_wi, z_inS, z_toInt, z_nb0, z_nb1, Int.cast_ofNat_Int, true_and, and_true, not_true_eq_false, not_false_eq_true, false_imp_iff, true_imp_iff, aup_o, aup_k, ite_true, ite_false, z_fa000, z_fa001, z_fa010, z_fa011, z_fa100, z_fa101, z_fa110, z_fa111, if_true, if_false]
        exact k_rI1 hw (k_valueOf39 hw hf.1 (by omega) hb.1 (by omega) (f01_now hJ) hQ)
      · have e15 := rs_15 hr1
        simp (disch := omega) only [z_app, z_rd, z_cl, z_add, z_sub, z_mul, z_neg, z_lit, z_leT, z_leF, z_ltT, z_ltF, z_eqT, z_eqF, i_leT, i_leF, i_ltT, i_ltF, i_eqT, i_eqF, z_le, z_lt, z_eq, z_ite, z_at, z_pt, z_up, z_wr, z_wi1, z_wi0, z_wi, z_inS, z_toInt, z_nb0, z_nb1, Int.cast_ofNat_Int, true_and, and_true, not_true_eq_false, not_false_eq_true, false_imp_iff, true_imp_iff, aup_o, aup_k, ite_true, ite_false, z_fa000, z_fa001, z_fa010, z_fa011, z_fa100, z_fa101, z_fa110, z_fa111, if_true, if_false, e15]
        refine ⟨Or.inr trivial, Or.inr trivial, m_seen hw hJ hr0 (by omega) (Int.le_refl _) hf.1 (by omega) hb.1 (by omega) (fun u hv => ?_)⟩
        rw [← bk_eq hJ.2.2.2.2.2.2.2.1.2 hf.1 (by omega) hb.1 (by omega)]
        exact hQ u hv
    · refine pair_of (o := .inr 0) (a' := a) (k_thr rfl fun Q T hT => wX9_block hw ?_) (m_thr fun m Q hr0 hQ => wX10_block hw (wX10_isBlock hw (wX10_isFile hw ?_))) hr hJ (fun _ _ => rfl) (es_n1 _)
      · simp (disch := omega) only [z_app, z_rd, z_cl, z_add, z_sub, z_mul, z_neg, z_lit, z_leT, z_leF, z_ltT, z_ltF, z_eqT, z_eqF, i_leT, i_leF, i_ltT, i_ltF, i_eqT, i_eqF, z_le, z_lt, z_eq, z_ite, z_at, z_pt, z_up, z_wr, z_wi1, z_wi0, z_wi, z_inS, z_toInt, z_nb0, z_nb1, Int.cast_ofNat_Int, true_and, and_true, not_true_eq_false, not_false_eq_true, false_imp_iff, true_imp_iff, aup_o, aup_k, ite_true, ite_false, z_fa000, z_fa001, z_fa010, z_fa011, z_fa100, z_fa101, z_fa110, z_fa111, if_true, if_false]
        exact k_rI0 hw hT
      · simp (disch := omega) only [z_app, z_rd, z_cl, z_add, z_sub, z_mul, z_neg, z_lit, z_leT, z_leF, z_ltT, z_ltF, z_eqT, z_eqF, i_leT, i_leF, i_ltT, i_ltF, i_eqT, i_eqF, z_le, z_lt, z_eq, z_ite, z_at, z_pt, z_up, z_wr, z_wi1, z_wi0, z_wi, z_inS, z_toInt, z_nb0, z_nb1, Int.cast_ofNat_Int, true_and, and_true, not_true_eq_false, not_false_eq_true, false_imp_iff, true_imp_iff, aup_o, aup_k, ite_true, ite_false, z_fa000, z_fa001, z_fa010, z_fa011, z_fa100, z_fa101, z_fa110, z_fa111, if_true, if_false]
        exact ⟨Or.inr trivial, Or.inl trivial, hQ 0⟩
  · refine pair_of (o := .inr 0) (a' := a) (k_thr rfl fun Q T hT => wX9_block hw ?_) (m_thr fun m Q hr0 hQ => wX10_block hw (wX10_isBlock hw (wX10_isFile hw ?_))) hr hJ (fun _ _ => rfl) (es_n1 _)
    · simp (disch := omega) only [z_app, z_rd, z_cl, z_add, z_sub, z_mul, z_neg, z_lit, z_leT, z_leF, z_ltT, z_ltF, z_eqT, z_eqF, i_leT, i_leF, i_ltT, i_ltF, i_eqT, i_eqF, z_le, z_lt, z_eq, z_ite, z_at, z_pt, z_up, z_wr, z_wi1, z_wi0, z_wi, z_inS, z_toInt, z_nb0, z_nb1, Int.cast_ofNat_Int, true_and, and_true, not_true_eq_false, not_false_eq_true, false_imp_iff, true_imp_iff, aup_o, aup_k, ite_true, ite_false, z_fa000, z_fa001, z_fa010, z_fa011, z_fa100, z_fa101, z_fa110, z_fa111, if_true, if_false]
      exact k_rI0 hw hT
    · simp (disch := omega) only [z_app, z_rd, z_cl, z_add, z_sub, z_mul, z_neg, z_lit, z_leT, z_leF, z_ltT, z_ltF, z_eqT, z_eqF, i_leT, i_leF, i_ltT, i_ltF, i_eqT, i_eqF, z_le, z_lt, z_eq, z_ite, z_at, z_pt, z_up, z_wr, z_wi1, z_wi0, z_wi, z_inS, z_toInt, z_nb0, z_nb1, Int.cast_ofNat_Int, true_and, and_true, not_true_eq_false, not_false_eq_true, false_imp_iff, true_imp_iff, aup_o, aup_k, ite_true, ite_false, z_fa000, z_fa001, z_fa010, z_fa011, z_fa100, z_fa101, z_fa110, z_fa111, if_true, if_false]
      exact ⟨Or.inl trivial, Or.inl trivial, hQ 0⟩
end PV
