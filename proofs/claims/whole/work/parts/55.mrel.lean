/-! ===== the reference beside a new record and its effects ===== -/
theorem j_hy {s : aS} (hJ : jJ s) : ∀ i, 0 ≤ i → i < s 1 10 → s 61 i < s 2 9 := by
  intro i i0 i1
  have B := jb hJ
  have := hJ.2.2.2.2.2.2.2.2.2.1 i i0 i1
  omega
theorem rL_ad {s a : aS} {k ow x y w ow' : Int} (hy : ∀ i, 0 ≤ i → i < s 1 10 → s 61 i < s 2 9) (hr : rL s a) (ho : ow' = if k = 0 then s 2 9 else ow) : rL (adS s k ow x y w) (adM s a k ow' x y w) := by
  obtain ⟨r1, r2, r3, r4, r5, r6, r7, r8, r9⟩ := id hr
  have c1 : adS s k ow x y w 1 = s 1 := ad_o _ _ _ _ _ _ (by decide)
  have c26 : adS s k ow x y w 26 = s 26 := ad_o _ _ _ _ _ _ (by decide)
  refine ⟨⟨?_, ?_, ?_, ?_, ?_, ?_, ?_, ?_, ?_, ?_⟩, rR_ad r2 ho, rG_ad r3, ?_, ?_, ?_, ?_, ?_, ?_⟩
  · rw [am_86 _ _ _ _ _ _ _ (by decide) (by decide), ad_21, if_neg (by decide), if_neg (by decide)]; exact r1.1
  · rw [am_86 _ _ _ _ _ _ _ (by decide) (by decide), c1]; exact r1.2.1
  · rw [am_86 _ _ _ _ _ _ _ (by decide) (by decide), c1]; exact r1.2.2.1
  · rw [am_15, ad_n]
  · rw [am_86 _ _ _ _ _ _ _ (by decide) (by decide), ad_2 _ _ _ _ _ _ (by decide)]; exact r1.2.2.2.2.1
  · rw [am_19 _ _ _ _ _ _ _ r1.2.2.2.2.2.1, ad_21, if_pos rfl, ad_21, if_neg (by decide), if_neg (by decide)]
  · rw [am_86 _ _ _ _ _ _ _ (by decide) (by decide), ad_21, if_neg (by decide), if_neg (by decide)]; exact r1.2.2.2.2.2.2.1
  · rw [am_86 _ _ _ _ _ _ _ (by decide) (by decide), c26]; exact r1.2.2.2.2.2.2.2.1
  · rw [am_86 _ _ _ _ _ _ _ (by decide) (by decide), c1]; exact r1.2.2.2.2.2.2.2.2.1
  · rw [am_86 _ _ _ _ _ _ _ (by decide) (by decide), c1]; exact r1.2.2.2.2.2.2.2.2.2
  · unfold rT at r4 ⊢
    rw [am_o _ _ _ _ _ _ _ (by decide), ad_o _ _ _ _ _ _ (by decide)]; exact r4
  · unfold rV at r5 ⊢
    rw [am_o _ _ _ _ _ _ _ (c := 101) (by decide), am_o _ _ _ _ _ _ _ (c := 100) (by decide), ad_o _ _ _ _ _ _ (c := 30) (by decide), ad_o _ _ _ _ _ _ (c := 28) (by decide)]; exact r5
  · unfold rC at r6 ⊢
    rw [am_o _ _ _ _ _ _ _ (c := 102) (by decide), am_o _ _ _ _ _ _ _ (c := 103) (by decide), c26, ad_o _ _ _ _ _ _ (c := 32) (by decide), ad_o _ _ _ _ _ _ (c := 34) (by decide)]; exact r6
  · unfold rP at r7 ⊢
    rw [am_o _ _ _ _ _ _ _ (c := 104) (by decide), c26, ad_o _ _ _ _ _ _ (c := 34) (by decide), ad_o _ _ _ _ _ _ (c := 36) (by decide)]; exact r7
  · unfold rK at r8 ⊢
    rw [am_86 _ _ _ _ _ _ _ (i := 29) (by decide) (by decide), am_o _ _ _ _ _ _ _ (c := 105) (by decide), am_o _ _ _ _ _ _ _ (c := 106) (by decide), am_o _ _ _ _ _ _ _ (c := 107) (by decide), c1, c26, ad_o _ _ _ _ _ _ (c := 38) (by decide), ad_o _ _ _ _ _ _ (c := 46) (by decide), ad_o _ _ _ _ _ _ (c := 48) (by decide)]; exact r8
  · intro i i0 i1
    rw [c1] at i1
    have q := r9 i i0 i1
    have y1 := hy i i0 i1
    rw [am_o _ _ _ _ _ _ _ (c := 108) (by decide), ad_o _ _ _ _ _ _ (c := 61) (by decide), ad_10, ad_12, if_neg (by omega), if_neg (by omega)]
    exact q
/-- effects in the reference -/
def efM (e : Int) : List Int → aS → aS → aS
  | [], _, a => a
  | k :: t, u, a => efM e t (e1S u e k) (e1M u a e k)
theorem efM_o (e : Int) {x : Nat} (h : x ≠ 94 ∧ x ≠ 100 ∧ x ≠ 101) : ∀ (l : List Int) (u a : aS), efM e l u a x = a x := by
  intro l
  induction l with
  | nil => intro u a; rfl
  | cons k t ih => intro u a; show efM e t (e1S u e k) (e1M u a e k) x = a x; rw [ih, e1M_o _ _ _ _ h]
theorem efM_F (e : Int) : ∀ (l : List Int) (u a : aS), mF a (efM e l u a) := by
  intro l
  induction l with
  | nil => intro u a; exact mF_rf a
  | cons k t ih => intro u a; exact mF_tr (mF_e1 u a e k) (ih _ _)
theorem gV_8 {u : aS} {N e k : Int} {l : List Int} (h : gV u N e (k :: l)) : (u 4 k = 6 → 0 ≤ u 8 k ∧ u 8 k < 4 ∧ 0 ≤ u 30 (u 8 k) ∧ u 30 (u 8 k) < 400) ∧ (∀ t, 0 ≤ t → t < 4 → u 30 t ≤ 400) := by
  refine ⟨fun h6 => ?_, fun t t0 t1 => ?_⟩
  · have hk := h.2.2.1 k List.mem_cons_self
    have hb := hk.2.2.2.2.2.2.2.2.2.1 h6
    have := gV_lt h hk.2.2.1.1 hb.1
    have c0 := (h.2.2.2 (u 8 k) hk.2.2.1.1 hb.1).1
    have := h.1.2
    exact ⟨hk.2.2.1.1, hb.1, c0, by omega⟩
  · have := gV_c h t0 t1
    have := h.1.2
    omega
theorem ef_rel {N e : Int} (e0 : 0 ≤ e) : ∀ (l : List Int) (u a : aS), gV u N e l → rR u a → rV u a → rR (efS u e l) (efM e l u a) ∧ rV (efS u e l) (efM e l u a) := by
  intro l
  induction l with
  | nil => intro u a _ hR hV; exact ⟨hR, hV⟩
  | cons k t ih =>
    intro u a h hR hV
    have g8 := gV_8 h
    exact ih _ _ (gV_step e0 h) (rR_e1 hR) (rV_e1 hV g8.1 g8.2)
theorem rR_59 {b a : aS} {l : List Int} (h : rR b a) : rR (awl b 59 0 l) a := by
  unfold rR at h ⊢
  rw [awl_o (k' := 2) (by decide), awl_o (k' := 4) (by decide), awl_o (k' := 6) (by decide), awl_o (k' := 8) (by decide), awl_o (k' := 10) (by decide), awl_o (k' := 12) (by decide), awl_o (k' := 14) (by decide), awl_o (k' := 16) (by decide), awl_o (k' := 18) (by decide), awl_o (k' := 20) (by decide)]
  exact h
theorem rV_59 {b a : aS} {l : List Int} (h : rV b a) : rV (awl b 59 0 l) a := by
  unfold rV at h ⊢
  rw [awl_o (k' := 28) (by decide), awl_o (k' := 30) (by decide)]
  exact h
theorem rL_fi {b m : aS} {n : Int} {l : List Int} (hS : rS b m) (hR : rR (fiS b n l) m) (hG : rG b m) (hT : rT b m) (hV : rV (fiS b n l) m) (hC : rC b m) (hP : rP b m) (hK : rK b m) (hM : rM b m) : rL (fiS b n l) m := by
  refine ⟨?_, hR, ?_, ?_, hV, ?_, ?_, ?_, ?_⟩
  · unfold rS at hS ⊢
    rw [fi_o _ _ _ (x := 21) (by decide), fi_o _ _ _ (x := 1) (by decide), fi_o _ _ _ (x := 2) (by decide), fi_o _ _ _ (x := 26) (by decide)]
    exact hS
  · unfold rG at hG ⊢
    rw [fi_o _ _ _ (x := 21) (by decide), fi_o _ _ _ (x := 23) (by decide)]
    exact hG
  · unfold rT at hT ⊢
    rw [fi_o _ _ _ (x := 55) (by decide)]
    exact hT
  · unfold rC at hC ⊢
    rw [fi_o _ _ _ (x := 26) (by decide), fi_o _ _ _ (x := 32) (by decide), fi_o _ _ _ (x := 34) (by decide)]
    exact hC
  · unfold rP at hP ⊢
    rw [fi_o _ _ _ (x := 26) (by decide), fi_o _ _ _ (x := 34) (by decide), fi_o _ _ _ (x := 36) (by decide)]
    exact hP
  · unfold rK at hK ⊢
    rw [fi_o _ _ _ (x := 1) (by decide), fi_o _ _ _ (x := 26) (by decide), fi_o _ _ _ (x := 38) (by decide), fi_o _ _ _ (x := 46) (by decide), fi_o _ _ _ (x := 48) (by decide)]
    exact hK
  · unfold rM at hM ⊢
    rw [fi_o _ _ _ (x := 1) (by decide), fi_o _ _ _ (x := 10) (by decide), fi_o _ _ _ (x := 12) (by decide), fi_o _ _ _ (x := 61) (by decide)]
    exact hM
/-- the effects done, all agrees -/
theorem rL_ef {s b a : aS} {k ow x y w : Int} (hJ : jJ s) (n1 : s 2 9 < 400) (ho : okR s k ow x y w) (hb : bsR s b k ow x y w) (hr : rL b a) : rL (fiS b (s 2 9) (lnk s k ow)) (efM (s 2 9) (lnk s k ow) (awl b 59 0 (lnk s k ow)) a) := by
  have B := jb hJ
  obtain ⟨r1, r2, r3, r4, r5, r6, r7, r8, r9⟩ := id hr
  have E := ef_rel (by omega) _ _ a (fi_gV hJ n1 ho hb) (rR_59 r2) (rV_59 r5)
  have o : ∀ x : Nat, x ≠ 94 ∧ x ≠ 100 ∧ x ≠ 101 → efM (s 2 9) (lnk s k ow) (awl b 59 0 (lnk s k ow)) a x = a x := fun x h => efM_o _ h _ _ _
  refine rL_fi ?_ E.1 (rG_b (o 97 (by decide)) (o 98 (by decide)) r3) (rT_b (o 99 (by decide)) r4) E.2 (rC_b (o 102 (by decide)) (o 103 (by decide)) r6) (rP_b (o 104 (by decide)) r7) (rK_b (congrFun (o 86 (by decide)) 29) (o 105 (by decide)) (o 106 (by decide)) (o 107 (by decide)) r8) (rM_b (o 108 (by decide)) r9)
  unfold rS at r1 ⊢
  rw [o 86 (by decide)]
  exact r1
theorem rL_tx {c m : aS} {t v w : Int} (hr : rL c m) : rL (aup (aup c 55 t v) 57 t w) (aup m 99 t v) := by
  obtain ⟨r1, r2, r3, r4, r5, r6, r7, r8, r9⟩ := hr
  refine ⟨r1, r2, r3, fun u u0 u1 => ?_, r5, r6, r7, r8, r9⟩
  rw [aup_k, aup_o (by decide), aup_k]
  split
  · rfl
  · exact r4 u u0 u1
theorem am_99 (s a : aS) (k ow x y w t v : Int) : adM s (aup a 99 t v) k ow x y w = aup (adM s a k ow x y w) 99 t v := by
  funext c i
  by_cases h : c = 99
  · subst h
    rw [am_o _ _ _ _ _ _ _ (by decide), aup_k, aup_k, am_o _ _ _ _ _ _ _ (by decide)]
  · rw [aup_o h]
    unfold adM
    unfold aup
    by_cases hn : s 21 4 < s 25 (s 21 3) + szI k w
    · simp only [if_pos hn, h, if_false]
    · simp only [if_neg hn, h, if_false]
section MO1
variable {g : qG} {s : aS} {d : Nat} {Q : Int32 → qS → Prop} {T : String → qS → Prop}
/-- a record by the reference, of no transaction: it takes effect at once -/
theorem m_effective0 (hw : qWF g) {a : aS} (hJ : jJ s) (hr : rL s a) (n1 : s 2 9 < 400) {k x y w : Int} (ho : okR s k (-1) x y w) (hk : 3 ≤ k ∧ k ≤ 7) (hQ : ∀ b, rL (fiS (adS s k (-1) x y w) (s 2 9) (lnk s k (-1))) b → mF a b → Q (iI (s 2 9)) (qi b)) : qC g (d + 4) mX10_effective [.inr 86, .inl (iI k), .inl (iI (-1)), .inl (iI x), .inl (iI y), .inl (iI w)] (qi a) Q T := by
  have B := jb hJ
  obtain ⟨r1, r2, r3, r4, r5, r6, r7, r8, r9⟩ := id hr
  obtain ⟨q1, -, -, q4, -, -, -, q6, -⟩ := id ho
  have hb : bsR s (adS s k (-1) x y w) k (-1) x y w := bs_ad (agR_rf s)
  have hl : lnk s k (-1) = [s 2 9] := by unfold lnk; rw [if_neg (by omega), if_pos ⟨hk, rfl⟩]
  have hrl := rL_ad (x := x) (y := y) (w := w) (ow' := -1) (ow := -1) (k := k) (j_hy hJ) hr (by rw [if_neg (by omega)])
  have hG := fi_gV hJ n1 ho hb
  have hfin := rL_ef hJ n1 ho hb hrl
  have h6 : w ≤ 20 ∨ k ≠ 6 := by
    by_cases h : k = 6
    · exact Or.inl (q6 h).2
    · exact Or.inr h
  rw [hl] at hG hfin
  refine wX10_effective hw ⟨fun hn => absurd rfl hn, fun _ => ?_⟩
  refine m_record0 (ow := -1) hw hJ r1.1 r1.2.2.2.1 r1.2.2.2.2.2.1 r3 r2 n1 q1.1 q1.2 q4.1 h6 ?_
  refine ⟨fun hn => absurd rfl hn, fun _ => ?_⟩
  have g8 := (gV_8 hG).1
  have hj := (hG.2.2.1 (s 2 9) List.mem_cons_self).2
  refine m_makeEffective (s := awl (adS s k (-1) x y w) 59 0 [s 2 9]) hw (rR_59 hrl.2.1) (rV_59 hrl.2.2.2.2.1) (by omega) ?_ ?_ hj (fun h => ⟨(g8 h).2.2.1, (g8 h).2.2.2⟩) ?_
  · rw [awl_o (by decide), ad_n]; omega
  · rw [awl_o (by decide), ad_n]; omega
  · refine hQ _ ?_ (mF_tr (mF_ad s a k (-1) x y w) (mF_e1 _ _ _ _))
    rw [hl]
    exact hfin
/-- .. of a transaction -/
theorem m_effective1 (hw : qWF g) {a : aS} (hJ : jJ s) (hr : rL s a) (n1 : s 2 9 < 400) {k x y w t : Int} (t0 : 0 ≤ t) (t1 : t < 4) (hf : s 55 t ≠ -1) (ho : okR s k (s 55 t) x y w) (hk : 3 ≤ k ∧ k ≤ 6) (hQ : ∀ b, rL (fiS (ctS s t k x y w) (s 2 9) (lnk s k (s 55 t))) b → mF a b → Q (iI (s 2 9)) (qi b)) : qC g (d + 4) mX10_effective [.inr 86, .inl (iI k), .inl (iI t), .inl (iI x), .inl (iI y), .inl (iI w)] (qi a) Q T := by
  have B := jb hJ
  have q := j_lt hJ t0 t1 hf
  obtain ⟨r1, r2, r3, r4, r5, r6, r7, r8, r9⟩ := id hr
  obtain ⟨q1, -, -, q4, -, -, -, q6, -⟩ := id ho
  have hb : bsR s (ctS s t k x y w) k (s 55 t) x y w := bs_ct
  have hl : lnk s k (s 55 t) = [] := by unfold lnk; rw [if_neg (by omega), if_neg (by omega)]
  have h6 : w ≤ 20 ∨ k ≠ 6 := by
    by_cases h : k = 6
    · exact Or.inl (q6 h).2
    · exact Or.inr h
  have e99 := r4 t t0 t1
  refine wX10_effective hw ?_
  simp (disch := omega) only [z_app, z_rd, z_cl, z_add, z_sub, z_mul, z_neg, z_lit, z_leT, z_leF, z_ltT, z_ltF, z_eqT, z_eqF, i_leT, i_leF, i_ltT, i_ltF, i_eqT, i_eqF, z_le, z_lt, z_eq, z_ite, z_at, z_pt, z_up, z_wr, z_wi1, z_wi0, z_wi, z_inS, z_toInt, z_nb0, z_nb1, Int.cast_ofNat_Int, true_and, and_true, not_true_eq_false, not_false_eq_true, false_imp_iff, true_imp_iff, aup_o, aup_k, ite_true, ite_false, z_fa000, z_fa001, z_fa010, z_fa011, z_fa100, z_fa101, z_fa110, z_fa111, if_true, if_false, e99]
  refine m_record0 hw hJ r1.1 r1.2.2.2.1 r1.2.2.2.2.2.1 r3 r2 n1 q1.1 q1.2 q4.1 h6 ?_
  refine hQ _ ?_ (mF_ad s a k (s 55 t) x y w)
  have hc : rL (ctS s t k x y w) (adM s a k (s 55 t) x y w) := rL_ad (s := aup s 57 t (s 57 t + 1)) (a := a) (j_hy (s := s) hJ) hr (by rw [if_neg (by omega)])
  have := rL_ef hJ n1 ho hb hc
  rw [hl] at this ⊢
  exact this
end MO1
