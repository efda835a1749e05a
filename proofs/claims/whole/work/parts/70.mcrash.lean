/-! ===== crash: the reference ===== -/
section MC
variable {g : qG} {s m : aS} {d : Nat} {Q : Int32 → qS → Prop} {T : String → qS → Prop} {cut : Int}
/-- the reference while it cuts: topics below t are done -/
def mcT (s m : aS) (cut t : Int) (q : aS) : Prop := mF m q ∧ (∀ x : Nat, x ≠ 94 → x ≠ 101 → x ≠ 104 → q x = m x) ∧ (∀ k, 0 ≤ k → k < cut → q 94 k = if cut ≤ s 18 k then -1 else s 18 k) ∧ (∀ k, cut ≤ k → q 94 k = m 94 k) ∧
  (∀ j, 0 ≤ j → j < 4 → q 101 j = if j < t then cbS s j cut else s 30 j) ∧
  (∀ c k, 0 ≤ c → c < 6 → 0 ≤ k → k < 400 → q 104 (400 * c + k) = if c < s 26 6 ∧ s 34 c ≤ k ∧ k < s 36 c ∧ (s 32 c < t → k < cbS s (s 32 c) cut) then 1 else 0)
theorem m_cutTopic (hw : qWF g) (hJ : jJ s) (hr : rL s m) (p0 : 0 ≤ cut) (p1 : cut ≤ s 2 9) {t : Int} (t0 : 0 ≤ t) (t1 : t < 4) {q : aS} (hq : mcT s m cut t q) (hQ : ∀ v, mcT s m cut (t + 1) v → Q (iI 0) (qi v)) : qC g (d + 2) mX10_cutTopic [.inr 86, .inl (iI t), .inl (iI cut)] (qi q) Q T := by
  have B : s 2 9 ≤ 400 ∧ 0 ≤ s 26 6 ∧ s 26 6 ≤ 6 := by have := jb hJ; omega
  obtain ⟨c0, c1, clo, chi⟩ := cb_b (p := cut) hJ t0 t1
  obtain ⟨⟨y0, y1⟩, v1, v2⟩ := hJ.2.2.2.2.1 t t0 t1
  obtain ⟨hF, ho, h94, h94', h101, h104⟩ := hq
  -- the messages set aside that are not visible any more
  have inner : ∀ (c : Int), 0 ≤ c → c < s 26 6 → s 32 c = t → ∀ (k : Int) (v : aS), cbS s t cut ≤ k → k ≤ 400 → mF m v → (∀ x : Nat, x ≠ 94 → x ≠ 101 → x ≠ 104 → v x = m x) → v 94 = q 94 → (∀ j, 0 ≤ j → j < 4 → v 101 j = if j < t + 1 then cbS s j cut else s 30 j) → (∀ c' k', 0 ≤ c' → c' < 6 → 0 ≤ k' → k' < 400 → v 104 (400 * c' + k') = if c' < s 26 6 ∧ s 34 c' ≤ k' ∧ k' < s 36 c' ∧ (s 32 c' < t → k' < cbS s (s 32 c') cut) ∧ (s 32 c' = t → c' < c → k' < cbS s t cut) ∧ (c' = c → k' < k → k' < cbS s t cut) then 1 else 0) → (∀ (w : aS) (o : Int), mF m w → (∀ x : Nat, x ≠ 94 → x ≠ 101 → x ≠ 104 → w x = m x) → w 94 = q 94 → (∀ j, 0 ≤ j → j < 4 → w 101 j = if j < t + 1 then cbS s j cut else s 30 j) → (∀ c' k', 0 ≤ c' → c' < 6 → 0 ≤ k' → k' < 400 → w 104 (400 * c' + k') = if c' < s 26 6 ∧ s 34 c' ≤ k' ∧ k' < s 36 c' ∧ (s 32 c' < t → k' < cbS s (s 32 c') cut) ∧ (s 32 c' = t → c' < c + 1 → k' < cbS s t cut) then 1 else 0) → qV g mX10_cutTopic (d + 2) 0 53 [some (.inr 86), some (.inl (iI t)), some (.inl (iI cut)), some (.inl (iI (cbS s t cut))), some (.inl (iI (c + 1))), some (.inl (iI o))] [] (qi w) Q T) → qV g mX10_cutTopic (d + 2) 0 65 [some (.inr 86), some (.inl (iI t)), some (.inl (iI cut)), some (.inl (iI (cbS s t cut))), some (.inl (iI c)), some (.inl (iI k))] [] (qi v) Q T := by
    intro c z0 z1 zt
    refine stepUp 400 (fun k ih v k0 k1 w1 w2 w3 w4 w5 hK => wX10_cutTopic_65 hw ?_)
    have e102 : v 102 c = t := by rw [w2 102 (by decide) (by decide) (by decide), rc_102 hr z0 z1, zt]
    by_cases h : k < 400
    · simp (disch := omega) only [z_app, z_rd, z_cl, z_add, z_sub, z_mul, z_neg, z_lit, z_leT, z_leF, z_ltT, z_ltF, z_eqT, z_eqF, i_leT, i_leF, i_ltT, i_ltF, i_eqT, i_eqF, z_le, z_lt, z_eq, z_ite, z_at, z_pt, z_up, z_wr, z_wi1, z_wi0, z_wi, z_inS, z_toInt, z_nb0, z_nb1, Int.cast_ofNat_Int, true_and, and_true, not_true_eq_false, not_false_eq_true, false_imp_iff, true_imp_iff, aup_o, aup_k, ite_true, ite_false, z_fa000, z_fa001, z_fa010, z_fa011, z_fa100, z_fa101, z_fa110, z_fa111, if_true, if_false, e102]
      refine ih h _ (by omega) (by omega) (mF_tr w1 (mF_up (by decide) (by decide))) (fun x x1 x2 x3 => by rw [aup_o x3, w2 x x1 x2 x3]) (by rw [aup_o (by decide), w3]) (fun j j0 j1 => by rw [aup_o (by decide)]; exact w4 j j0 j1) (fun c' k' a0 a1 a2 a3 => ?_) hK
      rw [aup_k, w5 c' k' a0 a1 a2 a3]
      by_cases hc : c' = c
      · subst hc
        by_cases hk : k' = k
        · rw [if_pos (by omega), if_neg (by omega)]
        · rw [if_neg (by omega)]
          by_cases hh : c' < s 26 6 ∧ s 34 c' ≤ k' ∧ k' < s 36 c' ∧ (s 32 c' < t → k' < cbS s (s 32 c') cut) ∧ (s 32 c' = t → c' < c' → k' < cbS s t cut) ∧ (c' = c' → k' < k → k' < cbS s t cut)
          · rw [if_pos hh, if_pos ⟨hh.1, hh.2.1, hh.2.2.1, hh.2.2.2.1, hh.2.2.2.2.1, fun _ hk2 => hh.2.2.2.2.2 rfl (by omega)⟩]
          · rw [if_neg hh, if_neg (fun y => hh ⟨y.1, y.2.1, y.2.2.1, y.2.2.2.1, y.2.2.2.2.1, fun _ hk2 => y.2.2.2.2.2 rfl (by omega)⟩)]
      · rw [if_neg (by omega)]
        by_cases hh : c' < s 26 6 ∧ s 34 c' ≤ k' ∧ k' < s 36 c' ∧ (s 32 c' < t → k' < cbS s (s 32 c') cut) ∧ (s 32 c' = t → c' < c → k' < cbS s t cut) ∧ (c' = c → k' < k → k' < cbS s t cut)
        · rw [if_pos hh, if_pos ⟨hh.1, hh.2.1, hh.2.2.1, hh.2.2.2.1, hh.2.2.2.2.1, fun e => (hc e).elim⟩]
        · rw [if_neg hh, if_neg (fun y => hh ⟨y.1, y.2.1, y.2.2.1, y.2.2.2.1, y.2.2.2.2.1, fun e => (hc e).elim⟩)]
    · simp (disch := omega) only [z_app, z_rd, z_cl, z_add, z_sub, z_mul, z_neg, z_lit, z_leT, z_leF, z_ltT, z_ltF, z_eqT, z_eqF, i_leT, i_leF, i_ltT, i_ltF, i_eqT, i_eqF, z_le, z_lt, z_eq, z_ite, z_at, z_pt, z_up, z_wr, z_wi1, z_wi0, z_wi, z_inS, z_toInt, z_nb0, z_nb1, Int.cast_ofNat_Int, true_and, and_true, not_true_eq_false, not_false_eq_true, false_imp_iff, true_imp_iff, aup_o, aup_k, ite_true, ite_false, z_fa000, z_fa001, z_fa010, z_fa011, z_fa100, z_fa101, z_fa110, z_fa111, if_true, if_false]
      refine hK v k w1 w2 w3 w4 (fun c' k' a0 a1 a2 a3 => ?_)
      rw [w5 c' k' a0 a1 a2 a3]
      by_cases hh : c' < s 26 6 ∧ s 34 c' ≤ k' ∧ k' < s 36 c' ∧ (s 32 c' < t → k' < cbS s (s 32 c') cut) ∧ (s 32 c' = t → c' < c + 1 → k' < cbS s t cut)
      · rw [if_pos hh, if_pos ⟨hh.1, hh.2.1, hh.2.2.1, hh.2.2.2.1, fun e l => hh.2.2.2.2 e (by omega), fun e _ => hh.2.2.2.2 (by rw [e]; exact zt) (by omega)⟩]
      · rw [if_neg hh, if_neg]
        intro y
        refine hh ⟨y.1, y.2.1, y.2.2.1, y.2.2.2.1, fun e l => ?_⟩
        by_cases hc : c' = c
        · exact y.2.2.2.2.2 hc (by omega)
        · exact y.2.2.2.2.1 e (by omega)
  have outer : ∀ (c : Int) (v : aS) (o : Option qP), 0 ≤ c → c ≤ s 26 6 → mF m v → (∀ x : Nat, x ≠ 94 → x ≠ 101 → x ≠ 104 → v x = m x) → v 94 = q 94 → (∀ j, 0 ≤ j → j < 4 → v 101 j = if j < t + 1 then cbS s j cut else s 30 j) → (∀ c' k', 0 ≤ c' → c' < 6 → 0 ≤ k' → k' < 400 → v 104 (400 * c' + k') = if c' < s 26 6 ∧ s 34 c' ≤ k' ∧ k' < s 36 c' ∧ (s 32 c' < t → k' < cbS s (s 32 c') cut) ∧ (s 32 c' = t → c' < c → k' < cbS s t cut) then 1 else 0) → qV g mX10_cutTopic (d + 2) 0 53 [some (.inr 86), some (.inl (iI t)), some (.inl (iI cut)), some (.inl (iI (cbS s t cut))), some (.inl (iI c)), o] [] (qi v) Q T := by
    refine stepUp (s 26 6) (fun c ih v o z0 z1 w1 w2 w3 w4 w5 => wX10_cutTopic_53 hw ?_)
    have e27 : v 86 27 = s 26 6 := by rw [w2 86 (by decide) (by decide) (by decide)]; exact rs_27 hr
    by_cases h : c < s 26 6
    · have C := jc hJ z0 h
      simp (disch := omega) only [z_app, z_rd, z_cl, z_add, z_sub, z_mul, z_neg, z_lit, z_leT, z_leF, z_ltT, z_ltF, z_eqT, z_eqF, i_leT, i_leF, i_ltT, i_ltF, i_eqT, i_eqF, z_le, z_lt, z_eq, z_ite, z_at, z_pt, z_up, z_wr, z_wi1, z_wi0, z_wi, z_inS, z_toInt, z_nb0, z_nb1, Int.cast_ofNat_Int, true_and, and_true, not_true_eq_false, not_false_eq_true, false_imp_iff, true_imp_iff, aup_o, aup_k, ite_true, ite_false, z_fa000, z_fa001, z_fa010, z_fa011, z_fa100, z_fa101, z_fa110, z_fa111, if_true, if_false, e27]
      by_cases ht : s 32 c = t
      · refine inner c z0 h ht (cbS s t cut) v (Int.le_refl _) (by omega) w1 w2 w3 w4 (fun c' k' a0 a1 a2 a3 => ?_) (fun w o' b1 b2 b3 b4 b5 => ih h w _ (by omega) (by omega) b1 b2 b3 b4 b5)
        rw [w5 c' k' a0 a1 a2 a3]
        by_cases hh : c' < s 26 6 ∧ s 34 c' ≤ k' ∧ k' < s 36 c' ∧ (s 32 c' < t → k' < cbS s (s 32 c') cut) ∧ (s 32 c' = t → c' < c → k' < cbS s t cut)
        · rw [if_pos hh, if_pos ⟨hh.1, hh.2.1, hh.2.2.1, hh.2.2.2.1, hh.2.2.2.2, fun _ l => l⟩]
        · rw [if_neg hh, if_neg (fun y => hh ⟨y.1, y.2.1, y.2.2.1, y.2.2.2.1, y.2.2.2.2.1⟩)]
      · have e102 : v 102 c = s 32 c := by rw [w2 102 (by decide) (by decide) (by decide)]; exact rc_102 hr z0 h
        refine wX10_cutTopic_65 hw ?_
        have step : qV g mX10_cutTopic (d + 2) 0 53 [some (.inr 86), some (.inl (iI t)), some (.inl (iI cut)), some (.inl (iI (cbS s t cut))), some (.inl (iI (c + 1))), some (.inl (iI (cbS s t cut)))] [] (qi v) Q T := by
          refine ih h v _ (by omega) (by omega) w1 w2 w3 w4 (fun c' k' a0 a1 a2 a3 => ?_)
          rw [w5 c' k' a0 a1 a2 a3]
          by_cases hh : c' < s 26 6 ∧ s 34 c' ≤ k' ∧ k' < s 36 c' ∧ (s 32 c' < t → k' < cbS s (s 32 c') cut) ∧ (s 32 c' = t → c' < c → k' < cbS s t cut)
          · have l5 : s 32 c' = t → c' < c + 1 → k' < cbS s t cut := by
              intro e l
              by_cases hc : c' = c
              · rw [hc] at e; exact (ht e).elim
              · exact hh.2.2.2.2 e (by omega)
            rw [if_pos hh, if_pos ⟨hh.1, hh.2.1, hh.2.2.1, hh.2.2.2.1, l5⟩]
          · rw [if_neg hh, if_neg (fun y => hh ⟨y.1, y.2.1, y.2.2.1, y.2.2.2.1, fun e l => y.2.2.2.2 e (by omega)⟩)]
        by_cases h4 : cbS s t cut < 400
        · simp (disch := omega) only [z_app, z_rd, z_cl, z_add, z_sub, z_mul, z_neg, z_lit, z_leT, z_leF, z_ltT, z_ltF, z_eqT, z_eqF, i_leT, i_leF, i_ltT, i_ltF, i_eqT, i_eqF, z_le, z_lt, z_eq, z_ite, z_at, z_pt, z_up, z_wr, z_wi1, z_wi0, z_wi, z_inS, z_toInt, z_nb0, z_nb1, Int.cast_ofNat_Int, true_and, and_true, not_true_eq_false, not_false_eq_true, false_imp_iff, true_imp_iff, aup_o, aup_k, ite_true, ite_false, z_fa000, z_fa001, z_fa010, z_fa011, z_fa100, z_fa101, z_fa110, z_fa111, if_true, if_false, e102]
          exact step
        · simp (disch := omega) only [z_app, z_rd, z_cl, z_add, z_sub, z_mul, z_neg, z_lit, z_leT, z_leF, z_ltT, z_ltF, z_eqT, z_eqF, i_leT, i_leF, i_ltT, i_ltF, i_eqT, i_eqF, z_le, z_lt, z_eq, z_ite, z_at, z_pt, z_up, z_wr, z_wi1, z_wi0, z_wi, z_inS, z_toInt, z_nb0, z_nb1, Int.cast_ofNat_Int, true_and, and_true, not_true_eq_false, not_false_eq_true, false_imp_iff, true_imp_iff, aup_o, aup_k, ite_true, ite_false, z_fa000, z_fa001, z_fa010, z_fa011, z_fa100, z_fa101, z_fa110, z_fa111, if_true, if_false]
          exact step
    · have ec : c = s 26 6 := by omega
      subst ec
      simp (disch := omega) only [z_app, z_rd, z_cl, z_add, z_sub, z_mul, z_neg, z_lit, z_leT, z_leF, z_ltT, z_ltF, z_eqT, z_eqF, i_leT, i_leF, i_ltT, i_ltF, i_eqT, i_eqF, z_le, z_lt, z_eq, z_ite, z_at, z_pt, z_up, z_wr, z_wi1, z_wi0, z_wi, z_inS, z_toInt, z_nb0, z_nb1, Int.cast_ofNat_Int, true_and, and_true, not_true_eq_false, not_false_eq_true, false_imp_iff, true_imp_iff, aup_o, aup_k, ite_true, ite_false, z_fa000, z_fa001, z_fa010, z_fa011, z_fa100, z_fa101, z_fa110, z_fa111, if_true, if_false, e27]
      refine hQ v ⟨w1, w2, fun k k0 k1 => by rw [w3]; exact h94 k k0 k1, fun k k0 => by rw [w3]; exact h94' k k0, w4, fun c' k' a0 a1 a2 a3 => ?_⟩
      rw [w5 c' k' a0 a1 a2 a3]
      by_cases hh : c' < s 26 6 ∧ s 34 c' ≤ k' ∧ k' < s 36 c' ∧ (s 32 c' < t + 1 → k' < cbS s (s 32 c') cut)
      · rw [if_pos hh, if_pos ⟨hh.1, hh.2.1, hh.2.2.1, fun l => hh.2.2.2 (by omega), fun e _ => by have := hh.2.2.2 (by omega); rw [e] at this; exact this⟩]
      · rw [if_neg hh, if_neg]
        intro y
        refine hh ⟨y.1, y.2.1, y.2.2.1, fun l => ?_⟩
        by_cases e : s 32 c' = t
        · rw [e]; exact y.2.2.2.2 e y.1
        · exact y.2.2.2.1 (by omega)
  have go : ∀ (o5 : Option qP), qV g mX10_cutTopic (d + 2) 0 53 [some (.inr 86), some (.inl (iI t)), some (.inl (iI cut)), some (.inl (iI (cbS s t cut))), some (.inl (iI 0)), o5] [] (qi (aup q 101 t (cbS s t cut))) Q T := by
    intro o5
    refine outer 0 _ _ (by omega) (by omega) (mF_tr hF (mF_up (by decide) (by decide))) (fun x x1 x2 x3 => by rw [aup_o x2, ho x x1 x2 x3]) (aup_o (by decide)) (fun j j0 j1 => ?_) (fun c' k' a0 a1 a2 a3 => ?_)
    · rw [aup_k, h101 j j0 j1]
      by_cases hj : j = t
      · rw [if_pos hj, if_pos (by omega), hj]
      · rw [if_neg hj]
        by_cases hl : j < t
        · rw [if_pos hl, if_pos (by omega)]
        · rw [if_neg hl, if_neg (by omega)]
    · rw [aup_o (by decide), h104 c' k' a0 a1 a2 a3]
      by_cases hh : c' < s 26 6 ∧ s 34 c' ≤ k' ∧ k' < s 36 c' ∧ (s 32 c' < t → k' < cbS s (s 32 c') cut)
      · rw [if_pos hh, if_pos ⟨hh.1, hh.2.1, hh.2.2.1, hh.2.2.2, fun _ l => by omega⟩]
      · rw [if_neg hh, if_neg (fun y => hh ⟨y.1, y.2.1, y.2.2.1, y.2.2.2.1⟩)]
  have cnt : ∀ (n : Int) (o4 o5 : Option qP), 0 ≤ n → n ≤ cbS s t cut → qV g mX10_cutTopic (d + 2) 0 2 [some (.inr 86), some (.inl (iI t)), some (.inl (iI cut)), some (.inl (iI n)), o4, o5] [] (qi q) Q T := by
    refine stepUp (cbS s t cut) (fun n ih o4 o5 n0 n1 => wX10_cutTopic_2 hw ?_)
    have e101 : q 101 t = s 30 t := by rw [h101 t t0 t1, if_neg (by omega)]
    by_cases h : n < cbS s t cut
    · have V := (v1 n n0 (by omega)).1
      have E := jve hJ t0 t1 n0 (by omega : n < s 30 t)
      have E2 := j_ef hJ V.1 V.2
      have l := clo n n0 h
      have e100 : q 100 (400 * t + n) = s 28 (400 * t + n) := by rw [ho 100 (by decide) (by decide) (by decide)]; exact rv_100 hr t0 t1 n0 (by omega)
      have e94 : q 94 (s 28 (400 * t + n)) = s 18 (s 28 (400 * t + n)) := by rw [h94 _ V.1 (by omega), if_neg (by omega)]
      simp (disch := omega) only [z_app, z_rd, z_cl, z_add, z_sub, z_mul, z_neg, z_lit, z_leT, z_leF, z_ltT, z_ltF, z_eqT, z_eqF, i_leT, i_leF, i_ltT, i_ltF, i_eqT, i_eqF, z_le, z_lt, z_eq, z_ite, z_at, z_pt, z_up, z_wr, z_wi1, z_wi0, z_wi, z_inS, z_toInt, z_nb0, z_nb1, Int.cast_ofNat_Int, true_and, and_true, not_true_eq_false, not_false_eq_true, false_imp_iff, true_imp_iff, aup_o, aup_k, ite_true, ite_false, z_fa000, z_fa001, z_fa010, z_fa011, z_fa100, z_fa101, z_fa110, z_fa111, if_true, if_false, e101]
      refine wX10_recordOf hw ?_
      simp (disch := omega) only [z_app, z_rd, z_cl, z_add, z_sub, z_mul, z_neg, z_lit, z_leT, z_leF, z_ltT, z_ltF, z_eqT, z_eqF, i_leT, i_leF, i_ltT, i_ltF, i_eqT, i_eqF, z_le, z_lt, z_eq, z_ite, z_at, z_pt, z_up, z_wr, z_wi1, z_wi0, z_wi, z_inS, z_toInt, z_nb0, z_nb1, Int.cast_ofNat_Int, true_and, and_true, not_true_eq_false, not_false_eq_true, false_imp_iff, true_imp_iff, aup_o, aup_k, ite_true, ite_false, z_fa000, z_fa001, z_fa010, z_fa011, z_fa100, z_fa101, z_fa110, z_fa111, if_true, if_false, e100]
      refine wX10_recordOf hw ?_
      simp (disch := omega) only [z_app, z_rd, z_cl, z_add, z_sub, z_mul, z_neg, z_lit, z_leT, z_leF, z_ltT, z_ltF, z_eqT, z_eqF, i_leT, i_leF, i_ltT, i_ltF, i_eqT, i_eqF, z_le, z_lt, z_eq, z_ite, z_at, z_pt, z_up, z_wr, z_wi1, z_wi0, z_wi, z_inS, z_toInt, z_nb0, z_nb1, Int.cast_ofNat_Int, true_and, and_true, not_true_eq_false, not_false_eq_true, false_imp_iff, true_imp_iff, aup_o, aup_k, ite_true, ite_false, z_fa000, z_fa001, z_fa010, z_fa011, z_fa100, z_fa101, z_fa110, z_fa111, if_true, if_false, e100, e94]
      exact ih h _ _ (by omega) (by omega)
    · have en : n = cbS s t cut := by omega
      subst en
      by_cases hz : cbS s t cut < s 30 t
      · have V := (v1 (cbS s t cut) c0 hz).1
        have E := jve hJ t0 t1 c0 hz
        have E2 := j_ef hJ V.1 V.2
        have l := chi (cbS s t cut) (Int.le_refl _) hz
        have e100 : q 100 (400 * t + cbS s t cut) = s 28 (400 * t + cbS s t cut) := by rw [ho 100 (by decide) (by decide) (by decide)]; exact rv_100 hr t0 t1 c0 hz
        by_cases hv : s 28 (400 * t + cbS s t cut) < cut
        · have e94 : q 94 (s 28 (400 * t + cbS s t cut)) = -1 := by rw [h94 _ V.1 hv, if_pos (by omega)]
          simp (disch := omega) only [z_app, z_rd, z_cl, z_add, z_sub, z_mul, z_neg, z_lit, z_leT, z_leF, z_ltT, z_ltF, z_eqT, z_eqF, i_leT, i_leF, i_ltT, i_ltF, i_eqT, i_eqF, z_le, z_lt, z_eq, z_ite, z_at, z_pt, z_up, z_wr, z_wi1, z_wi0, z_wi, z_inS, z_toInt, z_nb0, z_nb1, Int.cast_ofNat_Int, true_and, and_true, not_true_eq_false, not_false_eq_true, false_imp_iff, true_imp_iff, aup_o, aup_k, ite_true, ite_false, z_fa000, z_fa001, z_fa010, z_fa011, z_fa100, z_fa101, z_fa110, z_fa111, if_true, if_false, e101]
          refine wX10_recordOf hw ?_
          simp (disch := omega) only [z_app, z_rd, z_cl, z_add, z_sub, z_mul, z_neg, z_lit, z_leT, z_leF, z_ltT, z_ltF, z_eqT, z_eqF, i_leT, i_leF, i_ltT, i_ltF, i_eqT, i_eqF, z_le, z_lt, z_eq, z_ite, z_at, z_pt, z_up, z_wr, z_wi1, z_wi0, z_wi, z_inS, z_toInt, z_nb0, z_nb1, Int.cast_ofNat_Int, true_and, and_true, not_true_eq_false, not_false_eq_true, false_imp_iff, true_imp_iff, aup_o, aup_k, ite_true, ite_false, z_fa000, z_fa001, z_fa010, z_fa011, z_fa100, z_fa101, z_fa110, z_fa111, if_true, if_false, e100]
          refine wX10_recordOf hw ?_
          simp (disch := omega) only [z_app, z_rd, z_cl, z_add, z_sub, z_mul, z_neg, z_lit, z_leT, z_leF, z_ltT, z_ltF, z_eqT, z_eqF, i_leT, i_leF, i_ltT, i_ltF, i_eqT, i_eqF, z_le, z_lt, z_eq, z_ite, z_at, z_pt, z_up, z_wr, z_wi1, z_wi0, z_wi, z_inS, z_toInt, z_nb0, z_nb1, Int.cast_ofNat_Int, true_and, and_true, not_true_eq_false, not_false_eq_true, false_imp_iff, true_imp_iff, aup_o, aup_k, ite_true, ite_false, z_fa000, z_fa001, z_fa010, z_fa011, z_fa100, z_fa101, z_fa110, z_fa111, if_true, if_false, e100, e94]
          exact go _
        · simp (disch := omega) only [z_app, z_rd, z_cl, z_add, z_sub, z_mul, z_neg, z_lit, z_leT, z_leF, z_ltT, z_ltF, z_eqT, z_eqF, i_leT, i_leF, i_ltT, i_ltF, i_eqT, i_eqF, z_le, z_lt, z_eq, z_ite, z_at, z_pt, z_up, z_wr, z_wi1, z_wi0, z_wi, z_inS, z_toInt, z_nb0, z_nb1, Int.cast_ofNat_Int, true_and, and_true, not_true_eq_false, not_false_eq_true, false_imp_iff, true_imp_iff, aup_o, aup_k, ite_true, ite_false, z_fa000, z_fa001, z_fa010, z_fa011, z_fa100, z_fa101, z_fa110, z_fa111, if_true, if_false, e101]
          refine wX10_recordOf hw ?_
          simp (disch := omega) only [z_app, z_rd, z_cl, z_add, z_sub, z_mul, z_neg, z_lit, z_leT, z_leF, z_ltT, z_ltF, z_eqT, z_eqF, i_leT, i_leF, i_ltT, i_ltF, i_eqT, i_eqF, z_le, z_lt, z_eq, z_ite, z_at, z_pt, z_up, z_wr, z_wi1, z_wi0, z_wi, z_inS, z_toInt, z_nb0, z_nb1, Int.cast_ofNat_Int, true_and, and_true, not_true_eq_false, not_false_eq_true, false_imp_iff, true_imp_iff, aup_o, aup_k, ite_true, ite_false, z_fa000, z_fa001, z_fa010, z_fa011, z_fa100, z_fa101, z_fa110, z_fa111, if_true, if_false, e100]
          exact go _
      · simp (disch := omega) only [z_app, z_rd, z_cl, z_add, z_sub, z_mul, z_neg, z_lit, z_leT, z_leF, z_ltT, z_ltF, z_eqT, z_eqF, i_leT, i_leF, i_ltT, i_ltF, i_eqT, i_eqF, z_le, z_lt, z_eq, z_ite, z_at, z_pt, z_up, z_wr, z_wi1, z_wi0, z_wi, z_inS, z_toInt, z_nb0, z_nb1, Int.cast_ofNat_Int, true_and, and_true, not_true_eq_false, not_false_eq_true, false_imp_iff, true_imp_iff, aup_o, aup_k, ite_true, ite_false, z_fa000, z_fa001, z_fa010, z_fa011, z_fa100, z_fa101, z_fa110, z_fa111, if_true, if_false, e101]
        exact go _
  exact wX10_cutTopic hw ⟨rfl, cnt 0 _ _ (by omega) c0⟩
/-- segments behind the cut go -/
theorem m_segs (hw : qWF g) (hJ : jJ s) (p0 : s 23 (s 21 2) ≤ cut) (p1 : cut ≤ s 2 9) {l1 : Int32} {r : Int} (hQ : ∀ v, (∀ x : Nat, x ≠ 86 → x ≠ 97 → x ≠ 98 → v x = m x) → (∀ j, j ≠ 19 → v 86 j = m 86 j) → v 86 19 = cuT s cut - s 21 2 + 1 → (∀ i, 0 ≤ i → i ≤ cuT s cut - s 21 2 → v 97 i = s 21 2 + i ∧ v 98 i = s 23 (s 21 2 + i)) → Q (iI r) (qi v)) (hG : rG s m) (h19 : m 86 19 = s 21 3 - s 21 2 + 1) : qV g mX10_crash (d + 1) 0 134 [some (.inr 86), some (.inl l1), some (.inl (iI cut)), some (.inl (iI r)), some (.inl (iI (-1)))] [] (qi m) Q T := by
  have B := jb hJ
  have hS := hJ.2.2.2.2.2.2.1
  have CT := cuT_b hJ p0
  have key : ∀ (i : Int) (v : aS) (z : Int), cuT s cut ≤ i → i ≤ s 21 3 → (∀ x : Nat, x ≠ 86 → v x = m x) → (∀ j, j ≠ 19 → v 86 j = m 86 j) → v 86 19 = i - s 21 2 + 1 → qV g mX10_crash (d + 1) 0 134 [some (.inr 86), some (.inl l1), some (.inl (iI cut)), some (.inl (iI r)), some (.inl (iI z))] [] (qi v) Q T := by
    refine stepDown (cuT s cut) (fun i ih v z i0 i1 ho hj e19 => wX10_crash_134 hw ?_)
    have gi := hG (i - s 21 2) (by omega) (by omega)
    rw [show s 21 2 + (i - s 21 2) = i by omega] at gi
    have e98 : v 98 (i - s 21 2) = s 23 i := by rw [ho 98 (by decide)]; exact gi.2
    have e97 : v 97 (i - s 21 2) = i := by rw [ho 97 (by decide)]; exact gi.1
    have es : i - s 21 2 + 1 - 1 = i - s 21 2 := by omega
    have E := e_b hJ (i := i - s 21 2) (by omega) (by omega)
    rw [show s 21 2 + (i - s 21 2) = i by omega] at E
    by_cases h : cuT s cut < i
    · have hc := CT.2.2.1 i h i1
      simp (disch := omega) only [z_app, z_rd, z_cl, z_add, z_sub, z_mul, z_neg, z_lit, z_leT, z_leF, z_ltT, z_ltF, z_eqT, z_eqF, i_leT, i_leF, i_ltT, i_ltF, i_eqT, i_eqF, z_le, z_lt, z_eq, z_ite, z_at, z_pt, z_up, z_wr, z_wi1, z_wi0, z_wi, z_inS, z_toInt, z_nb0, z_nb1, Int.cast_ofNat_Int, true_and, and_true, not_true_eq_false, not_false_eq_true, false_imp_iff, true_imp_iff, aup_o, aup_k, ite_true, ite_false, z_fa000, z_fa001, z_fa010, z_fa011, z_fa100, z_fa101, z_fa110, z_fa111, if_true, if_false, e19, es, e98, e97]
      refine ih h _ _ (by omega) (by omega) (fun x x1 => by rw [aup_o x1, ho x x1]) (fun j j1 => by rw [aup_k, if_neg j1, hj j j1]) ?_
      rw [aup_s]
      omega
    · have ei : i = cuT s cut := by omega
      subst ei
      by_cases hh : s 23 (cuT s cut) < cut
      · simp (disch := omega) only [z_app, z_rd, z_cl, z_add, z_sub, z_mul, z_neg, z_lit, z_leT, z_leF, z_ltT, z_ltF, z_eqT, z_eqF, i_leT, i_leF, i_ltT, i_ltF, i_eqT, i_eqF, z_le, z_lt, z_eq, z_ite, z_at, z_pt, z_up, z_wr, z_wi1, z_wi0, z_wi, z_inS, z_toInt, z_nb0, z_nb1, Int.cast_ofNat_Int, true_and, and_true, not_true_eq_false, not_false_eq_true, false_imp_iff, true_imp_iff, aup_o, aup_k, ite_true, ite_false, z_fa000, z_fa001, z_fa010, z_fa011, z_fa100, z_fa101, z_fa110, z_fa111, if_true, if_false, e19, es, e98]
        exact hQ v (fun x x1 _ _ => ho x x1) hj e19 (fun i j0 j1 => by rw [ho 97 (by decide), ho 98 (by decide)]; exact hG i j0 (by omega))
      · have ec : s 23 (cuT s cut) = cut := by have := CT.2.2.2; omega
        have hd : cuT s cut = s 21 2 := by
          by_cases hd : cuT s cut = s 21 2
          · exact hd
          · have F := fI_b (p := fun i => decide (s 23 (s 21 3 - i) < cut)) (hi := s 21 3 - s 21 2) 0 (by omega)
            have e : cuT s cut = s 21 3 - fI (fun i => decide (s 23 (s 21 3 - i) < cut)) 0 (s 21 3 - s 21 2) := rfl
            have := of_decide_eq_true (F.2.2.2 (by omega))
            rw [← e] at this
            omega
        simp (disch := omega) only [z_app, z_rd, z_cl, z_add, z_sub, z_mul, z_neg, z_lit, z_leT, z_leF, z_ltT, z_ltF, z_eqT, z_eqF, i_leT, i_leF, i_ltT, i_ltF, i_eqT, i_eqF, z_le, z_lt, z_eq, z_ite, z_at, z_pt, z_up, z_wr, z_wi1, z_wi0, z_wi, z_inS, z_toInt, z_nb0, z_nb1, Int.cast_ofNat_Int, true_and, and_true, not_true_eq_false, not_false_eq_true, false_imp_iff, true_imp_iff, aup_o, aup_k, ite_true, ite_false, z_fa000, z_fa001, z_fa010, z_fa011, z_fa100, z_fa101, z_fa110, z_fa111, if_true, if_false, e19, es, e98, e97]
        -- the first segment went too, and comes back with its number
        refine wX10_crash_134 hw ?_
        simp (disch := omega) only [z_app, z_rd, z_cl, z_add, z_sub, z_mul, z_neg, z_lit, z_leT, z_leF, z_ltT, z_ltF, z_eqT, z_eqF, i_leT, i_leF, i_ltT, i_ltF, i_eqT, i_eqF, z_le, z_lt, z_eq, z_ite, z_at, z_pt, z_up, z_wr, z_wi1, z_wi0, z_wi, z_inS, z_toInt, z_nb0, z_nb1, Int.cast_ofNat_Int, true_and, and_true, not_true_eq_false, not_false_eq_true, false_imp_iff, true_imp_iff, aup_o, aup_k, ite_true, ite_false, z_fa000, z_fa001, z_fa010, z_fa011, z_fa100, z_fa101, z_fa110, z_fa111, if_true, if_false]
        refine hQ _ (fun x x1 x2 x3 => by rw [aup_o x1, aup_o x3, aup_o x2, aup_o x1, ho x x1]) (fun j j1 => by rw [aup_k, if_neg j1, aup_o (by decide), aup_o (by decide), aup_k, if_neg j1, hj j j1]) (by rw [aup_s]; omega) (fun i j0 j1 => ?_)
        have e0 : i = 0 := by omega
        subst e0
        rw [aup_o (k' := 97) (by decide), aup_o (k' := 97) (by decide), aup_s, aup_o (k' := 98) (by decide), aup_s, Int.add_zero, ← hd, ec]
        exact ⟨rfl, rfl⟩
  exact key (s 21 3) m (-1) CT.2.1 (Int.le_refl _) (fun _ _ => rfl) (fun _ _ => rfl) h19
theorem m_crash (hw : qWF g) {p : Int} (hJ : jJ s) (hr0 : rL s (aup m 86 0 0)) (hr : rL s m) (p0 : s 2 10 ≤ p) (p1 : p ≤ s 2 9) {u : aS} (hu : crR s (mn p (fdS s)) u) (hQ : ∀ v, rL u v → mF (aup m 86 0 0) v → Q (iI (s 2 9 - mn p (fdS s))) (qi v)) : qC g (d + 3) mX10_crash [.inr 86, .inl (iI p)] (qi m) Q T := by
  have B := jb hJ
  have F := fd_b hJ
  have C0 : s 2 10 ≤ mn p (fdS s) ∧ mn p (fdS s) ≤ s 2 9 := by unfold mn; split <;> omega
  have ec : (if p < fdS s then p else fdS s) = mn p (fdS s) := rfl
  have CT := cuT_b hJ (cut := mn p (fdS s)) (by omega)
  have e15 := rs_15 hr
  have e16 := rs_16 hr
  obtain ⟨r1, r2, r3, r4, r5, r6, r7, r8, r9⟩ := id hr0
  refine wX10_crash hw ?_
  simp (disch := omega) only [z_app, z_rd, z_cl, z_add, z_sub, z_mul, z_neg, z_lit, z_leT, z_leF, z_ltT, z_ltF, z_eqT, z_eqF, i_leT, i_leF, i_ltT, i_ltF, i_eqT, i_eqF, z_le, z_lt, z_eq, z_ite, z_at, z_pt, z_up, z_wr, z_wi1, z_wi0, z_wi, z_inS, z_toInt, z_nb0, z_nb1, Int.cast_ofNat_Int, true_and, and_true, not_true_eq_false, not_false_eq_true, false_imp_iff, true_imp_iff, aup_o, aup_k, ite_true, ite_false, z_fa000, z_fa001, z_fa010, z_fa011, z_fa100, z_fa101, z_fa110, z_fa111, if_true, if_false, e15, e16]
  refine m_firstDamaged hw hJ hr0 ?_
  have e15' : aup m 86 0 0 86 15 = s 2 9 := rs_15 hr0
  simp +contextual (disch := omega) only [z_app, z_rd, z_cl, z_add, z_sub, z_mul, z_neg, z_lit, z_le, z_lt, z_eq, z_ite, z_at, z_pt, z_up, z_wr, z_wi, z_inS, z_toInt, z_nb0, z_nb1, Int.cast_ofNat_Int, true_and, and_true, not_true_eq_false, not_false_eq_true, false_imp_iff, true_imp_iff, aup_o, aup_k, ite_true, ite_false, ec, e15', e15]
  -- the last step: transactions, the next number, segments
  have last : ∀ (q : aS), mcT s (aup m 86 0 0) (mn p (fdS s)) 4 q → qV g mX10_crash (d + 3) 0 106 [some (.inr 86), some (.inl (iI p)), some (.inl (iI (mn p (fdS s)))), some (.inl (iI (s 2 9 - mn p (fdS s)))), some (.inl (iI 0))] [] (qi q) Q T := by
    intro q0 hq0
    have txs : ∀ (t : Int) (q : aS), 0 ≤ t → t ≤ 4 → mF (aup m 86 0 0) q → (∀ x : Nat, x ≠ 99 → q x = q0 x) → (∀ j, 0 ≤ j → j < t → q 99 j = -1) → qV g mX10_crash (d + 3) 0 106 [some (.inr 86), some (.inl (iI p)), some (.inl (iI (mn p (fdS s)))), some (.inl (iI (s 2 9 - mn p (fdS s)))), some (.inl (iI t))] [] (qi q) Q T := by
      refine stepUp 4 (fun t ih q t0 t1 hF ho h99 => wX10_crash_106 hw ?_)
      by_cases h : t < 4
      · simp (disch := omega) only [z_app, z_rd, z_cl, z_add, z_sub, z_mul, z_neg, z_lit, z_leT, z_leF, z_ltT, z_ltF, z_eqT, z_eqF, i_leT, i_leF, i_ltT, i_ltF, i_eqT, i_eqF, z_le, z_lt, z_eq, z_ite, z_at, z_pt, z_up, z_wr, z_wi1, z_wi0, z_wi, z_inS, z_toInt, z_nb0, z_nb1, Int.cast_ofNat_Int, true_and, and_true, not_true_eq_false, not_false_eq_true, false_imp_iff, true_imp_iff, aup_o, aup_k, ite_true, ite_false, z_fa000, z_fa001, z_fa010, z_fa011, z_fa100, z_fa101, z_fa110, z_fa111, if_true, if_false]
        refine ih h _ (by omega) (by omega) (mF_tr hF (mF_up (by decide) (by decide))) (fun x x1 => by rw [aup_o x1, ho x x1]) (fun j j0 j1 => ?_)
        rw [aup_k]
        split
        · rfl
        · exact h99 j j0 (by omega)
      · have et : t = 4 := by omega
        subst et
        simp (disch := omega) only [z_app, z_rd, z_cl, z_add, z_sub, z_mul, z_neg, z_lit, z_leT, z_leF, z_ltT, z_ltF, z_eqT, z_eqF, i_leT, i_leF, i_ltT, i_ltF, i_eqT, i_eqF, z_le, z_lt, z_eq, z_ite, z_at, z_pt, z_up, z_wr, z_wi1, z_wi0, z_wi, z_inS, z_toInt, z_nb0, z_nb1, Int.cast_ofNat_Int, true_and, and_true, not_true_eq_false, not_false_eq_true, false_imp_iff, true_imp_iff, aup_o, aup_k, ite_true, ite_false, z_fa000, z_fa001, z_fa010, z_fa011, z_fa100, z_fa101, z_fa110, z_fa111, if_true, if_false]
        obtain ⟨_, m2, m3, m3', m4, m5⟩ := hq0
        have w : ∀ x : Nat, x ≠ 86 → x ≠ 94 → x ≠ 99 → x ≠ 101 → x ≠ 104 → aup q 86 15 (mn p (fdS s)) x = aup m 86 0 0 x := fun x x1 x2 x3 x4 x5 => by rw [aup_o x1, ho x x3, m2 x x2 x4 x5]
        have w86 : ∀ j, j ≠ 15 → aup q 86 15 (mn p (fdS s)) 86 j = aup m 86 0 0 86 j := fun j hj => by rw [aup_k, if_neg hj, ho 86 (by decide), m2 86 (by decide) (by decide) (by decide)]
        have hG' : rG s (aup q 86 15 (mn p (fdS s))) := rG_b (a := aup m 86 0 0) (w 97 (by decide) (by decide) (by decide) (by decide) (by decide)) (w 98 (by decide) (by decide) (by decide) (by decide) (by decide)) r3
        have h19' : aup q 86 15 (mn p (fdS s)) 86 19 = s 21 3 - s 21 2 + 1 := by rw [w86 19 (by decide)]; exact rs_19 hr0
        refine m_segs hw hJ (by omega) C0.2 (fun v z1 z2 z3 z4 => hQ v ?_ ?_) hG' h19'
        · obtain ⟨ho', u9, u10, u18, u30, u36, ⟨u212, u213, u214, u215, u216⟩, u23, u25, u25t, u55, unow⟩ := hu
          have oo : ∀ x : Nat, x = 1 ∨ x = 4 ∨ x = 6 ∨ x = 8 ∨ x = 10 ∨ x = 12 ∨ x = 14 ∨ x = 16 ∨ x = 20 ∨ x = 26 ∨ x = 28 ∨ x = 32 ∨ x = 34 ∨ x = 38 ∨ x = 46 ∨ x = 48 ∨ x = 61 → u x = s x := fun x hx => ho' x (by omega) (by omega) (by omega) (by omega) (by omega) (by omega) (by omega) (by omega) (by omega) (by omega) (by omega)
          have zz : ∀ x : Nat, x ≠ 86 → x ≠ 94 → x ≠ 97 → x ≠ 98 → x ≠ 99 → x ≠ 101 → x ≠ 104 → v x = aup m 86 0 0 x := fun x x1 x2 x3 x4 x5 x6 x7 => by rw [z1 x x1 x3 x4, w x x1 x2 x5 x6 x7]
          have z86 : ∀ j, j ≠ 15 → j ≠ 19 → v 86 j = aup m 86 0 0 86 j := fun j h1 h2 => by rw [z2 j h2, w86 j h1]
          refine ⟨⟨?_, ?_, ?_, ?_, ?_, ?_, ?_, ?_, ?_, ?_⟩, ?_, ?_, ?_, ?_, ?_, ?_, ?_, ?_⟩
          · rw [z86 3 (by decide) (by decide), u214]; exact r1.1
          · rw [z86 4 (by decide) (by decide), oo 1 (by decide)]; exact r1.2.1
          · rw [z86 5 (by decide) (by decide), oo 1 (by decide)]; exact r1.2.2.1
          · rw [z2 15 (by decide), aup_s, u9]
          · rw [z86 16 (by decide) (by decide), u10]; exact r1.2.2.2.2.1
          · rw [z3, u213, u212]
          · rw [z86 20 (by decide) (by decide), u212]; exact r1.2.2.2.2.2.2.1
          · rw [z86 27 (by decide) (by decide), oo 26 (by decide)]; exact r1.2.2.2.2.2.2.2.1
          · rw [z86 28 (by decide) (by decide), oo 1 (by decide)]; exact r1.2.2.2.2.2.2.2.2.1
          · rw [z86 34 (by decide) (by decide), oo 1 (by decide)]; exact r1.2.2.2.2.2.2.2.2.2
          · intro j j0 j1
            rw [u9] at j1
            obtain ⟨q1, q2, q3, q4, q5, q6, q7, q8, q9⟩ := r2 j j0 (by omega)
            rw [zz 88 (by decide) (by decide) (by decide) (by decide) (by decide) (by decide) (by decide), zz 89 (by decide) (by decide) (by decide) (by decide) (by decide) (by decide) (by decide), zz 90 (by decide) (by decide) (by decide) (by decide) (by decide) (by decide) (by decide), zz 91 (by decide) (by decide) (by decide) (by decide) (by decide) (by decide) (by decide), zz 92 (by decide) (by decide) (by decide) (by decide) (by decide) (by decide) (by decide), zz 93 (by decide) (by decide) (by decide) (by decide) (by decide) (by decide) (by decide), zz 95 (by decide) (by decide) (by decide) (by decide) (by decide) (by decide) (by decide), zz 96 (by decide) (by decide) (by decide) (by decide) (by decide) (by decide) (by decide), oo 4 (by decide), oo 6 (by decide), oo 8 (by decide), oo 10 (by decide), oo 12 (by decide), oo 14 (by decide), oo 16 (by decide), oo 20 (by decide), u18 j j0 j1, z1 94 (by decide) (by decide) (by decide), aup_o (k' := 94) (by decide), ho 94 (by decide), m3 j j0 j1]
            exact ⟨q1, q2, q3, q4, q5, q6, rfl, q8, q9⟩
          · intro i i0 i1
            rw [u213, u212] at i1
            rw [u212, u23]
            exact z4 i i0 i1
          · intro j j0 j1
            rw [u55 j j0 j1, z1 99 (by decide) (by decide) (by decide), aup_o (by decide)]
            exact h99 j j0 j1
          · intro j j0 j1
            have cb := cb_b (p := mn p (fdS s)) hJ j0 j1
            rw [u30 j j0 j1, z1 101 (by decide) (by decide) (by decide), aup_o (k' := 101) (by decide), ho 101 (by decide), m4 j j0 j1, if_pos j1, zz 100 (by decide) (by decide) (by decide) (by decide) (by decide) (by decide) (by decide), oo 28 (by decide)]
            exact ⟨rfl, fun i i0 i1 => (r5 j j0 j1).2 i i0 (by omega)⟩
          · unfold rC at r6 ⊢
            rw [zz 102 (by decide) (by decide) (by decide) (by decide) (by decide) (by decide) (by decide), zz 103 (by decide) (by decide) (by decide) (by decide) (by decide) (by decide) (by decide), oo 26 (by decide), oo 32 (by decide), oo 34 (by decide)]
            exact r6
          · intro c k a0 a1 a2 a3
            rw [z1 104 (by decide) (by decide) (by decide), aup_o (k' := 104) (by decide), ho 104 (by decide), m5 c k a0 a1 a2 a3, oo 26 (by decide), oo 34 (by decide)]
            by_cases hc : c < s 26 6
            · have C := jc hJ a0 hc
              rw [u36 c a0 hc]
              by_cases hh : s 34 c ≤ k ∧ k < s 36 c ∧ k < cbS s (s 32 c) (mn p (fdS s))
              · rw [if_pos ⟨hc, hh.1, hh.2.1, fun _ => hh.2.2⟩, if_pos ⟨hc, hh.1, by split <;> omega⟩]
              · rw [if_neg (fun y => hh ⟨y.2.1, y.2.2.1, y.2.2.2 C.2.1⟩), if_neg (fun y => hh ⟨y.2.1, by have := y.2.2; split at this <;> omega, by have := y.2.2; split at this <;> omega⟩)]
            · rw [if_neg (fun y => hc y.1), if_neg (fun y => hc y.1)]
          · unfold rK at r8 ⊢
            rw [z86 29 (by decide) (by decide), zz 105 (by decide) (by decide) (by decide) (by decide) (by decide) (by decide) (by decide), zz 106 (by decide) (by decide) (by decide) (by decide) (by decide) (by decide) (by decide), zz 107 (by decide) (by decide) (by decide) (by decide) (by decide) (by decide) (by decide), oo 1 (by decide), oo 26 (by decide), oo 38 (by decide), oo 46 (by decide), oo 48 (by decide)]
            exact r8
          · unfold rM at r9 ⊢
            rw [zz 108 (by decide) (by decide) (by decide) (by decide) (by decide) (by decide) (by decide), oo 1 (by decide), oo 61 (by decide), oo 10 (by decide), oo 12 (by decide)]
            exact r9
        · refine mF_tr hF ⟨fun x x1 x2 => by rw [z1 x x2 (by omega) (by omega), aup_o x2], fun x x1 => by rw [z1 x (by omega) (by omega) (by omega), aup_o (by omega)], fun i hi => by rw [z2 i (by omega), aup_k, if_neg (by omega)]⟩
    exact txs 0 q0 (by omega) (by omega) hq0.1 (fun _ _ => rfl) (fun j j0 j1 => by omega)
  have tops : ∀ (t : Int) (q : aS), 0 ≤ t → t ≤ 4 → mcT s (aup m 86 0 0) (mn p (fdS s)) t q → qV g mX10_crash (d + 3) 0 84 [some (.inr 86), some (.inl (iI p)), some (.inl (iI (mn p (fdS s)))), some (.inl (iI (s 2 9 - mn p (fdS s)))), some (.inl (iI t))] [] (qi q) Q T := by
    refine stepUp 4 (fun t ih q t0 t1 hq => wX10_crash_84 hw ?_)
    by_cases h : t < 4
    · simp (disch := omega) only [z_app, z_rd, z_cl, z_add, z_sub, z_mul, z_neg, z_lit, z_leT, z_leF, z_ltT, z_ltF, z_eqT, z_eqF, i_leT, i_leF, i_ltT, i_ltF, i_eqT, i_eqF, z_le, z_lt, z_eq, z_ite, z_at, z_pt, z_up, z_wr, z_wi1, z_wi0, z_wi, z_inS, z_toInt, z_nb0, z_nb1, Int.cast_ofNat_Int, true_and, and_true, not_true_eq_false, not_false_eq_true, false_imp_iff, true_imp_iff, aup_o, aup_k, ite_true, ite_false, z_fa000, z_fa001, z_fa010, z_fa011, z_fa100, z_fa101, z_fa110, z_fa111, if_true, if_false]
      refine m_cutTopic hw hJ hr0 (by omega) C0.2 t0 h hq (fun v hv => ?_)
      exact ih h v (by omega) (by omega) hv
    · have et : t = 4 := by omega
      subst et
      simp (disch := omega) only [z_app, z_rd, z_cl, z_add, z_sub, z_mul, z_neg, z_lit, z_leT, z_leF, z_ltT, z_ltF, z_eqT, z_eqF, i_leT, i_leF, i_ltT, i_ltF, i_eqT, i_eqF, z_le, z_lt, z_eq, z_ite, z_at, z_pt, z_up, z_wr, z_wi1, z_wi0, z_wi, z_inS, z_toInt, z_nb0, z_nb1, Int.cast_ofNat_Int, true_and, and_true, not_true_eq_false, not_false_eq_true, false_imp_iff, true_imp_iff, aup_o, aup_k, ite_true, ite_false, z_fa000, z_fa001, z_fa010, z_fa011, z_fa100, z_fa101, z_fa110, z_fa111, if_true, if_false]
      exact last q hq
  have effs : ∀ (k : Int) (q : aS), 0 ≤ k → k ≤ mn p (fdS s) → mF (aup m 86 0 0) q → (∀ x : Nat, x ≠ 94 → q x = aup m 86 0 0 x) → (∀ j, 0 ≤ j → j < k → q 94 j = if mn p (fdS s) ≤ s 18 j then -1 else s 18 j) → (∀ j, k ≤ j → q 94 j = m 94 j) → qV g mX10_crash (d + 3) 0 50 [some (.inr 86), some (.inl (iI p)), some (.inl (iI (mn p (fdS s)))), some (.inl (iI (s 2 9 - mn p (fdS s)))), some (.inl (iI k))] [] (qi q) Q T := by
    refine stepUp (mn p (fdS s)) (fun k ih q k0 k1 hF ho hlo hhi => wX10_crash_50 hw ?_)
    by_cases h : k < mn p (fdS s)
    · have E := j_ef hJ k0 (by omega)
      have e94 : q 94 k = s 18 k := by rw [hhi k (Int.le_refl _)]; exact rr_94 hr k0 (by omega)
      by_cases hh : mn p (fdS s) ≤ s 18 k
      · simp (disch := omega) only [z_app, z_rd, z_cl, z_add, z_sub, z_mul, z_neg, z_lit, z_leT, z_leF, z_ltT, z_ltF, z_eqT, z_eqF, i_leT, i_leF, i_ltT, i_ltF, i_eqT, i_eqF, z_le, z_lt, z_eq, z_ite, z_at, z_pt, z_up, z_wr, z_wi1, z_wi0, z_wi, z_inS, z_toInt, z_nb0, z_nb1, Int.cast_ofNat_Int, true_and, and_true, not_true_eq_false, not_false_eq_true, false_imp_iff, true_imp_iff, aup_o, aup_k, ite_true, ite_false, z_fa000, z_fa001, z_fa010, z_fa011, z_fa100, z_fa101, z_fa110, z_fa111, if_true, if_false, e94]
        refine ih h _ (by omega) (by omega) (mF_tr hF (mF_up (by decide) (by decide))) (fun x x1 => by rw [aup_o x1, ho x x1]) (fun j j0 j1 => ?_) (fun j j0 => by rw [aup_k, if_neg (by omega)]; exact hhi j (by omega))
        rw [aup_k]
        by_cases hj : j = k
        · rw [if_pos hj, hj, if_pos hh]
        · rw [if_neg hj]; exact hlo j j0 (by omega)
      · simp (disch := omega) only [z_app, z_rd, z_cl, z_add, z_sub, z_mul, z_neg, z_lit, z_leT, z_leF, z_ltT, z_ltF, z_eqT, z_eqF, i_leT, i_leF, i_ltT, i_ltF, i_eqT, i_eqF, z_le, z_lt, z_eq, z_ite, z_at, z_pt, z_up, z_wr, z_wi1, z_wi0, z_wi, z_inS, z_toInt, z_nb0, z_nb1, Int.cast_ofNat_Int, true_and, and_true, not_true_eq_false, not_false_eq_true, false_imp_iff, true_imp_iff, aup_o, aup_k, ite_true, ite_false, z_fa000, z_fa001, z_fa010, z_fa011, z_fa100, z_fa101, z_fa110, z_fa111, if_true, if_false, e94]
        refine ih h _ (by omega) (by omega) hF ho (fun j j0 j1 => ?_) (fun j j0 => hhi j (by omega))
        by_cases hj : j = k
        · rw [hj, e94, if_neg hh]
        · exact hlo j j0 (by omega)
    · have ek : k = mn p (fdS s) := by omega
      rw [ek] at hlo hhi ⊢
      simp (disch := omega) only [z_app, z_rd, z_cl, z_add, z_sub, z_mul, z_neg, z_lit, z_leT, z_leF, z_ltT, z_ltF, z_eqT, z_eqF, i_leT, i_leF, i_ltT, i_ltF, i_eqT, i_eqF, z_le, z_lt, z_eq, z_ite, z_at, z_pt, z_up, z_wr, z_wi1, z_wi0, z_wi, z_inS, z_toInt, z_nb0, z_nb1, Int.cast_ofNat_Int, true_and, and_true, not_true_eq_false, not_false_eq_true, false_imp_iff, true_imp_iff, aup_o, aup_k, ite_true, ite_false, z_fa000, z_fa001, z_fa010, z_fa011, z_fa100, z_fa101, z_fa110, z_fa111, if_true, if_false]
      refine tops 0 q (by omega) (by omega) ⟨hF, fun x x1 _ _ => ho x x1, hlo, fun j j0 => hhi j j0, fun j j0 j1 => ?_, fun c k' a0 a1 a2 a3 => ?_⟩
      · rw [ho 101 (by decide), if_neg (by omega)]
        exact (r5 j j0 j1).1
      · rw [ho 104 (by decide), r7 c k' a0 a1 a2 a3]
        by_cases hc : c < s 26 6 ∧ s 34 c ≤ k' ∧ k' < s 36 c
        · have C := jc hJ a0 hc.1
          rw [if_pos hc, if_pos ⟨hc.1, hc.2.1, hc.2.2, fun l => by omega⟩]
        · rw [if_neg hc, if_neg (fun y => hc ⟨y.1, y.2.1, y.2.2.1⟩)]
  exact effs 0 _ (by omega) (by omega) (mF_rf _) (fun _ _ => rfl) (fun j j0 j1 => by omega) (fun j _ => by rw [aup_o (by decide)])
theorem pr_21 (hw : qWF g) : ∀ (σ : qS) (a1 : Int32), lR σ → lPair g 20 lR mX9_crash mX10_crash [.inl a1] ["java/lang/IllegalArgumentException"] σ := by
  rintro σ x1 ⟨a, rfl, hJ, hr⟩
  obtain ⟨p, ⟨i1, i2⟩, rfl⟩ := z_of x1
  have B : 0 ≤ a 2 10 ∧ a 2 10 ≤ a 2 9 ∧ a 2 9 ≤ 400 := by have := jb hJ; omega
  by_cases hp : a 2 10 ≤ p ∧ p ≤ a 2 9
  · have F := fd_b hJ
    have C0 : a 2 10 ≤ mn p (fdS a) ∧ mn p (fdS a) ≤ a 2 9 := by unfold mn; split <;> omega
    unfold lPair
    refine wX9_crash hw ?_
    simp (disch := omega) only [z_app, z_rd, z_cl, z_add, z_sub, z_mul, z_neg, z_lit, z_leT, z_leF, z_ltT, z_ltF, z_eqT, z_eqF, i_leT, i_leF, i_ltT, i_ltF, i_eqT, i_eqF, z_le, z_lt, z_eq, z_ite, z_at, z_pt, z_up, z_wr, z_wi1, z_wi0, z_wi, z_inS, z_toInt, z_nb0, z_nb1, Int.cast_ofNat_Int, true_and, and_true, not_true_eq_false, not_false_eq_true, false_imp_iff, true_imp_iff, aup_o, aup_k, ite_true, ite_false, z_fa000, z_fa001, z_fa010, z_fa011, z_fa100, z_fa101, z_fa110, z_fa111, if_true, if_false]
    refine k_rA1 hw (k_cutAt hw hJ hp.1 hp.2 (fun u hu => ?_))
    have Ju := j_cr hJ C0.1 C0.2 hu
    have h62 : ∀ x : Nat, x = 0 ∨ 62 ≤ x → u x = a x := fun x hx => hu.1 x (by omega) (by omega) (by omega) (by omega) (by omega) (by omega) (by omega) (by omega) (by omega) (by omega) (by omega)
    have hm : mO g 20 mX10_crash [.inl (iI p)] a u (.inl (a 2 9 - mn p (fdS a))) := m_op_ret h62 fun m Q hr0 hQ hr1 => m_crash hw hJ hr0 hr1 hp.1 hp.2 hu hQ
    have hk : kO g 20 mX9_crash [.inl (iI p)] ["java/lang/IllegalArgumentException"] a u (.inl (a 2 9 - mn p (fdS a))) → True := fun _ => trivial
    rw [z_up]
    refine hm _ _ (rJ_fr hr (fun k h1 h2 => by rw [aup_o (by omega), h62 k (Or.inr (by omega))]) (fun i hi => by rw [aup_o (by decide), h62 86 (by decide)])) (fun b r h1 h2 h3 h4 => ⟨lR_of Ju h1 (fun k hk' => ?_), ?_, ?_⟩)
    · rw [h2 k (Or.inl hk'), aup_o (by omega)]
    · show iI (b 86 ((0 : Nat) : Int)) = 0
      rw [show b 86 ((0 : Nat) : Int) = 0 from (h3 _ rfl).1]
      rfl
    · rw [(h3 _ rfl).2]
      show iI _ = iI (b 122 ((0 : Nat) : Int))
      rw [h2 122 (Or.inr (by decide))]
      exact congrArg iI (aup_s _ _ _ _).symm
  · refine pair_of (o := .inr 0) (a' := a) (k_thr rfl fun Q T hT => wX9_crash hw ?_) (m_thr fun m Q hrJ hQ => wX10_crash hw ?_) hr hJ (fun _ _ => rfl) (es_n1 _)
    · simp (disch := omega) only [z_app, z_rd, z_cl, z_add, z_sub, z_mul, z_neg, z_lit, z_leT, z_leF, z_ltT, z_ltF, z_eqT, z_eqF, i_leT, i_leF, i_ltT, i_ltF, i_eqT, i_eqF, z_le, z_lt, z_eq, z_ite, z_at, z_pt, z_up, z_wr, z_wi1, z_wi0, z_wi, z_inS, z_toInt, z_nb0, z_nb1, Int.cast_ofNat_Int, true_and, and_true, not_true_eq_false, not_false_eq_true, false_imp_iff, true_imp_iff, aup_o, aup_k, ite_true, ite_false, z_fa000, z_fa001, z_fa010, z_fa011, z_fa100, z_fa101, z_fa110, z_fa111, if_true, if_false]
      exact k_rA0 hw hT
    · have e15 := rs_15 hrJ.1
      have e16 := rs_16 hrJ.1
      simp (disch := omega) only [z_app, z_rd, z_cl, z_add, z_sub, z_mul, z_neg, z_lit, z_leT, z_leF, z_ltT, z_ltF, z_eqT, z_eqF, i_leT, i_leF, i_ltT, i_ltF, i_eqT, i_eqF, z_le, z_lt, z_eq, z_ite, z_at, z_pt, z_up, z_wr, z_wi1, z_wi0, z_wi, z_inS, z_toInt, z_nb0, z_nb1, Int.cast_ofNat_Int, true_and, and_true, not_true_eq_false, not_false_eq_true, false_imp_iff, true_imp_iff, aup_o, aup_k, ite_true, ite_false, z_fa000, z_fa001, z_fa010, z_fa011, z_fa100, z_fa101, z_fa110, z_fa111, if_true, if_false, e15, e16]
      exact hQ 0
end MC
