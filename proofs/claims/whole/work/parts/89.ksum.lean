/-! ===== the class's runner: sums ===== -/
theorem pcmd_J {C V : Int → Int} {c : Int} (hB : tB C V c) {j k : Int} {st : List Int} {J E : Int → Int} (j0 : 0 ≤ j) (j1 : j ≤ c) (hJ : ∀ a, 0 ≤ a → a < k → 0 ≤ J a ∧ J a < c) : (∀ j' k' st' J' E', pcmd C V j k st J E = .inl (j', k', st', J', E') → 0 ≤ j' ∧ j' ≤ c ∧ ∀ a, 0 ≤ a → a < k' → 0 ≤ J' a ∧ J' a < c) ∧ (∀ r, pcmd C V j k st J E ≠ .inr (.inl r)) := by
  unfold pcmd
  by_cases h1 : 256 ≤ C j ∧ C j ≤ 268
  · rw [if_pos h1]
    have jc := tB_lt hB j0 j1 (by omega)
    have hJ2 : ∀ a, 0 ≤ a → a < k + 1 → 0 ≤ fup J k j a ∧ fup J k j a < c := fun a a0 a1 => by
      unfold fup
      by_cases e : a = k
      · rw [if_pos e]; exact ⟨j0, jc⟩
      · rw [if_neg e]; exact hJ a a0 (by omega)
    by_cases h2 : k = 60
    · rw [if_pos h2]; exact ⟨fun _ _ _ _ _ h => (by cases h), fun _ h => (by cases h)⟩
    · rw [if_neg h2]
      cases hp : pbody C V j with
      | inr f => exact ⟨fun _ _ _ _ _ h => (by cases h), fun _ h => (by cases h)⟩
      | inl x =>
        have xb := pbody_b hB j0 jc x hp
        show (∀ j' k' st' J' E', (if 267 ≤ C j then (if C x = 40 then (if st.length = 4 then .inr (.inr (3, x)) else .inl (x + 1, k + 1, k :: st, fup J k j, fup E k (k + 1))) else .inr (.inr (1, x))) else (if C x = 59 then .inl (x + 1, k + 1, st, fup J k j, fup E k (k + 1)) else .inr (.inr (1, x))) : pX ⊕ pR) = .inl (j', k', st', J', E') → _) ∧ (∀ r, (if 267 ≤ C j then (if C x = 40 then (if st.length = 4 then .inr (.inr (3, x)) else .inl (x + 1, k + 1, k :: st, fup J k j, fup E k (k + 1))) else .inr (.inr (1, x))) else (if C x = 59 then .inl (x + 1, k + 1, st, fup J k j, fup E k (k + 1)) else .inr (.inr (1, x))) : pX ⊕ pR) ≠ .inr (.inl r))
        by_cases h3 : 267 ≤ C j
        · rw [if_pos h3]
          by_cases h4 : C x = 40
          · have xc := tB_lt hB (j := x) (by omega) xb.2 (by omega)
            rw [if_pos h4]
            by_cases h5 : st.length = 4
            · rw [if_pos h5]; exact ⟨fun _ _ _ _ _ h => (by cases h), fun _ h => (by cases h)⟩
            · rw [if_neg h5]; exact ⟨fun _ _ _ _ _ h => (by cases h; exact ⟨by omega, by omega, hJ2⟩), fun _ h => (by cases h)⟩
          · rw [if_neg h4]; exact ⟨fun _ _ _ _ _ h => (by cases h), fun _ h => (by cases h)⟩
        · rw [if_neg h3]
          by_cases h4 : C x = 59
          · have xc := tB_lt hB (j := x) (by omega) xb.2 (by omega)
            rw [if_pos h4]; exact ⟨fun _ _ _ _ _ h => (by cases h; exact ⟨by omega, by omega, hJ2⟩), fun _ h => (by cases h)⟩
          · rw [if_neg h4]; exact ⟨fun _ _ _ _ _ h => (by cases h), fun _ h => (by cases h)⟩
  · rw [if_neg h1]; exact ⟨fun _ _ _ _ _ h => (by cases h), fun _ h => (by cases h)⟩
theorem prun_J {C V : Int → Int} {c : Int} (hB : tB C V c) {k' : Int} {J' E' : Int → Int} : ∀ (n : Nat) (j k : Int) (st : List Int) (J E : Int → Int), prun C V n (j, k, st, J, E) = some (.inl (k', J', E')) → 0 ≤ j → j ≤ c → (∀ a, 0 ≤ a → a < k → 0 ≤ J a ∧ J a < c) → ∀ a, 0 ≤ a → a < k' → 0 ≤ J' a ∧ J' a < c := by
  intro n
  induction n with
  | zero => intro j k st J E h; cases h
  | succ n ih =>
    intro j k st J E h j0 j1 hJ
    have h : (match pstep C V (j, k, st, J, E) with | .inl Y => prun C V n Y | .inr r => some r) = some (.inl (k', J', E')) := h
    obtain ⟨P1, P2⟩ := pcmd_J (st := st) (E := E) hB j0 j1 hJ
    have cmd : pstep C V (j, k, st, J, E) = pcmd C V j k st J E → ∀ a, 0 ≤ a → a < k' → 0 ≤ J' a ∧ J' a < c := fun e => by
      rw [e] at h
      cases hp : pcmd C V j k st J E with
      | inr r =>
        rw [hp] at h
        have := Option.some.inj h
        rw [this] at hp
        exact (P2 _ hp).elim
      | inl Y =>
        obtain ⟨j2, k2, st2, J2, E2⟩ := Y
        obtain ⟨q1, q2, q3⟩ := P1 _ _ _ _ _ hp
        rw [hp] at h
        exact ih j2 k2 st2 J2 E2 h q1 q2 q3
    cases st with
    | nil =>
      by_cases h3 : C j = 303
      · have e : pstep C V (j, k, [], J, E) = .inr (.inl (k, J, E)) := if_pos h3
        rw [e] at h
        have := Option.some.inj h
        cases this
        exact hJ
      · exact cmd (if_neg h3)
    | cons o rs =>
      by_cases h3 : C j = 41
      · have e : pstep C V (j, k, o :: rs, J, E) = if C (j + 1) = 59 then .inl (j + 2, k, rs, J, fup E o k) else .inr (.inr (1, j + 1)) := if_pos h3
        rw [e] at h
        have jc := tB_lt hB j0 j1 (by omega)
        by_cases h4 : C (j + 1) = 59
        · rw [if_pos h4] at h
          have jc2 := tB_lt hB (j := j + 1) (by omega) (by omega) (by omega)
          exact ih _ _ _ _ _ h (by omega) (by omega) hJ
        · rw [if_neg h4] at h
          have := Option.some.inj h
          cases this
      · exact cmd (if_neg h3)
theorem pfin_J {C V : Int → Int} {c : Int} (hB : tB C V c) {k : Int} {J E : Int → Int} (h : pfin C V pX0 (.inl (k, J, E))) : ∀ a, 0 ≤ a → a < k → 0 ≤ J a ∧ J a < c := by
  obtain ⟨n, hn⟩ := h
  exact prun_J hB n 0 0 [] (fun _ => 0) (fun _ => 0) hn (by decide) hB.1.1 (fun a a0 a1 => by omega)
/-- what the class counts at a token -/
def am (s : aS) (j : Int) : Int := if s 80 j = 270 then s 2 9 else if s 80 j = 271 then s 2 10 else if s 80 j = 272 then s 21 5 else if s 80 j = 273 then 0 else if s 80 (j - 1) = 273 then (if s 84 j < 0 ∨ s 26 6 ≤ s 84 j then 0 else s 30 (s 32 (s 84 j)) - s 34 (s 84 j)) else s 84 j
section KS
variable {g : qG} {d : Nat} {Q : Int32 → qS → Prop} {T : String → qS → Prop} {s : aS} {c : Int}
theorem k_amount (hw : qWF g) (hJ : jJ s) (hB : tB (s 80) (s 84) c) {j : Int} (j0 : 1 ≤ j) (j1 : j < c) (hc : s 80 j = 301 ∨ (270 ≤ s 80 j ∧ s 80 j ≤ 273)) (hQ : Q (iI (am s j)) (qi s)) : qC g (d + 2) mX6_amountAt [.inr 62, .inr 1, .inl (iI j)] (qi s) Q T := by
  have c9 := hB.1
  have B1 := (hB.2 j (by omega) (by omega))
  have B0 := (hB.2 (j - 1) (by omega) (by omega)).1
  have b := jb hJ
  unfold am at hQ
  refine wX6_amountAt hw ?_
  by_cases h0 : s 80 j = 270
  · rw [if_pos h0] at hQ
    clear hc B1
    simp (disch := omega) only [z_app, z_rd, z_cl, z_add, z_sub, z_mul, z_neg, z_lit, z_leT, z_leF, z_ltT, z_ltF, z_eqT, z_eqF, i_leT, i_leF, i_ltT, i_ltF, i_eqT, i_eqF, z_le, z_lt, z_eq, z_ite, z_at, z_pt, z_up, z_wr, z_wi1, z_wi0, z_wi, z_inS, z_toInt, z_nb0, z_nb1, Int.cast_ofNat_Int, true_and, and_true, not_true_eq_false, not_false_eq_true, false_imp_iff, true_imp_iff, aup_o, aup_k, ite_true, ite_false, z_fa000, z_fa001, z_fa010, z_fa011, z_fa100, z_fa101, z_fa110, z_fa111, if_true, if_false, h0]
    exact hQ
  rw [if_neg h0] at hQ
  by_cases h1 : s 80 j = 271
  · rw [if_pos h1] at hQ
    clear hc B1
    simp (disch := omega) only [z_app, z_rd, z_cl, z_add, z_sub, z_mul, z_neg, z_lit, z_leT, z_leF, z_ltT, z_ltF, z_eqT, z_eqF, i_leT, i_leF, i_ltT, i_ltF, i_eqT, i_eqF, z_le, z_lt, z_eq, z_ite, z_at, z_pt, z_up, z_wr, z_wi1, z_wi0, z_wi, z_inS, z_toInt, z_nb0, z_nb1, Int.cast_ofNat_Int, true_and, and_true, not_true_eq_false, not_false_eq_true, false_imp_iff, true_imp_iff, aup_o, aup_k, ite_true, ite_false, z_fa000, z_fa001, z_fa010, z_fa011, z_fa100, z_fa101, z_fa110, z_fa111, if_true, if_false, h1]
    exact hQ
  rw [if_neg h1] at hQ
  by_cases h2 : s 80 j = 272
  · rw [if_pos h2] at hQ
    clear hc B1
    simp (disch := omega) only [z_app, z_rd, z_cl, z_add, z_sub, z_mul, z_neg, z_lit, z_leT, z_leF, z_ltT, z_ltF, z_eqT, z_eqF, i_leT, i_leF, i_ltT, i_ltF, i_eqT, i_eqF, z_le, z_lt, z_eq, z_ite, z_at, z_pt, z_up, z_wr, z_wi1, z_wi0, z_wi, z_inS, z_toInt, z_nb0, z_nb1, Int.cast_ofNat_Int, true_and, and_true, not_true_eq_false, not_false_eq_true, false_imp_iff, true_imp_iff, aup_o, aup_k, ite_true, ite_false, z_fa000, z_fa001, z_fa010, z_fa011, z_fa100, z_fa101, z_fa110, z_fa111, if_true, if_false, h2]
    exact hQ
  rw [if_neg h2] at hQ
  by_cases h3 : s 80 j = 273
  · rw [if_pos h3] at hQ
    clear hc B1
    simp (disch := omega) only [z_app, z_rd, z_cl, z_add, z_sub, z_mul, z_neg, z_lit, z_leT, z_leF, z_ltT, z_ltF, z_eqT, z_eqF, i_leT, i_leF, i_ltT, i_ltF, i_eqT, i_eqF, z_le, z_lt, z_eq, z_ite, z_at, z_pt, z_up, z_wr, z_wi1, z_wi0, z_wi, z_inS, z_toInt, z_nb0, z_nb1, Int.cast_ofNat_Int, true_and, and_true, not_true_eq_false, not_false_eq_true, false_imp_iff, true_imp_iff, aup_o, aup_k, ite_true, ite_false, z_fa000, z_fa001, z_fa010, z_fa011, z_fa100, z_fa101, z_fa110, z_fa111, if_true, if_false, h3]
    exact hQ
  rw [if_neg h3] at hQ
  have hc1 : s 80 j = 301 := by omega
  have V1 := B1.2.2.2 hc1
  clear hc B1
  by_cases h4 : s 80 (j - 1) = 273
  · rw [if_pos h4] at hQ
    by_cases h5 : s 84 j < 0 ∨ s 26 6 ≤ s 84 j
    · rw [if_pos h5] at hQ
      have h6 : s 26 6 ≤ s 84 j := by omega
      clear h5
      simp (disch := omega) only [z_app, z_rd, z_cl, z_add, z_sub, z_mul, z_neg, z_lit, z_leT, z_leF, z_ltT, z_ltF, z_eqT, z_eqF, i_leT, i_leF, i_ltT, i_ltF, i_eqT, i_eqF, z_le, z_lt, z_eq, z_ite, z_at, z_pt, z_up, z_wr, z_wi1, z_wi0, z_wi, z_inS, z_toInt, z_nb0, z_nb1, Int.cast_ofNat_Int, true_and, and_true, not_true_eq_false, not_false_eq_true, false_imp_iff, true_imp_iff, aup_o, aup_k, ite_true, ite_false, z_fa000, z_fa001, z_fa010, z_fa011, z_fa100, z_fa101, z_fa110, z_fa111, if_true, if_false, hc1, h4, or_self, or_true, true_or, or_false, false_or]
      exact hQ
    · rw [if_neg h5] at hQ
      have h6 : s 84 j < s 26 6 := by omega
      have ku := k_unreadOf (d := d) (T := T) (Q := Q) hw hJ V1.1 h6 hQ
      clear h5 hQ
      simp (disch := omega) only [z_app, z_rd, z_cl, z_add, z_sub, z_mul, z_neg, z_lit, z_leT, z_leF, z_ltT, z_ltF, z_eqT, z_eqF, i_leT, i_leF, i_ltT, i_ltF, i_eqT, i_eqF, z_le, z_lt, z_eq, z_ite, z_at, z_pt, z_up, z_wr, z_wi1, z_wi0, z_wi, z_inS, z_toInt, z_nb0, z_nb1, Int.cast_ofNat_Int, true_and, and_true, not_true_eq_false, not_false_eq_true, false_imp_iff, true_imp_iff, aup_o, aup_k, ite_true, ite_false, z_fa000, z_fa001, z_fa010, z_fa011, z_fa100, z_fa101, z_fa110, z_fa111, if_true, if_false, hc1, h4, or_self, or_true, true_or, or_false, false_or]
      exact ku
  · rw [if_neg h4] at hQ
    simp (disch := omega) only [z_app, z_rd, z_cl, z_add, z_sub, z_mul, z_neg, z_lit, z_leT, z_leF, z_ltT, z_ltF, z_eqT, z_eqF, i_leT, i_leF, i_ltT, i_ltF, i_eqT, i_eqF, z_le, z_lt, z_eq, z_ite, z_at, z_pt, z_up, z_wr, z_wi1, z_wi0, z_wi, z_inS, z_toInt, z_nb0, z_nb1, Int.cast_ofNat_Int, true_and, and_true, not_true_eq_false, not_false_eq_true, false_imp_iff, true_imp_iff, aup_o, aup_k, ite_true, ite_false, z_fa000, z_fa001, z_fa010, z_fa011, z_fa100, z_fa101, z_fa110, z_fa111, if_true, if_false, hc1, h4]
    exact hQ
theorem av_1 (x sg : Int) : av s (-1, x, sg) = x := rfl
theorem k_sum_l (hw : qWF g) (hJ : jJ s) (hB : tB (s 80) (s 84) c) {to : Int} {l2 : Int32} (t1 : to ≤ c) : ∀ (f : Nat) (j acc sg : Int) (o7 : Option qP), psum (s 80) f j = .inl to → 1 ≤ j → j ≤ c → s 80 (j - 1) ≠ 273 → Q (iI (sv s acc (psl (s 80) (s 84) f sg j))) (qi s) → qV g mX6_sumOf (d + 3) 0 9 [some (.inr 62), some (.inr 1), some (.inl l2), some (.inl (iI to)), some (.inl (iI acc)), some (.inl (iI sg)), some (.inl (iI j)), o7] [] (qi s) Q T := by
  have c9 := hB.1
  intro f
  induction f with
  | zero => intro j acc sg o7 hp; cases hp
  | succ f ih =>
    intro j acc sg o7 hp j0 j1 hj hQ
    rw [psum_s] at hp
    rw [psl_s] at hQ
    cases hx : patom (s 80) j with
    | inr x => rw [hx] at hp; cases hp
    | inl y =>
      rw [hx] at hQ
      have hQ : Q (iI (sv s acc (atm (s 80) (s 84) sg j :: (if s 80 y = 43 ∨ s 80 y = 45 then psl (s 80) (s 84) f (if s 80 y = 43 then 1 else -1) (y + 1) else [])))) (qi s) := hQ
      have hp : (if s 80 y = 43 ∨ s 80 y = 45 then psum (s 80) f (y + 1) else .inl y) = .inl to := by rw [hx] at hp; exact hp
      have yb := (patom_b hB (by omega) j1).1 y hx
      have By := (hB.2 y (by omega) yb.2).1
      have ty : y ≤ to := by
        by_cases hs : s 80 y = 43 ∨ s 80 y = 45
        · rw [if_pos hs] at hp
          have yc := tB_lt hB (j := y) (by omega) yb.2 (by omega)
          have := (psum_b hB f (y + 1) (by omega) (by omega)).1 to hp
          omega
        · rw [if_neg hs] at hp
          have := Sum.inl.inj hp
          omega
      have nx : ∀ (x' : Int) (o7 : Option qP), Q (iI (sv s x' (if s 80 y = 43 ∨ s 80 y = 45 then psl (s 80) (s 84) f (if s 80 y = 43 then 1 else -1) (y + 1) else []))) (qi s) → qV g mX6_sumOf (d + 3) 0 9 [some (.inr 62), some (.inr 1), some (.inl l2), some (.inl (iI to)), some (.inl (iI x')), some (.inl (iI sg)), some (.inl (iI y)), o7] [] (qi s) Q T := by
        intro x' o7 q
        refine wX6_sumOf_9 hw ?_
        by_cases hs : s 80 y = 43 ∨ s 80 y = 45
        · rw [if_pos hs] at hp q
          have yc := tB_lt hB (j := y) (by omega) yb.2 (by omega)
          have t2 := ((psum_b hB f (y + 1) (by omega) (by omega)).1 to hp).1
          have st := fun o7 => ih (y + 1) x' (if s 80 y = 43 then 1 else -1) o7 hp (by omega) (by omega) (by rw [show y + 1 - 1 = y by omega]; omega) q
          by_cases h3 : s 80 y = 43
          · rw [if_pos h3] at st
            clear hs ih hQ q hp
            simp (disch := omega) only [z_app, z_rd, z_cl, z_add, z_sub, z_mul, z_neg, z_lit, z_leT, z_leF, z_ltT, z_ltF, z_eqT, z_eqF, i_leT, i_leF, i_ltT, i_ltF, i_eqT, i_eqF, z_le, z_lt, z_eq, z_ite, z_at, z_pt, z_up, z_wr, z_wi1, z_wi0, z_wi, z_inS, z_toInt, z_nb0, z_nb1, Int.cast_ofNat_Int, true_and, and_true, not_true_eq_false, not_false_eq_true, false_imp_iff, true_imp_iff, aup_o, aup_k, ite_true, ite_false, z_fa000, z_fa001, z_fa010, z_fa011, z_fa100, z_fa101, z_fa110, z_fa111, if_true, if_false, h3]
            exact st _
          · rw [if_neg h3] at st
            have h5 : s 80 y = 45 := by omega
            clear hs ih hQ q hp
            simp (disch := omega) only [z_app, z_rd, z_cl, z_add, z_sub, z_mul, z_neg, z_lit, z_leT, z_leF, z_ltT, z_ltF, z_eqT, z_eqF, i_leT, i_leF, i_ltT, i_ltF, i_eqT, i_eqF, z_le, z_lt, z_eq, z_ite, z_at, z_pt, z_up, z_wr, z_wi1, z_wi0, z_wi, z_inS, z_toInt, z_nb0, z_nb1, Int.cast_ofNat_Int, true_and, and_true, not_true_eq_false, not_false_eq_true, false_imp_iff, true_imp_iff, aup_o, aup_k, ite_true, ite_false, z_fa000, z_fa001, z_fa010, z_fa011, z_fa100, z_fa101, z_fa110, z_fa111, if_true, if_false, h5]
            exact st _
        · rw [if_neg hs] at hp q
          have e := Sum.inl.inj hp
          have e2 : to ≤ y := by omega
          have q : Q (iI x') (qi s) := q
          clear hs ih hQ hp
          simp (disch := omega) only [z_app, z_rd, z_cl, z_add, z_sub, z_mul, z_neg, z_lit, z_leT, z_leF, z_ltT, z_ltF, z_eqT, z_eqF, i_leT, i_leF, i_ltT, i_ltF, i_eqT, i_eqF, z_le, z_lt, z_eq, z_ite, z_at, z_pt, z_up, z_wr, z_wi1, z_wi0, z_wi, z_inS, z_toInt, z_nb0, z_nb1, Int.cast_ofNat_Int, true_and, and_true, not_true_eq_false, not_false_eq_true, false_imp_iff, true_imp_iff, aup_o, aup_k, ite_true, ite_false, z_fa000, z_fa001, z_fa010, z_fa011, z_fa100, z_fa101, z_fa110, z_fa111, if_true, if_false]
          exact q
      unfold atm at hQ
      unfold patom at hx
      by_cases c7 : s 80 j = 273
      · rw [if_pos c7] at hx
        have jc := tB_lt hB (j := j) (by omega) j1 (by omega)
        by_cases c8 : s 80 (j + 1) = 301
        · rw [if_pos c8] at hx
          have ey : y = j + 2 := (Sum.inl.inj hx).symm
          rw [if_neg (by omega), if_pos c7] at hQ
          have hQ : Q (iI (sv s (acc + sg * av s (17, s 84 (j + 1), sg)) _)) (qi s) := hQ
          have a0 : am s j = 0 := by
            unfold am
            rw [if_neg (by omega), if_neg (by omega), if_neg (by omega), if_pos c7]
          have a1 : am s (j + 1) = av s (17, s 84 (j + 1), sg) := by
            unfold am
            rw [if_neg (by omega), if_neg (by omega), if_neg (by omega), if_neg (by omega), if_pos (by rw [show j + 1 - 1 = j by omega]; exact c7)]
            rfl
          have q2 := fun o7 => nx _ o7 hQ
          have s2 : ∀ o7, qV g mX6_sumOf (d + 3) 0 9 [some (.inr 62), some (.inr 1), some (.inl l2), some (.inl (iI to)), some (.inl (iI acc)), some (.inl (iI sg)), some (.inl (iI (j + 1))), o7] [] (qi s) Q T := fun o7 => by
            have jc2 := tB_lt hB (j := j + 1) (by omega) (by omega) (by omega)
            have ka := fun (Q' : Int32 → qS → Prop) => k_amount (d := d) (Q := Q') (T := T) hw hJ hB (j := j + 1) (by omega) jc2 (Or.inl c8)
            rw [a1] at ka
            refine wX6_sumOf_9 hw ?_
            rw [show y = j + 1 + 1 by omega] at q2
            clear hQ nx ih hp hx By
            simp (disch := omega) only [z_app, z_rd, z_cl, z_add, z_sub, z_mul, z_neg, z_lit, z_leT, z_leF, z_ltT, z_ltF, z_eqT, z_eqF, i_leT, i_leF, i_ltT, i_ltF, i_eqT, i_eqF, z_le, z_lt, z_eq, z_ite, z_at, z_pt, z_up, z_wr, z_wi1, z_wi0, z_wi, z_inS, z_toInt, z_nb0, z_nb1, Int.cast_ofNat_Int, true_and, and_true, not_true_eq_false, not_false_eq_true, false_imp_iff, true_imp_iff, aup_o, aup_k, ite_true, ite_false, z_fa000, z_fa001, z_fa010, z_fa011, z_fa100, z_fa101, z_fa110, z_fa111, if_true, if_false, c8]
            refine ka _ ?_
            simp (disch := omega) only [z_app, z_rd, z_cl, z_add, z_sub, z_mul, z_neg, z_lit, z_leT, z_leF, z_ltT, z_ltF, z_eqT, z_eqF, i_leT, i_leF, i_ltT, i_ltF, i_eqT, i_eqF, z_le, z_lt, z_eq, z_ite, z_at, z_pt, z_up, z_wr, z_wi1, z_wi0, z_wi, z_inS, z_toInt, z_nb0, z_nb1, Int.cast_ofNat_Int, true_and, and_true, not_true_eq_false, not_false_eq_true, false_imp_iff, true_imp_iff, aup_o, aup_k, ite_true, ite_false, z_fa000, z_fa001, z_fa010, z_fa011, z_fa100, z_fa101, z_fa110, z_fa111, if_true, if_false]
            exact q2 _
          have ka := fun (Q' : Int32 → qS → Prop) => k_amount (d := d) (Q := Q') (T := T) hw hJ hB (j := j) (by omega) jc (Or.inr (by omega))
          rw [a0] at ka
          refine wX6_sumOf_9 hw ?_
          clear hQ nx ih hp hx By
          simp (disch := omega) only [z_app, z_rd, z_cl, z_add, z_sub, z_mul, z_neg, z_lit, z_leT, z_leF, z_ltT, z_ltF, z_eqT, z_eqF, i_leT, i_leF, i_ltT, i_ltF, i_eqT, i_eqF, z_le, z_lt, z_eq, z_ite, z_at, z_pt, z_up, z_wr, z_wi1, z_wi0, z_wi, z_inS, z_toInt, z_nb0, z_nb1, Int.cast_ofNat_Int, true_and, and_true, not_true_eq_false, not_false_eq_true, false_imp_iff, true_imp_iff, aup_o, aup_k, ite_true, ite_false, z_fa000, z_fa001, z_fa010, z_fa011, z_fa100, z_fa101, z_fa110, z_fa111, if_true, if_false, c7]
          refine ka _ ?_
          simp (disch := omega) only [z_app, z_rd, z_cl, z_add, z_sub, z_mul, z_neg, z_lit, z_leT, z_leF, z_ltT, z_ltF, z_eqT, z_eqF, i_leT, i_leF, i_ltT, i_ltF, i_eqT, i_eqF, z_le, z_lt, z_eq, z_ite, z_at, z_pt, z_up, z_wr, z_wi1, z_wi0, z_wi, z_inS, z_toInt, z_nb0, z_nb1, Int.cast_ofNat_Int, true_and, and_true, not_true_eq_false, not_false_eq_true, false_imp_iff, true_imp_iff, aup_o, aup_k, ite_true, ite_false, z_fa000, z_fa001, z_fa010, z_fa011, z_fa100, z_fa101, z_fa110, z_fa111, if_true, if_false, Int.mul_zero, Int.add_zero]
          exact s2 _
        · rw [if_neg c8] at hx; cases hx
      · rw [if_neg c7] at hx
        by_cases c9' : s 80 j = 301 ∨ (270 ≤ s 80 j ∧ s 80 j ≤ 272)
        · rw [if_pos c9'] at hx
          have ey : y = j + 1 := (Sum.inl.inj hx).symm
          have jc := tB_lt hB (j := j) (by omega) j1 (by omega)
          have hQ2 : Q (iI (sv s (acc + sg * am s j) (if s 80 y = 43 ∨ s 80 y = 45 then psl (s 80) (s 84) f (if s 80 y = 43 then 1 else -1) (y + 1) else []))) (qi s) := by
            by_cases c3 : s 80 j = 301
            · rw [if_pos c3] at hQ
              have e : am s j = s 84 j := by
                unfold am
                rw [if_neg (by omega), if_neg (by omega), if_neg (by omega), if_neg c7, if_neg hj]
              rw [e]
              exact hQ
            · rw [if_neg c3, if_neg c7] at hQ
              have hQ : Q (iI (sv s (acc + sg * av s (s 80 j - 256, 0, sg)) _)) (qi s) := hQ
              have e : am s j = av s (s 80 j - 256, 0, sg) := by
                unfold am av
                by_cases k0 : s 80 j = 270
                · rw [if_pos k0, if_pos (show s 80 j - 256 = 14 by omega)]
                rw [if_neg k0, if_neg (show ¬ s 80 j - 256 = 14 by omega)]
                by_cases k1 : s 80 j = 271
                · rw [if_pos k1, if_pos (show s 80 j - 256 = 15 by omega)]
                rw [if_neg k1, if_neg (show ¬ s 80 j - 256 = 15 by omega)]
                rw [if_pos (by omega), if_pos (show s 80 j - 256 = 16 by omega)]
              rw [e]
              exact hQ
          have q2 := fun o7 => nx _ o7 hQ2
          rw [ey] at q2
          have ka := fun (Q' : Int32 → qS → Prop) => k_amount (d := d) (Q := Q') (T := T) hw hJ hB (j := j) (by omega) jc (by omega)
          have n3 : s 80 j ≠ 43 := by omega
          have n5 : s 80 j ≠ 45 := by omega
          have Bj := (hB.2 j (by omega) j1).1
          refine wX6_sumOf_9 hw ?_
          clear hQ hQ2 nx ih hp hx By c9'
          simp (disch := omega) only [z_app, z_rd, z_cl, z_add, z_sub, z_mul, z_neg, z_lit, z_leT, z_leF, z_ltT, z_ltF, z_eqT, z_eqF, i_leT, i_leF, i_ltT, i_ltF, i_eqT, i_eqF, z_le, z_lt, z_eq, z_ite, z_at, z_pt, z_up, z_wr, z_wi1, z_wi0, z_wi, z_inS, z_toInt, z_nb0, z_nb1, Int.cast_ofNat_Int, true_and, and_true, not_true_eq_false, not_false_eq_true, false_imp_iff, true_imp_iff, aup_o, aup_k, ite_true, ite_false, z_fa000, z_fa001, z_fa010, z_fa011, z_fa100, z_fa101, z_fa110, z_fa111, if_true, if_false]
          refine ka _ ?_
          simp (disch := omega) only [z_app, z_rd, z_cl, z_add, z_sub, z_mul, z_neg, z_lit, z_leT, z_leF, z_ltT, z_ltF, z_eqT, z_eqF, i_leT, i_leF, i_ltT, i_ltF, i_eqT, i_eqF, z_le, z_lt, z_eq, z_ite, z_at, z_pt, z_up, z_wr, z_wi1, z_wi0, z_wi, z_inS, z_toInt, z_nb0, z_nb1, Int.cast_ofNat_Int, true_and, and_true, not_true_eq_false, not_false_eq_true, false_imp_iff, true_imp_iff, aup_o, aup_k, ite_true, ite_false, z_fa000, z_fa001, z_fa010, z_fa011, z_fa100, z_fa101, z_fa110, z_fa111, if_true, if_false]
          exact q2 _
        · rw [if_neg c9'] at hx; cases hx
theorem k_sumOf (hw : qWF g) (hJ : jJ s) (hB : tB (s 80) (s 84) c) {j to : Int} (hp : psum (s 80) 900 j = .inl to) (j0 : 1 ≤ j) (j1 : j ≤ c) (hj : s 80 (j - 1) ≠ 273) (hQ : Q (iI (sv s 0 (psl (s 80) (s 84) 900 1 j))) (qi s)) : qC g (d + 3) mX6_sumOf [.inr 62, .inr 1, .inl (iI j), .inl (iI to)] (qi s) Q T :=
  wX6_sumOf hw ⟨rfl, k_sum_l hw hJ hB ((psum_b hB 900 j (by omega) j1).1 to hp).2 900 j 0 1 _ hp j0 j1 hj hQ⟩
theorem k_holds (hw : qWF g) (hJ : jJ s) (hB : tB (s 80) (s 84) c) {a j x y : Int} (a0 : 0 ≤ a) (a1 : a < 60) (j0 : 0 ≤ j) (j1 : j < c) (hj : s 80 j ≠ 273) (p1 : psum (s 80) 900 (j + 1) = .inl x) (hx : s 80 x = 60 ∨ s 80 x = 61 ∨ s 80 x = 62) (p2 : psum (s 80) 900 (x + 1) = .inl y) (e1 : s 69 a = j + 1) (e2 : s 71 a = x) (e3 : s 73 a = y) (hQ : Q (iI (if hb (s 80) (s 84) s j then 1 else 0)) (qi s)) : qC g (d + 4) mX6_holds [.inr 62, .inr 1, .inl (iI a)] (qi s) Q T := by
  have c9 := hB.1
  have xb := (psum_b hB 900 (j + 1) (by omega) (by omega)).1 x p1
  have xc := tB_lt hB (j := x) (by omega) xb.2 (by omega)
  have yb := (psum_b hB 900 (x + 1) (by omega) (by omega)).1 y p2
  have ex : pxT (s 80) (j + 1) = x := by unfold pxT; rw [p1]
  unfold hb at hQ
  rw [ex] at hQ
  have s1 := fun (Q' : Int32 → qS → Prop) => k_sumOf (d := d) (Q := Q') (T := T) hw hJ hB p1 (by omega) (by omega) (by rw [show j + 1 - 1 = j by omega]; exact hj)
  have s2 := fun (Q' : Int32 → qS → Prop) => k_sumOf (d := d) (Q := Q') (T := T) hw hJ hB p2 (by omega) (by omega) (by rw [show x + 1 - 1 = x by omega]; omega)
  generalize sv s 0 (psl (s 80) (s 84) 900 1 (j + 1)) = L at *
  generalize sv s 0 (psl (s 80) (s 84) 900 1 (x + 1)) = R at *
  refine wX6_holds hw ?_
  clear p1 p2
  rcases hx with hx | hx | hx
  · rw [if_pos hx] at hQ
    simp (disch := omega) only [z_app, z_rd, z_cl, z_add, z_sub, z_mul, z_neg, z_lit, z_leT, z_leF, z_ltT, z_ltF, z_eqT, z_eqF, i_leT, i_leF, i_ltT, i_ltF, i_eqT, i_eqF, z_le, z_lt, z_eq, z_ite, z_at, z_pt, z_up, z_wr, z_wi1, z_wi0, z_wi, z_inS, z_toInt, z_nb0, z_nb1, Int.cast_ofNat_Int, true_and, and_true, not_true_eq_false, not_false_eq_true, false_imp_iff, true_imp_iff, aup_o, aup_k, ite_true, ite_false, z_fa000, z_fa001, z_fa010, z_fa011, z_fa100, z_fa101, z_fa110, z_fa111, if_true, if_false, e1, e2]
    refine s1 _ ?_
    simp (disch := omega) only [z_app, z_rd, z_cl, z_add, z_sub, z_mul, z_neg, z_lit, z_leT, z_leF, z_ltT, z_ltF, z_eqT, z_eqF, i_leT, i_leF, i_ltT, i_ltF, i_eqT, i_eqF, z_le, z_lt, z_eq, z_ite, z_at, z_pt, z_up, z_wr, z_wi1, z_wi0, z_wi, z_inS, z_toInt, z_nb0, z_nb1, Int.cast_ofNat_Int, true_and, and_true, not_true_eq_false, not_false_eq_true, false_imp_iff, true_imp_iff, aup_o, aup_k, ite_true, ite_false, z_fa000, z_fa001, z_fa010, z_fa011, z_fa100, z_fa101, z_fa110, z_fa111, if_true, if_false, e3, e2]
    refine s2 _ ?_
    by_cases hl : iI R ≤ iI L
    · have q : Q (iI 0) (qi s) := by simpa [hl] using hQ
      clear hQ s1 s2
      simp (disch := omega) only [z_app, z_rd, z_cl, z_add, z_sub, z_mul, z_neg, z_lit, z_leT, z_leF, z_ltT, z_ltF, z_eqT, z_eqF, i_leT, i_leF, i_ltT, i_ltF, i_eqT, i_eqF, z_le, z_lt, z_eq, z_ite, z_at, z_pt, z_up, z_wr, z_wi1, z_wi0, z_wi, z_inS, z_toInt, z_nb0, z_nb1, Int.cast_ofNat_Int, true_and, and_true, not_true_eq_false, not_false_eq_true, false_imp_iff, true_imp_iff, aup_o, aup_k, ite_true, ite_false, z_fa000, z_fa001, z_fa010, z_fa011, z_fa100, z_fa101, z_fa110, z_fa111, if_true, if_false, hx, hl]
      exact ⟨Or.inl trivial, q⟩
    · have q : Q (iI 1) (qi s) := by simpa [hl] using hQ
      clear hQ s1 s2
      simp (disch := omega) only [z_app, z_rd, z_cl, z_add, z_sub, z_mul, z_neg, z_lit, z_leT, z_leF, z_ltT, z_ltF, z_eqT, z_eqF, i_leT, i_leF, i_ltT, i_ltF, i_eqT, i_eqF, z_le, z_lt, z_eq, z_ite, z_at, z_pt, z_up, z_wr, z_wi1, z_wi0, z_wi, z_inS, z_toInt, z_nb0, z_nb1, Int.cast_ofNat_Int, true_and, and_true, not_true_eq_false, not_false_eq_true, false_imp_iff, true_imp_iff, aup_o, aup_k, ite_true, ite_false, z_fa000, z_fa001, z_fa010, z_fa011, z_fa100, z_fa101, z_fa110, z_fa111, if_true, if_false, hx, hl]
      exact ⟨Or.inr trivial, q⟩
  · rw [if_neg (show ¬ s 80 x = 60 by omega), if_pos hx] at hQ
    simp (disch := omega) only [z_app, z_rd, z_cl, z_add, z_sub, z_mul, z_neg, z_lit, z_leT, z_leF, z_ltT, z_ltF, z_eqT, z_eqF, i_leT, i_leF, i_ltT, i_ltF, i_eqT, i_eqF, z_le, z_lt, z_eq, z_ite, z_at, z_pt, z_up, z_wr, z_wi1, z_wi0, z_wi, z_inS, z_toInt, z_nb0, z_nb1, Int.cast_ofNat_Int, true_and, and_true, not_true_eq_false, not_false_eq_true, false_imp_iff, true_imp_iff, aup_o, aup_k, ite_true, ite_false, z_fa000, z_fa001, z_fa010, z_fa011, z_fa100, z_fa101, z_fa110, z_fa111, if_true, if_false, e1, e2]
    refine s1 _ ?_
    simp (disch := omega) only [z_app, z_rd, z_cl, z_add, z_sub, z_mul, z_neg, z_lit, z_leT, z_leF, z_ltT, z_ltF, z_eqT, z_eqF, i_leT, i_leF, i_ltT, i_ltF, i_eqT, i_eqF, z_le, z_lt, z_eq, z_ite, z_at, z_pt, z_up, z_wr, z_wi1, z_wi0, z_wi, z_inS, z_toInt, z_nb0, z_nb1, Int.cast_ofNat_Int, true_and, and_true, not_true_eq_false, not_false_eq_true, false_imp_iff, true_imp_iff, aup_o, aup_k, ite_true, ite_false, z_fa000, z_fa001, z_fa010, z_fa011, z_fa100, z_fa101, z_fa110, z_fa111, if_true, if_false, e3, e2]
    refine s2 _ ?_
    by_cases hl : iI L = iI R
    · have q : Q (iI 1) (qi s) := by simpa [hl] using hQ
      clear hQ s1 s2
      simp (disch := omega) only [z_app, z_rd, z_cl, z_add, z_sub, z_mul, z_neg, z_lit, z_leT, z_leF, z_ltT, z_ltF, z_eqT, z_eqF, i_leT, i_leF, i_ltT, i_ltF, i_eqT, i_eqF, z_le, z_lt, z_eq, z_ite, z_at, z_pt, z_up, z_wr, z_wi1, z_wi0, z_wi, z_inS, z_toInt, z_nb0, z_nb1, Int.cast_ofNat_Int, true_and, and_true, not_true_eq_false, not_false_eq_true, false_imp_iff, true_imp_iff, aup_o, aup_k, ite_true, ite_false, z_fa000, z_fa001, z_fa010, z_fa011, z_fa100, z_fa101, z_fa110, z_fa111, if_true, if_false, hx, hl]
      exact ⟨Or.inr trivial, q⟩
    · have q : Q (iI 0) (qi s) := by simpa [hl] using hQ
      clear hQ s1 s2
      simp (disch := omega) only [z_app, z_rd, z_cl, z_add, z_sub, z_mul, z_neg, z_lit, z_leT, z_leF, z_ltT, z_ltF, z_eqT, z_eqF, i_leT, i_leF, i_ltT, i_ltF, i_eqT, i_eqF, z_le, z_lt, z_eq, z_ite, z_at, z_pt, z_up, z_wr, z_wi1, z_wi0, z_wi, z_inS, z_toInt, z_nb0, z_nb1, Int.cast_ofNat_Int, true_and, and_true, not_true_eq_false, not_false_eq_true, false_imp_iff, true_imp_iff, aup_o, aup_k, ite_true, ite_false, z_fa000, z_fa001, z_fa010, z_fa011, z_fa100, z_fa101, z_fa110, z_fa111, if_true, if_false, hx, hl]
      exact ⟨Or.inl trivial, q⟩
  · rw [if_neg (show ¬ s 80 x = 60 by omega), if_neg (show ¬ s 80 x = 61 by omega)] at hQ
    simp (disch := omega) only [z_app, z_rd, z_cl, z_add, z_sub, z_mul, z_neg, z_lit, z_leT, z_leF, z_ltT, z_ltF, z_eqT, z_eqF, i_leT, i_leF, i_ltT, i_ltF, i_eqT, i_eqF, z_le, z_lt, z_eq, z_ite, z_at, z_pt, z_up, z_wr, z_wi1, z_wi0, z_wi, z_inS, z_toInt, z_nb0, z_nb1, Int.cast_ofNat_Int, true_and, and_true, not_true_eq_false, not_false_eq_true, false_imp_iff, true_imp_iff, aup_o, aup_k, ite_true, ite_false, z_fa000, z_fa001, z_fa010, z_fa011, z_fa100, z_fa101, z_fa110, z_fa111, if_true, if_false, e1, e2]
    refine s1 _ ?_
    simp (disch := omega) only [z_app, z_rd, z_cl, z_add, z_sub, z_mul, z_neg, z_lit, z_leT, z_leF, z_ltT, z_ltF, z_eqT, z_eqF, i_leT, i_leF, i_ltT, i_ltF, i_eqT, i_eqF, z_le, z_lt, z_eq, z_ite, z_at, z_pt, z_up, z_wr, z_wi1, z_wi0, z_wi, z_inS, z_toInt, z_nb0, z_nb1, Int.cast_ofNat_Int, true_and, and_true, not_true_eq_false, not_false_eq_true, false_imp_iff, true_imp_iff, aup_o, aup_k, ite_true, ite_false, z_fa000, z_fa001, z_fa010, z_fa011, z_fa100, z_fa101, z_fa110, z_fa111, if_true, if_false, e3, e2]
    refine s2 _ ?_
    by_cases hl : iI L ≤ iI R
    · have q : Q (iI 0) (qi s) := by simpa [hl] using hQ
      clear hQ s1 s2
      simp (disch := omega) only [z_app, z_rd, z_cl, z_add, z_sub, z_mul, z_neg, z_lit, z_leT, z_leF, z_ltT, z_ltF, z_eqT, z_eqF, i_leT, i_leF, i_ltT, i_ltF, i_eqT, i_eqF, z_le, z_lt, z_eq, z_ite, z_at, z_pt, z_up, z_wr, z_wi1, z_wi0, z_wi, z_inS, z_toInt, z_nb0, z_nb1, Int.cast_ofNat_Int, true_and, and_true, not_true_eq_false, not_false_eq_true, false_imp_iff, true_imp_iff, aup_o, aup_k, ite_true, ite_false, z_fa000, z_fa001, z_fa010, z_fa011, z_fa100, z_fa101, z_fa110, z_fa111, if_true, if_false, hx, hl]
      exact ⟨Or.inl trivial, q⟩
    · have q : Q (iI 1) (qi s) := by simpa [hl] using hQ
      clear hQ s1 s2
      simp (disch := omega) only [z_app, z_rd, z_cl, z_add, z_sub, z_mul, z_neg, z_lit, z_leT, z_leF, z_ltT, z_ltF, z_eqT, z_eqF, i_leT, i_leF, i_ltT, i_ltF, i_eqT, i_eqF, z_le, z_lt, z_eq, z_ite, z_at, z_pt, z_up, z_wr, z_wi1, z_wi0, z_wi, z_inS, z_toInt, z_nb0, z_nb1, Int.cast_ofNat_Int, true_and, and_true, not_true_eq_false, not_false_eq_true, false_imp_iff, true_imp_iff, aup_o, aup_k, ite_true, ite_false, z_fa000, z_fa001, z_fa010, z_fa011, z_fa100, z_fa101, z_fa110, z_fa111, if_true, if_false, hx, hl]
      exact ⟨Or.inr trivial, q⟩
end KS
