/-! ===== the reference's runner: sums ===== -/
theorem rL_f2 {s a b : aS} (h : rL s a) (hf : ∀ k : Nat, 88 ≤ k → k ≤ 110 → b k = a k) (h86 : ∀ i, i ≠ 0 → i ≠ 2 → i < 38 → b 86 i = a 86 i) : rL s b := by
  unfold rL rS rR rG rT rV rC rP rK rM at h ⊢
  rw [h86 3 (by decide) (by decide) (by decide), h86 4 (by decide) (by decide) (by decide), h86 5 (by decide) (by decide) (by decide), h86 15 (by decide) (by decide) (by decide), h86 16 (by decide) (by decide) (by decide), h86 19 (by decide) (by decide) (by decide), h86 20 (by decide) (by decide) (by decide), h86 27 (by decide) (by decide) (by decide), h86 28 (by decide) (by decide) (by decide), h86 34 (by decide) (by decide) (by decide), h86 29 (by decide) (by decide) (by decide), hf 88 (by decide) (by decide), hf 89 (by decide) (by decide), hf 90 (by decide) (by decide), hf 91 (by decide) (by decide), hf 92 (by decide) (by decide), hf 93 (by decide) (by decide), hf 94 (by decide) (by decide), hf 95 (by decide) (by decide), hf 96 (by decide) (by decide), hf 97 (by decide) (by decide), hf 98 (by decide) (by decide), hf 99 (by decide) (by decide), hf 100 (by decide) (by decide), hf 101 (by decide) (by decide), hf 102 (by decide) (by decide), hf 103 (by decide) (by decide), hf 104 (by decide) (by decide), hf 105 (by decide) (by decide), hf 106 (by decide) (by decide), hf 107 (by decide) (by decide), hf 108 (by decide) (by decide)]
  exact h
def pk (p : Int × Int × Int) : Prop := p.1 = -1 ∨ (14 ≤ p.1 ∧ p.1 ≤ 16) ∨ (p.1 = 17 ∧ 0 ≤ p.2.1 ∧ p.2.1 ≤ 99999)
theorem psl_k {C V : Int → Int} {c : Int} (hB : tB C V c) : ∀ (f : Nat) (sg j : Int), 0 ≤ j → j ≤ c → ∀ p ∈ psl C V f sg j, pk p := by
  intro f
  induction f with
  | zero => intro sg j _ _ p hp; cases hp
  | succ f ih =>
    intro sg j j0 j1 p hp
    rw [psl_s] at hp
    cases hx : patom C j with
    | inr x => rw [hx] at hp; cases hp
    | inl y =>
      rw [hx] at hp
      have yb := (patom_b hB j0 j1).1 y hx
      have hp : p ∈ (atm C V sg j :: (if C y = 43 ∨ C y = 45 then psl C V f (if C y = 43 then 1 else -1) (y + 1) else [])) := hp
      rcases List.mem_cons.mp hp with hp | hp
      · unfold patom at hx
        unfold atm at hp
        by_cases c3 : C j = 301
        · rw [if_pos c3] at hp
          rw [hp]
          exact Or.inl rfl
        · rw [if_neg c3] at hp
          by_cases c7 : C j = 273
          · rw [if_pos c7] at hp hx
            have jc := tB_lt hB j0 j1 (by omega)
            by_cases c8 : C (j + 1) = 301
            · have v := (hB.2 (j + 1) (by omega) (by omega)).2.2.2 c8
              rw [hp]
              exact Or.inr (Or.inr ⟨rfl, v⟩)
            · rw [if_neg c8] at hx; cases hx
          · rw [if_neg c7] at hp hx
            by_cases c9 : C j = 301 ∨ (270 ≤ C j ∧ C j ≤ 272)
            · rw [hp]
              refine Or.inr (Or.inl ?_)
              show 14 ≤ C j - 256 ∧ C j - 256 ≤ 16
              omega
            · rw [if_neg c9] at hx; cases hx
      · by_cases hs : C y = 43 ∨ C y = 45
        · rw [if_pos hs] at hp
          have yc := tB_lt hB (j := y) (by omega) yb.2 (by omega)
          exact ih _ _ (by omega) (by omega) p hp
        · rw [if_neg hs] at hp; cases hp
section MV
variable {g : qG} {d : Nat} {Q : Int32 → qS → Prop} {T : String → qS → Prop} {s m v : aS} {c K : Int} {J E : Int → Int}
theorem m_atomValue (hw : qWF g) (hJ : jJ s) (hr : rL s m) {a : Int} (a0 : 0 ≤ a) (a1 : a < 500) {p : Int × Int × Int} (hp : pk p) (ha : aR m a p) (hQ : Q (iI (av s p)) (qi m)) : qC g (d + 2) mX10_atomValue [.inr 86, .inl (iI a)] (qi m) Q T := by
  obtain ⟨x, y, z⟩ := p
  obtain ⟨h1, -, h3⟩ := ha
  have h1 : m 116 a = x := h1
  have h3 : x = -1 ∨ x = 17 → m 117 a = y := h3
  have hp : x = -1 ∨ (14 ≤ x ∧ x ≤ 16) ∨ (x = 17 ∧ 0 ≤ y ∧ y ≤ 99999) := hp
  have b := jb hJ
  have e15 := rs_15 hr
  have e16 := rs_16 hr
  have e27 := rs_27 hr
  unfold av at hQ
  have hQ : Q (iI (if x = 14 then s 2 9 else if x = 15 then s 2 10 else if x = 16 then s 21 5 else if x = 17 then (if y < 0 ∨ s 26 6 ≤ y then 0 else s 30 (s 32 y) - s 34 y) else y)) (qi m) := hQ
  refine wX10_atomValue hw ?_
  by_cases k4 : x = 14
  · rw [if_pos k4] at hQ
    rw [k4] at h1
    clear hp h3
    simp (disch := omega) only [z_app, z_rd, z_cl, z_add, z_sub, z_mul, z_neg, z_lit, z_leT, z_leF, z_ltT, z_ltF, z_eqT, z_eqF, i_leT, i_leF, i_ltT, i_ltF, i_eqT, i_eqF, z_le, z_lt, z_eq, z_ite, z_at, z_pt, z_up, z_wr, z_wi1, z_wi0, z_wi, z_inS, z_toInt, z_nb0, z_nb1, Int.cast_ofNat_Int, true_and, and_true, not_true_eq_false, not_false_eq_true, false_imp_iff, true_imp_iff, aup_o, aup_k, ite_true, ite_false, z_fa000, z_fa001, z_fa010, z_fa011, z_fa100, z_fa101, z_fa110, z_fa111, if_true, if_false, h1, e15]
    exact hQ
  rw [if_neg k4] at hQ
  by_cases k5 : x = 15
  · rw [if_pos k5] at hQ
    rw [k5] at h1
    clear hp h3
    simp (disch := omega) only [z_app, z_rd, z_cl, z_add, z_sub, z_mul, z_neg, z_lit, z_leT, z_leF, z_ltT, z_ltF, z_eqT, z_eqF, i_leT, i_leF, i_ltT, i_ltF, i_eqT, i_eqF, z_le, z_lt, z_eq, z_ite, z_at, z_pt, z_up, z_wr, z_wi1, z_wi0, z_wi, z_inS, z_toInt, z_nb0, z_nb1, Int.cast_ofNat_Int, true_and, and_true, not_true_eq_false, not_false_eq_true, false_imp_iff, true_imp_iff, aup_o, aup_k, ite_true, ite_false, z_fa000, z_fa001, z_fa010, z_fa011, z_fa100, z_fa101, z_fa110, z_fa111, if_true, if_false, h1, e16]
    exact hQ
  rw [if_neg k5] at hQ
  by_cases k6 : x = 16
  · rw [if_pos k6] at hQ
    rw [k6] at h1
    have q := m_bytes (d := d) (T := T) hw hJ hr hQ
    clear hp h3
    simp (disch := omega) only [z_app, z_rd, z_cl, z_add, z_sub, z_mul, z_neg, z_lit, z_leT, z_leF, z_ltT, z_ltF, z_eqT, z_eqF, i_leT, i_leF, i_ltT, i_ltF, i_eqT, i_eqF, z_le, z_lt, z_eq, z_ite, z_at, z_pt, z_up, z_wr, z_wi1, z_wi0, z_wi, z_inS, z_toInt, z_nb0, z_nb1, Int.cast_ofNat_Int, true_and, and_true, not_true_eq_false, not_false_eq_true, false_imp_iff, true_imp_iff, aup_o, aup_k, ite_true, ite_false, z_fa000, z_fa001, z_fa010, z_fa011, z_fa100, z_fa101, z_fa110, z_fa111, if_true, if_false, h1]
    exact q
  rw [if_neg k6] at hQ
  by_cases k7 : x = 17
  · rw [if_pos k7] at hQ
    have h3 := h3 (Or.inr k7)
    have yb : 0 ≤ y ∧ y ≤ 99999 := by omega
    rw [k7] at h1
    clear hp
    by_cases h5 : y < 0 ∨ s 26 6 ≤ y
    · rw [if_pos h5] at hQ
      have h6 : s 26 6 ≤ y := by omega
      clear h5
      simp (disch := omega) only [z_app, z_rd, z_cl, z_add, z_sub, z_mul, z_neg, z_lit, z_leT, z_leF, z_ltT, z_ltF, z_eqT, z_eqF, i_leT, i_leF, i_ltT, i_ltF, i_eqT, i_eqF, z_le, z_lt, z_eq, z_ite, z_at, z_pt, z_up, z_wr, z_wi1, z_wi0, z_wi, z_inS, z_toInt, z_nb0, z_nb1, Int.cast_ofNat_Int, true_and, and_true, not_true_eq_false, not_false_eq_true, false_imp_iff, true_imp_iff, aup_o, aup_k, ite_true, ite_false, z_fa000, z_fa001, z_fa010, z_fa011, z_fa100, z_fa101, z_fa110, z_fa111, if_true, if_false, h1, h3]
      refine wX10_isConsumer hw ?_
      simp (disch := omega) only [z_app, z_rd, z_cl, z_add, z_sub, z_mul, z_neg, z_lit, z_leT, z_leF, z_ltT, z_ltF, z_eqT, z_eqF, i_leT, i_leF, i_ltT, i_ltF, i_eqT, i_eqF, z_le, z_lt, z_eq, z_ite, z_at, z_pt, z_up, z_wr, z_wi1, z_wi0, z_wi, z_inS, z_toInt, z_nb0, z_nb1, Int.cast_ofNat_Int, true_and, and_true, not_true_eq_false, not_false_eq_true, false_imp_iff, true_imp_iff, aup_o, aup_k, ite_true, ite_false, z_fa000, z_fa001, z_fa010, z_fa011, z_fa100, z_fa101, z_fa110, z_fa111, if_true, if_false, e27]
      exact ⟨Or.inl trivial, hQ⟩
    · rw [if_neg h5] at hQ
      have h6 : y < s 26 6 := by omega
      have q := m_unreadOf (d := d) (T := T) hw hJ hr yb.1 h6 hQ
      clear h5 hQ
      simp (disch := omega) only [z_app, z_rd, z_cl, z_add, z_sub, z_mul, z_neg, z_lit, z_leT, z_leF, z_ltT, z_ltF, z_eqT, z_eqF, i_leT, i_leF, i_ltT, i_ltF, i_eqT, i_eqF, z_le, z_lt, z_eq, z_ite, z_at, z_pt, z_up, z_wr, z_wi1, z_wi0, z_wi, z_inS, z_toInt, z_nb0, z_nb1, Int.cast_ofNat_Int, true_and, and_true, not_true_eq_false, not_false_eq_true, false_imp_iff, true_imp_iff, aup_o, aup_k, ite_true, ite_false, z_fa000, z_fa001, z_fa010, z_fa011, z_fa100, z_fa101, z_fa110, z_fa111, if_true, if_false, h1, h3]
      refine wX10_isConsumer hw ?_
      simp (disch := omega) only [z_app, z_rd, z_cl, z_add, z_sub, z_mul, z_neg, z_lit, z_leT, z_leF, z_ltT, z_ltF, z_eqT, z_eqF, i_leT, i_leF, i_ltT, i_ltF, i_eqT, i_eqF, z_le, z_lt, z_eq, z_ite, z_at, z_pt, z_up, z_wr, z_wi1, z_wi0, z_wi, z_inS, z_toInt, z_nb0, z_nb1, Int.cast_ofNat_Int, true_and, and_true, not_true_eq_false, not_false_eq_true, false_imp_iff, true_imp_iff, aup_o, aup_k, ite_true, ite_false, z_fa000, z_fa001, z_fa010, z_fa011, z_fa100, z_fa101, z_fa110, z_fa111, if_true, if_false, e27, h3]
      exact ⟨Or.inr trivial, q⟩
  · rw [if_neg k7] at hQ
    have h3 := h3 (Or.inl (by omega))
    have k8 : x = -1 := by omega
    rw [k8] at h1
    clear hp
    simp (disch := omega) only [z_app, z_rd, z_cl, z_add, z_sub, z_mul, z_neg, z_lit, z_leT, z_leF, z_ltT, z_ltF, z_eqT, z_eqF, i_leT, i_leF, i_ltT, i_ltF, i_eqT, i_eqF, z_le, z_lt, z_eq, z_ite, z_at, z_pt, z_up, z_wr, z_wi1, z_wi0, z_wi, z_inS, z_toInt, z_nb0, z_nb1, Int.cast_ofNat_Int, true_and, and_true, not_true_eq_false, not_false_eq_true, false_imp_iff, true_imp_iff, aup_o, aup_k, ite_true, ite_false, z_fa000, z_fa001, z_fa010, z_fa011, z_fa100, z_fa101, z_fa110, z_fa111, if_true, if_false, h1, h3]
    exact hQ
theorem m_sumV_l (hw : qWF g) (hJ : jJ s) (hr : rL s m) {to : Int} {l1 : Int32} : ∀ (l : List (Int × Int × Int)) (A acc : Int), aL m A l → (∀ p ∈ l, pk p) → 0 ≤ A → A + (l.length : Nat) = to → to ≤ 500 → Q (iI (sv s acc l)) (qi m) → qV g mX10_sumValue (d + 3) 0 5 [some (.inr 86), some (.inl l1), some (.inl (iI to)), some (.inl (iI acc)), some (.inl (iI A))] [] (qi m) Q T := by
  intro l
  induction l with
  | nil =>
    intro A acc _ _ a0 hl t5 hQ
    have hl : A + ((0 : Nat) : Int) = to := hl
    have hQ : Q (iI acc) (qi m) := hQ
    have h : to ≤ A := by omega
    refine wX10_sumValue_5 hw ?_
    simp (disch := omega) only [z_app, z_rd, z_cl, z_add, z_sub, z_mul, z_neg, z_lit, z_leT, z_leF, z_ltT, z_ltF, z_eqT, z_eqF, i_leT, i_leF, i_ltT, i_ltF, i_eqT, i_eqF, z_le, z_lt, z_eq, z_ite, z_at, z_pt, z_up, z_wr, z_wi1, z_wi0, z_wi, z_inS, z_toInt, z_nb0, z_nb1, Int.cast_ofNat_Int, true_and, and_true, not_true_eq_false, not_false_eq_true, false_imp_iff, true_imp_iff, aup_o, aup_k, ite_true, ite_false, z_fa000, z_fa001, z_fa010, z_fa011, z_fa100, z_fa101, z_fa110, z_fa111, if_true, if_false]
    exact hQ
  | cons p t ih =>
    intro A acc ha hp a0 hl t5 hQ
    rw [List.length_cons] at hl
    have hQ : Q (iI (sv s (acc + p.2.2 * av s p) t)) (qi m) := hQ
    have st := ih (A + 1) (acc + p.2.2 * av s p) ha.2 (fun q hq => hp q (List.mem_cons_of_mem _ hq)) (by omega) (by omega) t5 hQ
    have at1 := fun (Q' : Int32 → qS → Prop) => m_atomValue (d := d) (Q := Q') (T := T) hw hJ hr a0 (by omega) (hp p (List.mem_cons_self ..)) ha.1
    have e8 : m 118 A = p.2.2 := ha.1.2.1
    have h : A < to := by omega
    clear ih hQ ha
    refine wX10_sumValue_5 hw ?_
    simp (disch := omega) only [z_app, z_rd, z_cl, z_add, z_sub, z_mul, z_neg, z_lit, z_leT, z_leF, z_ltT, z_ltF, z_eqT, z_eqF, i_leT, i_leF, i_ltT, i_ltF, i_eqT, i_eqF, z_le, z_lt, z_eq, z_ite, z_at, z_pt, z_up, z_wr, z_wi1, z_wi0, z_wi, z_inS, z_toInt, z_nb0, z_nb1, Int.cast_ofNat_Int, true_and, and_true, not_true_eq_false, not_false_eq_true, false_imp_iff, true_imp_iff, aup_o, aup_k, ite_true, ite_false, z_fa000, z_fa001, z_fa010, z_fa011, z_fa100, z_fa101, z_fa110, z_fa111, if_true, if_false, e8]
    refine at1 _ ?_
    simp (disch := omega) only [z_app, z_rd, z_cl, z_add, z_sub, z_mul, z_neg, z_lit, z_leT, z_leF, z_ltT, z_ltF, z_eqT, z_eqF, i_leT, i_leF, i_ltT, i_ltF, i_eqT, i_eqF, z_le, z_lt, z_eq, z_ite, z_at, z_pt, z_up, z_wr, z_wi1, z_wi0, z_wi, z_inS, z_toInt, z_nb0, z_nb1, Int.cast_ofNat_Int, true_and, and_true, not_true_eq_false, not_false_eq_true, false_imp_iff, true_imp_iff, aup_o, aup_k, ite_true, ite_false, z_fa000, z_fa001, z_fa010, z_fa011, z_fa100, z_fa101, z_fa110, z_fa111, if_true, if_false]
    exact st
theorem m_holdsM (hw : qWF g) (hJ : jJ s) (hr : rL s m) (hB : tB (v 80) (v 84) c) {k j : Int} (k0 : 0 ≤ k) (k1 : k < 60) (j0 : 0 ≤ j) (j1 : j < c) (h8 : v 80 j = 268) (hc : cmA v m k j) (h55 : 2 * m 86 55 ≤ 900) (hn : ∀ x, psum (v 80) 900 (j + 1) = .inl x → v 80 x ≠ 303) (hQ : Q (iI (if hb (v 80) (v 84) s j then 1 else 0)) (qi m)) : qC g (d + 4) mX10_holds [.inr 86, .inl (iI k)] (qi m) Q T := by
  obtain ⟨x, y, A, p1, p2, A0, e1, l1, e2, l2, e3, e4, e5⟩ := hc.2.2 h8
  have c9 := hB.1
  have xb := (psum_b hB 900 (j + 1) (by omega) (by omega)).1 x p1
  have ex : pxT (v 80) (j + 1) = x := by unfold pxT; rw [p1]
  have K1 := psl_k hB 900 1 (j + 1) (by omega) (by omega)
  have Bx := (hB.2 x (by omega) xb.2).1
  have xc := tB_lt hB (j := x) (by omega) xb.2 (hn x p1)
  have K2 := psl_k hB 900 1 (x + 1) (by omega) (by omega)
  unfold hb at hQ
  rw [ex] at hQ
  generalize psl (v 80) (v 84) 900 1 (j + 1) = L1 at *
  generalize psl (v 80) (v 84) 900 1 (x + 1) = L2 at *
  have s1 := fun (Q' : Int32 → qS → Prop) (l : Int32) => m_sumV_l (d := d) (Q := Q') (T := T) (l1 := l) hw hJ hr L1 A 0 l1 K1 A0 rfl (by omega)
  have s2 := fun (Q' : Int32 → qS → Prop) (l : Int32) => m_sumV_l (d := d) (Q := Q') (T := T) (l1 := l) hw hJ hr L2 (A + (L1.length : Nat)) 0 l2 K2 (by omega) rfl (by omega)
  obtain ⟨n1, hn1⟩ : ∃ n1 : Int, n1 = (L1.length : Nat) := ⟨_, rfl⟩
  obtain ⟨n2, hn2⟩ : ∃ n2 : Int, n2 = (L2.length : Nat) := ⟨_, rfl⟩
  rw [← hn1] at e2 e3 s1 s2
  rw [← hn2] at e3 s2
  have N1 : 0 ≤ n1 := by omega
  have N2 : 0 ≤ n2 := by omega
  generalize sv s 0 L1 = L at *
  generalize sv s 0 L2 = R at *
  clear l1 l2 K1 K2 p1 p2
  refine wX10_holds hw ?_
  simp (disch := omega) only [z_app, z_rd, z_cl, z_add, z_sub, z_mul, z_neg, z_lit, z_leT, z_leF, z_ltT, z_ltF, z_eqT, z_eqF, i_leT, i_leF, i_ltT, i_ltF, i_eqT, i_eqF, z_le, z_lt, z_eq, z_ite, z_at, z_pt, z_up, z_wr, z_wi1, z_wi0, z_wi, z_inS, z_toInt, z_nb0, z_nb1, Int.cast_ofNat_Int, true_and, and_true, not_true_eq_false, not_false_eq_true, false_imp_iff, true_imp_iff, aup_o, aup_k, ite_true, ite_false, z_fa000, z_fa001, z_fa010, z_fa011, z_fa100, z_fa101, z_fa110, z_fa111, if_true, if_false, e1, e2]
  refine wX10_sumValue hw ⟨rfl, s1 _ _ ?_⟩
  simp (disch := omega) only [z_app, z_rd, z_cl, z_add, z_sub, z_mul, z_neg, z_lit, z_leT, z_leF, z_ltT, z_ltF, z_eqT, z_eqF, i_leT, i_leF, i_ltT, i_ltF, i_eqT, i_eqF, z_le, z_lt, z_eq, z_ite, z_at, z_pt, z_up, z_wr, z_wi1, z_wi0, z_wi, z_inS, z_toInt, z_nb0, z_nb1, Int.cast_ofNat_Int, true_and, and_true, not_true_eq_false, not_false_eq_true, false_imp_iff, true_imp_iff, aup_o, aup_k, ite_true, ite_false, z_fa000, z_fa001, z_fa010, z_fa011, z_fa100, z_fa101, z_fa110, z_fa111, if_true, if_false, e2, e3]
  refine wX10_sumValue hw ⟨rfl, s2 _ _ ?_⟩
  by_cases c0 : v 80 x = 60
  · rw [if_pos c0] at hQ
    by_cases hl : iI R ≤ iI L
    · have q : Q (iI 0) (qi m) := by simpa [hl] using hQ
      clear hQ s1 s2
      simp (disch := omega) only [z_app, z_rd, z_cl, z_add, z_sub, z_mul, z_neg, z_lit, z_leT, z_leF, z_ltT, z_ltF, z_eqT, z_eqF, i_leT, i_leF, i_ltT, i_ltF, i_eqT, i_eqF, z_le, z_lt, z_eq, z_ite, z_at, z_pt, z_up, z_wr, z_wi1, z_wi0, z_wi, z_inS, z_toInt, z_nb0, z_nb1, Int.cast_ofNat_Int, true_and, and_true, not_true_eq_false, not_false_eq_true, false_imp_iff, true_imp_iff, aup_o, aup_k, ite_true, ite_false, z_fa000, z_fa001, z_fa010, z_fa011, z_fa100, z_fa101, z_fa110, z_fa111, if_true, if_false, e5, c0, hl]
      exact ⟨Or.inl trivial, q⟩
    · have q : Q (iI 1) (qi m) := by simpa [hl] using hQ
      clear hQ s1 s2
      simp (disch := omega) only [z_app, z_rd, z_cl, z_add, z_sub, z_mul, z_neg, z_lit, z_leT, z_leF, z_ltT, z_ltF, z_eqT, z_eqF, i_leT, i_leF, i_ltT, i_ltF, i_eqT, i_eqF, z_le, z_lt, z_eq, z_ite, z_at, z_pt, z_up, z_wr, z_wi1, z_wi0, z_wi, z_inS, z_toInt, z_nb0, z_nb1, Int.cast_ofNat_Int, true_and, and_true, not_true_eq_false, not_false_eq_true, false_imp_iff, true_imp_iff, aup_o, aup_k, ite_true, ite_false, z_fa000, z_fa001, z_fa010, z_fa011, z_fa100, z_fa101, z_fa110, z_fa111, if_true, if_false, e5, c0, hl]
      exact ⟨Or.inr trivial, q⟩
  · rw [if_neg c0] at hQ
    by_cases c1 : v 80 x = 61
    · rw [if_pos c1] at hQ
      by_cases hl : iI L = iI R
      · have q : Q (iI 1) (qi m) := by simpa [hl] using hQ
        clear hQ s1 s2
        simp (disch := omega) only [z_app, z_rd, z_cl, z_add, z_sub, z_mul, z_neg, z_lit, z_leT, z_leF, z_ltT, z_ltF, z_eqT, z_eqF, i_leT, i_leF, i_ltT, i_ltF, i_eqT, i_eqF, z_le, z_lt, z_eq, z_ite, z_at, z_pt, z_up, z_wr, z_wi1, z_wi0, z_wi, z_inS, z_toInt, z_nb0, z_nb1, Int.cast_ofNat_Int, true_and, and_true, not_true_eq_false, not_false_eq_true, false_imp_iff, true_imp_iff, aup_o, aup_k, ite_true, ite_false, z_fa000, z_fa001, z_fa010, z_fa011, z_fa100, z_fa101, z_fa110, z_fa111, if_true, if_false, e5, c1, hl]
        exact ⟨Or.inr trivial, q⟩
      · have q : Q (iI 0) (qi m) := by simpa [hl] using hQ
        clear hQ s1 s2
        simp (disch := omega) only [z_app, z_rd, z_cl, z_add, z_sub, z_mul, z_neg, z_lit, z_leT, z_leF, z_ltT, z_ltF, z_eqT, z_eqF, i_leT, i_leF, i_ltT, i_ltF, i_eqT, i_eqF, z_le, z_lt, z_eq, z_ite, z_at, z_pt, z_up, z_wr, z_wi1, z_wi0, z_wi, z_inS, z_toInt, z_nb0, z_nb1, Int.cast_ofNat_Int, true_and, and_true, not_true_eq_false, not_false_eq_true, false_imp_iff, true_imp_iff, aup_o, aup_k, ite_true, ite_false, z_fa000, z_fa001, z_fa010, z_fa011, z_fa100, z_fa101, z_fa110, z_fa111, if_true, if_false, e5, c1, hl]
        exact ⟨Or.inl trivial, q⟩
    · rw [if_neg c1] at hQ
      by_cases hl : iI L ≤ iI R
      · have q : Q (iI 0) (qi m) := by simpa [hl] using hQ
        clear hQ s1 s2
        simp (disch := omega) only [z_app, z_rd, z_cl, z_add, z_sub, z_mul, z_neg, z_lit, z_leT, z_leF, z_ltT, z_ltF, z_eqT, z_eqF, i_leT, i_leF, i_ltT, i_ltF, i_eqT, i_eqF, z_le, z_lt, z_eq, z_ite, z_at, z_pt, z_up, z_wr, z_wi1, z_wi0, z_wi, z_inS, z_toInt, z_nb0, z_nb1, Int.cast_ofNat_Int, true_and, and_true, not_true_eq_false, not_false_eq_true, false_imp_iff, true_imp_iff, aup_o, aup_k, ite_true, ite_false, z_fa000, z_fa001, z_fa010, z_fa011, z_fa100, z_fa101, z_fa110, z_fa111, if_true, if_false, e5, hl]
        exact ⟨Or.inl trivial, q⟩
      · have q : Q (iI 1) (qi m) := by simpa [hl] using hQ
        clear hQ s1 s2
        simp (disch := omega) only [z_app, z_rd, z_cl, z_add, z_sub, z_mul, z_neg, z_lit, z_leT, z_leF, z_ltT, z_ltF, z_eqT, z_eqF, i_leT, i_leF, i_ltT, i_ltF, i_eqT, i_eqF, z_le, z_lt, z_eq, z_ite, z_at, z_pt, z_up, z_wr, z_wi1, z_wi0, z_wi, z_inS, z_toInt, z_nb0, z_nb1, Int.cast_ofNat_Int, true_and, and_true, not_true_eq_false, not_false_eq_true, false_imp_iff, true_imp_iff, aup_o, aup_k, ite_true, ite_false, z_fa000, z_fa001, z_fa010, z_fa011, z_fa100, z_fa101, z_fa110, z_fa111, if_true, if_false, e5, hl]
        exact ⟨Or.inr trivial, q⟩
end MV
