/-! ===== the class's parser: commands and blocks ===== -/
def cm (C V S : Int → Int) (u : aS) (J : Int → Int) (a : Int) : Prop := u 65 a = C (J a) ∧ u 67 a = S (J a) ∧ (256 ≤ C (J a) ∧ C (J a) ≤ 268) ∧ nmR C V u a (J a)
def kPr (C V S : Int → Int) (u : aS) (j k : Int) (st : List Int) (J E : Int → Int) : Prop :=
  (u 80 = C ∧ u 84 = V ∧ u 82 = S) ∧ u 63 9 = j ∧ u 63 8 = k ∧ u 63 10 = 0 ∧ (0 ≤ k ∧ k ≤ 60) ∧ (∀ a, 0 ≤ a → a < k → cm C V S u J a ∧ (a ∉ st → u 77 a = E a))
theorem nmR_c {C V : Int → Int} {u v : aS} {a j : Int} (h : nmR C V u a j) (h9 : v 69 a = u 69 a) (h1 : v 71 a = u 71 a) (h3 : v 73 a = u 73 a) (h5 : v 75 a = u 75 a) : nmR C V v a j := by
  unfold nmR at h ⊢
  rw [h9, h1, h3, h5]
  exact h
theorem cm_c {C V S : Int → Int} {u v : aS} {J J' : Int → Int} {a : Int} (h : cm C V S u J a) (hv : ∀ x : Nat, x ≠ 63 → x ≠ 77 → v x a = u x a) (hj : J' a = J a) : cm C V S v J' a := by
  unfold cm at h ⊢
  rw [hj, hv 65 (by decide) (by decide), hv 67 (by decide) (by decide)]
  exact ⟨h.1, h.2.1, h.2.2.1, nmR_c h.2.2.2 (hv 69 (by decide) (by decide)) (hv 71 (by decide) (by decide)) (hv 73 (by decide) (by decide)) (hv 75 (by decide) (by decide))⟩
theorem psum_f {C V : Int → Int} {c : Int} (hB : tB C V c) {j : Int} (j0 : 0 ≤ j) (j1 : j < c) : ∀ f x, pbody C V j = .inr (f, x) → 0 ≤ x ∧ x ≤ c := by
  intro f z e
  unfold pbody at e
  by_cases h1 : C j = 268
  · rw [if_pos h1] at e
    unfold pcmp at e
    obtain ⟨s1, s1'⟩ := psum_b hB 900 (j + 1) (by omega) (by omega)
    cases hp : psum C 900 (j + 1) with
    | inr x => rw [hp] at e; have := s1' x hp; cases e; omega
    | inl x =>
      rw [hp] at e
      have hx := s1 x hp
      by_cases h : C x = 60 ∨ C x = 61 ∨ C x = 62
      · simp only [if_pos h] at e
        have hc := tB_lt hB (j := x) (by omega) hx.2 (by omega)
        obtain ⟨s2, s2'⟩ := psum_b hB 900 (x + 1) (by omega) (by omega)
        cases hq : psum C 900 (x + 1) with
        | inr y => rw [hq] at e; have := s2' y hq; cases e; omega
        | inl y => rw [hq] at e; cases e
      · simp only [if_neg h] at e
        cases e
        omega
  rw [if_neg h1] at e
  by_cases h2 : C j = 267
  · rw [if_pos h2] at e
    by_cases h3 : C (j + 1) = 301
    · rw [if_pos h3] at e
      by_cases h4 : 50 < V (j + 1)
      · rw [if_pos h4] at e; cases e; omega
      · rw [if_neg h4] at e; cases e
    · rw [if_neg h3] at e; cases e; omega
  rw [if_neg h2] at e
  obtain ⟨a1, a2⟩ := pnums_b hB (nbs (C j - 256)) (j + 1) (by omega) (by omega)
  cases hp : pnums C (nbs (C j - 256)) (j + 1) with
  | inr x => rw [hp] at e; have := a2 x hp; cases e; omega
  | inl x =>
    rw [hp] at e
    obtain ⟨b1, b2, -⟩ := a1 x hp
    obtain ⟨c1, c2⟩ := ptxe_b (w := C j - 256) hB (j := x) (by omega) b2
    cases hq : ptxe C (C j - 256) x with
    | inr y => simp only [hq] at e; have := c2 y hq; cases e; omega
    | inl y => simp only [hq] at e; cases e
theorem pstep_c {C V : Int → Int} {j k : Int} {st : List Int} {J E : Int → Int} (h3 : st = [] → C j ≠ 303) (h4 : C j ≠ 41) : pstep C V (j, k, st, J, E) = pcmd C V j k st J E := by
  cases st with
  | nil => show (if C j = 303 then _ else _) = _; rw [if_neg (h3 rfl)]
  | cons o r => show (if C j = 41 then _ else _) = _; rw [if_neg h4]
def PCs (g : qG) (C V S : Int → Int) (c : Int) (l : Nat) : Prop := ∀ (d : Nat) (Q : Int32 → qS → Prop) (T : String → qS → Prop) (u : aS) (j k : Int) (st : List Int) (J E : Int → Int), st.length + l = 4 → kPr C V S u j k st J E → 0 ≤ j → j ≤ c → (∀ a ∈ st, 0 ≤ a ∧ a < k) →
  (∀ v j' k' J' E', pto C V (j, k, st, J, E) (j', k', st, J', E') → kPr C V S v j' k' st J' E' → fP u v → 0 ≤ j' → j' ≤ c → k ≤ k' → ¬ (256 ≤ C j' ∧ C j' ≤ 268) → (∀ a, a < k → J' a = J a ∧ E' a = E a) → ch J' E' C l k k' → Q (iI 1) (qi v)) →
  (∀ v f x, pfin C V (j, k, st, J, E) (.inr (f, x)) → kF u v f x → 0 ≤ x → x ≤ c → Q (iI 0) (qi v)) →
  qC g (d + 3 * l + 5) mX3_parseCommands [.inr 63, .inl (iI (4 - (l : Int)))] (qi u) Q T
section KC
variable {g : qG} {C V S : Int → Int} {c : Int}
theorem k_parseCommand (hw : qWF g) (hB : tB C V c) {l : Nat} (IH : ∀ l', l = l' + 1 → PCs g C V S c l') {d : Nat} {Q : Int32 → qS → Prop} {T : String → qS → Prop} {u : aS} {j k : Int} {st : List Int} {J E : Int → Int} (hst : st.length + l = 4) (hP : kPr C V S u j k st J E) (j0 : 0 ≤ j) (j1 : j ≤ c) (hs : ∀ a ∈ st, 0 ≤ a ∧ a < k) (w0 : 256 ≤ C j) (w1 : C j ≤ 268)
    (h1 : ∀ v x k' J' E', (C x = 59 → pto C V (j, k, st, J, E) (x + 1, k', st, J', E')) → (C x ≠ 59 → pfin C V (j, k, st, J, E) (.inr (1, x))) → kPr C V S v x k' st J' E' → fP u v → 0 ≤ x → x ≤ c → k < k' → (∀ a, a < k → J' a = J a ∧ E' a = E a) → E' k = k' → (C (J' k) < 267 → k' = k + 1) → (267 ≤ C (J' k) → ∃ l', l = l' + 1 ∧ ch J' E' C l' (k + 1) k') → Q (iI 1) (qi v))
    (h0 : ∀ v f x, pfin C V (j, k, st, J, E) (.inr (f, x)) → kF u v f x → 0 ≤ x → x ≤ c → Q (iI 0) (qi v)) : qC g (d + 3 * l + 4) mX3_parseCommand [.inr 63, .inl (iI (4 - (l : Int)))] (qi u) Q T := by
  obtain ⟨⟨P80, P84, P82⟩, P9, P8, P10, ⟨k0, k60⟩, PA⟩ := hP
  have c9 := hB.1
  have jc := tB_lt hB j0 j1 (by omega)
  have ps := pstep_c (V := V) (k := k) (st := st) (J := J) (E := E) (show st = [] → C j ≠ 303 from fun _ => by omega) (show C j ≠ 41 by omega)
  unfold pcmd at ps
  rw [if_pos ⟨w0, w1⟩] at ps
  refine wX3_parseCommand hw ?_
  by_cases h60 : k = 60
  · rw [if_pos h60] at ps
    have q := h0 (aup u 63 10 3) 3 j (pfin_st ps) ⟨fP_up (by decide) (by decide), by rw [aup_i (by decide)]; exact P9, aup_s _ _ _ _⟩ j0 j1
    clear h1 h0
    simp (disch := omega) only [z_app, z_rd, z_cl, z_add, z_sub, z_mul, z_neg, z_lit, z_leT, z_leF, z_ltT, z_ltF, z_eqT, z_eqF, i_leT, i_leF, i_ltT, i_ltF, i_eqT, i_eqF, z_le, z_lt, z_eq, z_ite, z_at, z_pt, z_up, z_wr, z_wi1, z_wi0, z_wi, z_inS, z_toInt, z_nb0, z_nb1, Int.cast_ofNat_Int, true_and, and_true, not_true_eq_false, not_false_eq_true, false_imp_iff, true_imp_iff, aup_o, aup_k, ite_true, ite_false, z_fa000, z_fa001, z_fa010, z_fa011, z_fa100, z_fa101, z_fa110, z_fa111, if_true, if_false, P8]
    exact ⟨Or.inl trivial, q⟩
  rw [if_neg h60] at ps
  have pb1 := pbody_b hB j0 jc
  have pb0 := psum_f hB j0 jc
  -- the state behind the word
  obtain ⟨u1, hu1⟩ : ∃ u1, u1 = aup (aup (aup (aup (aup u 63 8 (k + 1)) 65 k (C j)) 67 k (S j)) 75 k (-1)) 63 9 (j + 1) := ⟨_, rfl⟩
  have U1 : fP u u1 := by rw [hu1]; exact fP_tr (fP_up (by decide) (by decide)) (fP_tr (fP_up (by decide) (by decide)) (fP_tr (fP_up (by decide) (by decide)) (fP_tr (fP_up (by decide) (by decide)) (fP_up (by decide) (by decide)))))
  have U2 : oA u u1 k := by rw [hu1]; exact oA_tr (oA_tr (oA_tr (oA_tr oA_63 oA_up) oA_up) oA_up) oA_63
  have U9 : u1 63 9 = j + 1 := by rw [hu1, aup_s]
  have U8 : u1 63 8 = k + 1 := by rw [hu1, aup_i (by decide), aup_o (by decide), aup_o (by decide), aup_o (by decide), aup_s]
  have U10 : u1 63 10 = 0 := by rw [hu1, aup_i (by decide), aup_o (by decide), aup_o (by decide), aup_o (by decide), aup_i (by decide)]; exact P10
  have U65 : u1 65 k = C j := by rw [hu1, aup_o (by decide), aup_o (by decide), aup_o (by decide), aup_s]
  have U67 : u1 67 k = S j := by rw [hu1, aup_o (by decide), aup_o (by decide), aup_s]
  have U75 : u1 75 k = -1 := by rw [hu1, aup_o (by decide), aup_s]
  have U80 : u1 80 = C := by rw [U1 80 (by omega)]; exact P80
  have U84 : u1 84 = V := by rw [U1 84 (by omega)]; exact P84
  have U82 : u1 82 = S := by rw [U1 82 (by omega)]; exact P82
  have B := (hB.2 j j0 j1).1
  -- what is known of a state behind the body
  have good : ∀ v x, fP u1 v → oA u1 v k → (∀ i, i ≠ 9 → v 63 i = u1 63 i) → v 63 9 = x → v 65 = u1 65 → v 67 = u1 67 → nmR C V v k j → ∀ a, 0 ≤ a → a < k + 1 → cm C V S v (fup J k j) a ∧ (a < k → a ∉ st → v 77 a = E a) := by
    intro v x b1 b2 b3 b4 b5 b6 b7 a a0 a1
    by_cases e : a = k
    · subst e
      refine ⟨?_, fun h => by omega⟩
      have ej : fup J a j a = j := by unfold fup; rw [if_pos rfl]
      unfold cm
      rw [ej]
      exact ⟨by rw [b5]; exact U65, by rw [b6]; exact U67, ⟨w0, w1⟩, b7⟩
    · obtain ⟨y1, y2⟩ := PA a a0 (by omega)
      refine ⟨cm_c y1 (fun z z1 z2 => by rw [b2 z z1 a e, U2 z z1 a e]) (by unfold fup; rw [if_neg e]), fun _ h => ?_⟩
      rw [b2 77 (by decide) a e, U2 77 (by decide) a e]
      exact y2 h
  have kns : k ∉ st := fun h => by have := hs k h; omega
  have eJ : fup J k j k = j := by unfold fup; rw [if_pos rfl]
  have eE : fup E k (k + 1) k = k + 1 := by unfold fup; rw [if_pos rfl]
  have eo : ∀ a, a < k → fup J k j a = J a ∧ fup E k (k + 1) a = E a := fun a ha => by
    unfold fup; rw [if_neg (by omega), if_neg (by omega)]; exact ⟨rfl, rfl⟩
  -- the end of parseCommand
  have bad : ∀ v f x (o4 : Option qP), kF u v f x → pfin C V (j, k, st, J, E) (.inr (f, x)) → 0 ≤ x → x ≤ c → qV g mX3_parseCommand (d + 3 * l + 4) 0 134 [some (.inr 63), some (.inl (iI (4 - (l : Int)))), some (.inl (iI k)), some (.inl (iI (C j))), some (.inl (iI 0))] [] (qi v) Q T := by
    intro v f x o4 hk hp x0 x1
    have q := h0 (aup v 77 k (v 63 8)) f x hp ⟨fP_tr hk.1 (fP_up (by decide) (by decide)), by rw [aup_o (by decide)]; exact hk.2.1, by rw [aup_o (by decide)]; exact hk.2.2⟩ x0 x1
    refine wX3_parseCommand_134 hw ?_
    clear h1 h0 PA IH good
    simp (disch := omega) only [z_app, z_rd, z_cl, z_add, z_sub, z_mul, z_neg, z_lit, z_leT, z_leF, z_ltT, z_ltF, z_eqT, z_eqF, i_leT, i_leF, i_ltT, i_ltF, i_eqT, i_eqF, z_le, z_lt, z_eq, z_ite, z_at, z_pt, z_up, z_wr, z_wi1, z_wi0, z_wi, z_inS, z_toInt, z_nb0, z_nb1, Int.cast_ofNat_Int, true_and, and_true, not_true_eq_false, not_false_eq_true, false_imp_iff, true_imp_iff, aup_o, aup_k, ite_true, ite_false, z_fa000, z_fa001, z_fa010, z_fa011, z_fa100, z_fa101, z_fa110, z_fa111, if_true, if_false]
    exact ⟨Or.inl trivial, q⟩
  by_cases hblk : 267 ≤ C j
  · -- a block
    have blk : ∀ v x, pbody C V j = .inl x → fP u1 v → oA u1 v k → (∀ i, i ≠ 9 → v 63 i = u1 63 i) → v 63 9 = x → v 65 = u1 65 → v 67 = u1 67 → v 77 = u1 77 → nmR C V v k j → qV g mX3_parseCommand (d + 3 * l + 4) 0 106 [some (.inr 63), some (.inl (iI (4 - (l : Int)))), some (.inl (iI k)), some (.inl (iI (C j))), none] [.inl (iI 1)] (qi v) Q T := by
      intro v x hx b1 b2 b3 b4 b5 b6 b7 b8
      simp only [hx, if_pos hblk] at ps
      have xb := pb1 x hx
      have Bx := (hB.2 x (by omega) xb.2).1
      have v80 : v 80 = C := by rw [b1 80 (by omega)]; exact U80
      have v84 : v 84 = V := by rw [b1 84 (by omega)]; exact U84
      have v82 : v 82 = S := by rw [b1 82 (by omega)]; exact U82
      have gd := good v x b1 b2 b3 b4 b5 b6 b8
      have inner : qC g (d + 3 * l + 3) mX3_parseBlock [.inr 63, .inl (iI (4 - (l : Int)))] (qi v) (fun r s2 => qV g mX3_parseCommand (d + 3 * l + 4) 0 134 [some (.inr 63), some (.inl (iI (4 - (l : Int)))), some (.inl (iI k)), some (.inl (iI (C j))), some (.inl r)] [] s2 Q T) T := by
        refine wX3_parseBlock hw ?_
        refine k_current hw v80 b4 (by omega) (by omega) ?_
        by_cases h40 : C x = 40
        · rw [if_pos h40] at ps
          have xc := tB_lt hB (j := x) (by omega) xb.2 (by omega)
          cases l with
          | zero =>
            rw [if_pos (by omega)] at ps
            have q := bad (aup v 63 10 3) 3 x none ⟨fP_tr U1 (fP_tr b1 (fP_up (by decide) (by decide))), by rw [aup_i (by decide)]; exact b4, aup_s _ _ _ _⟩ (pfin_st ps) (by omega) xb.2
            clear h1 h0 bad PA IH good gd
            simp (disch := omega) only [z_app, z_rd, z_cl, z_add, z_sub, z_mul, z_neg, z_lit, z_leT, z_leF, z_ltT, z_ltF, z_eqT, z_eqF, i_leT, i_leF, i_ltT, i_ltF, i_eqT, i_eqF, z_le, z_lt, z_eq, z_ite, z_at, z_pt, z_up, z_wr, z_wi1, z_wi0, z_wi, z_inS, z_toInt, z_nb0, z_nb1, Int.cast_ofNat_Int, true_and, and_true, not_true_eq_false, not_false_eq_true, false_imp_iff, true_imp_iff, aup_o, aup_k, ite_true, ite_false, z_fa000, z_fa001, z_fa010, z_fa011, z_fa100, z_fa101, z_fa110, z_fa111, if_true, if_false]
            exact ⟨Or.inl trivial, q⟩
          | succ l' =>
            rw [if_neg (by omega)] at ps
            have ih := IH l' rfl
            have lb : (l' : Int) ≤ 3 := by omega
            have w8 : aup v 63 9 (x + 1) 63 8 = k + 1 := by rw [aup_i (by decide), b3 8 (by decide)]; exact U8
            have w10 : aup v 63 9 (x + 1) 63 10 = 0 := by rw [aup_i (by decide), b3 10 (by decide)]; exact U10
            have hP2 : kPr C V S (aup v 63 9 (x + 1)) (x + 1) (k + 1) (k :: st) (fup J k j) (fup E k (k + 1)) := by
              refine ⟨⟨by rw [aup_o (by decide)]; exact v80, by rw [aup_o (by decide)]; exact v84, by rw [aup_o (by decide)]; exact v82⟩, aup_s _ _ _ _, w8, w10, ⟨by omega, by omega⟩, fun a a0 a1 => ?_⟩
              obtain ⟨y1, y2⟩ := gd a a0 a1
              refine ⟨cm_c y1 (fun z z1 _ => by rw [aup_o z1]) rfl, fun hn => ?_⟩
              have hak : a ≠ k := fun e => hn (by rw [e]; exact List.mem_cons_self)
              rw [aup_o (by decide), y2 (by omega) (fun h => hn (List.mem_cons_of_mem _ h))]
              exact (eo a (by omega)).2.symm
            have toX2 := pto_st ps
            have D1 : ((4 : Int) - ((l' + 1 : Nat) : Int)) + 1 = 4 - (l' : Int) := by omega
            have fin : ∀ (Q' : Int32 → qS → Prop), (∀ v3 f y, pfin C V (j, k, st, J, E) (.inr (f, y)) → kF u v3 f y → 0 ≤ y → y ≤ c → Q' (iI 0) (qi v3)) → (∀ v3 j3 k3 J3 E3, pto C V (j, k, st, J, E) (j3, k3, k :: st, J3, E3) → kPr C V S v3 j3 k3 (k :: st) J3 E3 → fP u v3 → 0 ≤ j3 → j3 ≤ c → k + 1 ≤ k3 → ¬ (256 ≤ C j3 ∧ C j3 ≤ 268) → (∀ a, a < k + 1 → J3 a = fup J k j a ∧ E3 a = fup E k (k + 1) a) → ch J3 E3 C l' (k + 1) k3 → Q' (iI 1) (qi v3)) → qC g (d + 3 * l' + 5) mX3_parseCommands [.inr 63, .inl (iI (4 - (l' : Int)))] (qi (aup v 63 9 (x + 1))) Q' T := by
              intro Q' g0 g1
              refine ih d Q' T _ _ _ _ _ _ (by rw [List.length_cons]; omega) hP2 (by omega) (by omega) (fun a ha => ?_) (fun v3 j3 k3 J3 E3 z1 z2 z3 z4 z5 z6 z7 z8 z9 => g1 v3 j3 k3 J3 E3 (pto_tr toX2 z1) z2 (fP_tr U1 (fP_tr b1 (fP_tr (fP_up (by decide) (by decide)) z3))) z4 z5 z6 z7 z8 z9) (fun v3 f y z1 z2 z3 z4 => g0 v3 f y (pfin_to toX2 z1) (kF_tr (fP_tr U1 (fP_tr b1 (fP_up (by decide) (by decide)))) z2) z3 z4)
              rcases List.mem_cons.mp ha with e | e
              · rw [e]; omega
              · have := hs a e; omega
            simp (disch := omega) only [z_app, z_rd, z_cl, z_add, z_sub, z_mul, z_neg, z_lit, z_leT, z_leF, z_ltT, z_ltF, z_eqT, z_eqF, i_leT, i_leF, i_ltT, i_ltF, i_eqT, i_eqF, z_le, z_lt, z_eq, z_ite, z_at, z_pt, z_up, z_wr, z_wi1, z_wi0, z_wi, z_inS, z_toInt, z_nb0, z_nb1, Int.cast_ofNat_Int, true_and, and_true, not_true_eq_false, not_false_eq_true, false_imp_iff, true_imp_iff, aup_o, aup_k, ite_true, ite_false, z_fa000, z_fa001, z_fa010, z_fa011, z_fa100, z_fa101, z_fa110, z_fa111, if_true, if_false]
            refine k_accept1 hw v80 b4 (by omega) (by omega) h40 (by omega) (by omega) ?_
            simp (disch := omega) only [z_app, z_rd, z_cl, z_add, z_sub, z_mul, z_neg, z_lit, z_leT, z_leF, z_ltT, z_ltF, z_eqT, z_eqF, i_leT, i_leF, i_ltT, i_ltF, i_eqT, i_eqF, z_le, z_lt, z_eq, z_ite, z_at, z_pt, z_up, z_wr, z_wi1, z_wi0, z_wi, z_inS, z_toInt, z_nb0, z_nb1, Int.cast_ofNat_Int, true_and, and_true, not_true_eq_false, not_false_eq_true, false_imp_iff, true_imp_iff, aup_o, aup_k, ite_true, ite_false, z_fa000, z_fa001, z_fa010, z_fa011, z_fa100, z_fa101, z_fa110, z_fa111, if_true, if_false, D1]
            refine fin _ (fun v3 f y z1 z2 z3 z4 => ?_) (fun v3 j3 k3 J3 E3 z1 z2 z3 z4 z5 z6 z7 z8 z9 => ?_)
            · have q := bad v3 f y none z2 z1 z3 z4
              simp (disch := omega) only [z_app, z_rd, z_cl, z_add, z_sub, z_mul, z_neg, z_lit, z_leT, z_leF, z_ltT, z_ltF, z_eqT, z_eqF, i_leT, i_leF, i_ltT, i_ltF, i_eqT, i_eqF, z_le, z_lt, z_eq, z_ite, z_at, z_pt, z_up, z_wr, z_wi1, z_wi0, z_wi, z_inS, z_toInt, z_nb0, z_nb1, Int.cast_ofNat_Int, true_and, and_true, not_true_eq_false, not_false_eq_true, false_imp_iff, true_imp_iff, aup_o, aup_k, ite_true, ite_false, z_fa000, z_fa001, z_fa010, z_fa011, z_fa100, z_fa101, z_fa110, z_fa111, if_true, if_false]
              exact ⟨Or.inl trivial, q⟩
            · obtain ⟨⟨t80, t84, t82⟩, t9, t8, t10, ⟨tk0, tk6⟩, tA⟩ := z2
              have B3 := (hB.2 j3 z4 z5).1
              simp (disch := omega) only [z_app, z_rd, z_cl, z_add, z_sub, z_mul, z_neg, z_lit, z_leT, z_leF, z_ltT, z_ltF, z_eqT, z_eqF, i_leT, i_leF, i_ltT, i_ltF, i_eqT, i_eqF, z_le, z_lt, z_eq, z_ite, z_at, z_pt, z_up, z_wr, z_wi1, z_wi0, z_wi, z_inS, z_toInt, z_nb0, z_nb1, Int.cast_ofNat_Int, true_and, and_true, not_true_eq_false, not_false_eq_true, false_imp_iff, true_imp_iff, aup_o, aup_k, ite_true, ite_false, z_fa000, z_fa001, z_fa010, z_fa011, z_fa100, z_fa101, z_fa110, z_fa111, if_true, if_false]
              by_cases h41 : C j3 = 41
              · have j3c := tB_lt hB z4 z5 (by omega)
                have p3 : pstep C V (j3, k3, k :: st, J3, E3) = if C (j3 + 1) = 59 then .inl (j3 + 2, k3, st, J3, fup E3 k k3) else .inr (.inr (1, j3 + 1)) := by
                  show (if C j3 = 41 then _ else _) = _
                  rw [if_pos h41]
                have ek : fup E3 k k3 k = k3 := by unfold fup; rw [if_pos rfl]
                have en : ∀ a, a ≠ k → fup E3 k k3 a = E3 a := fun a ha => by unfold fup; rw [if_neg ha]
                have ej3 : J3 k = j := by rw [(z8 k (by omega)).1]; exact eJ
                have q := h1 (aup (aup v3 63 9 (j3 + 1)) 77 k k3) (j3 + 1) k3 J3 (fup E3 k k3) (fun h => by
                    rw [if_pos h] at p3
                    rw [show j3 + 1 + 1 = j3 + 2 by omega]
                    exact pto_tr z1 (pto_st p3)) (fun h => by
                    rw [if_neg h] at p3
                    exact pfin_to z1 (pfin_st p3)) ⟨⟨by rw [aup_o (by decide), aup_o (by decide)]; exact t80, by rw [aup_o (by decide), aup_o (by decide)]; exact t84, by rw [aup_o (by decide), aup_o (by decide)]; exact t82⟩, by rw [aup_o (by decide), aup_s], by rw [aup_o (by decide), aup_i (by decide)]; exact t8, by rw [aup_o (by decide), aup_i (by decide)]; exact t10, ⟨tk0, tk6⟩, fun a a0 a1 => by
                      obtain ⟨y1, y2⟩ := tA a a0 a1
                      refine ⟨cm_c y1 (fun z zz1 zz2 => by rw [aup_o zz2, aup_o zz1]) rfl, fun hn => ?_⟩
                      by_cases e : a = k
                      · rw [e, aup_s, ek]
                      · rw [aup_i e, aup_o (by decide), en a e]
                        exact y2 (fun hm => by
                          rcases List.mem_cons.mp hm with h | h
                          · exact e h
                          · exact hn h)⟩ (fP_tr z3 (fP_tr (fP_up (by decide) (by decide)) (fP_up (by decide) (by decide)))) (by omega) (by omega) (by omega) (fun a ha => by
                      obtain ⟨y1, y2⟩ := z8 a (by omega)
                      obtain ⟨y3, y4⟩ := eo a ha
                      exact ⟨by rw [y1, y3], by rw [en a (by omega), y2, y4]⟩) ek (fun h => by rw [ej3] at h; omega) (fun _ => ⟨l', rfl, ch_c (fun i i0 i1 => ⟨rfl, en i (by omega)⟩) z9⟩)
                refine k_accept1 hw t80 t9 z4 (by omega) h41 (by omega) (by omega) ?_
                clear h1 h0 bad PA IH good gd fin tA
                have y8 : aup v3 63 9 (j3 + 1) 63 8 = k3 := by rw [aup_i (by decide)]; exact t8
                simp (disch := omega) only [z_app, z_rd, z_cl, z_add, z_sub, z_mul, z_neg, z_lit, z_leT, z_leF, z_ltT, z_ltF, z_eqT, z_eqF, i_leT, i_leF, i_ltT, i_ltF, i_eqT, i_eqF, z_le, z_lt, z_eq, z_ite, z_at, z_pt, z_up, z_wr, z_wi1, z_wi0, z_wi, z_inS, z_toInt, z_nb0, z_nb1, Int.cast_ofNat_Int, true_and, and_true, not_true_eq_false, not_false_eq_true, false_imp_iff, true_imp_iff, aup_o, aup_k, ite_true, ite_false, z_fa000, z_fa001, z_fa010, z_fa011, z_fa100, z_fa101, z_fa110, z_fa111, if_true, if_false]
                refine ⟨Or.inr trivial, wX3_parseCommand_134 hw ?_⟩
                simp (disch := omega) only [z_app, z_rd, z_cl, z_add, z_sub, z_mul, z_neg, z_lit, z_leT, z_leF, z_ltT, z_ltF, z_eqT, z_eqF, i_leT, i_leF, i_ltT, i_ltF, i_eqT, i_eqF, z_le, z_lt, z_eq, z_ite, z_at, z_pt, z_up, z_wr, z_wi1, z_wi0, z_wi, z_inS, z_toInt, z_nb0, z_nb1, Int.cast_ofNat_Int, true_and, and_true, not_true_eq_false, not_false_eq_true, false_imp_iff, true_imp_iff, aup_o, aup_k, ite_true, ite_false, z_fa000, z_fa001, z_fa010, z_fa011, z_fa100, z_fa101, z_fa110, z_fa111, if_true, if_false, y8, t8]
                exact ⟨Or.inr trivial, q⟩
              · have p3 : pstep C V (j3, k3, k :: st, J3, E3) = .inr (.inr (1, j3)) := by
                  rw [pstep_c (fun h => by cases h) h41]
                  unfold pcmd
                  rw [if_neg z7]
                have q := bad (aup v3 63 10 1) 1 j3 none ⟨fP_tr z3 (fP_up (by decide) (by decide)), by rw [aup_i (by decide)]; exact t9, aup_s _ _ _ _⟩ (pfin_to z1 (pfin_st p3)) z4 z5
                refine k_accept0 hw t80 t9 z4 (by omega) h41 (by omega) (by omega) (by omega) (by omega) ?_
                clear h1 h0 bad PA IH good gd fin tA
                simp (disch := omega) only [z_app, z_rd, z_cl, z_add, z_sub, z_mul, z_neg, z_lit, z_leT, z_leF, z_ltT, z_ltF, z_eqT, z_eqF, i_leT, i_leF, i_ltT, i_ltF, i_eqT, i_eqF, z_le, z_lt, z_eq, z_ite, z_at, z_pt, z_up, z_wr, z_wi1, z_wi0, z_wi, z_inS, z_toInt, z_nb0, z_nb1, Int.cast_ofNat_Int, true_and, and_true, not_true_eq_false, not_false_eq_true, false_imp_iff, true_imp_iff, aup_o, aup_k, ite_true, ite_false, z_fa000, z_fa001, z_fa010, z_fa011, z_fa100, z_fa101, z_fa110, z_fa111, if_true, if_false]
                exact ⟨Or.inl trivial, q⟩
        · rw [if_neg h40] at ps
          have q := bad (aup v 63 10 1) 1 x none ⟨fP_tr U1 (fP_tr b1 (fP_up (by decide) (by decide))), by rw [aup_i (by decide)]; exact b4, aup_s _ _ _ _⟩ (pfin_st ps) (by omega) xb.2
          clear h1 h0 bad PA IH good gd
          simp (disch := omega) only [z_app, z_rd, z_cl, z_add, z_sub, z_mul, z_neg, z_lit, z_leT, z_leF, z_ltT, z_ltF, z_eqT, z_eqF, i_leT, i_leF, i_ltT, i_ltF, i_eqT, i_eqF, z_le, z_lt, z_eq, z_ite, z_at, z_pt, z_up, z_wr, z_wi1, z_wi0, z_wi, z_inS, z_toInt, z_nb0, z_nb1, Int.cast_ofNat_Int, true_and, and_true, not_true_eq_false, not_false_eq_true, false_imp_iff, true_imp_iff, aup_o, aup_k, ite_true, ite_false, z_fa000, z_fa001, z_fa010, z_fa011, z_fa100, z_fa101, z_fa110, z_fa111, if_true, if_false]
          refine k_accept0 hw v80 b4 (by omega) (by omega) h40 (by omega) (by omega) (by omega) (by omega) ?_
          simp (disch := omega) only [z_app, z_rd, z_cl, z_add, z_sub, z_mul, z_neg, z_lit, z_leT, z_leF, z_ltT, z_ltF, z_eqT, z_eqF, i_leT, i_leF, i_ltT, i_ltF, i_eqT, i_eqF, z_le, z_lt, z_eq, z_ite, z_at, z_pt, z_up, z_wr, z_wi1, z_wi0, z_wi, z_inS, z_toInt, z_nb0, z_nb1, Int.cast_ofNat_Int, true_and, and_true, not_true_eq_false, not_false_eq_true, false_imp_iff, true_imp_iff, aup_o, aup_k, ite_true, ite_false, z_fa000, z_fa001, z_fa010, z_fa011, z_fa100, z_fa101, z_fa110, z_fa111, if_true, if_false]
          exact ⟨Or.inl trivial, q⟩
      refine wX3_parseCommand_106 hw ?_
      by_cases h8 : C j = 268
      · clear h1 h0 bad PA IH good gd
        simp (disch := omega) only [z_app, z_rd, z_cl, z_add, z_sub, z_mul, z_neg, z_lit, z_leT, z_leF, z_ltT, z_ltF, z_eqT, z_eqF, i_leT, i_leF, i_ltT, i_ltF, i_eqT, i_eqF, z_le, z_lt, z_eq, z_ite, z_at, z_pt, z_up, z_wr, z_wi1, z_wi0, z_wi, z_inS, z_toInt, z_nb0, z_nb1, Int.cast_ofNat_Int, true_and, and_true, not_true_eq_false, not_false_eq_true, false_imp_iff, true_imp_iff, aup_o, aup_k, ite_true, ite_false, z_fa000, z_fa001, z_fa010, z_fa011, z_fa100, z_fa101, z_fa110, z_fa111, if_true, if_false]
        exact inner
      · have h7 : C j = 267 := by omega
        clear h1 h0 bad PA IH good gd
        simp (disch := omega) only [z_app, z_rd, z_cl, z_add, z_sub, z_mul, z_neg, z_lit, z_leT, z_leF, z_ltT, z_ltF, z_eqT, z_eqF, i_leT, i_leF, i_ltT, i_ltF, i_eqT, i_eqF, z_le, z_lt, z_eq, z_ite, z_at, z_pt, z_up, z_wr, z_wi1, z_wi0, z_wi, z_inS, z_toInt, z_nb0, z_nb1, Int.cast_ofNat_Int, true_and, and_true, not_true_eq_false, not_false_eq_true, false_imp_iff, true_imp_iff, aup_o, aup_k, ite_true, ite_false, z_fa000, z_fa001, z_fa010, z_fa011, z_fa100, z_fa101, z_fa110, z_fa111, if_true, if_false]
        exact inner
    have bl0 : ∀ v f x, pbody C V j = .inr (f, x) → kF u1 v f x → qV g mX3_parseCommand (d + 3 * l + 4) 0 106 [some (.inr 63), some (.inl (iI (4 - (l : Int)))), some (.inl (iI k)), some (.inl (iI (C j))), none] [.inl (iI 0)] (qi v) Q T := by
      intro v f x hx hk
      simp only [hx] at ps
      have xb := pb0 f x hx
      have q := bad v f x none (kF_tr U1 hk) (pfin_st ps) xb.1 xb.2
      refine wX3_parseCommand_106 hw ?_
      simp (disch := omega) only [z_app, z_rd, z_cl, z_add, z_sub, z_mul, z_neg, z_lit, z_leT, z_leF, z_ltT, z_ltF, z_eqT, z_eqF, i_leT, i_leF, i_ltT, i_ltF, i_eqT, i_eqF, z_le, z_lt, z_eq, z_ite, z_at, z_pt, z_up, z_wr, z_wi1, z_wi0, z_wi, z_inS, z_toInt, z_nb0, z_nb1, Int.cast_ofNat_Int, true_and, and_true, not_true_eq_false, not_false_eq_true, false_imp_iff, true_imp_iff, aup_o, aup_k, ite_true, ite_false, z_fa000, z_fa001, z_fa010, z_fa011, z_fa100, z_fa101, z_fa110, z_fa111, if_true, if_false]
      exact q
    clear h1 h0 bad PA IH good
    by_cases h8 : C j = 268
    · have pe : pbody C V j = pcmp C (j + 1) := by unfold pbody; rw [if_pos h8]
      rw [pe] at blk bl0
      have q := fun (Q' : Int32 → qS → Prop) (g1 : ∀ v, qV g mX3_parseCommand (d + 3 * l + 4) 0 106 [some (.inr 63), some (.inl (iI (4 - (l : Int)))), some (.inl (iI k)), some (.inl (iI (C j))), none] [.inl (iI 1)] (qi v) Q T → Q' (iI 1) (qi v)) (g0 : ∀ v, qV g mX3_parseCommand (d + 3 * l + 4) 0 106 [some (.inr 63), some (.inl (iI (4 - (l : Int)))), some (.inl (iI k)), some (.inl (iI (C j))), none] [.inl (iI 0)] (qi v) Q T → Q' (iI 0) (qi v)) => k_parseComparison (d := d + 3 * l) (Q := Q') (T := T) hw hB U80 U9 (by omega) (by omega) k0 (by omega) (fun v x y e1 e2 e3 e4 f1 f2 f3 f4 f5 f6 f7 f8 f9 f10 f11 => g1 v (blk v y e4 f1 f2 f3 f4 f5 f6 f8 ⟨fun h => by omega, fun h => by omega, fun _ => ⟨x, y, e1, e2, e3, f9, f10, f11⟩⟩)) (fun v x e1 e2 => g0 v (bl0 v 1 x e1 e2))
      rw [hu1] at q
      clear blk bl0
      simp (disch := omega) only [z_app, z_rd, z_cl, z_add, z_sub, z_mul, z_neg, z_lit, z_leT, z_leF, z_ltT, z_ltF, z_eqT, z_eqF, i_leT, i_leF, i_ltT, i_ltF, i_eqT, i_eqF, z_le, z_lt, z_eq, z_ite, z_at, z_pt, z_up, z_wr, z_wi1, z_wi0, z_wi, z_inS, z_toInt, z_nb0, z_nb1, Int.cast_ofNat_Int, true_and, and_true, not_true_eq_false, not_false_eq_true, false_imp_iff, true_imp_iff, aup_o, aup_k, ite_true, ite_false, z_fa000, z_fa001, z_fa010, z_fa011, z_fa100, z_fa101, z_fa110, z_fa111, if_true, if_false, P8, P9]
      refine k_current hw P80 P9 j0 (by omega) ?_
      simp (disch := omega) only [z_app, z_rd, z_cl, z_add, z_sub, z_mul, z_neg, z_lit, z_leT, z_leF, z_ltT, z_ltF, z_eqT, z_eqF, i_leT, i_leF, i_ltT, i_ltF, i_eqT, i_eqF, z_le, z_lt, z_eq, z_ite, z_at, z_pt, z_up, z_wr, z_wi1, z_wi0, z_wi, z_inS, z_toInt, z_nb0, z_nb1, Int.cast_ofNat_Int, true_and, and_true, not_true_eq_false, not_false_eq_true, false_imp_iff, true_imp_iff, aup_o, aup_k, ite_true, ite_false, z_fa000, z_fa001, z_fa010, z_fa011, z_fa100, z_fa101, z_fa110, z_fa111, if_true, if_false, P8, P9, P82]
      exact q _ (fun v h => h) (fun v h => h)
    · have h7 : C j = 267 := by omega
      have q := fun (Q' : Int32 → qS → Prop) (g1 : ∀ v, qV g mX3_parseCommand (d + 3 * l + 4) 0 106 [some (.inr 63), some (.inl (iI (4 - (l : Int)))), some (.inl (iI k)), some (.inl (iI (C j))), none] [.inl (iI 1)] (qi v) Q T → Q' (iI 1) (qi v)) (g0 : ∀ v, qV g mX3_parseCommand (d + 3 * l + 4) 0 106 [some (.inr 63), some (.inl (iI (4 - (l : Int)))), some (.inl (iI k)), some (.inl (iI (C j))), none] [.inl (iI 0)] (qi v) Q T → Q' (iI 0) (qi v)) => k_repeat (d := d + 3 * l) (Q := Q') (T := T) hw hB U80 U84 j0 jc U9 k0 (by omega) h7 (fun v x e1 f1 f2 f3 f4 f5 f6 f7 f8 => g1 v (blk v x e1 f1 f2 f3 f4 f5 f6 f7 f8)) (fun v f x e1 e2 => g0 v (bl0 v f x e1 e2))
      rw [hu1] at q
      clear blk bl0
      simp (disch := omega) only [z_app, z_rd, z_cl, z_add, z_sub, z_mul, z_neg, z_lit, z_leT, z_leF, z_ltT, z_ltF, z_eqT, z_eqF, i_leT, i_leF, i_ltT, i_ltF, i_eqT, i_eqF, z_le, z_lt, z_eq, z_ite, z_at, z_pt, z_up, z_wr, z_wi1, z_wi0, z_wi, z_inS, z_toInt, z_nb0, z_nb1, Int.cast_ofNat_Int, true_and, and_true, not_true_eq_false, not_false_eq_true, false_imp_iff, true_imp_iff, aup_o, aup_k, ite_true, ite_false, z_fa000, z_fa001, z_fa010, z_fa011, z_fa100, z_fa101, z_fa110, z_fa111, if_true, if_false, P8, P9]
      refine k_current hw P80 P9 j0 (by omega) ?_
      simp (disch := omega) only [z_app, z_rd, z_cl, z_add, z_sub, z_mul, z_neg, z_lit, z_leT, z_leF, z_ltT, z_ltF, z_eqT, z_eqF, i_leT, i_leF, i_ltT, i_ltF, i_eqT, i_eqF, z_le, z_lt, z_eq, z_ite, z_at, z_pt, z_up, z_wr, z_wi1, z_wi0, z_wi, z_inS, z_toInt, z_nb0, z_nb1, Int.cast_ofNat_Int, true_and, and_true, not_true_eq_false, not_false_eq_true, false_imp_iff, true_imp_iff, aup_o, aup_k, ite_true, ite_false, z_fa000, z_fa001, z_fa010, z_fa011, z_fa100, z_fa101, z_fa110, z_fa111, if_true, if_false, P8, P9, P82]
      exact q _ (fun v h => h) (fun v h => h)
  · -- a plain command
    have pl : ∀ v x, pbody C V j = .inl x → fP u1 v → oA u1 v k → (∀ i, i ≠ 9 → v 63 i = u1 63 i) → v 63 9 = x → v 65 = u1 65 → v 67 = u1 67 → v 77 = u1 77 → nmR C V v k j → qV g mX3_parseCommand (d + 3 * l + 4) 0 106 [some (.inr 63), some (.inl (iI (4 - (l : Int)))), some (.inl (iI k)), some (.inl (iI (C j))), none] [.inl (iI 1)] (qi v) Q T := by
      intro v x hx b1 b2 b3 b4 b5 b6 b7 b8
      simp only [hx, if_neg hblk] at ps
      have xb := pb1 x hx
      have gd := good v x b1 b2 b3 b4 b5 b6 b8
      have v8 : v 63 8 = k + 1 := by rw [b3 8 (by decide)]; exact U8
      have q := h1 (aup v 77 k (k + 1)) x (k + 1) (fup J k j) (fup E k (k + 1)) (fun h => by rw [if_pos h] at ps; exact pto_st ps) (fun h => by rw [if_neg h] at ps; exact pfin_st ps) ⟨⟨by rw [aup_o (by decide), b1 80 (by omega)]; exact U80, by rw [aup_o (by decide), b1 84 (by omega)]; exact U84, by rw [aup_o (by decide), b1 82 (by omega)]; exact U82⟩, by rw [aup_o (by decide)]; exact b4, by rw [aup_o (by decide)]; exact v8, by rw [aup_o (by decide), b3 10 (by decide)]; exact U10, ⟨by omega, by omega⟩, fun a a0 a1 => by
          obtain ⟨y1, y2⟩ := gd a a0 a1
          refine ⟨cm_c y1 (fun z z1 z2 => by rw [aup_o z2]) rfl, fun hn => ?_⟩
          by_cases e : a = k
          · rw [e, aup_s, eE]
          · rw [aup_i e, y2 (by omega) hn]
            exact (eo a (by omega)).2.symm⟩ (fP_tr U1 (fP_tr b1 (fP_up (by decide) (by decide)))) (by omega) xb.2 (by omega) eo eE (fun _ => rfl) (fun h => by rw [eJ] at h; omega)
      clear h1 h0 bad PA IH good gd
      refine wX3_parseCommand_106 hw ?_
      simp (disch := omega) only [z_app, z_rd, z_cl, z_add, z_sub, z_mul, z_neg, z_lit, z_leT, z_leF, z_ltT, z_ltF, z_eqT, z_eqF, i_leT, i_leF, i_ltT, i_ltF, i_eqT, i_eqF, z_le, z_lt, z_eq, z_ite, z_at, z_pt, z_up, z_wr, z_wi1, z_wi0, z_wi, z_inS, z_toInt, z_nb0, z_nb1, Int.cast_ofNat_Int, true_and, and_true, not_true_eq_false, not_false_eq_true, false_imp_iff, true_imp_iff, aup_o, aup_k, ite_true, ite_false, z_fa000, z_fa001, z_fa010, z_fa011, z_fa100, z_fa101, z_fa110, z_fa111, if_true, if_false]
      refine wX3_parseCommand_134 hw ?_
      simp (disch := omega) only [z_app, z_rd, z_cl, z_add, z_sub, z_mul, z_neg, z_lit, z_leT, z_leF, z_ltT, z_ltF, z_eqT, z_eqF, i_leT, i_leF, i_ltT, i_ltF, i_eqT, i_eqF, z_le, z_lt, z_eq, z_ite, z_at, z_pt, z_up, z_wr, z_wi1, z_wi0, z_wi, z_inS, z_toInt, z_nb0, z_nb1, Int.cast_ofNat_Int, true_and, and_true, not_true_eq_false, not_false_eq_true, false_imp_iff, true_imp_iff, aup_o, aup_k, ite_true, ite_false, z_fa000, z_fa001, z_fa010, z_fa011, z_fa100, z_fa101, z_fa110, z_fa111, if_true, if_false, v8]
      exact ⟨Or.inr trivial, q⟩
    have pl0 : ∀ v f x, pbody C V j = .inr (f, x) → kF u1 v f x → qV g mX3_parseCommand (d + 3 * l + 4) 0 106 [some (.inr 63), some (.inl (iI (4 - (l : Int)))), some (.inl (iI k)), some (.inl (iI (C j))), none] [.inl (iI 0)] (qi v) Q T := by
      intro v f x hx hk
      simp only [hx] at ps
      have xb := pb0 f x hx
      have q := bad v f x none (kF_tr U1 hk) (pfin_st ps) xb.1 xb.2
      refine wX3_parseCommand_106 hw ?_
      simp (disch := omega) only [z_app, z_rd, z_cl, z_add, z_sub, z_mul, z_neg, z_lit, z_leT, z_leF, z_ltT, z_ltF, z_eqT, z_eqF, i_leT, i_leF, i_ltT, i_ltF, i_eqT, i_eqF, z_le, z_lt, z_eq, z_ite, z_at, z_pt, z_up, z_wr, z_wi1, z_wi0, z_wi, z_inS, z_toInt, z_nb0, z_nb1, Int.cast_ofNat_Int, true_and, and_true, not_true_eq_false, not_false_eq_true, false_imp_iff, true_imp_iff, aup_o, aup_k, ite_true, ite_false, z_fa000, z_fa001, z_fa010, z_fa011, z_fa100, z_fa101, z_fa110, z_fa111, if_true, if_false]
      exact q
    clear h1 h0 bad PA IH good
    have q := fun (Q' : Int32 → qS → Prop) (g1 : ∀ v, qV g mX3_parseCommand (d + 3 * l + 4) 0 106 [some (.inr 63), some (.inl (iI (4 - (l : Int)))), some (.inl (iI k)), some (.inl (iI (C j))), none] [.inl (iI 1)] (qi v) Q T → Q' (iI 1) (qi v)) (g0 : ∀ v, qV g mX3_parseCommand (d + 3 * l + 4) 0 106 [some (.inr 63), some (.inl (iI (4 - (l : Int)))), some (.inl (iI k)), some (.inl (iI (C j))), none] [.inl (iI 0)] (qi v) Q T → Q' (iI 0) (qi v)) => k_plain (d := d + 3 * l) (Q := Q') (T := T) hw hB U80 U84 j0 jc U9 k0 (by omega) w0 (by omega) U75 (fun v x e1 f1 f2 f3 f4 f5 f6 f7 f8 => g1 v (pl v x e1 f1 f2 f3 f4 f5 f6 f7 f8)) (fun v f x e1 e2 => g0 v (pl0 v f x e1 e2))
    rw [hu1] at q
    clear pl pl0
    simp (disch := omega) only [z_app, z_rd, z_cl, z_add, z_sub, z_mul, z_neg, z_lit, z_leT, z_leF, z_ltT, z_ltF, z_eqT, z_eqF, i_leT, i_leF, i_ltT, i_ltF, i_eqT, i_eqF, z_le, z_lt, z_eq, z_ite, z_at, z_pt, z_up, z_wr, z_wi1, z_wi0, z_wi, z_inS, z_toInt, z_nb0, z_nb1, Int.cast_ofNat_Int, true_and, and_true, not_true_eq_false, not_false_eq_true, false_imp_iff, true_imp_iff, aup_o, aup_k, ite_true, ite_false, z_fa000, z_fa001, z_fa010, z_fa011, z_fa100, z_fa101, z_fa110, z_fa111, if_true, if_false, P8, P9]
    refine k_current hw P80 P9 j0 (by omega) ?_
    simp (disch := omega) only [z_app, z_rd, z_cl, z_add, z_sub, z_mul, z_neg, z_lit, z_leT, z_leF, z_ltT, z_ltF, z_eqT, z_eqF, i_leT, i_leF, i_ltT, i_ltF, i_eqT, i_eqF, z_le, z_lt, z_eq, z_ite, z_at, z_pt, z_up, z_wr, z_wi1, z_wi0, z_wi, z_inS, z_toInt, z_nb0, z_nb1, Int.cast_ofNat_Int, true_and, and_true, not_true_eq_false, not_false_eq_true, false_imp_iff, true_imp_iff, aup_o, aup_k, ite_true, ite_false, z_fa000, z_fa001, z_fa010, z_fa011, z_fa100, z_fa101, z_fa110, z_fa111, if_true, if_false, P8, P9, P82]
    exact q _ (fun v h => h) (fun v h => h)
end KC
