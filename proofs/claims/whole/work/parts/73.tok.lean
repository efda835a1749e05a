/-! ===== the class's tokens ===== -/
def kd (b : Int) : Int := if b = 32 ∨ b = 10 then 0 else if 97 ≤ b ∧ b ≤ 122 then 1 else if 48 ≤ b ∧ b ≤ 57 then 2 else 3
theorem kd_b (b : Int) : 0 ≤ kd b ∧ kd b ≤ 3 := by unfold kd; repeat' split; all_goals omega
theorem z_a255' : ∀ n : Fin 256, iI ((n.val : Int) - 128) &&& 255 = iI (((n.val : Int) - 128) % 256) := by decide +kernel
theorem z_a255 {x : Int} (h1 : -128 ≤ x) (h2 : x ≤ 127) : iI x &&& iI 255 = iI (x % 256) := by
  have h := z_a255' ⟨(x + 128).toNat, by omega⟩
  simp only at h
  rw [show (((x + 128).toNat : Nat) : Int) - 128 = x by omega] at h
  exact h
/-- the code of a token before it is evaluated -/
def pc0 (k b : Int) : Int := if k = 3 then b else if k = 1 then 300 else 301
/-- where the token ahead of the j-th ends -/
def ep (e : Int → Int) (j : Int) : Int := if j = 0 then 0 else e (j - 1)
abbrev tE (u : aS) : Int → Int := fun j => u 82 j + u 84 j
/-- the tokens of the first i bytes -/
def tkA (u : aS) (b : Int → Int) (c i : Int) : Prop :=
  (∀ j, 0 ≤ j → j < c → (0 ≤ u 82 j ∧ 1 ≤ u 84 j ∧ u 82 j + u 84 j ≤ i ∧ kd (b (u 82 j)) ≠ 0 ∧ (kd (b (u 82 j)) = 3 → u 84 j = 1) ∧ u 80 j = pc0 (kd (b (u 82 j))) (b (u 82 j))) ∧
    (∀ x, u 82 j ≤ x → x < u 82 j + u 84 j → kd (b x) = kd (b (u 82 j))) ∧
    (ep (tE u) j ≤ u 82 j ∧ ∀ x, ep (tE u) j ≤ x → x < u 82 j → kd (b x) = 0) ∧
    (0 < j → kd (b (u 82 (j - 1))) = 3 ∨ kd (b (ep (tE u) j)) ≠ kd (b (u 82 (j - 1))))) ∧
  (0 ≤ c ∧ c ≤ i ∧ 0 ≤ ep (tE u) c ∧ ep (tE u) c ≤ i ∧ ∀ x, ep (tE u) c ≤ x → x < i → kd (b x) = 0)
def bfr (b : Int → Int) (i : Int) : Int := if i = 0 then 0 else kd (b (i - 1))
theorem tk_blank {u : aS} {b : Int → Int} {c i : Int} (h : tkA u b c i) (hk : kd (b i) = 0) : tkA u b c (i + 1) := by
  obtain ⟨h1, h2, h3, h4, h5, h6⟩ := h
  refine ⟨fun j j0 j1 => ?_, h2, by omega, h4, by omega, fun x x0 x1 => ?_⟩
  · obtain ⟨⟨a1, a2, a3, a4, a5, a6⟩, r⟩ := h1 j j0 j1
    exact ⟨⟨a1, a2, by omega, a4, a5, a6⟩, r⟩
  · by_cases e : x = i
    · rw [e]; exact hk
    · exact h6 x x0 (by omega)
/-- a new token -/
def tkN (u : aS) (c k b i : Int) : aS := aup (aup (aup (aup u 80 c (pc0 k b)) 82 c i) 84 c 1) 78 3 (c + 1)
theorem tk_new {u : aS} {b : Int → Int} {c i : Int} (h : tkA u b c i) (i0 : 0 ≤ i) (hk : kd (b i) ≠ 0) (hn : kd (b i) = 3 ∨ kd (b i) ≠ bfr b i) : tkA (tkN u c (kd (b i)) (b i) i) b (c + 1) (i + 1) := by
  obtain ⟨h1, h2, h3, h4, h5, h6⟩ := h
  have s82 : ∀ j, j < c → tkN u c (kd (b i)) (b i) i 82 j = u 82 j := fun j hj => by
    unfold tkN; rw [aup_o (by decide), aup_o (by decide), aup_k, if_neg (by omega), aup_o (by decide)]
  have s84 : ∀ j, j < c → tkN u c (kd (b i)) (b i) i 84 j = u 84 j := fun j hj => by
    unfold tkN; rw [aup_o (by decide), aup_k, if_neg (by omega), aup_o (by decide), aup_o (by decide)]
  have s80 : ∀ j, j < c → tkN u c (kd (b i)) (b i) i 80 j = u 80 j := fun j hj => by
    unfold tkN; rw [aup_o (by decide), aup_o (by decide), aup_o (by decide), aup_k, if_neg (by omega)]
  have c82 : tkN u c (kd (b i)) (b i) i 82 c = i := by
    unfold tkN; rw [aup_o (by decide), aup_o (by decide), aup_k, if_pos rfl]
  have c84 : tkN u c (kd (b i)) (b i) i 84 c = 1 := by
    unfold tkN; rw [aup_o (by decide), aup_k, if_pos rfl]
  have c80 : tkN u c (kd (b i)) (b i) i 80 c = pc0 (kd (b i)) (b i) := by
    unfold tkN; rw [aup_o (by decide), aup_o (by decide), aup_o (by decide), aup_k, if_pos rfl]
  have eE : ∀ j, 0 ≤ j → j ≤ c → ep (tE (tkN u c (kd (b i)) (b i) i)) j = ep (tE u) j := fun j j0 j1 => by
    unfold ep
    by_cases e : j = 0
    · rw [if_pos e, if_pos e]
    · rw [if_neg e, if_neg e]
      show tkN u c (kd (b i)) (b i) i 82 (j - 1) + tkN u c (kd (b i)) (b i) i 84 (j - 1) = u 82 (j - 1) + u 84 (j - 1)
      rw [s82 _ (by omega), s84 _ (by omega)]
  have eC : ep (tE (tkN u c (kd (b i)) (b i) i)) (c + 1) = i + 1 := by
    unfold ep
    rw [if_neg (by omega)]
    show tkN u c (kd (b i)) (b i) i 82 (c + 1 - 1) + tkN u c (kd (b i)) (b i) i 84 (c + 1 - 1) = i + 1
    rw [show c + 1 - 1 = c by omega, c82, c84]
  refine ⟨fun j j0 j1 => ?_, by omega, by omega, by rw [eC]; omega, by rw [eC]; omega, fun x x0 x1 => by rw [eC] at x0; omega⟩
  by_cases ej : j = c
  · subst ej
    rw [c82, c84, c80, eE j j0 (Int.le_refl _)]
    refine ⟨⟨i0, by omega, by omega, hk, fun _ => rfl, rfl⟩, fun x x0 x1 => by rw [show x = i by omega], ⟨h5, h6⟩, fun hj => ?_⟩
    rw [s82 _ (by omega)]
    obtain ⟨⟨a1, a2, a3, a4, a5, a6⟩, b2, b3, b4⟩ := h1 (j - 1) (by omega) (by omega)
    have ee : ep (tE u) j = u 82 (j - 1) + u 84 (j - 1) := by unfold ep; rw [if_neg (by omega)]
    by_cases e2 : ep (tE u) j < i
    · right
      rw [h6 _ (Int.le_refl _) e2]
      exact fun hh => a4 hh.symm
    · have e3 : ep (tE u) j = i := by omega
      have e4 := b2 (i - 1) (by omega) (by omega)
      rw [e3]
      rcases hn with hn | hn
      · rw [hn]
        by_cases e5 : kd (b (u 82 (j - 1))) = 3
        · exact Or.inl e5
        · exact Or.inr (fun hh => e5 hh.symm)
      · right
        unfold bfr at hn
        rw [if_neg (by omega), e4] at hn
        exact hn
  · obtain ⟨⟨a1, a2, a3, a4, a5, a6⟩, b2, b3, b4⟩ := h1 j j0 (by omega)
    rw [s82 j (by omega), s84 j (by omega), s80 j (by omega), eE j j0 (by omega)]
    refine ⟨⟨a1, a2, by omega, a4, a5, a6⟩, b2, b3, fun hj => ?_⟩
    rw [s82 _ (by omega)]
    exact b4 hj
/-- a longer one -/
def tkX (u : aS) (c : Int) : aS := aup u 84 (c - 1) (u 84 (c - 1) + 1)
theorem tk_ext {u : aS} {b : Int → Int} {c i : Int} (h : tkA u b c i) (i0 : 0 ≤ i) (hk : kd (b i) ≠ 0) (h3 : kd (b i) ≠ 3) (hn : kd (b i) = bfr b i) : 1 ≤ c ∧ tkA (tkX u c) b c (i + 1) := by
  obtain ⟨h1, h2, h3', h4, h5, h6⟩ := h
  have ip : 0 < i := by
    by_cases e : i = 0
    · unfold bfr at hn; rw [if_pos e] at hn; exact (hk hn).elim
    · omega
  have hb : kd (b (i - 1)) = kd (b i) := by unfold bfr at hn; rw [if_neg (by omega)] at hn; exact hn.symm
  have ei : ep (tE u) c = i := by
    by_cases e : ep (tE u) c ≤ i - 1
    · have := h6 (i - 1) e (by omega)
      rw [hb] at this
      exact (hk this).elim
    · omega
  have cp : 1 ≤ c := by
    by_cases e : c = 0
    · unfold ep at ei; rw [if_pos e] at ei; omega
    · omega
  have ee : u 82 (c - 1) + u 84 (c - 1) = i := by unfold ep at ei; rw [if_neg (by omega)] at ei; exact ei
  have s82 : tkX u c 82 = u 82 := aup_o (by decide)
  have s80 : tkX u c 80 = u 80 := aup_o (by decide)
  have s84 : ∀ j, j < c - 1 → tkX u c 84 j = u 84 j := fun j hj => by unfold tkX; rw [aup_k, if_neg (by omega)]
  have c84 : tkX u c 84 (c - 1) = u 84 (c - 1) + 1 := by unfold tkX; rw [aup_k, if_pos rfl]
  have eE : ∀ j, 0 ≤ j → j < c → ep (tE (tkX u c)) j = ep (tE u) j := fun j j0 j1 => by
    unfold ep
    by_cases e : j = 0
    · rw [if_pos e, if_pos e]
    · rw [if_neg e, if_neg e]
      show tkX u c 82 (j - 1) + tkX u c 84 (j - 1) = u 82 (j - 1) + u 84 (j - 1)
      rw [s82, s84 _ (by omega)]
  have eC : ep (tE (tkX u c)) c = i + 1 := by
    unfold ep
    rw [if_neg (by omega)]
    show tkX u c 82 (c - 1) + tkX u c 84 (c - 1) = i + 1
    rw [s82, c84]
    omega
  obtain ⟨⟨a1, a2, a3, a4, a5, a6⟩, b2, b3, b4⟩ := h1 (c - 1) (by omega) (by omega)
  have kk := b2 (i - 1) (by omega) (by omega)
  refine ⟨cp, fun j j0 j1 => ?_, by omega, by omega, by rw [eC]; omega, by rw [eC]; omega, fun x x0 x1 => by rw [eC] at x0; omega⟩
  rw [s82, s80, eE j j0 j1]
  by_cases ej : j = c - 1
  · subst ej
    rw [c84]
    refine ⟨⟨a1, by omega, by omega, a4, fun e => ?_, a6⟩, fun x x0 x1 => ?_, b3, b4⟩
    · rw [← kk, hb] at e; exact (h3 e).elim
    · by_cases e : x = i
      · rw [e, ← hb, kk]
      · exact b2 x x0 (by omega)
  · rw [s84 j (by omega)]
    obtain ⟨⟨x1, x2, x3, x4, x5, x6⟩, y⟩ := h1 j j0 j1
    exact ⟨⟨x1, x2, by omega, x4, x5, x6⟩, y⟩
section TK
variable {g : qG} {s : aS} {d : Nat} {Q : Int32 → qS → Prop} {T : String → qS → Prop}
theorem k_kindOf (hw : qWF g) {σ : qS} {b : Int} (b0 : 0 ≤ b) (b1 : b < 256) (hQ : Q (iI (kd b)) σ) : qC g (d + 1) mX8_kindOf [.inl (iI b)] σ Q T := by
  refine wX8_kindOf hw ?_
  unfold kd at hQ
  by_cases h1 : b = 32
  · rw [if_pos (Or.inl h1)] at hQ
    simp (disch := omega) only [z_app, z_rd, z_cl, z_add, z_sub, z_mul, z_neg, z_lit, z_leT, z_leF, z_ltT, z_ltF, z_eqT, z_eqF, i_leT, i_leF, i_ltT, i_ltF, i_eqT, i_eqF, z_le, z_lt, z_eq, z_ite, z_at, z_pt, z_up, z_wr, z_wi1, z_wi0, z_wi, z_inS, z_toInt, z_nb0, z_nb1, Int.cast_ofNat_Int, true_and, and_true, not_true_eq_false, not_false_eq_true, false_imp_iff, true_imp_iff, aup_o, aup_k, ite_true, ite_false, z_fa000, z_fa001, z_fa010, z_fa011, z_fa100, z_fa101, z_fa110, z_fa111, if_true, if_false]
    exact hQ
  by_cases h2 : b = 10
  · rw [if_pos (Or.inr h2)] at hQ
    simp (disch := omega) only [z_app, z_rd, z_cl, z_add, z_sub, z_mul, z_neg, z_lit, z_leT, z_leF, z_ltT, z_ltF, z_eqT, z_eqF, i_leT, i_leF, i_ltT, i_ltF, i_eqT, i_eqF, z_le, z_lt, z_eq, z_ite, z_at, z_pt, z_up, z_wr, z_wi1, z_wi0, z_wi, z_inS, z_toInt, z_nb0, z_nb1, Int.cast_ofNat_Int, true_and, and_true, not_true_eq_false, not_false_eq_true, false_imp_iff, true_imp_iff, aup_o, aup_k, ite_true, ite_false, z_fa000, z_fa001, z_fa010, z_fa011, z_fa100, z_fa101, z_fa110, z_fa111, if_true, if_false]
    exact hQ
  rw [if_neg (by omega)] at hQ
  by_cases h3 : 97 ≤ b ∧ b ≤ 122
  · rw [if_pos h3] at hQ
    simp (disch := omega) only [z_app, z_rd, z_cl, z_add, z_sub, z_mul, z_neg, z_lit, z_leT, z_leF, z_ltT, z_ltF, z_eqT, z_eqF, i_leT, i_leF, i_ltT, i_ltF, i_eqT, i_eqF, z_le, z_lt, z_eq, z_ite, z_at, z_pt, z_up, z_wr, z_wi1, z_wi0, z_wi, z_inS, z_toInt, z_nb0, z_nb1, Int.cast_ofNat_Int, true_and, and_true, not_true_eq_false, not_false_eq_true, false_imp_iff, true_imp_iff, aup_o, aup_k, ite_true, ite_false, z_fa000, z_fa001, z_fa010, z_fa011, z_fa100, z_fa101, z_fa110, z_fa111, if_true, if_false]
    exact hQ
  rw [if_neg h3] at hQ
  by_cases h4 : 48 ≤ b ∧ b ≤ 57
  · rw [if_pos h4] at hQ
    simp (disch := omega) only [z_app, z_rd, z_cl, z_add, z_sub, z_mul, z_neg, z_lit, z_leT, z_leF, z_ltT, z_ltF, z_eqT, z_eqF, i_leT, i_leF, i_ltT, i_ltF, i_eqT, i_eqF, z_le, z_lt, z_eq, z_ite, z_at, z_pt, z_up, z_wr, z_wi1, z_wi0, z_wi, z_inS, z_toInt, z_nb0, z_nb1, Int.cast_ofNat_Int, true_and, and_true, not_true_eq_false, not_false_eq_true, false_imp_iff, true_imp_iff, aup_o, aup_k, ite_true, ite_false, z_fa000, z_fa001, z_fa010, z_fa011, z_fa100, z_fa101, z_fa110, z_fa111, if_true, if_false]
    exact hQ
  rw [if_neg h4] at hQ
  simp (disch := omega) only [z_app, z_rd, z_cl, z_add, z_sub, z_mul, z_neg, z_lit, z_leT, z_leF, z_ltT, z_ltF, z_eqT, z_eqF, i_leT, i_leF, i_ltT, i_ltF, i_eqT, i_eqF, z_le, z_lt, z_eq, z_ite, z_at, z_pt, z_up, z_wr, z_wi1, z_wi0, z_wi, z_inS, z_toInt, z_nb0, z_nb1, Int.cast_ofNat_Int, true_and, and_true, not_true_eq_false, not_false_eq_true, false_imp_iff, true_imp_iff, aup_o, aup_k, ite_true, ite_false, z_fa000, z_fa001, z_fa010, z_fa011, z_fa100, z_fa101, z_fa110, z_fa111, if_true, if_false]
  exact hQ
theorem k_takeN (hw : qWF g) {c k x b i : Int} (hc : s 78 3 = c) (c0 : 0 ≤ c) (c1 : c < 901) (k1 : 1 ≤ k) (k3 : k ≤ 3) (hx : x = 0 ∨ x = 1) (hn : x = 1 → k = 3) (hQ : Q (iI 0) (qi (tkN s c k b i))) : qC g (d + 1) mX8_take [.inr 78, .inl (iI k), .inl (iI x), .inl (iI b), .inl (iI i)] (qi s) Q T := by
  unfold tkN pc0 at hQ
  refine wX8_take hw ?_
  by_cases h3 : k = 3
  · rw [if_pos h3] at hQ
    subst h3
    rcases hx with hx | hx
    · subst hx
      simp (disch := omega) only [z_app, z_rd, z_cl, z_add, z_sub, z_mul, z_neg, z_lit, z_leT, z_leF, z_ltT, z_ltF, z_eqT, z_eqF, i_leT, i_leF, i_ltT, i_ltF, i_eqT, i_eqF, z_le, z_lt, z_eq, z_ite, z_at, z_pt, z_up, z_wr, z_wi1, z_wi0, z_wi, z_inS, z_toInt, z_nb0, z_nb1, Int.cast_ofNat_Int, true_and, and_true, not_true_eq_false, not_false_eq_true, false_imp_iff, true_imp_iff, aup_o, aup_k, ite_true, ite_false, z_fa000, z_fa001, z_fa010, z_fa011, z_fa100, z_fa101, z_fa110, z_fa111, if_true, if_false, hc]
      exact hQ
    · subst hx
      simp (disch := omega) only [z_app, z_rd, z_cl, z_add, z_sub, z_mul, z_neg, z_lit, z_leT, z_leF, z_ltT, z_ltF, z_eqT, z_eqF, i_leT, i_leF, i_ltT, i_ltF, i_eqT, i_eqF, z_le, z_lt, z_eq, z_ite, z_at, z_pt, z_up, z_wr, z_wi1, z_wi0, z_wi, z_inS, z_toInt, z_nb0, z_nb1, Int.cast_ofNat_Int, true_and, and_true, not_true_eq_false, not_false_eq_true, false_imp_iff, true_imp_iff, aup_o, aup_k, ite_true, ite_false, z_fa000, z_fa001, z_fa010, z_fa011, z_fa100, z_fa101, z_fa110, z_fa111, if_true, if_false, hc]
      exact hQ
  · have hx0 : x = 0 := by omega
    subst hx0
    rw [if_neg h3] at hQ
    by_cases h1 : k = 1
    · rw [if_pos h1] at hQ
      subst h1
      simp (disch := omega) only [z_app, z_rd, z_cl, z_add, z_sub, z_mul, z_neg, z_lit, z_leT, z_leF, z_ltT, z_ltF, z_eqT, z_eqF, i_leT, i_leF, i_ltT, i_ltF, i_eqT, i_eqF, z_le, z_lt, z_eq, z_ite, z_at, z_pt, z_up, z_wr, z_wi1, z_wi0, z_wi, z_inS, z_toInt, z_nb0, z_nb1, Int.cast_ofNat_Int, true_and, and_true, not_true_eq_false, not_false_eq_true, false_imp_iff, true_imp_iff, aup_o, aup_k, ite_true, ite_false, z_fa000, z_fa001, z_fa010, z_fa011, z_fa100, z_fa101, z_fa110, z_fa111, if_true, if_false, hc]
      exact hQ
    · rw [if_neg h1] at hQ
      simp (disch := omega) only [z_app, z_rd, z_cl, z_add, z_sub, z_mul, z_neg, z_lit, z_leT, z_leF, z_ltT, z_ltF, z_eqT, z_eqF, i_leT, i_leF, i_ltT, i_ltF, i_eqT, i_eqF, z_le, z_lt, z_eq, z_ite, z_at, z_pt, z_up, z_wr, z_wi1, z_wi0, z_wi, z_inS, z_toInt, z_nb0, z_nb1, Int.cast_ofNat_Int, true_and, and_true, not_true_eq_false, not_false_eq_true, false_imp_iff, true_imp_iff, aup_o, aup_k, ite_true, ite_false, z_fa000, z_fa001, z_fa010, z_fa011, z_fa100, z_fa101, z_fa110, z_fa111, if_true, if_false, hc]
      exact hQ
theorem k_takeX (hw : qWF g) {c k b i : Int} (hc : s 78 3 = c) (c0 : 1 ≤ c) (c1 : c < 901) (k1 : 1 ≤ k) (k3 : k < 3) (hQ : Q (iI 0) (qi (tkX s c))) : qC g (d + 1) mX8_take [.inr 78, .inl (iI k), .inl (iI 1), .inl (iI b), .inl (iI i)] (qi s) Q T := by
  unfold tkX at hQ
  refine wX8_take hw ?_
  simp (disch := omega) only [z_app, z_rd, z_cl, z_add, z_sub, z_mul, z_neg, z_lit, z_leT, z_leF, z_ltT, z_ltF, z_eqT, z_eqF, i_leT, i_leF, i_ltT, i_ltF, i_eqT, i_eqF, z_le, z_lt, z_eq, z_ite, z_at, z_pt, z_up, z_wr, z_wi1, z_wi0, z_wi, z_inS, z_toInt, z_nb0, z_nb1, Int.cast_ofNat_Int, true_and, and_true, not_true_eq_false, not_false_eq_true, false_imp_iff, true_imp_iff, aup_o, aup_k, ite_true, ite_false, z_fa000, z_fa001, z_fa010, z_fa011, z_fa100, z_fa101, z_fa110, z_fa111, if_true, if_false, hc]
  exact hQ
/-- the first loop of split -/
theorem k_split_l (hw : qWF g) {b : Int → Int} {n : Int} (n1 : n ≤ 900) (hb : ∀ i, 0 ≤ i → i < n → (-128 ≤ s 85 i ∧ s 85 i ≤ 127) ∧ b i = s 85 i % 256) (hQ : ∀ (u : aS) (c : Int) (l3 : Int32) (o5 o6 : Option qP), u 78 3 = c → (∀ x : Nat, x ≠ 78 → x ≠ 80 → x ≠ 82 → x ≠ 84 → u x = s x) → (∀ y, y ≠ 3 → u 78 y = s 78 y) → tkA u b c n → qV g mX8_split (d + 2) 0 104 [some (.inr 78), some (.inr 85), some (.inl (iI n)), some (.inl l3), some (.inl (iI 0)), o5, o6] [] (qi (aup (aup u 80 c 303) 82 c n)) Q T) : ∀ (i : Int) (u : aS) (c : Int) (o5 o6 : Option qP), 0 ≤ i → i ≤ n → u 78 3 = c → (∀ x : Nat, x ≠ 78 → x ≠ 80 → x ≠ 82 → x ≠ 84 → u x = s x) → (∀ y, y ≠ 3 → u 78 y = s 78 y) → tkA u b c i → qV g mX8_split (d + 2) 0 10 [some (.inr 78), some (.inr 85), some (.inl (iI n)), some (.inl (iI (bfr b i))), some (.inl (iI i)), o5, o6] [] (qi u) Q T := by
  have nn : nI 900 = iI 900 := z_nI 900
  refine stepUp n (fun i ih u c o5 o6 i0 i1 hc hf hf7 hT => wX8_split_10 hw ?_)
  have T2 := hT.2
  have C0 : 0 ≤ c ∧ c ≤ i := ⟨T2.1, T2.2.1⟩
  by_cases h : i < n
  · obtain ⟨⟨b1, b2⟩, b3⟩ := hb i i0 h
    have e85 : u 85 i = s 85 i := by rw [hf 85 (by decide) (by decide) (by decide) (by decide)]
    have ea : iI (s 85 i) &&& iI 255 = iI (b i) := by rw [b3]; exact z_a255 b1 b2
    have hbb : 0 ≤ b i ∧ b i < 256 := by omega
    have K := kd_b (b i)
    have eb : bfr b (i + 1) = kd (b i) := by unfold bfr; rw [if_neg (by omega), show i + 1 - 1 = i by omega]
    have K0 : 0 ≤ bfr b i ∧ bfr b i ≤ 3 := by
      unfold bfr
      by_cases e : i = 0
      · rw [if_pos e]; omega
      · rw [if_neg e]; exact kd_b _
    clear T2
    simp (disch := omega) only [z_app, z_rd, z_cl, z_add, z_sub, z_mul, z_neg, z_lit, z_leT, z_leF, z_ltT, z_ltF, z_eqT, z_eqF, i_leT, i_leF, i_ltT, i_ltF, i_eqT, i_eqF, z_le, z_lt, z_eq, z_ite, z_at, z_pt, z_up, z_wr, z_wi1, z_wi0, z_wi, z_inS, z_toInt, z_nb0, z_nb1, Int.cast_ofNat_Int, true_and, and_true, not_true_eq_false, not_false_eq_true, false_imp_iff, true_imp_iff, aup_o, aup_k, ite_true, ite_false, z_fa000, z_fa001, z_fa010, z_fa011, z_fa100, z_fa101, z_fa110, z_fa111, if_true, if_false, nn, e85, ea]
    refine k_kindOf hw hbb.1 hbb.2 ?_
    have go := fun (u' : aS) (c' : Int) (o5 o6 : Option qP) => ih h u' c' o5 o6 (by omega) (by omega)
    rw [eb] at go
    by_cases h0 : kd (b i) = 0
    · have t := tk_blank hT h0
      have g0 := go u c (some (.inl (iI (b i)))) (some (.inl (iI (kd (b i))))) hc hf hf7 t
      simp (disch := omega) only [z_app, z_rd, z_cl, z_add, z_sub, z_mul, z_neg, z_lit, z_leT, z_leF, z_ltT, z_ltF, z_eqT, z_eqF, i_leT, i_leF, i_ltT, i_ltF, i_eqT, i_eqF, z_le, z_lt, z_eq, z_ite, z_at, z_pt, z_up, z_wr, z_wi1, z_wi0, z_wi, z_inS, z_toInt, z_nb0, z_nb1, Int.cast_ofNat_Int, true_and, and_true, not_true_eq_false, not_false_eq_true, false_imp_iff, true_imp_iff, aup_o, aup_k, ite_true, ite_false, z_fa000, z_fa001, z_fa010, z_fa011, z_fa100, z_fa101, z_fa110, z_fa111, if_true, if_false]
      exact g0
    · have fr : ∀ (k' : Int), (∀ x : Nat, x ≠ 78 → x ≠ 80 → x ≠ 82 → x ≠ 84 → tkN u c k' (b i) i x = s x) ∧ (∀ y, y ≠ 3 → tkN u c k' (b i) i 78 y = s 78 y) ∧ tkN u c k' (b i) i 78 3 = c + 1 := by
        intro k'
        refine ⟨fun x x1 x2 x3 x4 => ?_, fun y hy => ?_, ?_⟩
        · unfold tkN; rw [aup_o x1, aup_o x4, aup_o x3, aup_o x2, hf x x1 x2 x3 x4]
        · unfold tkN; rw [aup_k, if_neg hy, aup_o (by decide), aup_o (by decide), aup_o (by decide), hf7 y hy]
        · unfold tkN; rw [aup_s]
      obtain ⟨f1, f2, f3⟩ := fr (kd (b i))
      by_cases hs : kd (b i) = bfr b i
      · by_cases h3 : kd (b i) = 3
        · have t := tk_new hT i0 h0 (Or.inl h3)
          have g0 := go _ (c + 1) (some (.inl (iI (b i)))) (some (.inl (iI (kd (b i))))) f3 f1 f2 t
          simp (disch := omega) only [z_app, z_rd, z_cl, z_add, z_sub, z_mul, z_neg, z_lit, z_leT, z_leF, z_ltT, z_ltF, z_eqT, z_eqF, i_leT, i_leF, i_ltT, i_ltF, i_eqT, i_eqF, z_le, z_lt, z_eq, z_ite, z_at, z_pt, z_up, z_wr, z_wi1, z_wi0, z_wi, z_inS, z_toInt, z_nb0, z_nb1, Int.cast_ofNat_Int, true_and, and_true, not_true_eq_false, not_false_eq_true, false_imp_iff, true_imp_iff, aup_o, aup_k, ite_true, ite_false, z_fa000, z_fa001, z_fa010, z_fa011, z_fa100, z_fa101, z_fa110, z_fa111, if_true, if_false]
          exact k_takeN hw hc C0.1 (by omega) (by omega) (by omega) (Or.inr rfl) (fun _ => h3) g0
        · obtain ⟨c1, t⟩ := tk_ext hT i0 h0 h3 hs
          have g0 := go _ c (some (.inl (iI (b i)))) (some (.inl (iI (kd (b i))))) (by unfold tkX; rw [aup_o (by decide)]; exact hc) (fun x x1 x2 x3 x4 => by unfold tkX; rw [aup_o x4, hf x x1 x2 x3 x4]) (fun y hy => by unfold tkX; rw [aup_o (by decide), hf7 y hy]) t
          simp (disch := omega) only [z_app, z_rd, z_cl, z_add, z_sub, z_mul, z_neg, z_lit, z_leT, z_leF, z_ltT, z_ltF, z_eqT, z_eqF, i_leT, i_leF, i_ltT, i_ltF, i_eqT, i_eqF, z_le, z_lt, z_eq, z_ite, z_at, z_pt, z_up, z_wr, z_wi1, z_wi0, z_wi, z_inS, z_toInt, z_nb0, z_nb1, Int.cast_ofNat_Int, true_and, and_true, not_true_eq_false, not_false_eq_true, false_imp_iff, true_imp_iff, aup_o, aup_k, ite_true, ite_false, z_fa000, z_fa001, z_fa010, z_fa011, z_fa100, z_fa101, z_fa110, z_fa111, if_true, if_false]
          exact k_takeX hw hc c1 (by omega) (by omega) (by omega) g0
      · have t := tk_new hT i0 h0 (Or.inr hs)
        have g0 := go _ (c + 1) (some (.inl (iI (b i)))) (some (.inl (iI (kd (b i))))) f3 f1 f2 t
        simp (disch := omega) only [z_app, z_rd, z_cl, z_add, z_sub, z_mul, z_neg, z_lit, z_leT, z_leF, z_ltT, z_ltF, z_eqT, z_eqF, i_leT, i_leF, i_ltT, i_ltF, i_eqT, i_eqF, z_le, z_lt, z_eq, z_ite, z_at, z_pt, z_up, z_wr, z_wi1, z_wi0, z_wi, z_inS, z_toInt, z_nb0, z_nb1, Int.cast_ofNat_Int, true_and, and_true, not_true_eq_false, not_false_eq_true, false_imp_iff, true_imp_iff, aup_o, aup_k, ite_true, ite_false, z_fa000, z_fa001, z_fa010, z_fa011, z_fa100, z_fa101, z_fa110, z_fa111, if_true, if_false]
        exact k_takeN hw hc C0.1 (by omega) (by omega) (by omega) (Or.inl rfl) (fun h => by omega) g0
  · have ei : i = n := by omega
    subst ei
    have q := hQ u c (iI (bfr b i)) o5 o6 hc hf hf7 hT
    simp (disch := omega) only [z_app, z_rd, z_cl, z_add, z_sub, z_mul, z_neg, z_lit, z_leT, z_leF, z_ltT, z_ltF, z_eqT, z_eqF, i_leT, i_leF, i_ltT, i_ltF, i_eqT, i_eqF, z_le, z_lt, z_eq, z_ite, z_at, z_pt, z_up, z_wr, z_wi1, z_wi0, z_wi, z_inS, z_toInt, z_nb0, z_nb1, Int.cast_ofNat_Int, true_and, and_true, not_true_eq_false, not_false_eq_true, false_imp_iff, true_imp_iff, aup_o, aup_k, ite_true, ite_false, z_fa000, z_fa001, z_fa010, z_fa011, z_fa100, z_fa101, z_fa110, z_fa111, if_true, if_false, hc]
    exact q
end TK
