/-! ===== the numbers that calls read: by the reference ===== -/
theorem z_inS {z : Int} {n : Nat} (h1 : 0 ≤ z) (h2 : z < n) (h3 : (n : Int) < 2147483648) : vp_in (iI z) n = True := eq_true (z_in h1 h2 h3)
theorem rs_3 {s a : aS} (h : rL s a) : a 86 3 = s 21 4 := h.1.1
theorem rs_4 {s a : aS} (h : rL s a) : a 86 4 = s 1 12 := h.1.2.1
theorem rs_5 {s a : aS} (h : rL s a) : a 86 5 = s 1 13 := h.1.2.2.1
theorem rs_15 {s a : aS} (h : rL s a) : a 86 15 = s 2 9 := h.1.2.2.2.1
theorem rs_16 {s a : aS} (h : rL s a) : a 86 16 = s 2 10 := h.1.2.2.2.2.1
theorem rs_19 {s a : aS} (h : rL s a) : a 86 19 = s 21 3 - s 21 2 + 1 := h.1.2.2.2.2.2.1
theorem rs_20 {s a : aS} (h : rL s a) : a 86 20 = s 21 2 := h.1.2.2.2.2.2.2.1
theorem rs_27 {s a : aS} (h : rL s a) : a 86 27 = s 26 6 := h.1.2.2.2.2.2.2.2.1
theorem rs_28 {s a : aS} (h : rL s a) : a 86 28 = s 1 11 := h.1.2.2.2.2.2.2.2.2.1
theorem rs_34 {s a : aS} (h : rL s a) : a 86 34 = s 1 10 := h.1.2.2.2.2.2.2.2.2.2
theorem rr_88 {s a : aS} (h : rL s a) {k : Int} (h0 : 0 ≤ k) (h1 : k < s 2 9) : a 88 k = s 4 k := (h.2.1 k h0 h1).1
theorem rr_89 {s a : aS} (h : rL s a) {k : Int} (h0 : 0 ≤ k) (h1 : k < s 2 9) : a 89 k = s 6 k := (h.2.1 k h0 h1).2.1
theorem rr_90 {s a : aS} (h : rL s a) {k : Int} (h0 : 0 ≤ k) (h1 : k < s 2 9) : a 90 k = s 8 k := (h.2.1 k h0 h1).2.2.1
theorem rr_91 {s a : aS} (h : rL s a) {k : Int} (h0 : 0 ≤ k) (h1 : k < s 2 9) : a 91 k = s 10 k := (h.2.1 k h0 h1).2.2.2.1
theorem rr_92 {s a : aS} (h : rL s a) {k : Int} (h0 : 0 ≤ k) (h1 : k < s 2 9) : a 92 k = s 12 k := (h.2.1 k h0 h1).2.2.2.2.1
theorem rr_93 {s a : aS} (h : rL s a) {k : Int} (h0 : 0 ≤ k) (h1 : k < s 2 9) : a 93 k = s 14 k := (h.2.1 k h0 h1).2.2.2.2.2.1
theorem rr_94 {s a : aS} (h : rL s a) {k : Int} (h0 : 0 ≤ k) (h1 : k < s 2 9) : a 94 k = s 18 k := (h.2.1 k h0 h1).2.2.2.2.2.2.1
theorem rr_95 {s a : aS} (h : rL s a) {k : Int} (h0 : 0 ≤ k) (h1 : k < s 2 9) : a 95 k = s 16 k := (h.2.1 k h0 h1).2.2.2.2.2.2.2.1
theorem rr_96 {s a : aS} (h : rL s a) {k : Int} (h0 : 0 ≤ k) (h1 : k < s 2 9) : a 96 k = s 20 k := (h.2.1 k h0 h1).2.2.2.2.2.2.2.2
theorem rg_97 {s a : aS} (h : rL s a) {i : Int} (h0 : 0 ≤ i) (h1 : i ≤ s 21 3 - s 21 2) : a 97 i = s 21 2 + i := (h.2.2.1 i h0 h1).1
theorem rg_98 {s a : aS} (h : rL s a) {i : Int} (h0 : 0 ≤ i) (h1 : i ≤ s 21 3 - s 21 2) : a 98 i = s 23 (s 21 2 + i) := (h.2.2.1 i h0 h1).2
theorem rt_99 {s a : aS} (h : rL s a) {t : Int} (h0 : 0 ≤ t) (h1 : t < 4) : a 99 t = s 55 t := h.2.2.2.1 t h0 h1
theorem rv_101 {s a : aS} (h : rL s a) {t : Int} (h0 : 0 ≤ t) (h1 : t < 4) : a 101 t = s 30 t := (h.2.2.2.2.1 t h0 h1).1
theorem rv_100 {s a : aS} (h : rL s a) {t i : Int} (h0 : 0 ≤ t) (h1 : t < 4) (h2 : 0 ≤ i) (h3 : i < s 30 t) : a 100 (400 * t + i) = s 28 (400 * t + i) := (h.2.2.2.2.1 t h0 h1).2 i h2 h3
theorem rc_102 {s a : aS} (h : rL s a) {c : Int} (h0 : 0 ≤ c) (h1 : c < s 26 6) : a 102 c = s 32 c := (h.2.2.2.2.2.1 c h0 h1).1
theorem rc_103 {s a : aS} (h : rL s a) {c : Int} (h0 : 0 ≤ c) (h1 : c < s 26 6) : a 103 c = s 34 c := (h.2.2.2.2.2.1 c h0 h1).2
theorem rp_104 {s a : aS} (h : rL s a) {c k : Int} (h0 : 0 ≤ c) (h1 : c < 6) (h2 : 0 ≤ k) (h3 : k < 400) : a 104 (400 * c + k) = if c < s 26 6 ∧ s 34 c ≤ k ∧ k < s 36 c then 1 else 0 := h.2.2.2.2.2.2.1 c k h0 h1 h2 h3
/-- plain facts -/
theorem j_seg {s : aS} (hB : jB s) (hS : jS s) : ∀ i, s 21 2 ≤ i → i ≤ s 21 3 → i ≤ s 23 i := by
  refine stepDown (s 21 2) (fun i ih h0 h1 => ?_)
  by_cases h : s 21 2 < i
  · have a1 := ih h (by omega) (by omega)
    have a2 := (hS.1 (i - 1) (by omega) (by omega)).1
    rw [show i - 1 + 1 = i by omega] at a2
    omega
  · have e : i = s 21 2 := by omega
    rw [e]
    exact hS.2.1
theorem j_mono {s : aS} (hS : jS s) {i : Int} (hi : s 21 2 ≤ i) : ∀ j, i ≤ j → j ≤ s 21 3 → s 23 i ≤ s 23 j := by
  refine stepDown i (fun j ih h0 h1 => ?_)
  by_cases h : i < j
  · have a1 := ih h (by omega) (by omega)
    have a2 := (hS.1 (j - 1) (by omega) (by omega)).1
    rw [show j - 1 + 1 = j by omega] at a2
    omega
  · rw [show j = i by omega]
    exact Int.le_refl _
theorem jb {s : aS} (h : jJ s) : 0 ≤ s 21 2 ∧ s 21 2 ≤ s 21 3 ∧ s 21 3 ≤ s 2 9 ∧ s 21 6 = s 21 2 ∧ 40 ≤ s 21 4 ∧ s 21 4 ≤ 400 ∧ 0 ≤ s 23 (s 21 2) ∧ s 23 (s 21 2) ≤ s 2 10 ∧ s 2 10 ≤ s 2 9 ∧ s 2 9 ≤ 400 ∧ 0 ≤ s 1 11 ∧ s 1 11 ≤ s 2 10 ∧ 40 ≤ s 1 12 ∧ s 1 12 ≤ 9999 ∧ 0 ≤ s 1 13 ∧ s 1 13 ≤ 100 ∧ 0 ≤ s 26 6 ∧ s 26 6 ≤ 6 ∧ 0 ≤ s 1 10 ∧ s 1 10 ≤ 50 ∧ 0 ≤ s 0 3 ∧ s 0 3 ≤ 900 := by
  obtain ⟨hB, -, -, -, -, -, hS, -, -, hK⟩ := h
  have h1 := j_seg hB hS (s 21 3) hB.1.2.1 (Int.le_refl _)
  have h2 := hS.2.1
  have h3 := hS.2.2.1
  obtain ⟨⟨b1, b2, b3, b4, b5⟩, ⟨b6, b7, b8⟩, ⟨b9, b10⟩, ⟨b11, b12, b13, b14⟩, ⟨b15, b16⟩, ⟨b17, b18⟩⟩ := hB
  obtain ⟨k1, k2⟩ := hK.2.1
  refine ⟨b1, b2, by omega, b3, b4, b5, by omega, b6, b7, b8, b9, by omega, b11, b12, b13, b14, b15, b16, b17, b18, k1, k2⟩
/-- a record's size is small -/
theorem j_sz {s : aS} (h : jJ s) {k : Int} (h0 : 0 ≤ k) (h1 : k < s 2 9) : 4 ≤ s 14 k ∧ s 14 k ≤ 30 := by
  obtain ⟨⟨a1, a2⟩, -, -, ⟨a3, a4⟩, a5, -, -, -, a6, -⟩ := (h.2.1 k h0 h1).1
  rw [a5]
  unfold szI
  by_cases h3 : s 4 k = 3
  · rw [if_pos h3]; omega
  rw [if_neg h3]
  by_cases h4 : s 4 k = 4
  · rw [if_pos h4]; omega
  rw [if_neg h4]
  by_cases h5 : s 4 k = 5
  · rw [if_pos h5]; omega
  rw [if_neg h5]
  by_cases h6 : s 4 k = 6
  · have := (a6 h6).2
    rw [if_pos h6]; omega
  rw [if_neg h6]
  by_cases h7 : s 4 k = 7
  · rw [if_pos h7]; omega
  rw [if_neg h7]
  split <;> omega
theorem j_sum {s : aS} (h : jJ s) {lo hi : Int} (h0 : 0 ≤ lo) (h1 : lo ≤ hi) (h2 : hi ≤ s 2 9) : 4 * (hi - lo) ≤ sI (s 14) lo hi ∧ sI (s 14) lo hi ≤ 30 * (hi - lo) :=
  ⟨sI_lb hi h1 (fun i a b => (j_sz h (by omega) (by omega)).1), sI_ub hi h1 (fun i a b => (j_sz h (by omega) (by omega)).2)⟩
/-- the least of a range -/
def mlI (f : Int → Int) : Int → Nat → Int → Int
  | _, 0, x => x
  | lo, n + 1, x => mlI f (lo + 1) n (mn x (f lo))
def mI (f : Int → Int) (lo hi x : Int) : Int := mlI f lo (hi - lo).toNat x
theorem mI_e {f : Int → Int} {lo hi x : Int} (h : hi ≤ lo) : mI f lo hi x = x := by
  unfold mI
  rw [show (hi - lo).toNat = 0 by omega]
  rfl
theorem mI_f {f : Int → Int} {lo hi x : Int} (h : lo < hi) : mI f lo hi x = mI f (lo + 1) hi (mn x (f lo)) := by
  unfold mI
  rw [show (hi - lo).toNat = (hi - (lo + 1)).toNat + 1 by omega]
  rfl
theorem mI_b {f : Int → Int} {hi : Int} : ∀ lo x : Int, mI f lo hi x ≤ x ∧ (∀ i, lo ≤ i → i < hi → mI f lo hi x ≤ f i) ∧ (mI f lo hi x = x ∨ ∃ i, lo ≤ i ∧ i < hi ∧ mI f lo hi x = f i) := by
  refine stepUp hi (fun lo ih x => ?_)
  by_cases h : lo < hi
  · obtain ⟨a1, a2, a3⟩ := ih h (mn x (f lo))
    rw [mI_f h]
    have b1 := mn_l x (f lo)
    have b2 := mn_r x (f lo)
    refine ⟨by omega, fun i h0 h1 => ?_, ?_⟩
    · by_cases e : i = lo
      · subst e; omega
      · exact a2 i (by omega) h1
    · rcases a3 with a3 | ⟨i, h0, h1, h2⟩
      · rcases mn_or x (f lo) with e | e
        · left; omega
        · right; exact ⟨lo, by omega, h, by omega⟩
      · right; exact ⟨i, by omega, h1, h2⟩
  · rw [mI_e (by omega)]
    exact ⟨Int.le_refl _, fun i h0 h1 => by omega, Or.inl rfl⟩
theorem mI_c {f g : Int → Int} {hi : Int} : ∀ lo x : Int, (∀ i, lo ≤ i → i < hi → f i = g i) → mI f lo hi x = mI g lo hi x := by
  refine stepUp hi (fun lo ih x h => ?_)
  by_cases h1 : lo < hi
  · rw [mI_f h1, mI_f h1, h lo (by omega) h1]
    exact ih h1 _ (fun i a b => h i (by omega) b)
  · rw [mI_e (by omega), mI_e (by omega)]
def mx (x y : Int) : Int := if y ≤ x then x else y
/-- a consumer's hold; how many messages are spilled, and how many are unread and not spilled -/
def hdS (s : aS) (c : Int) : Int := mI (fun i => s 28 (400 * s 32 c + i)) (mx (s 34 c) (s 36 c)) (s 30 (s 32 c)) (s 2 9)
def spS (s : aS) (c : Int) : Int := if s 36 c - s 34 c ≤ 0 then 0 else s 36 c - s 34 c
def asS (s : aS) (c : Int) : Int := s 30 (s 32 c) - s 34 c - spS s c
theorem jc {s : aS} (h : jJ s) {c : Int} (h0 : 0 ≤ c) (h1 : c < s 26 6) : 0 ≤ s 32 c ∧ s 32 c < 4 ∧ 0 ≤ s 34 c ∧ s 34 c ≤ s 30 (s 32 c) ∧ 0 ≤ s 36 c ∧ s 36 c ≤ s 30 (s 32 c) ∧ 0 ≤ s 30 (s 32 c) ∧ s 30 (s 32 c) ≤ 400 := by
  obtain ⟨⟨a1, a2⟩, ⟨a3, a4⟩, ⟨a5, a6⟩, -⟩ := h.2.2.2.2.2.1.1 c h0 h1
  obtain ⟨⟨b1, b2⟩, -⟩ := h.2.2.2.2.1 (s 32 c) a1 a2
  exact ⟨a1, a2, a3, a4, a5, a6, b1, b2⟩
theorem jv {s : aS} (h : jJ s) {t i : Int} (h0 : 0 ≤ t) (h1 : t < 4) (h2 : 0 ≤ i) (h3 : i < s 30 t) : 0 ≤ s 28 (400 * t + i) ∧ s 28 (400 * t + i) < s 2 9 := ((h.2.2.2.2.1 t h0 h1).2.1 i h2 h3).1
theorem hd_b {s : aS} (h : jJ s) {c : Int} (h0 : 0 ≤ c) (h1 : c < s 26 6) : 0 ≤ hdS s c ∧ hdS s c ≤ s 2 9 := by
  obtain ⟨a1, a2, a3⟩ := mI_b (f := fun i => s 28 (400 * s 32 c + i)) (hi := s 30 (s 32 c)) (mx (s 34 c) (s 36 c)) (s 2 9)
  have b := jc h h0 h1
  have b0 := jb h
  refine ⟨?_, a1⟩
  show 0 ≤ mI (fun i => s 28 (400 * s 32 c + i)) (mx (s 34 c) (s 36 c)) (s 30 (s 32 c)) (s 2 9)
  rcases a3 with a3 | ⟨i, i0, i1, i2⟩
  · omega
  · have m0 : 0 ≤ i := by
      have : s 34 c ≤ mx (s 34 c) (s 36 c) := by unfold mx; split <;> omega
      omega
    have := jv h b.1 b.2.1 m0 i1
    omega
section MRead
variable {g : qG} {s a : aS} {d : Nat} {Q : Int32 → qS → Prop} {T : String → qS → Prop}
theorem m_isAside (hw : qWF g) (hr : rL s a) {c k : Int} (c0 : 0 ≤ c) (c1 : c < 6) (k0 : 0 ≤ k) (k1 : k < 400) (h1 : c < s 26 6 ∧ s 34 c ≤ k ∧ k < s 36 c → Q (iI 1) (qi a)) (h0 : ¬ (c < s 26 6 ∧ s 34 c ≤ k ∧ k < s 36 c) → Q (iI 0) (qi a)) : qC g (d + 1) mX10_isAside [.inr 86, .inl (iI c), .inl (iI k)] (qi a) Q T := by
  refine wX10_isAside hw ?_
  by_cases h : c < s 26 6 ∧ s 34 c ≤ k ∧ k < s 36 c
  · simp +contextual (disch := omega) only [z_app, z_rd, z_cl, z_add, z_sub, z_mul, z_neg, z_lit, z_le, z_lt, z_eq, z_ite, z_at, z_pt, z_up, z_wr, z_wi, z_inS, z_toInt, z_nb0, z_nb1, Int.cast_ofNat_Int, true_and, and_true, not_true_eq_false, not_false_eq_true, false_imp_iff, true_imp_iff, aup_o, aup_k, ite_true, ite_false, rs_3 hr, rs_4 hr, rs_5 hr, rs_15 hr, rs_16 hr, rs_19 hr, rs_20 hr, rs_27 hr, rs_28 hr, rs_34 hr, rr_88 hr, rr_89 hr, rr_90 hr, rr_91 hr, rr_92 hr, rr_93 hr, rr_94 hr, rr_95 hr, rr_96 hr, rg_97 hr, rg_98 hr, rt_99 hr, rv_100 hr, rv_101 hr, rc_102 hr, rc_103 hr, rp_104 hr, if_pos h]
    exact ⟨Or.inr trivial, h1 h⟩
  · simp +contextual (disch := omega) only [z_app, z_rd, z_cl, z_add, z_sub, z_mul, z_neg, z_lit, z_le, z_lt, z_eq, z_ite, z_at, z_pt, z_up, z_wr, z_wi, z_inS, z_toInt, z_nb0, z_nb1, Int.cast_ofNat_Int, true_and, and_true, not_true_eq_false, not_false_eq_true, false_imp_iff, true_imp_iff, aup_o, aup_k, ite_true, ite_false, rs_3 hr, rs_4 hr, rs_5 hr, rs_15 hr, rs_16 hr, rs_19 hr, rs_20 hr, rs_27 hr, rs_28 hr, rs_34 hr, rr_88 hr, rr_89 hr, rr_90 hr, rr_91 hr, rr_92 hr, rr_93 hr, rr_94 hr, rr_95 hr, rr_96 hr, rg_97 hr, rg_98 hr, rt_99 hr, rv_100 hr, rv_101 hr, rc_102 hr, rc_103 hr, rp_104 hr, if_neg h]
    exact ⟨Or.inl trivial, h0 h⟩
theorem m_recordOf (hw : qWF g) (hr : rL s a) {t i : Int} (t0 : 0 ≤ t) (t1 : t < 4) (i0 : 0 ≤ i) (i1 : i < s 30 t) (i2 : i < 400) (hQ : Q (iI (s 28 (400 * t + i))) (qi a)) : qC g (d + 1) mX10_recordOf [.inr 86, .inl (iI t), .inl (iI i)] (qi a) Q T := by
  refine wX10_recordOf hw ?_
  simp +contextual (disch := omega) only [z_app, z_rd, z_cl, z_add, z_sub, z_mul, z_neg, z_lit, z_le, z_lt, z_eq, z_ite, z_at, z_pt, z_up, z_wr, z_wi, z_inS, z_toInt, z_nb0, z_nb1, Int.cast_ofNat_Int, true_and, and_true, not_true_eq_false, not_false_eq_true, false_imp_iff, true_imp_iff, aup_o, aup_k, ite_true, ite_false, rs_3 hr, rs_4 hr, rs_5 hr, rs_15 hr, rs_16 hr, rs_19 hr, rs_20 hr, rs_27 hr, rs_28 hr, rs_34 hr, rr_88 hr, rr_89 hr, rr_90 hr, rr_91 hr, rr_92 hr, rr_93 hr, rr_94 hr, rr_95 hr, rr_96 hr, rg_97 hr, rg_98 hr, rt_99 hr, rv_100 hr, rv_101 hr, rc_102 hr, rc_103 hr, rp_104 hr]
  exact hQ
theorem m_unreadOf (hw : qWF g) (hJ : jJ s) (hr : rL s a) {c : Int} (c0 : 0 ≤ c) (c1 : c < s 26 6) (hQ : Q (iI (s 30 (s 32 c) - s 34 c)) (qi a)) : qC g (d + 1) mX10_unreadOf [.inr 86, .inl (iI c)] (qi a) Q T := by
  have B := jb hJ
  have C := jc hJ c0 c1
  refine wX10_unreadOf hw ?_
  simp +contextual (disch := omega) only [z_app, z_rd, z_cl, z_add, z_sub, z_mul, z_neg, z_lit, z_le, z_lt, z_eq, z_ite, z_at, z_pt, z_up, z_wr, z_wi, z_inS, z_toInt, z_nb0, z_nb1, Int.cast_ofNat_Int, true_and, and_true, not_true_eq_false, not_false_eq_true, false_imp_iff, true_imp_iff, aup_o, aup_k, ite_true, ite_false, rs_3 hr, rs_4 hr, rs_5 hr, rs_15 hr, rs_16 hr, rs_19 hr, rs_20 hr, rs_27 hr, rs_28 hr, rs_34 hr, rr_88 hr, rr_89 hr, rr_90 hr, rr_91 hr, rr_92 hr, rr_93 hr, rr_94 hr, rr_95 hr, rr_96 hr, rg_97 hr, rg_98 hr, rt_99 hr, rv_100 hr, rv_101 hr, rc_102 hr, rc_103 hr, rp_104 hr]
  exact hQ
end MRead
