/-! ===== the reference's parser: sums ===== -/
def mPF (m v : aS) : Prop := (∀ x : Nat, x ≠ 86 → x < 112 ∨ 119 < x → v x = m x) ∧ (∀ i, i < 39 ∨ 57 < i → v 86 i = m 86 i)
theorem mPF_rf (m : aS) : mPF m m := ⟨fun _ _ _ => rfl, fun _ _ => rfl⟩
theorem mPF_tr {a b c : aS} (h1 : mPF a b) (h2 : mPF b c) : mPF a c := ⟨fun x hx hx' => by rw [h2.1 x hx hx', h1.1 x hx hx'], fun i hi => by rw [h2.2 i hi, h1.2 i hi]⟩
theorem mPF_sc {m v : aS} (h : scF m v) : mPF m v := ⟨fun x hx _ => h.1 x hx, fun i hi => h.2 i (by omega)⟩
theorem mPF_up {m : aS} {k : Nat} {i v : Int} (h1 : 112 ≤ k) (h2 : k ≤ 119) : mPF m (aup m k i v) := ⟨fun x _ hx => aup_o (by omega), fun j _ => by rw [aup_o (by omega)]⟩
theorem mPF_86 {m : aS} {i v : Int} (h1 : 39 ≤ i) (h2 : i ≤ 57) : mPF m (aup m 86 i v) := ⟨fun x hx _ => aup_o hx, fun j hj => aup_i (by omega)⟩
theorem scT_P {m v : aS} {b : Int → Int} {n : Int} (h : scT m b n) (hf : mPF m v) : scT v b n := ⟨by rw [hf.2 38 (by omega)]; exact h.1, h.2.1, by rw [hf.1 87 (by decide) (by omega)]; exact h.2.2⟩
/-- an error, of code f, at token x -/
def mBd (w m v : aS) (f x : Int) : Prop := mPF m v ∧ v 86 45 = f ∧ v 86 46 = w 82 x ∧ 1 ≤ f ∧ f ≤ 3
theorem mBd_tr {w a b c : aS} {f x : Int} (h1 : mPF a b) (h2 : mBd w b c f x) : mBd w a c f x := ⟨mPF_tr h1 h2.1, h2.2⟩
theorem mBd_fail {w m : aS} {f x : Int} (h : m 86 41 = w 82 x) (f1 : 1 ≤ f) (f3 : f ≤ 3) : mBd w m (aup (aup m 86 45 f) 86 46 (m 86 41)) f x := ⟨mPF_tr (mPF_86 (by decide) (by decide)) (mPF_86 (by decide) (by decide)), by rw [aup_i (by decide), aup_s], by rw [aup_s]; exact h, f1, f3⟩
/-- behind an error nothing changes it -/
theorem mBd_k {w m v z : aS} {f x : Int} (h : mBd w m v f x) (hz : mPF v z) (h5 : z 86 45 = v 86 45) (h6 : z 86 46 = v 86 46) : mBd w m z f x := ⟨mPF_tr h.1 hz, by rw [h5]; exact h.2.1, by rw [h6]; exact h.2.2.1, h.2.2.2⟩
section TR
variable {m w : aS} {e : Int → Int} {c j : Int}
theorem tt_3 (h : scA m w e c j) {x : Int} (x0 : 0 ≤ x) (x1 : x ≤ 255) : (iI (m 86 40) = iI 3 ∧ iI (m 86 43) = iI x) = (w 80 j = x) := by
  obtain ⟨-, -, h⟩ := h
  unfold tR at h
  have n : ∀ t : Int, 0 ≤ t → t ≤ 4 → t ≠ 3 → m 86 40 = t → w 80 j ≠ x → (iI (m 86 40) = iI 3 ∧ iI (m 86 43) = iI x) = (w 80 j = x) := fun t t0 t1 t2 t3 t4 => by
    rw [t3, z_eq (by omega) (by omega) (by omega) (by omega)]
    exact propext ⟨fun h => absurd h.1 t2, fun h => absurd h t4⟩
  rcases h with ⟨a1, a2, a3, a4⟩ | ⟨a1, a2, a3, a4⟩ | ⟨a1, a3, a4, a5, a6⟩ | ⟨a1, a3⟩ | ⟨a1, a3, a4⟩ | ⟨a1, a3⟩
  · have ee : (iI (m 86 43) = iI x) = (m 86 43 = x) := z_eq (by omega) (by omega) (by omega) (by omega)
    rw [ee]
    exact propext ⟨fun h => by have := h.2; omega, fun h => ⟨by rw [a3], by omega⟩⟩
  · exact n 1 (by omega) (by omega) (by omega) a3 (by omega)
  · exact n 2 (by omega) (by omega) (by omega) a3 (by omega)
  · exact n 4 (by omega) (by omega) (by omega) a3 (by omega)
  · exact n 1 (by omega) (by omega) (by omega) a3 (by omega)
  · exact n 0 (by omega) (by omega) (by omega) a3 (by omega)
theorem tt_1 (h : scA m w e c j) {x : Int} (x0 : 0 ≤ x) (x1 : x ≤ 17) : (iI (m 86 40) = iI 1 ∧ iI (m 86 44) = iI x) = (w 80 j = 256 + x) := by
  obtain ⟨-, -, h⟩ := h
  unfold tR at h
  have n : ∀ t : Int, 0 ≤ t → t ≤ 4 → t ≠ 1 → m 86 40 = t → w 80 j ≠ 256 + x → (iI (m 86 40) = iI 1 ∧ iI (m 86 44) = iI x) = (w 80 j = 256 + x) := fun t t0 t1 t2 t3 t4 => by
    rw [t3, z_eq (by omega) (by omega) (by omega) (by omega)]
    exact propext ⟨fun h => absurd h.1 t2, fun h => absurd h t4⟩
  rcases h with ⟨a1, a2, a3, a4⟩ | ⟨a1, a2, a3, a4⟩ | ⟨a1, a3, a4, a5, a6⟩ | ⟨a1, a3⟩ | ⟨a1, a3, a4⟩ | ⟨a1, a3⟩
  · exact n 3 (by omega) (by omega) (by omega) a3 (by omega)
  · have ee : (iI (m 86 44) = iI x) = (m 86 44 = x) := z_eq (by omega) (by omega) (by omega) (by omega)
    rw [ee]
    exact propext ⟨fun h => by have := h.2; omega, fun h => ⟨by rw [a3], by omega⟩⟩
  · exact n 2 (by omega) (by omega) (by omega) a3 (by omega)
  · exact n 4 (by omega) (by omega) (by omega) a3 (by omega)
  · have ee : (iI (m 86 44) = iI x) = (m 86 44 = x) := z_eq (by omega) (by omega) (by omega) (by omega)
    rw [ee]
    exact propext ⟨fun h => by have := h.2; omega, fun h => by omega⟩
  · exact n 0 (by omega) (by omega) (by omega) a3 (by omega)
theorem tt_2 (h : scA m w e c j) : (iI (m 86 40) = iI 2) = (w 80 j = 301) := by
  obtain ⟨-, -, h⟩ := h
  unfold tR at h
  have n : ∀ t : Int, 0 ≤ t → t ≤ 4 → m 86 40 = t → (t = 2 ↔ w 80 j = 301) → (iI (m 86 40) = iI 2) = (w 80 j = 301) := fun t t0 t1 t3 t4 => by
    rw [t3, z_eq (by omega) (by omega) (by omega) (by omega)]
    exact propext t4
  rcases h with ⟨a1, a2, a3, a4⟩ | ⟨a1, a2, a3, a4⟩ | ⟨a1, a3, a4, a5, a6⟩ | ⟨a1, a3⟩ | ⟨a1, a3, a4⟩ | ⟨a1, a3⟩ <;> exact n _ (by omega) (by omega) rfl (by omega)
theorem tt_0 (h : scA m w e c j) : (iI (m 86 40) = iI 0) = (w 80 j = 303) := by
  obtain ⟨-, -, h⟩ := h
  unfold tR at h
  have n : ∀ t : Int, 0 ≤ t → t ≤ 4 → m 86 40 = t → (t = 0 ↔ w 80 j = 303) → (iI (m 86 40) = iI 0) = (w 80 j = 303) := fun t t0 t1 t3 t4 => by
    rw [t3, z_eq (by omega) (by omega) (by omega) (by omega)]
    exact propext t4
  rcases h with ⟨a1, a2, a3, a4⟩ | ⟨a1, a2, a3, a4⟩ | ⟨a1, a3, a4, a5, a6⟩ | ⟨a1, a3⟩ | ⟨a1, a3, a4⟩ | ⟨a1, a3⟩ <;> exact n _ (by omega) (by omega) rfl (by omega)
theorem tt_n (h : scA m w e c j) (hc : w 80 j = 301) : m 86 40 = 2 ∧ m 86 42 = w 84 j ∧ 0 ≤ w 84 j ∧ w 84 j ≤ 99999 := by
  obtain ⟨-, -, h⟩ := h
  unfold tR at h
  rcases h with ⟨a1, a2, a3, a4⟩ | ⟨a1, a2, a3, a4⟩ | ⟨a1, a3, a4, a5, a6⟩ | ⟨a1, a3⟩ | ⟨a1, a3, a4⟩ | ⟨a1, a3⟩
  · omega
  · omega
  · exact ⟨a3, a4, a5, a6⟩
  · omega
  · omega
  · omega
theorem tt_w (h : scA m w e c j) (h0 : 256 ≤ w 80 j) (h1 : w 80 j ≤ 273) : m 86 40 = 1 ∧ m 86 44 = w 80 j - 256 := by
  obtain ⟨-, -, h⟩ := h
  unfold tR at h
  rcases h with ⟨a1, a2, a3, a4⟩ | ⟨a1, a2, a3, a4⟩ | ⟨a1, a3, a4, a5, a6⟩ | ⟨a1, a3⟩ | ⟨a1, a3, a4⟩ | ⟨a1, a3⟩
  · omega
  · exact ⟨a3, a4⟩
  · omega
  · omega
  · omega
  · omega
/-- no word of the language: either no word at all, or the keyword -1 -/
theorem tt_nw (h : scA m w e c j) (h0 : ¬ (256 ≤ w 80 j ∧ w 80 j ≤ 273)) : (0 ≤ m 86 40 ∧ m 86 40 ≤ 4) ∧ (m 86 40 ≠ 1 ∨ (m 86 40 = 1 ∧ m 86 44 = -1)) := by
  obtain ⟨-, -, h⟩ := h
  unfold tR at h
  rcases h with ⟨a1, a2, a3, a4⟩ | ⟨a1, a2, a3, a4⟩ | ⟨a1, a3, a4, a5, a6⟩ | ⟨a1, a3⟩ | ⟨a1, a3, a4⟩ | ⟨a1, a3⟩ <;> omega
end TR
theorem st_mono {w : aS} {b : Int → Int} {n c : Int} {e : Int → Int} (hF : tkF w b n c e) {j : Int} (j0 : 0 ≤ j) (j1 : j < c) : 0 ≤ w 82 j ∧ w 82 j + 1 ≤ w 82 (j + 1) ∧ w 82 (j + 1) ≤ n := by
  obtain ⟨⟨F1, F2, F3, F4, F5⟩, F6, F7⟩ := hF
  have a1 := (F7 j j0 j1).1
  have a2 := F6 (j + 1) (by omega) (by omega)
  have a0 := F6 j j0 (by omega)
  have e1 : ep e (j + 1) = e j := by unfold ep; rw [if_neg (by omega), show j + 1 - 1 = j by omega]
  rw [e1] at a2
  refine ⟨by omega, by omega, ?_⟩
  by_cases h : j + 1 = c
  · rw [h, F5]; exact Int.le_refl _
  · have := (F7 (j + 1) (by omega) (by omega)).1; omega
/-- atoms -/
def aR (m : aS) (a : Int) (p : Int × Int × Int) : Prop := m 116 a = p.1 ∧ m 118 a = p.2.2 ∧ (p.1 = -1 ∨ p.1 = 17 → m 117 a = p.2.1)
def aL (m : aS) : Int → List (Int × Int × Int) → Prop
  | _, [] => True
  | A, p :: t => aR m A p ∧ aL m (A + 1) t
theorem aL_c {m v : aS} : ∀ (l : List (Int × Int × Int)) (A : Int), (∀ i, A ≤ i → i < A + l.length → v 116 i = m 116 i ∧ v 117 i = m 117 i ∧ v 118 i = m 118 i) → aL m A l → aL v A l := by
  intro l
  induction l with
  | nil => intro A _ _; trivial
  | cons p t ih =>
    intro A hh h
    rw [List.length_cons] at hh
    obtain ⟨e1, e2, e3⟩ := hh A (by omega) (by omega)
    refine ⟨?_, ih (A + 1) (fun i i0 i1 => hh i (by omega) (by omega)) h.2⟩
    have h1 := h.1
    unfold aR at h1 ⊢
    rw [e1, e2, e3]
    exact h1
/-- what the parsing of sums changes -/
def mSm (m v : aS) : Prop := (∀ x : Nat, x ≠ 86 → x ≠ 116 → x ≠ 117 → x ≠ 118 → v x = m x) ∧ (∀ i, i < 39 ∨ 44 < i → i ≠ 55 → v 86 i = m 86 i) ∧ (∀ i, i < m 86 55 → v 116 i = m 116 i ∧ v 117 i = m 117 i ∧ v 118 i = m 118 i) ∧ m 86 55 ≤ v 86 55
theorem mSm_rf (m : aS) : mSm m m := ⟨fun _ _ _ _ _ => rfl, fun _ _ _ => rfl, fun _ _ => ⟨rfl, rfl, rfl⟩, Int.le_refl _⟩
theorem mSm_tr {a b c : aS} (h1 : mSm a b) (h2 : mSm b c) : mSm a c := by
  obtain ⟨x1, x2, x3, x4⟩ := h1
  obtain ⟨y1, y2, y3, y4⟩ := h2
  refine ⟨fun x a b c d => by rw [y1 x a b c d, x1 x a b c d], fun i hi h5 => by rw [y2 i hi h5, x2 i hi h5], fun i hi => ?_, by omega⟩
  obtain ⟨p1, p2, p3⟩ := x3 i hi
  obtain ⟨q1, q2, q3⟩ := y3 i (by omega)
  exact ⟨by rw [q1, p1], by rw [q2, p2], by rw [q3, p3]⟩
theorem mSm_sc {m v : aS} (h : scF m v) : mSm m v := ⟨fun x hx _ _ _ => h.1 x hx, fun i hi _ => h.2 i hi, fun i _ => by rw [h.1 116 (by decide), h.1 117 (by decide), h.1 118 (by decide)]; exact ⟨rfl, rfl, rfl⟩, by rw [h.2 55 (by omega)]; exact Int.le_refl _⟩
theorem mPF_sm {m v : aS} (h : mSm m v) : mPF m v := ⟨fun x hx hx' => h.1 x hx (by omega) (by omega) (by omega), fun i hi => h.2.1 i (by omega) (by omega)⟩
section MP
variable {g : qG} {d : Nat} {Q : Int32 → qS → Prop} {T : String → qS → Prop} {m w : aS} {b : Int → Int} {n c j : Int} {e : Int → Int}
theorem nz_45 {f : Int} (h45 : m 86 45 = f) (f1 : 1 ≤ f) (f3 : f ≤ 3) : ¬ qi m 86 45 = (0 : Int32) := fun h => by
  have h2 : iI (m 86 45) = iI 0 := h
  rw [h45] at h2
  have := (z_eq (x := f) (y := 0) (by omega) (by omega) (by omega) (by omega)).mp h2
  omega
theorem m_next (hw : qWF g) (hs : kSW g) (hF : tkF w b n c e) (ht : scT m b n) (h : scA m w e c j) (j0 : 0 ≤ j) (j1 : j < c) (hQ : ∀ v : aS, scF m v → scA v w e c (j + 1) → Q (iI 0) (qi v)) : qC g (d + 4) mX10_scan [.inr 86] (qi m) Q T := by
  refine m_scan hw hs hF (by omega) (by omega) ht ?_ hQ
  unfold ep
  rw [if_neg (by omega), show j + 1 - 1 = j by omega, h.2.1, if_pos j1]
theorem m_take1 (hw : qWF g) (hs : kSW g) (hF : tkF w b n c e) (ht : scT m b n) (h : scA m w e c j) (j0 : 0 ≤ j) (j1 : j < c) (h45 : m 86 45 = 0) (hc : w 80 j = 301) (hQ : ∀ v : aS, scF m v → scA v w e c (j + 1) → Q (iI (w 84 j)) (qi v)) : qC g (d + 5) mX10_takeNumber [.inr 86] (qi m) Q T := by
  have t2 := tt_n h hc
  refine wX10_takeNumber hw ?_
  simp (disch := omega) only [z_app, z_rd, z_cl, z_add, z_sub, z_mul, z_neg, z_lit, z_leT, z_leF, z_ltT, z_ltF, z_eqT, z_eqF, i_leT, i_leF, i_ltT, i_ltF, i_eqT, i_eqF, z_le, z_lt, z_eq, z_ite, z_at, z_pt, z_up, z_wr, z_wi1, z_wi0, z_wi, z_inS, z_toInt, z_nb0, z_nb1, Int.cast_ofNat_Int, true_and, and_true, not_true_eq_false, not_false_eq_true, false_imp_iff, true_imp_iff, aup_o, aup_k, ite_true, ite_false, z_fa000, z_fa001, z_fa010, z_fa011, z_fa100, z_fa101, z_fa110, z_fa111, if_true, if_false, t2.1, t2.2.1, h45]
  exact m_next hw hs hF ht h j0 j1 hQ
theorem m_take0 (hw : qWF g) (h : scA m w e c j) (h45 : m 86 45 = 0) (hc : w 80 j ≠ 301) (hQ : ∀ (v : aS) (r : Int), mBd w m v 1 j → v = aup (aup m 86 45 1) 86 46 (m 86 41) → Q (iI r) (qi v)) : qC g (d + 1) mX10_takeNumber [.inr 86] (qi m) Q T := by
  have q := hQ _ (m 86 42) (mBd_fail h.1 (by decide) (by decide)) rfl
  have t2 := tt_2 h
  have hc0 : qi m 86 45 = (0 : Int32) := congrArg iI h45
  refine wX10_takeNumber hw ?_
  simp only [if_pos hc0]
  simp (disch := omega) only [z_app, z_rd, z_cl, z_add, z_sub, z_mul, z_neg, z_lit, z_leT, z_leF, z_ltT, z_ltF, z_eqT, z_eqF, i_leT, i_leF, i_ltT, i_ltF, i_eqT, i_eqF, z_le, z_lt, z_eq, z_ite, z_at, z_pt, z_up, z_wr, z_wi1, z_wi0, z_wi, z_inS, z_toInt, z_nb0, z_nb1, Int.cast_ofNat_Int, true_and, and_true, not_true_eq_false, not_false_eq_true, false_imp_iff, true_imp_iff, aup_o, aup_k, ite_true, ite_false, z_fa000, z_fa001, z_fa010, z_fa011, z_fa100, z_fa101, z_fa110, z_fa111, if_true, if_false, t2, h45]
  exact q
theorem m_takeB (hw : qWF g) {f : Int} (h45 : m 86 45 = f) (f1 : 1 ≤ f) (f3 : f ≤ 3) (hQ : ∀ r : Int, Q (iI r) (qi m)) : qC g (d + 1) mX10_takeNumber [.inr 86] (qi m) Q T := by
  have q := hQ (m 86 42)
  have hc0 : ¬ qi m 86 45 = (0 : Int32) := nz_45 h45 f1 f3
  refine wX10_takeNumber hw ?_
  simp only [if_neg hc0]
  by_cases h : iI (m 86 40) = iI 2
  · simp (disch := omega) only [z_app, z_rd, z_cl, z_add, z_sub, z_mul, z_neg, z_lit, z_leT, z_leF, z_ltT, z_ltF, z_eqT, z_eqF, i_leT, i_leF, i_ltT, i_ltF, i_eqT, i_eqF, z_le, z_lt, z_eq, z_ite, z_at, z_pt, z_up, z_wr, z_wi1, z_wi0, z_wi, z_inS, z_toInt, z_nb0, z_nb1, Int.cast_ofNat_Int, true_and, and_true, not_true_eq_false, not_false_eq_true, false_imp_iff, true_imp_iff, aup_o, aup_k, ite_true, ite_false, z_fa000, z_fa001, z_fa010, z_fa011, z_fa100, z_fa101, z_fa110, z_fa111, if_true, if_false, h, h45]
    exact q
  · simp (disch := omega) only [z_app, z_rd, z_cl, z_add, z_sub, z_mul, z_neg, z_lit, z_leT, z_leF, z_ltT, z_ltF, z_eqT, z_eqF, i_leT, i_leF, i_ltT, i_ltF, i_eqT, i_eqF, z_le, z_lt, z_eq, z_ite, z_at, z_pt, z_up, z_wr, z_wi1, z_wi0, z_wi, z_inS, z_toInt, z_nb0, z_nb1, Int.cast_ofNat_Int, true_and, and_true, not_true_eq_false, not_false_eq_true, false_imp_iff, true_imp_iff, aup_o, aup_k, ite_true, ite_false, z_fa000, z_fa001, z_fa010, z_fa011, z_fa100, z_fa101, z_fa110, z_fa111, if_true, if_false, h, h45]
    exact q
theorem m_atomB (hw : qWF g) {f by' : Int} (h45 : m 86 45 = f) (f1 : 1 ≤ f) (f3 : f ≤ 3) (hQ : Q (iI 0) (qi m)) : qC g (d + 1) mX10_parseAtom [.inr 86, .inl (iI by')] (qi m) Q T := by
  refine wX10_parseAtom hw ?_
  by_cases h : iI (m 86 40) = iI 2
  · simp (disch := omega) only [z_app, z_rd, z_cl, z_add, z_sub, z_mul, z_neg, z_lit, z_leT, z_leF, z_ltT, z_ltF, z_eqT, z_eqF, i_leT, i_leF, i_ltT, i_ltF, i_eqT, i_eqF, z_le, z_lt, z_eq, z_ite, z_at, z_pt, z_up, z_wr, z_wi1, z_wi0, z_wi, z_inS, z_toInt, z_nb0, z_nb1, Int.cast_ofNat_Int, true_and, and_true, not_true_eq_false, not_false_eq_true, false_imp_iff, true_imp_iff, aup_o, aup_k, ite_true, ite_false, z_fa000, z_fa001, z_fa010, z_fa011, z_fa100, z_fa101, z_fa110, z_fa111, if_true, if_false, h, h45]
    exact hQ
  · simp (disch := omega) only [z_app, z_rd, z_cl, z_add, z_sub, z_mul, z_neg, z_lit, z_leT, z_leF, z_ltT, z_ltF, z_eqT, z_eqF, i_leT, i_leF, i_ltT, i_ltF, i_eqT, i_eqF, z_le, z_lt, z_eq, z_ite, z_at, z_pt, z_up, z_wr, z_wi1, z_wi0, z_wi, z_inS, z_toInt, z_nb0, z_nb1, Int.cast_ofNat_Int, true_and, and_true, not_true_eq_false, not_false_eq_true, false_imp_iff, true_imp_iff, aup_o, aup_k, ite_true, ite_false, z_fa000, z_fa001, z_fa010, z_fa011, z_fa100, z_fa101, z_fa110, z_fa111, if_true, if_false, h, h45]
    exact hQ
/-- the atom at j -/
def atm (C V : Int → Int) (sg j : Int) : Int × Int × Int := if C j = 301 then (-1, V j, sg) else if C j = 273 then (17, V (j + 1), sg) else (C j - 256, 0, sg)
theorem m_atom (hw : qWF g) (hs : kSW g) (hF : tkF w b n c e) (hB : tB (w 80) (w 84) c) (ht : scT m b n) (h : scA m w e c j) (j0 : 0 ≤ j) (j1 : j ≤ c) (h45 : m 86 45 = 0) {sg : Int} (a0 : 0 ≤ m 86 55) (a1 : 2 * m 86 55 + 1 ≤ w 82 j) (h1 : ∀ v x, patom (w 80) j = .inl x → mSm m v → scA v w e c x → v 86 55 = m 86 55 + 1 → aR v (m 86 55) (atm (w 80) (w 84) sg j) → Q (iI 0) (qi v)) (h0 : ∀ v x, patom (w 80) j = .inr x → mBd w m v 1 x → Q (iI 0) (qi v)) : qC g (d + 6) mX10_parseAtom [.inr 86, .inl (iI sg)] (qi m) Q T := by
  have B := hB.2 j j0 j1
  have c9 := hB.1
  have tn := ht.2.1
  have wn : w 82 j ≤ n := by
    by_cases hh : j = c
    · rw [hh, hF.1.2.2.2.2]; exact Int.le_refl _
    · have := st_mono hF j0 (show j < c by omega); omega
  have t2 := tt_2 h
  unfold patom at h1 h0
  obtain ⟨A, hA⟩ : ∃ A, A = m 86 55 := ⟨_, rfl⟩
  rw [← hA] at a0 a1 h1
  have h55 := hA.symm
  have sm3 : ∀ x y z : Int, mSm m (aup (aup (aup m 116 A x) 117 A y) 118 A z) ∧ scF (aup (aup (aup m 116 A x) 117 A y) 118 A z) (aup (aup (aup m 116 A x) 117 A y) 118 A z) := fun x y z => ⟨⟨fun k k1 k2 k3 k4 => by rw [aup_o k4, aup_o k3, aup_o k2], fun i _ _ => by rw [aup_o (by decide), aup_o (by decide), aup_o (by decide)], fun i hi => ⟨by rw [aup_o (by decide), aup_o (by decide), aup_i (by omega)], by rw [aup_o (by decide), aup_i (by omega), aup_o (by decide)], by rw [aup_i (by omega), aup_o (by decide), aup_o (by decide)]⟩, by rw [aup_o (by decide), aup_o (by decide), aup_o (by decide)]; exact Int.le_refl _⟩, scF_rf _⟩
  have s86 : ∀ x y z : Int, aup (aup (aup m 116 A x) 117 A y) 118 A z 86 = m 86 := fun x y z => by rw [aup_o (by decide), aup_o (by decide), aup_o (by decide)]
  have scm : ∀ x y z : Int, scA (aup (aup (aup m 116 A x) 117 A y) 118 A z) w e c j := fun x y z => by
    unfold scA tR at h ⊢
    rw [s86]
    exact h
  have scu : ∀ x y z : Int, scT (aup (aup (aup m 116 A x) 117 A y) 118 A z) b n := fun x y z => scT_P ht (mPF_sm (sm3 x y z).1)
  -- an atom of one token
  have one : ∀ (k : Int), j < c → (C1 : w 80 j ≠ 273) → (w 80 j = 301 → k = -1) → (w 80 j ≠ 301 → k = w 80 j - 256) → (w 80 j = 301 ∨ (270 ≤ w 80 j ∧ w 80 j ≤ 272)) → qC g (d + 5) mX10_scan [.inr 86] (qi (aup (aup (aup m 116 A k) 117 A (m 86 42)) 118 A sg)) (fun _ s2 => Q (iI 0) (qup s2 86 55 (s2 86 55 + iI 1))) T := by
    intro k jc C1 k1 k2 hc
    refine m_next (d := d + 1) hw hs hF (scu _ _ _) (scm _ _ _) j0 jc (fun v f1 f2 => ?_)
    have v55 : v 86 55 = A := by rw [f1.2 55 (by omega), s86, h55]
    have q := h1 (aup v 86 55 (A + 1)) (j + 1) (by rw [if_neg C1, if_pos hc]) (mSm_tr (sm3 _ _ _).1 (mSm_tr (mSm_sc f1) ⟨fun x x1 _ _ _ => aup_o x1, fun i _ h5 => aup_i h5, fun i _ => by rw [aup_o (by decide), aup_o (by decide), aup_o (by decide)]; exact ⟨rfl, rfl, rfl⟩, by rw [aup_s, v55]; omega⟩)) (by
        unfold scA tR at f2 ⊢
        rw [aup_i (by decide), aup_i (by decide), aup_i (by decide), aup_i (by decide), aup_i (by decide), aup_i (by decide)]
        exact f2) (aup_s _ _ _ _) (by
        unfold aR atm
        rw [aup_o (by decide), aup_o (by decide), aup_o (by decide), f1.1 116 (by decide), f1.1 117 (by decide), f1.1 118 (by decide), aup_o (k' := 116) (by decide), aup_o (k' := 116) (by decide), aup_s, aup_o (k' := 117) (by decide), aup_s, aup_s]
        by_cases c3 : w 80 j = 301
        · rw [if_pos c3]
          exact ⟨k1 c3, rfl, fun _ => (tt_n h c3).2.1⟩
        · rw [if_neg c3, if_neg C1]
          exact ⟨k2 c3, rfl, fun hh => by
            have : w 80 j - 256 = -1 ∨ w 80 j - 256 = 17 := hh
            omega⟩)
    rw [z_app, show ((55 : Nat) : Int) = 55 from rfl, v55, z_add, z_up]
    exact q
  by_cases c3 : w 80 j = 301
  · have jc := tB_lt hB j0 j1 (by omega)
    have o := one (-1) jc (by omega) (fun _ => rfl) (fun hh => (hh c3).elim) (Or.inl c3)
    have n40 := (tt_n h c3).1
    clear h1 h0 B one
    refine wX10_parseAtom hw ?_
    simp (disch := omega) only [z_app, z_rd, z_cl, z_add, z_sub, z_mul, z_neg, z_lit, z_leT, z_leF, z_ltT, z_ltF, z_eqT, z_eqF, i_leT, i_leF, i_ltT, i_ltF, i_eqT, i_eqF, z_le, z_lt, z_eq, z_ite, z_at, z_pt, z_up, z_wr, z_wi1, z_wi0, z_wi, z_inS, z_toInt, z_nb0, z_nb1, Int.cast_ofNat_Int, true_and, and_true, not_true_eq_false, not_false_eq_true, false_imp_iff, true_imp_iff, aup_o, aup_k, ite_true, ite_false, z_fa000, z_fa001, z_fa010, z_fa011, z_fa100, z_fa101, z_fa110, z_fa111, if_true, if_false, n40, h45]
    refine wX10_parseAtom_53 hw ?_
    simp (disch := omega) only [z_app, z_rd, z_cl, z_add, z_sub, z_mul, z_neg, z_lit, z_leT, z_leF, z_ltT, z_ltF, z_eqT, z_eqF, i_leT, i_leF, i_ltT, i_ltF, i_eqT, i_eqF, z_le, z_lt, z_eq, z_ite, z_at, z_pt, z_up, z_wr, z_wi1, z_wi0, z_wi, z_inS, z_toInt, z_nb0, z_nb1, Int.cast_ofNat_Int, true_and, and_true, not_true_eq_false, not_false_eq_true, false_imp_iff, true_imp_iff, aup_o, aup_k, ite_true, ite_false, z_fa000, z_fa001, z_fa010, z_fa011, z_fa100, z_fa101, z_fa110, z_fa111, if_true, if_false, h55, n40, false_and]
    exact o
  · by_cases cw : 270 ≤ w 80 j ∧ w 80 j ≤ 273
    · have jc := tB_lt hB j0 j1 (by omega)
      obtain ⟨n40, n44⟩ := tt_w h (by omega) (by omega)
      by_cases c7 : w 80 j = 273
      · rw [if_pos c7] at h1 h0
        have B2 := hB.2 (j + 1) (by omega) (by omega)
        have nx := fun (Q' : Int32 → qS → Prop) => m_next (d := d + 1) (Q := Q') (T := T) hw hs hF (scu 17 (m 86 42) sg) (scm 17 (m 86 42) sg) j0 jc
        have done : ∀ v, scF (aup (aup (aup m 116 A 17) 117 A (m 86 42)) 118 A sg) v → scA v w e c (j + 1) → qC g (d + 5) mX10_takeNumber [.inr 86] (qi v) (fun r s4 => vp_in (qi v 86 55) 500 ∧ Q (iI 0) (qup (qup s4 117 (qi v 86 55).toNatClampNeg r) 86 55 ((qup s4 117 (qi v 86 55).toNatClampNeg r) 86 55 + iI 1))) T := by
          intro v f1 f2
          have v55 : v 86 55 = A := by rw [f1.2 55 (by omega), s86, h55]
          have v45 : v 86 45 = 0 := by rw [f1.2 45 (by omega), s86, h45]
          have sv : scT v b n := scT_F (scu _ _ _) f1
          by_cases c8 : w 80 (j + 1) = 301
          · have jc2 := tB_lt hB (j := j + 1) (by omega) (by omega) (by omega)
            refine m_take1 hw hs hF sv f2 (by omega) jc2 v45 c8 (fun v2 f3 f4 => ?_)
            have v255 : v2 86 55 = A := by rw [f3.2 55 (by omega), v55]
            have q := h1 (aup (aup v2 117 A (w 84 (j + 1))) 86 55 (A + 1)) (j + 2) (by rw [if_pos c8]) (mSm_tr (sm3 _ _ _).1 (mSm_tr (mSm_sc f1) (mSm_tr (mSm_sc f3) ⟨fun x x1 _ x3 _ => by rw [aup_o x1, aup_o x3], fun i _ h5 => by rw [aup_i h5, aup_o (by decide)], fun i hi => by
                rw [v255] at hi
                exact ⟨by rw [aup_o (by decide), aup_o (by decide)], by rw [aup_o (by decide), aup_i (by omega)], by rw [aup_o (by decide), aup_o (by decide)]⟩, by rw [aup_s, v255]; omega⟩))) (by
                rw [show j + 2 = j + 1 + 1 by omega]
                unfold scA tR at f4 ⊢
                rw [aup_i (by decide), aup_i (by decide), aup_i (by decide), aup_i (by decide), aup_i (by decide), aup_i (by decide), aup_o (by decide)]
                exact f4) (aup_s _ _ _ _) (by
                unfold aR atm
                rw [if_neg c3, if_pos c7]
                refine ⟨?_, ?_, fun _ => ?_⟩
                · rw [aup_o (by decide), aup_o (by decide), f3.1 116 (by decide), f1.1 116 (by decide), aup_o (by decide), aup_o (by decide), aup_s]
                · rw [aup_o (by decide), aup_o (by decide), f3.1 118 (by decide), f1.1 118 (by decide), aup_s]
                · rw [aup_o (by decide), aup_s])
            clear h1 h0 B one nx
            simp (disch := omega) only [z_app, z_rd, z_cl, z_add, z_sub, z_mul, z_neg, z_lit, z_leT, z_leF, z_ltT, z_ltF, z_eqT, z_eqF, i_leT, i_leF, i_ltT, i_ltF, i_eqT, i_eqF, z_le, z_lt, z_eq, z_ite, z_at, z_pt, z_up, z_wr, z_wi1, z_wi0, z_wi, z_inS, z_toInt, z_nb0, z_nb1, Int.cast_ofNat_Int, true_and, and_true, not_true_eq_false, not_false_eq_true, false_imp_iff, true_imp_iff, aup_o, aup_k, ite_true, ite_false, z_fa000, z_fa001, z_fa010, z_fa011, z_fa100, z_fa101, z_fa110, z_fa111, if_true, if_false, v55, v255]
            exact q
          · refine m_take0 hw f2 v45 c8 (fun v2 r hb2 ev => ?_)
            have v255 : v2 86 55 = A := by rw [ev, aup_i (by decide), aup_i (by decide)]; exact v55
            have q := h0 (aup (aup v2 117 A r) 86 55 (A + 1)) (j + 1) (by rw [if_neg c8]) (mBd_k (mBd_tr (mPF_tr (mPF_sm (sm3 _ _ _).1) (mPF_sc f1)) hb2) (mPF_tr (mPF_up (by decide) (by decide)) (mPF_86 (by decide) (by decide))) (by rw [aup_i (by decide), aup_o (by decide)]) (by rw [aup_i (by decide), aup_o (by decide)]))
            clear h1 h0 B one nx
            simp (disch := omega) only [z_app, z_rd, z_cl, z_add, z_sub, z_mul, z_neg, z_lit, z_leT, z_leF, z_ltT, z_ltF, z_eqT, z_eqF, i_leT, i_leF, i_ltT, i_ltF, i_eqT, i_eqF, z_le, z_lt, z_eq, z_ite, z_at, z_pt, z_up, z_wr, z_wi1, z_wi0, z_wi, z_inS, z_toInt, z_nb0, z_nb1, Int.cast_ofNat_Int, true_and, and_true, not_true_eq_false, not_false_eq_true, false_imp_iff, true_imp_iff, aup_o, aup_k, ite_true, ite_false, z_fa000, z_fa001, z_fa010, z_fa011, z_fa100, z_fa101, z_fa110, z_fa111, if_true, if_false, v55, v255]
            exact q
        have n44' : m 86 44 = 17 := by omega
        clear h1 h0 B one B2
        refine wX10_parseAtom hw ?_
        simp (disch := omega) only [z_app, z_rd, z_cl, z_add, z_sub, z_mul, z_neg, z_lit, z_leT, z_leF, z_ltT, z_ltF, z_eqT, z_eqF, i_leT, i_leF, i_ltT, i_ltF, i_eqT, i_eqF, z_le, z_lt, z_eq, z_ite, z_at, z_pt, z_up, z_wr, z_wi1, z_wi0, z_wi, z_inS, z_toInt, z_nb0, z_nb1, Int.cast_ofNat_Int, true_and, and_true, not_true_eq_false, not_false_eq_true, false_imp_iff, true_imp_iff, aup_o, aup_k, ite_true, ite_false, z_fa000, z_fa001, z_fa010, z_fa011, z_fa100, z_fa101, z_fa110, z_fa111, if_true, if_false, n40, n44', h45]
        refine wX10_parseAtom_53 hw ?_
        simp (disch := omega) only [z_app, z_rd, z_cl, z_add, z_sub, z_mul, z_neg, z_lit, z_leT, z_leF, z_ltT, z_ltF, z_eqT, z_eqF, i_leT, i_leF, i_ltT, i_ltF, i_eqT, i_eqF, z_le, z_lt, z_eq, z_ite, z_at, z_pt, z_up, z_wr, z_wi1, z_wi0, z_wi, z_inS, z_toInt, z_nb0, z_nb1, Int.cast_ofNat_Int, true_and, and_true, not_true_eq_false, not_false_eq_true, false_imp_iff, true_imp_iff, aup_o, aup_k, ite_true, ite_false, z_fa000, z_fa001, z_fa010, z_fa011, z_fa100, z_fa101, z_fa110, z_fa111, if_true, if_false, h55, n40, n44']
        refine nx _ (fun v f1 f2 => ?_)
        have dn := done v f1 f2
        simp (disch := omega) only [z_app, z_rd, z_cl, z_add, z_sub, z_mul, z_neg, z_lit, z_leT, z_leF, z_ltT, z_ltF, z_eqT, z_eqF, i_leT, i_leF, i_ltT, i_ltF, i_eqT, i_eqF, z_le, z_lt, z_eq, z_ite, z_at, z_pt, z_up, z_wr, z_wi1, z_wi0, z_wi, z_inS, z_toInt, z_nb0, z_nb1, Int.cast_ofNat_Int, true_and, and_true, not_true_eq_false, not_false_eq_true, false_imp_iff, true_imp_iff, aup_o, aup_k, ite_true, ite_false, z_fa000, z_fa001, z_fa010, z_fa011, z_fa100, z_fa101, z_fa110, z_fa111, if_true, if_false]
        exact dn
      · have o := one (w 80 j - 256) jc c7 (fun hh => (c3 hh).elim) (fun _ => rfl) (Or.inr (by omega))
        clear h1 h0 B one
        refine wX10_parseAtom hw ?_
        simp (disch := omega) only [z_app, z_rd, z_cl, z_add, z_sub, z_mul, z_neg, z_lit, z_leT, z_leF, z_ltT, z_ltF, z_eqT, z_eqF, i_leT, i_leF, i_ltT, i_ltF, i_eqT, i_eqF, z_le, z_lt, z_eq, z_ite, z_at, z_pt, z_up, z_wr, z_wi1, z_wi0, z_wi, z_inS, z_toInt, z_nb0, z_nb1, Int.cast_ofNat_Int, true_and, and_true, not_true_eq_false, not_false_eq_true, false_imp_iff, true_imp_iff, aup_o, aup_k, ite_true, ite_false, z_fa000, z_fa001, z_fa010, z_fa011, z_fa100, z_fa101, z_fa110, z_fa111, if_true, if_false, n40, n44, h45]
        refine wX10_parseAtom_53 hw ?_
        simp (disch := omega) only [z_app, z_rd, z_cl, z_add, z_sub, z_mul, z_neg, z_lit, z_leT, z_leF, z_ltT, z_ltF, z_eqT, z_eqF, i_leT, i_leF, i_ltT, i_ltF, i_eqT, i_eqF, z_le, z_lt, z_eq, z_ite, z_at, z_pt, z_up, z_wr, z_wi1, z_wi0, z_wi, z_inS, z_toInt, z_nb0, z_nb1, Int.cast_ofNat_Int, true_and, and_true, not_true_eq_false, not_false_eq_true, false_imp_iff, true_imp_iff, aup_o, aup_k, ite_true, ite_false, z_fa000, z_fa001, z_fa010, z_fa011, z_fa100, z_fa101, z_fa110, z_fa111, if_true, if_false, h55, n40, n44]
        exact o
    · have q := h0 _ j (by rw [if_neg (by omega), if_neg (by omega)]) (mBd_fail h.1 (by decide) (by decide))
      clear h1 h0 B one
      refine wX10_parseAtom hw ?_
      by_cases hww : 256 ≤ w 80 j ∧ w 80 j ≤ 273
      · obtain ⟨n40, n44⟩ := tt_w h hww.1 hww.2
        simp (disch := omega) only [z_app, z_rd, z_cl, z_add, z_sub, z_mul, z_neg, z_lit, z_leT, z_leF, z_ltT, z_ltF, z_eqT, z_eqF, i_leT, i_leF, i_ltT, i_ltF, i_eqT, i_eqF, z_le, z_lt, z_eq, z_ite, z_at, z_pt, z_up, z_wr, z_wi1, z_wi0, z_wi, z_inS, z_toInt, z_nb0, z_nb1, Int.cast_ofNat_Int, true_and, and_true, not_true_eq_false, not_false_eq_true, false_imp_iff, true_imp_iff, aup_o, aup_k, ite_true, ite_false, z_fa000, z_fa001, z_fa010, z_fa011, z_fa100, z_fa101, z_fa110, z_fa111, if_true, if_false, n40, n44, h45]
        exact q
      · obtain ⟨b40, n40⟩ := tt_nw h hww
        rcases n40 with n40 | ⟨n40, n44⟩
        · simp (disch := omega) only [z_app, z_rd, z_cl, z_add, z_sub, z_mul, z_neg, z_lit, z_leT, z_leF, z_ltT, z_ltF, z_eqT, z_eqF, i_leT, i_leF, i_ltT, i_ltF, i_eqT, i_eqF, z_le, z_lt, z_eq, z_ite, z_at, z_pt, z_up, z_wr, z_wi1, z_wi0, z_wi, z_inS, z_toInt, z_nb0, z_nb1, Int.cast_ofNat_Int, true_and, and_true, not_true_eq_false, not_false_eq_true, false_imp_iff, true_imp_iff, aup_o, aup_k, ite_true, ite_false, z_fa000, z_fa001, z_fa010, z_fa011, z_fa100, z_fa101, z_fa110, z_fa111, if_true, if_false, t2, h45]
          exact q
        · simp (disch := omega) only [z_app, z_rd, z_cl, z_add, z_sub, z_mul, z_neg, z_lit, z_leT, z_leF, z_ltT, z_ltF, z_eqT, z_eqF, i_leT, i_leF, i_ltT, i_ltF, i_eqT, i_eqF, z_le, z_lt, z_eq, z_ite, z_at, z_pt, z_up, z_wr, z_wi1, z_wi0, z_wi, z_inS, z_toInt, z_nb0, z_nb1, Int.cast_ofNat_Int, true_and, and_true, not_true_eq_false, not_false_eq_true, false_imp_iff, true_imp_iff, aup_o, aup_k, ite_true, ite_false, z_fa000, z_fa001, z_fa010, z_fa011, z_fa100, z_fa101, z_fa110, z_fa111, if_true, if_false, n40, n44, h45]
          exact q
end MP
