/-! ===== what a new record and its effects leave as it was: pure ===== -/
theorem fEq_rf (x : fF) : fEq x x := fun _ _ _ => ⟨rfl, fun _ _ _ _ => rfl⟩
theorem fEq_ch {s : aS} {x y : fF} {k : Int} (hR : jR1 s k) (h : fEq x y) : fEq (fch s x k) (fch s y k) := by
  obtain ⟨⟨t0, t1⟩, ⟨a0, a1⟩, ⟨b0, b1⟩, ⟨c0, c1⟩, -, h3, h4, h5, -, -⟩ := hR
  unfold fch
  by_cases c3 : s 4 k = 3
  · rw [if_pos c3, if_pos c3]
    have H := h3 c3
    intro f f0 f1
    obtain ⟨e1, e2⟩ := h f f0 f1
    obtain ⟨g1, g2⟩ := h (s 8 k) a0 H.1
    unfold fwr fup
    dsimp only
    refine ⟨?_, fun hx p p0 p1 => ?_⟩
    · split
      · rfl
      · exact e1
    · by_cases hp : 4 * f + p = 4 * s 8 k + s 10 k
      · rw [if_pos hp, if_pos hp]
      · rw [if_neg hp, if_neg hp]
        by_cases hf : f = s 8 k
        · subst hf
          by_cases hx1 : x.1 (s 8 k) = 1
          · rw [if_pos hx1, if_pos (by rw [← g1]; exact hx1)]
            exact g2 hx1 p p0 p1
          · have hy1 : ¬ y.1 (s 8 k) = 1 := by rw [← g1]; exact hx1
            have r0 : 4 * s 8 k ≤ 4 * s 8 k + p ∧ 4 * s 8 k + p < 4 * s 8 k + 4 := by omega
            rw [if_neg hx1, if_neg hy1, if_pos r0, if_pos r0]
        · rw [if_neg hf] at hx
          have q := e2 hx p p0 p1
          have r1 : ¬ (4 * s 8 k ≤ 4 * f + p ∧ 4 * f + p < 4 * s 8 k + 4) := by omega
          by_cases hx1 : x.1 (s 8 k) = 1
          · rw [if_pos hx1, if_pos (by rw [← g1]; exact hx1)]
            exact q
          · have hy1 : ¬ y.1 (s 8 k) = 1 := by rw [← g1]; exact hx1
            rw [if_neg hx1, if_neg hy1, if_neg r1, if_neg r1]
            exact q
  rw [if_neg c3, if_neg c3]
  by_cases c4 : s 4 k = 4
  · rw [if_pos c4, if_pos c4]
    intro f f0 f1
    obtain ⟨e1, e2⟩ := h f f0 f1
    unfold fup
    dsimp only
    refine ⟨?_, fun hx p p0 p1 => ?_⟩
    · split
      · rfl
      · exact e1
    · by_cases hf : f = s 8 k
      · rw [if_pos hf] at hx; omega
      · rw [if_neg hf] at hx
        exact e2 hx p p0 p1
  rw [if_neg c4, if_neg c4]
  by_cases c5 : s 4 k = 5
  · rw [if_pos c5, if_pos c5]
    have H := h5 c5
    intro f f0 f1
    obtain ⟨e1, e2⟩ := h f f0 f1
    obtain ⟨g1, g2⟩ := h (s 8 k) a0 H.1
    unfold fcp fup
    dsimp only
    refine ⟨?_, fun hx p p0 p1 => ?_⟩
    · split
      · exact g1
      · exact e1
    · by_cases hf : f = s 10 k
      · rw [if_pos hf] at hx
        rw [if_pos (by omega), if_pos (by omega)]
        have := g2 hx p p0 p1
        rw [show 4 * s 8 k + (4 * f + p - 4 * s 10 k) = 4 * s 8 k + p by omega]
        exact this
      · rw [if_neg hf] at hx
        rw [if_neg (by omega), if_neg (by omega)]
        exact e2 hx p p0 p1
  rw [if_neg c5, if_neg c5]
  exact h
theorem fEq_fold {s : aS} : ∀ (l : List Int) (x y : fF), (∀ k ∈ l, jR1 s k) → fEq x y → fEq (l.foldl (fch s) x) (l.foldl (fch s) y) := by
  intro l
  induction l with
  | nil => intro x y _ h; exact h
  | cons k t ih => intro x y hR h; exact ih _ _ (fun j hj => hR j (List.mem_cons_of_mem _ hj)) (fEq_ch (hR k List.mem_cons_self) h)
theorem fold_c {s t : aS} : ∀ (l : List Int) (x : fF), (∀ k ∈ l, t 4 k = s 4 k ∧ t 8 k = s 8 k ∧ t 10 k = s 10 k ∧ t 12 k = s 12 k) → l.foldl (fch t) x = l.foldl (fch s) x := by
  intro l
  induction l with
  | nil => intro x _; rfl
  | cons k u ih =>
    intro x h
    have hk := h k List.mem_cons_self
    have e : fch t x k = fch s x k := by
      unfold fch
      rw [hk.1, hk.2.1, hk.2.2.1, hk.2.2.2]
    show u.foldl (fch t) (fch t x k) = u.foldl (fch s) (fch s x k)
    rw [e]
    exact ih _ (fun j hj => h j (List.mem_cons_of_mem _ hj))
theorem eL_m {s : aS} {lo x : Int} (l0 : 0 ≤ lo) : ∀ hi : Int, x ∈ eL s lo hi → 0 ≤ x ∧ x ≤ s 18 x ∧ lo ≤ s 18 x ∧ s 18 x < hi := by
  refine stepDown lo (fun hi ih h => ?_)
  by_cases h1 : lo < hi
  · have e := eL_l (s := s) (lo := lo) (hi := hi - 1) (by omega)
    rw [show hi - 1 + 1 = hi by omega] at e
    rw [e, List.mem_append] at h
    rcases h with h | h
    · have := ih h1 h; omega
    · rw [lI_m] at h
      have := of_decide_eq_true h.2.2
      omega
  · rw [eL_e (by omega)] at h; cases h
theorem eL_cc {s t : aS} {lo : Int} (l0 : 0 ≤ lo) : ∀ hi : Int, (∀ j e, 0 ≤ j → j < hi → lo ≤ e → e < hi → (t 18 j = e ↔ s 18 j = e)) → eL t lo hi = eL s lo hi := by
  refine stepDown lo (fun hi ih h => ?_)
  by_cases h1 : lo < hi
  · have e := eL_l (s := s) (lo := lo) (hi := hi - 1) (by omega)
    have e' := eL_l (s := t) (lo := lo) (hi := hi - 1) (by omega)
    rw [show hi - 1 + 1 = hi by omega] at e e'
    rw [e, e', ih h1 (fun j e a b c d => h j e a (by omega) c (by omega))]
    congr 1
    refine lI_c _ (fun i a b => ?_)
    have := h i (hi - 1) a b (by omega) (by omega)
    by_cases hh : s 18 i = hi - 1
    · rw [decide_eq_true hh, decide_eq_true (this.mpr hh)]
    · rw [decide_eq_false hh, decide_eq_false (fun y => hh (this.mp y))]
  · rw [eL_e (by omega), eL_e (by omega)]
/-- a new record's numbers are in order; and whose it is -/
def okR (s : aS) (k ow x y w : Int) : Prop := (0 ≤ k ∧ k ≤ 8) ∧ (0 ≤ x ∧ x ≤ 9999) ∧ (0 ≤ y ∧ y ≤ 9999) ∧ (0 ≤ w ∧ w ≤ 9999) ∧ (k = 3 → x < 8 ∧ y < 4) ∧ (k = 4 → x < 8) ∧ (k = 5 → x < 8 ∧ y < 8) ∧ (k = 6 → x < 4 ∧ w ≤ 20) ∧ (k = 7 → x < 6 ∧ y ≤ 400) ∧
  (-1 ≤ ow ∧ ow < s 2 9) ∧ (k = 7 ∨ k = 8 → ow = -1) ∧ (k = 1 ∨ k = 2 → 0 ≤ ow) ∧ (0 ≤ ow → ∀ j, ow < j → j < s 2 9 → s 6 j = ow → 3 ≤ s 4 j ∧ s 4 j ≤ 6 ∧ s 18 j = -1)
/-- which records the new one makes effective -/
def lnk (s : aS) (k ow : Int) : List Int := if k = 1 then lI (fun j => decide (s 6 j = ow)) (ow + 1) (s 2 9) else if (3 ≤ k ∧ k ≤ 7) ∧ ow = -1 then [s 2 9] else []
theorem lnk_m {s : aS} {k ow j : Int} : j ∈ lnk s k ow ↔ (k = 1 ∧ ow < j ∧ j < s 2 9 ∧ s 6 j = ow) ∨ ((3 ≤ k ∧ k ≤ 7) ∧ ow = -1 ∧ j = s 2 9) := by
  unfold lnk
  by_cases h1 : k = 1
  · rw [if_pos h1, lI_m]
    constructor
    · intro h; exact Or.inl ⟨h1, by omega, h.2.1, of_decide_eq_true h.2.2⟩
    · intro h
      rcases h with h | h
      · exact ⟨by omega, h.2.2.1, decide_eq_true h.2.2.2⟩
      · omega
  · rw [if_neg h1]
    by_cases h2 : (3 ≤ k ∧ k ≤ 7) ∧ ow = -1
    · rw [if_pos h2, List.mem_singleton]
      constructor
      · intro h; exact Or.inr ⟨h2.1, h2.2, h⟩
      · intro h
        rcases h with h | h
        · exact (h1 h.1).elim
        · exact h.2.2
    · rw [if_neg h2]
      constructor
      · intro h; cases h
      · intro h
        rcases h with h | h
        · exact (h1 h.1).elim
        · exact (h2 ⟨h.1, h.2.1⟩).elim
/-- .. as the class finds them -/
theorem lc_ad {s : aS} {k ow x y w : Int} (hJ : jJ s) (ho : okR s k ow x y w) : lcS (adS s k ow x y w) (s 2 9) = lnk s k ow := by
  obtain ⟨k0, -, -, -, -, -, -, -, -, ⟨o0, o1⟩, -, o3, -⟩ := ho
  unfold lcS lnk
  rw [ad_4, if_pos rfl, ad_6, if_pos rfl]
  by_cases h1 : k = 1
  · rw [if_pos h1, if_pos h1, if_neg (by omega)]
    refine lI_c _ (fun j a b => ?_)
    show decide (adS s k ow x y w 6 j = ow) = decide (s 6 j = ow)
    rw [ad_6, if_neg (by omega)]
  · rw [if_neg h1, if_neg h1]
    by_cases h2 : (3 ≤ k ∧ k ≤ 7) ∧ ow = -1
    · have e0 : (if k = 0 then s 2 9 else ow) = ow := if_neg (by omega)
      rw [e0, if_pos h2]
    · rw [if_neg h2, if_neg]
      intro hh
      rw [if_neg (by omega)] at hh
      exact h2 hh
section JA
variable {s t : aS} {k ow x y w : Int}
theorem jR_ad (hJ : jJ s) (ho : okR s k ow x y w) (c2 : t 2 9 = s 2 9 + 1) (c4 : ∀ j, t 4 j = if j = s 2 9 then k else s 4 j) (c6 : ∀ j, t 6 j = if j = s 2 9 then (if k = 0 then s 2 9 else ow) else s 6 j) (c8 : ∀ j, t 8 j = if j = s 2 9 then x else s 8 j) (c10 : ∀ j, t 10 j = if j = s 2 9 then y else s 10 j) (c12 : ∀ j, t 12 j = if j = s 2 9 then w else s 12 j) (c14 : ∀ j, t 14 j = if j = s 2 9 then szI k w else s 14 j) (c18 : ∀ j, t 18 j = if j ∈ lnk s k ow then s 2 9 else if j = s 2 9 then -1 else s 18 j) : jR t := by
  have B := jb hJ
  obtain ⟨⟨k0, k1⟩, x0, y0, w0, q3, q4, q5, q6, q7, ⟨o0, o1⟩, o7, o1', oo⟩ := ho
  intro j j0 j1
  rw [c2] at j1
  by_cases hj : j = s 2 9
  · -- the new one
    refine ⟨?_, ?_⟩
    · unfold jR1
      rw [c4, c8, c10, c12, c14, if_pos hj, if_pos hj, if_pos hj, if_pos hj, if_pos hj]
      exact ⟨⟨k0, k1⟩, x0, y0, w0, rfl, q3, q4, q5, q6, q7⟩
    · have e18 : t 18 j = if (3 ≤ k ∧ k ≤ 7) ∧ ow = -1 then s 2 9 else -1 := by
        rw [c18]
        by_cases h : (3 ≤ k ∧ k ≤ 7) ∧ ow = -1
        · rw [if_pos (lnk_m.mpr (Or.inr ⟨h.1, h.2, hj⟩)), if_pos h]
        · rw [if_neg, if_pos hj, if_neg h]
          intro hm
          rcases lnk_m.mp hm with hm | hm
          · omega
          · exact h ⟨hm.1, hm.2.1⟩
      have e4 : t 4 j = k := by rw [c4, if_pos hj]
      have e6 : t 6 j = if k = 0 then s 2 9 else ow := by rw [c6, if_pos hj]
      unfold jR2
      rw [e4, e6, e18]
      refine ⟨?_, ?_, ?_, ?_, ?_, ?_, ?_, ?_, ?_⟩
      · split <;> omega
      · intro h; rw [if_pos h]; omega
      · intro h; rw [if_neg h]; omega
      · intro h; rw [if_neg (by omega)]; exact o7 h
      · intro h; rw [if_neg (by omega)]; exact o1' h
      · intro h; rw [if_neg (by omega)]
      · intro h
        rw [if_neg (by omega)] at h
        rw [if_pos ⟨⟨h.1, h.2.1⟩, h.2.2⟩]; omega
      · intro h
        rw [if_neg (by omega)] at h
        rw [if_neg (by omega)]
        exact Or.inl rfl
      · intro h i i0 i1 i2
        rw [if_neg (by omega)] at i0 i2
        have ei : t 6 i = s 6 i := by rw [c6, if_neg (by omega)]
        rw [ei] at i2
        have := oo (by omega) i i0 (by omega) i2
        rw [c4, if_neg (by omega), c18, if_pos (lnk_m.mpr (Or.inl ⟨h, i0, by omega, i2⟩))]
        exact ⟨this.1, by omega⟩
  · have hjn : j < s 2 9 := by omega
    obtain ⟨r1, r2⟩ := hJ.2.1 j j0 hjn
    have e4 : t 4 j = s 4 j := by rw [c4, if_neg hj]
    have e6 : t 6 j = s 6 j := by rw [c6, if_neg hj]
    refine ⟨?_, ?_⟩
    · unfold jR1
      rw [e4, c8, c10, c12, c14, if_neg hj, if_neg hj, if_neg hj, if_neg hj]
      exact r1
    · have e18 : t 18 j = if k = 1 ∧ ow < j ∧ s 6 j = ow then s 2 9 else s 18 j := by
        rw [c18]
        by_cases h : k = 1 ∧ ow < j ∧ s 6 j = ow
        · rw [if_pos (lnk_m.mpr (Or.inl ⟨h.1, h.2.1, hjn, h.2.2⟩)), if_pos h]
        · rw [if_neg, if_neg hj, if_neg h]
          intro hm
          rcases lnk_m.mp hm with hm | hm
          · exact h ⟨hm.1, hm.2.1, hm.2.2.2⟩
          · omega
      obtain ⟨a1, a2, a3, a4, a5, a6, a7, a8, a9⟩ := r2
      unfold jR2
      rw [e4, e6, e18]
      refine ⟨a1, a2, a3, a4, a5, ?_, ?_, ?_, ?_⟩
      · intro h
        rw [if_neg]
        · exact a6 h
        · intro hh
          have := oo (by omega) j hh.2.1 hjn hh.2.2
          omega
      · intro h
        rw [if_neg (by have := o1'; omega)]
        exact a7 h
      · intro h
        by_cases hh : k = 1 ∧ ow < j ∧ s 6 j = ow
        · rw [if_pos hh, c2, c4, if_pos rfl, c6, if_pos rfl, if_neg (by omega)]
          exact Or.inr ⟨hjn, by omega, hh.1, hh.2.2.symm⟩
        · rw [if_neg hh]
          rcases a8 h with e | ⟨e1, e2, e3, e5⟩
          · exact Or.inl e
          · right
            rw [c2, c4, if_neg (by omega), c6, if_neg (by omega)]
            exact ⟨e1, by omega, e3, e5⟩
      · intro h i i0 i1 i2
        have ei : t 6 i = s 6 i := by rw [c6, if_neg (by omega)]
        rw [ei] at i2
        have b := a9 h i i0 i1 i2
        rw [c4, if_neg (by omega), c18, if_neg]
        · rw [if_neg (by omega)]
          exact b
        · intro hm
          rcases lnk_m.mp hm with hm | hm
          · have := oo (by have := o1'; omega) i hm.2.1 hm.2.2.1 hm.2.2.2
            omega
          · omega
theorem jS_ad (hJ : jJ s) (n1 : s 2 9 < 400) (z0 : 4 ≤ szI k w) (z1 : szI k w ≤ 30) (c2 : t 2 9 = s 2 9 + 1) (c14 : ∀ j, t 14 j = if j = s 2 9 then szI k w else s 14 j) (c21 : ∀ i, t 21 i = adS s k ow x y w 21 i) (c23 : ∀ i, t 23 i = adS s k ow x y w 23 i) (c25 : ∀ i, t 25 i = adS s k ow x y w 25 i) : jS t := by
  have B := jb hJ
  obtain ⟨s1, s2, s3, s4, s5⟩ := hJ.2.2.2.2.2.2.1
  have hh : t 21 2 = s 21 2 := by rw [c21, ad_21, if_neg (by decide), if_neg (by decide)]
  have ht : t 21 3 = tlS s (szI k w) := by rw [c21, ad_21, if_pos rfl]
  have h5 : t 21 5 = s 21 5 + szI k w := by rw [c21, ad_21, if_neg (by decide), if_pos rfl]
  have sum1 : ∀ lo hi, hi ≤ s 2 9 → sI (t 14) lo hi = sI (s 14) lo hi := by
    intro lo hi h
    exact sI_c _ (fun i a b => by rw [c14, if_neg (by omega)])
  have sum2 : ∀ lo, lo ≤ s 2 9 → sI (t 14) lo (s 2 9 + 1) = sI (s 14) lo (s 2 9) + szI k w := by
    intro lo h
    rw [sI_l h, sum1 lo _ (Int.le_refl _), c14, if_pos rfl]
  have f23 : ∀ i, i ≤ s 21 3 → t 23 i = s 23 i := by
    intro i hi
    rw [c23, ad_23, if_neg (by omega)]
  have ff : t 23 (t 21 2) = s 23 (s 21 2) := by rw [hh, f23 _ (by omega)]
  by_cases hn : s 21 4 < s 25 (s 21 3) + szI k w
  · have et : tlS s (szI k w) = s 21 3 + 1 := if_pos hn
    have f23n : t 23 (s 21 3 + 1) = s 2 9 := by rw [c23, ad_23, if_pos ⟨hn, rfl⟩]
    -- the open segment was not empty
    have ne : s 23 (s 21 3) < s 2 9 := by
      by_cases h : s 23 (s 21 3) < s 2 9
      · exact h
      · have e0 : s 25 (s 21 3) = 0 := by rw [s4, sI_e (by omega)]
        omega
    refine ⟨fun i i0 i1 => ?_, ?_, ?_, ?_, ?_⟩
    · rw [hh] at i0
      rw [ht, et] at i1
      by_cases hi : i = s 21 3
      · subst hi
        rw [f23n, f23 _ (Int.le_refl _), c25, ad_25, if_pos hn, if_neg (by omega), sum1 _ _ (Int.le_refl _)]
        exact ⟨ne, s4⟩
      · have q := s1 i i0 (by omega)
        rw [f23 i (by omega), f23 (i + 1) (by omega), c25, ad_25, if_pos hn, if_neg (by omega), sum1]
        · exact q
        · have := j_mono hJ.2.2.2.2.2.2.1 (i := i + 1) (by omega) (s 21 3) (by omega) (Int.le_refl _)
          omega
    · rw [ff, hh]; exact s2
    · rw [ht, et, f23n, c2]; omega
    · rw [ht, et, f23n, c2, c25, ad_25, if_pos hn, if_pos rfl, sum2 _ (Int.le_refl _), sI_e (Int.le_refl _), Int.zero_add]
    · rw [ff, c2, h5, sum2 _ (by omega), s5]
  · have et : tlS s (szI k w) = s 21 3 := if_neg hn
    refine ⟨fun i i0 i1 => ?_, ?_, ?_, ?_, ?_⟩
    · rw [hh] at i0
      rw [ht, et] at i1
      have q := s1 i i0 i1
      rw [f23 i (by omega), f23 (i + 1) (by omega), c25, ad_25, if_neg hn, if_neg (by omega), sum1]
      · exact q
      · have := j_mono hJ.2.2.2.2.2.2.1 (i := i + 1) (by omega) (s 21 3) (by omega) (Int.le_refl _)
        omega
    · rw [ff, hh]; exact s2
    · rw [ht, et, f23 _ (Int.le_refl _), c2]; omega
    · rw [ht, et, f23 _ (Int.le_refl _), c2, c25, ad_25, if_neg hn, if_pos rfl, sum2 _ s3, s4]
    · rw [ff, c2, h5, sum2 _ (by omega), s5]
/-- the records with effects, in their order -/
theorem eL_ad (hJ : jJ s) (ho : okR s k ow x y w) (c18 : ∀ j, t 18 j = if j ∈ lnk s k ow then s 2 9 else if j = s 2 9 then -1 else s 18 j) {m : Int} (m0 : 0 ≤ m) (m1 : m ≤ s 2 9) : eL t m (s 2 9 + 1) = eL s m (s 2 9) ++ lnk s k ow := by
  have B := jb hJ
  obtain ⟨⟨k0, k1⟩, x0, y0, w0, q3, q4, q5, q6, q7, ⟨o0, o1⟩, o7, o1', oo⟩ := ho
  rw [eL_l m1, eL_cc m0 (s 2 9) (s := s)]
  · congr 1
    have hp : ∀ j, 0 ≤ j → j < s 2 9 + 1 → (t 18 j = s 2 9 ↔ j ∈ lnk s k ow) := by
      intro j j0 j1
      rw [c18]
      by_cases h : j ∈ lnk s k ow
      · rw [if_pos h]; exact ⟨fun _ => h, fun _ => rfl⟩
      · rw [if_neg h]
        refine ⟨fun hh => ?_, fun hh => (h hh).elim⟩
        split at hh
        · omega
        · have := j_ef hJ j0 (by omega); omega
    have hd : ∀ j, 0 ≤ j → j < s 2 9 + 1 → decide (t 18 j = s 2 9) = decide (j ∈ lnk s k ow) := by
      intro j j0 j1
      by_cases h : j ∈ lnk s k ow
      · rw [decide_eq_true h, decide_eq_true ((hp j j0 j1).mpr h)]
      · rw [decide_eq_false h, decide_eq_false (fun y => h ((hp j j0 j1).mp y))]
    rw [lI_c (q := fun j => decide (j ∈ lnk s k ow)) _ hd]
    by_cases h1 : k = 1
    · have e : lnk s k ow = lI (fun j => decide (s 6 j = ow)) (ow + 1) (s 2 9) := if_pos h1
      have w1 := o1' (Or.inl h1)
      rw [lI_l (by omega), lI_s (mid := ow + 1) (by omega) _ (by omega), lI_n (lo := 0) (ow + 1), if_neg, List.append_nil, List.nil_append]
      · rw [e]
        refine lI_c _ (fun j a b => ?_)
        by_cases hh : s 6 j = ow
        · rw [decide_eq_true hh, decide_eq_true (lI_m _ |>.mpr ⟨a, b, decide_eq_true hh⟩)]
        · rw [decide_eq_false hh, decide_eq_false (fun y => hh (of_decide_eq_true ((lI_m _).mp y).2.2))]
      · intro hh
        have := lnk_m.mp (of_decide_eq_true hh)
        omega
      · intro j a b
        refine decide_eq_false (fun hh => ?_)
        have := lnk_m.mp hh
        omega
    · rw [lI_l (by omega), lI_n (lo := 0) (s 2 9), List.nil_append]
      · unfold lnk
        rw [if_neg h1]
        by_cases h2 : (3 ≤ k ∧ k ≤ 7) ∧ ow = -1
        · rw [if_pos h2, if_pos]
          simp
        · rw [if_neg h2, if_neg]
          simp
      · intro j a b
        refine decide_eq_false (fun hh => ?_)
        have := lnk_m.mp hh
        omega
  · intro j e j0 j1 e0 e1
    rw [c18]
    by_cases h : j ∈ lnk s k ow
    · rw [if_pos h]
      rcases lnk_m.mp h with hm | hm
      · have := oo (by have := o1'; omega) j hm.2.1 hm.2.2.1 hm.2.2.2
        omega
      · omega
    · rw [if_neg h, if_neg (by omega)]
end JA
