/-! ===== the state behind a new record and its effects ===== -/
def fiS (b : aS) (n : Int) (l : List Int) : aS := efS (awl b 59 0 l) n l
theorem fi_o (b : aS) (n : Int) (l : List Int) {x : Nat} (h : x ≠ 18 ∧ x ≠ 28 ∧ x ≠ 30 ∧ x ≠ 41 ∧ x ≠ 43 ∧ x ≠ 59) : fiS b n l x = b x := by
  unfold fiS
  rw [ef_o n ⟨h.1, h.2.1, h.2.2.1, h.2.2.2.1, h.2.2.2.2.1⟩, awl_o h.2.2.2.2.2]
theorem fi_18 (b : aS) (n : Int) (l : List Int) (j : Int) : fiS b n l 18 j = if j ∈ l then n else b 18 j := by
  unfold fiS
  rw [ef_18, awl_o (by decide)]
theorem fi_now (b : aS) (n : Int) (l : List Int) : (fiS b n l 41, fiS b n l 43) = l.foldl (fch b) (b 41, b 43) := by
  unfold fiS
  rw [ef_now, awl_o (by decide), awl_o (by decide), fch_c (awl_o (by decide) _ _ _) (awl_o (by decide) _ _ _) (awl_o (by decide) _ _ _) (awl_o (by decide) _ _ _)]
/-- visible lists only grow -/
theorem ef_ext {N e : Int} (e0 : 0 ≤ e) : ∀ (l : List Int) (u : aS), gV u N e l → ∀ t, 0 ≤ t → t < 4 → u 30 t ≤ efS u e l 30 t ∧ ∀ i, 0 ≤ i → i < u 30 t → efS u e l 28 (400 * t + i) = u 28 (400 * t + i) := by
  intro l
  induction l with
  | nil => intro u h t t0 t1; exact ⟨Int.le_refl _, fun _ _ _ => rfl⟩
  | cons k r ih =>
    intro u h t t0 t1
    have hs := gV_step e0 h
    obtain ⟨i1, i2⟩ := ih (e1S u e k) hs t t0 t1
    have hlt := fun t t0 t1 => gV_lt h (t := t) t0 t1
    have hN := h.1.2
    obtain ⟨hk1, hk2⟩ := h.2.2.1 k List.mem_cons_self
    have step : u 30 t ≤ e1S u e k 30 t ∧ ∀ i, 0 ≤ i → i < u 30 t → e1S u e k 28 (400 * t + i) = u 28 (400 * t + i) := by
      unfold e1S
      by_cases h4 : u 4 k = 6
      · have hb := hk2.2.2.2.2.2.2.2.2.1 h4
        have hb0 := hk2.2.1.1
        have c8 := (h.2.2.2 (u 8 k) hb0 hb.1).1
        have l8 := hlt (u 8 k) hb0 hb.1
        have lt := hlt t t0 t1
        rw [if_pos h4]
        unfold shS
        have x8 : aup u 18 k e 8 = u 8 := aup_o (by decide)
        have x30 : aup u 18 k e 30 = u 30 := aup_o (by decide)
        have x28 : aup u 18 k e 28 = u 28 := aup_o (by decide)
        refine ⟨?_, fun i i0 i1 => ?_⟩
        · rw [aup_k, x8, x30, aup_o (by decide), x30]
          split
          · rename_i hh; rw [hh]; omega
          · exact Int.le_refl _
        · rw [aup_o (by decide), aup_k, x8, x30, x28, if_neg]
          intro he
          by_cases ht : t = u 8 k
          · rw [ht] at i1 he; omega
          · omega
      · rw [if_neg h4, ap_o (by decide) (by decide), ap_o (by decide) (by decide), aup_o (by decide), aup_o (by decide)]
        exact ⟨Int.le_refl _, fun _ _ _ => rfl⟩
    refine ⟨Int.le_trans step.1 i1, fun i i0 i1' => ?_⟩
    show efS (e1S u e k) e r 28 (400 * t + i) = _
    rw [i2 i i0 (by omega), step.2 i i0 i1']
section JF
variable {s b : aS} {k ow x y w : Int}
/-- what of the base state is as in the record's -/
def bsR (s b : aS) (k ow x y w : Int) : Prop := b 2 9 = s 2 9 + 1 ∧ b 4 = adS s k ow x y w 4 ∧ b 6 = adS s k ow x y w 6 ∧ b 8 = adS s k ow x y w 8 ∧ b 10 = adS s k ow x y w 10 ∧ b 12 = adS s k ow x y w 12 ∧ b 14 = adS s k ow x y w 14 ∧ b 16 = adS s k ow x y w 16 ∧ b 18 = adS s k ow x y w 18 ∧ b 21 = adS s k ow x y w 21 ∧ b 23 = adS s k ow x y w 23 ∧ b 25 = adS s k ow x y w 25 ∧ b 28 = s 28 ∧ b 30 = s 30 ∧ b 41 = s 41 ∧ b 43 = s 43
theorem fi_gV (hJ : jJ s) (n1 : s 2 9 < 400) (ho : okR s k ow x y w) (hb : bsR s b k ow x y w) : gV (awl b 59 0 (lnk s k ow)) (s 2 9 + 1) (s 2 9) (lnk s k ow) := by
  obtain ⟨-, c4, -, c8, c10, c12, c14, -, c18, -, -, -, c28, c30, -, -⟩ := hb
  refine gV_ad hJ n1 ho (fun j => ?_) (fun j => ?_) (fun j => ?_) (fun j => ?_) (fun j => ?_) (fun j => ?_) ?_ ?_
  · rw [awl_o (by decide), c4, ad_4]
  · rw [awl_o (by decide), c8, ad_8]
  · rw [awl_o (by decide), c10, ad_10]
  · rw [awl_o (by decide), c12, ad_12]
  · rw [awl_o (by decide), c14, ad_14]
  · rw [awl_o (by decide), c18, ad_18]
  · rw [awl_o (by decide), c28]
  · rw [awl_o (by decide), c30]
theorem fi_ok (hJ : jJ s) (n1 : s 2 9 < 400) (ho : okR s k ow x y w) (hb : bsR s b k ow x y w) : okE (s 2 9) (lnk s k ow) (awl b 59 0 (lnk s k ow)) ∧ gV (fiS b (s 2 9) (lnk s k ow)) (s 2 9 + 1) (s 2 9) [] := by
  have B := jb hJ
  refine gV_ok (by omega) _ _ (fi_gV hJ n1 ho hb) ?_
  rw [awl_o (by decide), hb.2.2.2.2.2.2.2.2.2.2.2.2.2.2.1]
  exact f01_now hJ
theorem fi_ext (hJ : jJ s) (n1 : s 2 9 < 400) (ho : okR s k ow x y w) (hb : bsR s b k ow x y w) {t : Int} (t0 : 0 ≤ t) (t1 : t < 4) : s 30 t ≤ fiS b (s 2 9) (lnk s k ow) 30 t ∧ ∀ i, 0 ≤ i → i < s 30 t → fiS b (s 2 9) (lnk s k ow) 28 (400 * t + i) = s 28 (400 * t + i) ∧ fiS b (s 2 9) (lnk s k ow) 18 (s 28 (400 * t + i)) = s 18 (s 28 (400 * t + i)) := by
  have B := jb hJ
  have h := ef_ext (by omega) _ _ (fi_gV hJ n1 ho hb) t t0 t1
  rw [awl_o (by decide), awl_o (by decide), hb.2.2.2.2.2.2.2.2.2.2.2.2.1, hb.2.2.2.2.2.2.2.2.2.2.2.2.2.1] at h
  refine ⟨h.1, fun i i0 i1 => ⟨h.2 i i0 i1, ?_⟩⟩
  obtain ⟨a1, a2, a3, a4⟩ := (hJ.2.2.2.2.1 t t0 t1).2.1 i i0 i1
  rw [fi_18, hb.2.2.2.2.2.2.2.2.1, ad_18, if_neg, if_neg (by omega)]
  intro hm
  rcases lnk_m.mp hm with hm | hm
  · have := ho.2.2.2.2.2.2.2.2.2.2.2.2 (by have := ho.2.2.2.2.2.2.2.2.2.2.2.1; omega) _ hm.2.1 hm.2.2.1 hm.2.2.2
    omega
  · omega
theorem okR_z (ho : okR s k ow x y w) : 4 ≤ szI k w ∧ szI k w ≤ 30 := by
  obtain ⟨-, -, -, w0, -, -, -, q6, -⟩ := ho
  refine sz_b w0.1 ?_
  by_cases h : k = 6
  · exact Or.inl (q6 h).2
  · exact Or.inr h
theorem fi_18' (hb : bsR s b k ow x y w) (j : Int) : fiS b (s 2 9) (lnk s k ow) 18 j = if j ∈ lnk s k ow then s 2 9 else if j = s 2 9 then -1 else s 18 j := by
  rw [fi_18, hb.2.2.2.2.2.2.2.2.1, ad_18]
theorem fi_fst (hJ : jJ s) (hb : bsR s b k ow x y w) : fiS b (s 2 9) (lnk s k ow) 23 (fiS b (s 2 9) (lnk s k ow) 21 2) = s 23 (s 21 2) := by
  have B := jb hJ
  rw [fi_o _ _ _ (by decide), fi_o _ _ _ (by decide), hb.2.2.2.2.2.2.2.2.2.1, hb.2.2.2.2.2.2.2.2.2.2.1, ad_21, if_neg (by decide), if_neg (by decide), ad_23, if_neg (by omega)]
/-- all of it, but for transactions, consumers, files and what was taken -/
theorem j_fin (hJ : jJ s) (n1 : s 2 9 < 400) (ho : okR s k ow x y w) (hf : 0 ≤ ow → s 23 (s 21 2) ≤ ow) (hb : bsR s b k ow x y w) {du m : Int} (cd : b 2 10 = du) (hd : du = s 2 10 ∨ du = s 2 9 + 1) (h20 : ∀ j, 0 ≤ j → j < s 2 9 + 1 → (b 20 j = 0 ∨ b 20 j = 1) ∧ (j < du → b 20 j = 0)) (cm : b 1 11 = m) (hm : m = s 1 11 ∨ (m = s 2 9 ∧ du = s 2 9 + 1)) (c12 : b 1 12 = s 1 12) (c13 : b 1 13 = s 1 13) (c26 : 0 ≤ b 26 6 ∧ b 26 6 ≤ 6) (c10 : 0 ≤ b 1 10 ∧ b 1 10 ≤ 50)
    (hT : jT (fiS b (s 2 9) (lnk s k ow))) (hC : jC (fiS b (s 2 9) (lnk s k ow))) (hN : jN (fiS b (s 2 9) (lnk s k ow))) (hY : jY (fiS b (s 2 9) (lnk s k ow))) : jJ (fiS b (s 2 9) (lnk s k ow)) := by
  have B := jb hJ
  have Z := okR_z ho
  have F := fi_fst hJ hb
  have G := (fi_ok hJ n1 ho hb).2
  have e18 := fi_18' hb
  obtain ⟨c2, c4, c6, c8, c10', c12', c14, c16, c18, c21, c23, c25, c28, c30, c41, c43⟩ := id hb
  have f2 : fiS b (s 2 9) (lnk s k ow) 2 9 = s 2 9 + 1 := by rw [fi_o _ _ _ (by decide), c2]
  have f2d : fiS b (s 2 9) (lnk s k ow) 2 10 = du := by rw [fi_o _ _ _ (by decide), cd]
  have f1 : fiS b (s 2 9) (lnk s k ow) 1 = b 1 := fi_o _ _ _ (by decide)
  have f21 : ∀ i, fiS b (s 2 9) (lnk s k ow) 21 i = adS s k ow x y w 21 i := fun i => by rw [fi_o _ _ _ (by decide), c21]
  have f23 : ∀ i, fiS b (s 2 9) (lnk s k ow) 23 i = adS s k ow x y w 23 i := fun i => by rw [fi_o _ _ _ (by decide), c23]
  have f25 : ∀ i, fiS b (s 2 9) (lnk s k ow) 25 i = adS s k ow x y w 25 i := fun i => by rw [fi_o _ _ _ (by decide), c25]
  have f4 : ∀ j, fiS b (s 2 9) (lnk s k ow) 4 j = if j = s 2 9 then k else s 4 j := fun j => by rw [fi_o _ _ _ (by decide), c4, ad_4]
  have f14 : ∀ j, fiS b (s 2 9) (lnk s k ow) 14 j = if j = s 2 9 then szI k w else s 14 j := fun j => by rw [fi_o _ _ _ (by decide), c14, ad_14]
  have hdu : s 2 10 ≤ du := by omega
  refine ⟨⟨⟨?_, ?_, ?_, ?_, ?_⟩, ⟨?_, ?_, ?_⟩, ⟨?_, ?_⟩, ⟨?_, ?_, ?_, ?_⟩, ?_, ?_⟩, ?_, ?_, hT, gV_nil G f2, hC, ?_, hN, ?_, hY⟩
  · rw [f21, ad_21, if_neg (by decide), if_neg (by decide)]; omega
  · rw [f21, f21, ad_21, if_neg (by decide), if_neg (by decide), ad_21, if_pos rfl]
    unfold tlS
    split <;> omega
  · rw [f21, f21, ad_21, if_neg (by decide), if_neg (by decide), ad_21, if_neg (by decide), if_neg (by decide)]; omega
  · rw [f21, ad_21, if_neg (by decide), if_neg (by decide)]; omega
  · rw [f21, ad_21, if_neg (by decide), if_neg (by decide)]; omega
  · rw [F, f2d]; omega
  · rw [f2, f2d]; omega
  · rw [f2]; omega
  · rw [f1, cm]; omega
  · rw [f1, cm, f2d]; have := hJ.1.2.2.1.2; omega
  · rw [f1, c12]; omega
  · rw [f1, c12]; omega
  · rw [f1, c13]; omega
  · rw [f1, c13]; omega
  · rw [fi_o _ _ _ (by decide)]; exact c26
  · rw [f1]; exact c10
  · refine jR_ad hJ ho f2 f4 (fun j => ?_) (fun j => ?_) (fun j => ?_) (fun j => ?_) f14 e18
    · rw [fi_o _ _ _ (by decide), c6, ad_6]
    · rw [fi_o _ _ _ (by decide), c8, ad_8]
    · rw [fi_o _ _ _ (by decide), c10', ad_10]
    · rw [fi_o _ _ _ (by decide), c12', ad_12]
  · intro j j0 j1
    rw [f2] at j1
    rw [f2d, fi_o _ _ _ (by decide)]
    exact h20 j j0 j1
  · exact jS_ad hJ n1 Z.1 Z.2 f2 f14 f21 f23 f25
  · intro j j0 j1 hj
    rw [F] at j1
    rw [f4, if_neg (by omega)] at hj
    rw [f1, cm, e18, if_neg, if_neg (by omega)]
    · have := hJ.2.2.2.2.2.2.2.2.1 j j0 j1 hj
      omega
    · intro hmem
      rcases lnk_m.mp hmem with h | h
      · have := hf (by have := ho.2.2.2.2.2.2.2.2.2.2.2.1; omega)
        omega
      · omega
/-- the files of now, where no checkpoint is made -/
theorem jN_fin (hJ : jJ s) (n1 : s 2 9 < 400) (ho : okR s k ow x y w) (hb : bsR s b k ow x y w) (cm : b 1 11 = s 1 11) (c46 : b 46 = s 46) (c48 : b 48 = s 48) : jN (fiS b (s 2 9) (lnk s k ow)) := by
  have B := jb hJ
  have e18 := fi_18' hb
  have now := fi_now b (s 2 9) (lnk s k ow)
  have f4 : fiS b (s 2 9) (lnk s k ow) 4 = b 4 := fi_o _ _ _ (by decide)
  have f8 : fiS b (s 2 9) (lnk s k ow) 8 = b 8 := fi_o _ _ _ (by decide)
  have f10 : fiS b (s 2 9) (lnk s k ow) 10 = b 10 := fi_o _ _ _ (by decide)
  have f12 : fiS b (s 2 9) (lnk s k ow) 12 = b 12 := fi_o _ _ _ (by decide)
  have fc : fch (fiS b (s 2 9) (lnk s k ow)) = fch b := fch_c f4 f8 f10 f12
  have f1 : fiS b (s 2 9) (lnk s k ow) 1 = b 1 := fi_o _ _ _ (by decide)
  have f2 : fiS b (s 2 9) (lnk s k ow) 2 9 = s 2 9 + 1 := by rw [fi_o _ _ _ (by decide), hb.1]
  have f46 : fiS b (s 2 9) (lnk s k ow) 46 = s 46 := by rw [fi_o _ _ _ (by decide), c46]
  have f48 : fiS b (s 2 9) (lnk s k ow) 48 = s 48 := by rw [fi_o _ _ _ (by decide), c48]
  have hL : ∀ j ∈ lnk s k ow, jR1 b j := by
    intro j hj
    have := ((fi_gV hJ n1 ho hb).2.2.1 j hj).2
    unfold jR1 at this ⊢
    rw [awl_o (by decide), awl_o (by decide), awl_o (by decide), awl_o (by decide), awl_o (by decide)] at this
    exact this
  obtain ⟨c2, c4, c6, c8, c10, c12, c14, c16, c18, c21, c23, c25, c28, c30, c41, c43⟩ := id hb
  refine ⟨by rw [f46]; exact f01_kept hJ, ?_⟩
  rw [now, fc, f1, cm, f2, f46, f48, eL_ad hJ ho e18 (by omega) (by omega), List.foldl_append, c41, c43]
  refine fEq_fold _ _ _ hL ?_
  rw [fold_c (s := s) (t := b) (eL s (s 1 11) (s 2 9))]
  · exact hJ.2.2.2.2.2.2.2.1.2
  · intro j hj
    have m := eL_m (by omega) _ hj
    have E : j < s 2 9 := by omega
    rw [c4, c8, c10, c12, ad_4, ad_8, ad_10, ad_12, if_neg (by omega), if_neg (by omega), if_neg (by omega), if_neg (by omega)]
    exact ⟨rfl, rfl, rfl, rfl⟩
/-- consumers, where they stay as they were -/
theorem jC_fin (hJ : jJ s) (n1 : s 2 9 < 400) (ho : okR s k ow x y w) (hb : bsR s b k ow x y w) (cd : s 2 10 ≤ b 2 10) (c26 : b 26 6 = s 26 6) (c32 : b 32 = s 32) (c34 : b 34 = s 34) (c36 : b 36 = s 36) (c38 : b 38 = s 38) : jC (fiS b (s 2 9) (lnk s k ow)) := by
  have f26 : fiS b (s 2 9) (lnk s k ow) 26 6 = s 26 6 := by rw [fi_o _ _ _ (by decide), c26]
  have f32 : fiS b (s 2 9) (lnk s k ow) 32 = s 32 := by rw [fi_o _ _ _ (by decide), c32]
  have f34 : fiS b (s 2 9) (lnk s k ow) 34 = s 34 := by rw [fi_o _ _ _ (by decide), c34]
  have f36 : fiS b (s 2 9) (lnk s k ow) 36 = s 36 := by rw [fi_o _ _ _ (by decide), c36]
  have f38 : fiS b (s 2 9) (lnk s k ow) 38 = s 38 := by rw [fi_o _ _ _ (by decide), c38]
  have f2d : fiS b (s 2 9) (lnk s k ow) 2 10 = b 2 10 := by rw [fi_o _ _ _ (by decide)]
  refine ⟨fun c h0 h1 => ?_, ?_⟩
  · rw [f26] at h1
    rw [f32, f34, f36, f2d]
    obtain ⟨a1, a2, a3, a4⟩ := hJ.2.2.2.2.2.1.1 c h0 h1
    obtain ⟨x1, x2⟩ := fi_ext hJ n1 ho hb a1.1 a1.2
    refine ⟨a1, ⟨a2.1, by omega⟩, ⟨a3.1, by omega⟩, fun i i0 i1 => ?_⟩
    have := x2 i i0 (by omega)
    rw [this.1, this.2]
    have := a4 i i0 i1
    omega
  · rw [f26, f38]
    exact hJ.2.2.2.2.2.1.2
/-- an open transaction that the record is not part of -/
theorem jT_core (hJ : jJ s) (n1 : s 2 9 < 400) (ho : okR s k ow x y w) (hb : bsR s b k ow x y w) {t : Int} (t0 : 0 ≤ t) (t1 : t < 4) (hne : s 55 t ≠ -1) (hk : ow ≠ s 55 t) :
    (s 23 (s 21 2) ≤ s 55 t ∧ 0 ≤ s 55 t ∧ s 55 t < s 2 9 + 1) ∧ (∀ j, s 55 t < j → j < s 2 9 + 1 → fiS b (s 2 9) (lnk s k ow) 6 j = s 55 t → 3 ≤ fiS b (s 2 9) (lnk s k ow) 4 j ∧ fiS b (s 2 9) (lnk s k ow) 4 j ≤ 6 ∧ fiS b (s 2 9) (lnk s k ow) 18 j = -1) ∧
    s 57 t = sI (fun j => if fiS b (s 2 9) (lnk s k ow) 6 j = s 55 t then 1 else 0) (s 55 t + 1) (s 2 9 + 1) := by
  have B := jb hJ
  have e18 := fi_18' hb
  obtain ⟨c2, c4, c6, c8, c10, c12, c14, c16, c18, c21, c23, c25, c28, c30, c41, c43⟩ := id hb
  have f6 : ∀ j, fiS b (s 2 9) (lnk s k ow) 6 j = if j = s 2 9 then (if k = 0 then s 2 9 else ow) else s 6 j := fun j => by rw [fi_o _ _ _ (by decide), c6, ad_6]
  have f4 : ∀ j, fiS b (s 2 9) (lnk s k ow) 4 j = if j = s 2 9 then k else s 4 j := fun j => by rw [fi_o _ _ _ (by decide), c4, ad_4]
  rcases hJ.2.2.2.1 t t0 t1 with h | ⟨⟨a1, a2, a3⟩, a4, a5, a6⟩
  · exact (hne h).elim
  · have hnew : fiS b (s 2 9) (lnk s k ow) 6 (s 2 9) ≠ s 55 t := by
      rw [f6, if_pos rfl]
      split <;> omega
    refine ⟨⟨a1, a2, by omega⟩, fun j j0 j1 j2 => ?_, ?_⟩
    · by_cases hj : j = s 2 9
      · rw [hj] at j2; exact (hnew j2).elim
      · rw [f6, if_neg hj] at j2
        have q := a4 j j0 (by omega) j2
        rw [f4, if_neg hj, e18, if_neg, if_neg hj]
        · exact q
        · intro hm
          rcases lnk_m.mp hm with hm | hm
          · omega
          · omega
    · rw [sI_l (by omega), if_neg hnew, Int.add_zero, a5]
      refine sI_c _ (fun i p q => ?_)
      have e6 : fiS b (s 2 9) (lnk s k ow) 6 i = s 6 i := by
        rw [f6]
        exact if_neg (by omega)
      rw [e6]
end JF
