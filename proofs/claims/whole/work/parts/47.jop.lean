/-! ===== operations keep what holds: pure ===== -/
def gV (u : aS) (N e : Int) (l : List Int) : Prop := (0 ≤ N ∧ N ≤ 400) ∧ l.Nodup ∧ (∀ k ∈ l, (0 ≤ k ∧ k < N) ∧ jR1 u k) ∧
  ∀ t, 0 ≤ t → t < 4 → 0 ≤ u 30 t ∧
    (∀ i, 0 ≤ i → i < u 30 t → (0 ≤ u 28 (400 * t + i) ∧ u 28 (400 * t + i) < N) ∧ u 4 (u 28 (400 * t + i)) = 6 ∧ u 8 (u 28 (400 * t + i)) = t ∧ 0 ≤ u 18 (u 28 (400 * t + i)) ∧ u 18 (u 28 (400 * t + i)) ≤ e ∧ u 28 (400 * t + i) ∉ l) ∧
    (∀ i j, 0 ≤ i → i < j → j < u 30 t → u 28 (400 * t + i) ≠ u 28 (400 * t + j) ∧ u 18 (u 28 (400 * t + i)) ≤ u 18 (u 28 (400 * t + j)))
theorem gV_c {u : aS} {N e : Int} {l : List Int} (h : gV u N e l) {t : Int} (t0 : 0 ≤ t) (t1 : t < 4) : u 30 t ≤ N := by
  obtain ⟨hN, -, -, hv⟩ := h
  obtain ⟨c0, v1, v2⟩ := hv t t0 t1
  by_cases hn : u 30 t ≤ N
  · exact hn
  · have := pigeon N.toNat (u 30 t).toNat (fun i => u 28 (400 * t + i)) (fun i hi => ?_) (fun i j hij hj => ?_)
    · omega
    · have := (v1 i (by omega) (by omega)).1
      omega
    · exact (v2 i j (by omega) (by omega) (by omega)).1
theorem gV_lt {u : aS} {N e k : Int} {l : List Int} (h : gV u N e (k :: l)) {t : Int} (t0 : 0 ≤ t) (t1 : t < 4) : u 30 t < N := by
  have hc := gV_c h t0 t1
  obtain ⟨hN, -, hl, hv⟩ := h
  obtain ⟨c0, v1, v2⟩ := hv t t0 t1
  have hk := (hl k List.mem_cons_self).1
  by_cases hn : u 30 t < N
  · exact hn
  · have := pigeon N.toNat ((u 30 t).toNat + 1) (fun i => if (i : Int) < u 30 t then u 28 (400 * t + i) else k) (fun i hi => ?_) (fun i j hij hj => ?_)
    · omega
    · split
      · have := (v1 i (by omega) (by omega)).1
        omega
      · omega
    · rw [if_pos (by omega)]
      split
      · exact (v2 i j (by omega) (by omega) (by omega)).1
      · intro he
        have := (v1 i (by omega) (by omega)).2.2.2.2.2
        rw [he] at this
        exact this List.mem_cons_self
theorem gV_step {u : aS} {N e k : Int} {l : List Int} (e0 : 0 ≤ e) (h : gV u N e (k :: l)) : gV (e1S u e k) N e l := by
  have hlt := fun t t0 t1 => gV_lt h (t := t) t0 t1
  obtain ⟨hN, hnd, hl, hv⟩ := h
  have o4 : e1S u e k 4 = u 4 := e1_o u e k (by decide)
  have o8 : e1S u e k 8 = u 8 := e1_o u e k (by decide)
  have o10 : e1S u e k 10 = u 10 := e1_o u e k (by decide)
  have o12 : e1S u e k 12 = u 12 := e1_o u e k (by decide)
  have o14 : e1S u e k 14 = u 14 := e1_o u e k (by decide)
  have hkl : k ∉ l := (List.nodup_cons.mp hnd).1
  refine ⟨hN, (List.nodup_cons.mp hnd).2, fun j hj => ⟨(hl j (List.mem_cons_of_mem _ hj)).1, ?_⟩, fun t t0 t1 => ?_⟩
  · have := (hl j (List.mem_cons_of_mem _ hj)).2
    unfold jR1 at this ⊢
    rw [o4, o8, o10, o12, o14]
    exact this
  · obtain ⟨c0, v1, v2⟩ := hv t t0 t1
    obtain ⟨hk1, hk2⟩ := hl k List.mem_cons_self
    by_cases h6 : u 4 k = 6 ∧ u 8 k = t
    · -- the list of this topic grows by k
      have e30 : e1S u e k 30 t = u 30 t + 1 := by
        unfold e1S
        rw [if_pos h6.1]
        unfold shS
        rw [aup_k, aup_o (by decide), aup_o (by decide), if_pos h6.2.symm, h6.2]
      have e28 : ∀ i, 0 ≤ i → i ≤ u 30 t → e1S u e k 28 (400 * t + i) = if i = u 30 t then k else u 28 (400 * t + i) := by
        intro i i0 i1
        unfold e1S
        rw [if_pos h6.1]
        unfold shS
        rw [aup_o (by decide), aup_k, aup_o (by decide), aup_o (by decide), aup_o (by decide), h6.2]
        by_cases hi : i = u 30 t
        · rw [if_pos (by omega), if_pos hi]
        · rw [if_neg (by omega), if_neg hi]
      rw [e30, o4, o8]
      refine ⟨by omega, fun i i0 i1 => ?_, fun i j i0 ij j1 => ?_⟩
      · rw [e28 i i0 (by omega)]
        by_cases hi : i = u 30 t
        · rw [if_pos hi, e1_18, if_pos rfl]
          exact ⟨hk1, h6.1, h6.2, e0, Int.le_refl _, hkl⟩
        · rw [if_neg hi]
          obtain ⟨a1, a2, a3, a4, a5, a6⟩ := v1 i i0 (by omega)
          have hne : u 28 (400 * t + i) ≠ k := fun he => a6 (by rw [he]; exact List.mem_cons_self)
          rw [e1_18, if_neg hne]
          exact ⟨a1, a2, a3, a4, a5, fun hm => a6 (List.mem_cons_of_mem _ hm)⟩
      · rw [e28 i i0 (by omega), e28 j (by omega) (by omega), if_neg (by omega)]
        obtain ⟨a1, a2, a3, a4, a5, a6⟩ := v1 i i0 (by omega)
        have hne : u 28 (400 * t + i) ≠ k := fun he => a6 (by rw [he]; exact List.mem_cons_self)
        by_cases hj : j = u 30 t
        · rw [if_pos hj, e1_18, e1_18, if_neg hne, if_pos rfl]
          exact ⟨hne, a5⟩
        · rw [if_neg hj]
          obtain ⟨b1, b2, b3, b4, b5, b6⟩ := v1 j (by omega) (by omega)
          have hne2 : u 28 (400 * t + j) ≠ k := fun he => b6 (by rw [he]; exact List.mem_cons_self)
          rw [e1_18, e1_18, if_neg hne, if_neg hne2]
          exact v2 i j i0 ij (by omega)
    · have e30 : e1S u e k 30 t = u 30 t := by
        unfold e1S
        by_cases h4 : u 4 k = 6
        · rw [if_pos h4]
          unfold shS
          rw [aup_k, aup_o (by decide), aup_o (by decide), if_neg (fun x => h6 ⟨h4, x.symm⟩), aup_o (by decide), aup_o (by decide)]
        · rw [if_neg h4, ap_o (by decide) (by decide), aup_o (by decide)]
      have e28 : ∀ i, 0 ≤ i → i < u 30 t → e1S u e k 28 (400 * t + i) = u 28 (400 * t + i) := by
        intro i i0 i1
        unfold e1S
        by_cases h4 : u 4 k = 6
        · have hb := hk2.2.2.2.2.2.2.2.2.1 h4
          have hb0 := hk2.2.1.1
          have c8 := (hv (u 8 k) hb0 hb.1).1
          have l8 := hlt (u 8 k) hb0 hb.1
          have lt := hlt t t0 t1
          rw [if_pos h4]
          unfold shS
          rw [aup_o (by decide), aup_k, aup_o (by decide), aup_o (by decide), if_neg, aup_o (by decide)]
          intro he
          apply h6
          refine ⟨h4, ?_⟩
          omega
        · rw [if_neg h4, ap_o (by decide) (by decide), aup_o (by decide)]
      rw [e30, o4, o8]
      refine ⟨c0, fun i i0 i1 => ?_, fun i j i0 ij j1 => ?_⟩
      · rw [e28 i i0 i1]
        obtain ⟨a1, a2, a3, a4, a5, a6⟩ := v1 i i0 i1
        have hne : u 28 (400 * t + i) ≠ k := fun he => a6 (by rw [he]; exact List.mem_cons_self)
        rw [e1_18, if_neg hne]
        exact ⟨a1, a2, a3, a4, a5, fun hm => a6 (List.mem_cons_of_mem _ hm)⟩
      · rw [e28 i i0 (by omega), e28 j (by omega) j1]
        obtain ⟨-, -, -, -, -, a6⟩ := v1 i i0 (by omega)
        obtain ⟨-, -, -, -, -, b6⟩ := v1 j (by omega) j1
        have hne : u 28 (400 * t + i) ≠ k := fun he => a6 (by rw [he]; exact List.mem_cons_self)
        have hne2 : u 28 (400 * t + j) ≠ k := fun he => b6 (by rw [he]; exact List.mem_cons_self)
        rw [e1_18, e1_18, if_neg hne, if_neg hne2]
        exact v2 i j i0 ij j1
theorem gV_ok {N e : Int} (e0 : 0 ≤ e) : ∀ (l : List Int) (u : aS), gV u N e l → f01 (u 41) → okE e l u ∧ gV (efS u e l) N e [] := by
  intro l
  induction l with
  | nil => intro u h _; exact ⟨trivial, h⟩
  | cons k t ih =>
    intro u h hf
    have hk := h.2.2.1 k List.mem_cons_self
    have hN := h.1
    have hf2 : f01 (e1S u e k 41) := by
      have := f01_ch (x := (u 41, u 43)) hk.2 hf
      rw [← e1_now u e k] at this
      exact this
    obtain ⟨i1, i2⟩ := ih (e1S u e k) (gV_step e0 h) hf2
    refine ⟨⟨⟨⟨hk.1.1, by omega⟩, hk.2, hf, fun h6 => ?_⟩, i1⟩, i2⟩
    have hb := hk.2.2.2.2.2.2.2.2.2.1 h6
    have := gV_lt h hk.2.2.1.1 hb.1
    have c0 := (h.2.2.2 (u 8 k) hk.2.2.1.1 hb.1).1
    omega
theorem gV_nil {u : aS} {N e : Int} (h : gV u N e []) (hN : u 2 9 = N) : jV u := by
  intro t t0 t1
  have hc := gV_c h t0 t1
  obtain ⟨h0, -, -, hv⟩ := h
  obtain ⟨c0, v1, v2⟩ := hv t t0 t1
  refine ⟨⟨c0, by omega⟩, fun i i0 i1 => ?_, v2⟩
  obtain ⟨a1, a2, a3, a4, a5, a6⟩ := v1 i i0 i1
  rw [hN]
  exact ⟨a1, a2, a3, a4⟩
theorem f01_kept {s : aS} (hJ : jJ s) : f01 (s 46) := hJ.2.2.2.2.2.2.2.1.1
theorem eL_R {s : aS} (hJ : jJ s) {m n : Int} (m0 : 0 ≤ m) (n1 : n ≤ s 2 9) : ∀ k ∈ eL s m n, jR1 s k := by
  intro k hk
  have := eL_m m0 n hk
  exact (hJ.2.1 k this.1 (by omega)).1
theorem f01_now {s : aS} (hJ : jJ s) : f01 (s 41) := by
  have B := jb hJ
  have a := f01_fold (eL s (s 1 11) (s 2 9)) (s 46, s 48) (eL_R hJ (by omega) (Int.le_refl _)) (f01_kept hJ)
  intro f f0 f1
  have e := (hJ.2.2.2.2.2.2.2.1.2 f f0 f1).1
  have := a f f0 f1
  rw [← e] at this
  exact this
theorem lnk_nd {s : aS} {k ow : Int} : (lnk s k ow).Nodup := by
  have key : ∀ (p : Int → Bool) (lo hi : Int), (lI p lo hi).Nodup := by
    intro p lo
    refine stepDown lo (fun hi ih => ?_)
    by_cases h : lo < hi
    · have e := lI_l (p := p) (lo := lo) (hi := hi - 1) (by omega)
      rw [show hi - 1 + 1 = hi by omega] at e
      rw [e]
      refine List.nodup_append.mpr ⟨ih h, ?_, fun x hx y hy => ?_⟩
      · split
        · simp
        · simp
      · have hx' := (lI_m _).mp hx
        split at hy
        · rw [List.mem_singleton] at hy; omega
        · cases hy
    · rw [lI_e (by omega)]; simp
  unfold lnk
  split
  · exact key _ _ _
  · split
    · simp
    · simp
/-- before the effects: the visible messages are those of before -/
theorem gV_ad {s u : aS} {k ow x y w : Int} (hJ : jJ s) (n1 : s 2 9 < 400) (ho : okR s k ow x y w) (c4 : ∀ j, u 4 j = if j = s 2 9 then k else s 4 j) (c8 : ∀ j, u 8 j = if j = s 2 9 then x else s 8 j) (c10 : ∀ j, u 10 j = if j = s 2 9 then y else s 10 j) (c12 : ∀ j, u 12 j = if j = s 2 9 then w else s 12 j) (c14 : ∀ j, u 14 j = if j = s 2 9 then szI k w else s 14 j) (c18 : ∀ j, u 18 j = if j = s 2 9 then -1 else s 18 j) (c28 : u 28 = s 28) (c30 : u 30 = s 30) : gV u (s 2 9 + 1) (s 2 9) (lnk s k ow) := by
  have B := jb hJ
  refine ⟨⟨by omega, by omega⟩, lnk_nd, fun j hj => ?_, fun t t0 t1 => ?_⟩
  · have hm := lnk_m.mp hj
    obtain ⟨⟨k0, k1⟩, x0, y0, w0, q3, q4, q5, q6, q7, ⟨o0, o1⟩, o7, o1', oo⟩ := ho
    have hj0 : 0 ≤ j := by rcases hm with hm | hm <;> omega
    have hj1 : j < s 2 9 + 1 := by rcases hm with hm | hm <;> omega
    refine ⟨⟨hj0, hj1⟩, ?_⟩
    unfold jR1
    rw [c4, c8, c10, c12, c14]
    by_cases h : j = s 2 9
    · rw [if_pos h, if_pos h, if_pos h, if_pos h, if_pos h]
      exact ⟨⟨k0, k1⟩, x0, y0, w0, rfl, q3, q4, q5, q6, q7⟩
    · rw [if_neg h, if_neg h, if_neg h, if_neg h, if_neg h]
      exact (hJ.2.1 j hj0 (by omega)).1
  · obtain ⟨⟨c0, -⟩, v1, v2⟩ := hJ.2.2.2.2.1 t t0 t1
    rw [c28, c30]
    refine ⟨c0, fun i i0 i1 => ?_, fun i j i0 ij j1 => ?_⟩
    · obtain ⟨a1, a2, a3, a4⟩ := v1 i i0 i1
      have E := j_ef hJ a1.1 a1.2
      rw [c4, c8, c18, if_neg (by omega), if_neg (by omega), if_neg (by omega)]
      refine ⟨⟨a1.1, by omega⟩, a2, a3, a4, by omega, fun hm => ?_⟩
      rcases lnk_m.mp hm with hm | hm
      · have := ho.2.2.2.2.2.2.2.2.2.2.2.2 (by have := ho.2.2.2.2.2.2.2.2.2.2.2.1; omega) _ hm.2.1 hm.2.2.1 hm.2.2.2
        omega
      · omega
    · have a1 := (v1 i i0 (by omega)).1
      have b1 := (v1 j (by omega) j1).1
      rw [c18, c18, if_neg (by omega), if_neg (by omega)]
      exact v2 i j i0 ij j1
