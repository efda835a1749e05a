/-! ===== crash: what it keeps, the reference, the pair ===== -/
theorem j_cr {s u : aS} (hJ : jJ s) {cut : Int} (c0 : s 2 10 ≤ cut) (c1 : cut ≤ s 2 9) (h : crR s cut u) : jJ u := by
  have B := jb hJ
  obtain ⟨ho, u9, u10, u18, u30, u36, ⟨u212, u213, u214, u215, u216⟩, u23, u25, u25t, u55, unow⟩ := h
  have CT := cuT_b hJ (cut := cut) (by omega)
  obtain ⟨hB, hR, hD, hT, hV, hC, hS, hN, hH, hY⟩ := id hJ
  obtain ⟨⟨b1, b2, b3, b4, b5⟩, ⟨b6, b7, b8⟩, ⟨b9, b9'⟩, b10, b11, b12⟩ := hB
  have o : ∀ x : Nat, x = 0 ∨ x = 1 ∨ x = 4 ∨ x = 6 ∨ x = 8 ∨ x = 10 ∨ x = 12 ∨ x = 14 ∨ x = 20 ∨ x = 26 ∨ x = 28 ∨ x = 32 ∨ x = 34 ∨ x = 38 ∨ x = 46 ∨ x = 48 ∨ x = 57 ∨ x = 61 ∨ x = 85 → u x = s x := fun x hx => ho x (by omega) (by omega) (by omega) (by omega) (by omega) (by omega) (by omega) (by omega) (by omega) (by omega) (by omega)
  have o1 := o 1 (by decide)
  have o4 := o 4 (by decide)
  have o6 := o 6 (by decide)
  have o8 := o 8 (by decide)
  have o10 := o 10 (by decide)
  have o12 := o 12 (by decide)
  have o14 := o 14 (by decide)
  have o26 := o 26 (by decide)
  have o28 := o 28 (by decide)
  have o32 := o 32 (by decide)
  have o34 := o 34 (by decide)
  have ff : u 23 (u 21 2) = s 23 (s 21 2) := by rw [u212, u23]
  refine ⟨⟨⟨?_, ?_, ?_, ?_, ?_⟩, ⟨?_, ?_, ?_⟩, ⟨?_, ?_⟩, ?_, ?_, ?_⟩, ?_, ?_, ?_, ?_, ⟨?_, ?_⟩, ⟨?_, ?_, ?_, ?_, ?_⟩, ⟨?_, ?_⟩, ?_, ?_⟩
  · rw [u212]; exact b1
  · rw [u212, u213]; exact CT.1
  · rw [u216, u212]; exact b3
  · rw [u214]; exact b4
  · rw [u214]; exact b5
  · rw [ff, u10]; exact b6
  · rw [u9, u10]; exact c0
  · rw [u9]; omega
  · rw [o1]; exact b9
  · rw [o1, u10]; exact b9'
  · rw [o1]; exact b10
  · rw [o26]; exact b11
  · rw [o1]; exact b12
  · intro k k0 k1
    rw [u9] at k1
    obtain ⟨r1, r2⟩ := hR k k0 (by omega)
    refine ⟨?_, ?_⟩
    · unfold jR1 at r1 ⊢
      rw [o4, o8, o10, o12, o14]
      exact r1
    · obtain ⟨a1, a2, a3, a4, a5, a6, a7, a8, a9⟩ := r2
      unfold jR2
      rw [o4, o6, u18 k k0 k1, u9]
      refine ⟨a1, a2, a3, a4, a5, ?_, ?_, ?_, ?_⟩
      · intro h; rw [a6 h, if_neg (by omega)]
      · intro h; rw [a7 h, if_neg (by omega)]
      · intro h
        by_cases hc : cut ≤ s 18 k
        · rw [if_pos hc]; exact Or.inl rfl
        · rw [if_neg hc]
          rcases a8 h with e | ⟨e1, e2, e3, e4⟩
          · exact Or.inl e
          · exact Or.inr ⟨e1, by omega, e3, e4⟩
      · intro h j j0 j1 j2
        have q := a9 h j j0 j1 j2
        have hj0 : 0 ≤ j := by have := a5 (Or.inl h); omega
        rw [u18 j hj0 (by omega), if_neg (by omega)]
        exact q
  · intro k k0 k1
    rw [u9] at k1
    rw [o 20 (by decide), u10]
    exact hD k k0 (by omega)
  · intro t t0 t1
    exact Or.inl (u55 t t0 t1)
  · intro t t0 t1
    obtain ⟨x1, x2, x3, x4⟩ := cb_b (p := cut) hJ t0 t1
    obtain ⟨⟨y1, y2⟩, v1, v2⟩ := hV t t0 t1
    rw [u30 t t0 t1, o28, o4, o8, u9]
    have vlt : ∀ i, 0 ≤ i → i < cbS s t cut → (0 ≤ s 28 (400 * t + i) ∧ s 28 (400 * t + i) < cut) ∧ u 18 (s 28 (400 * t + i)) = s 18 (s 28 (400 * t + i)) := by
      intro i i0 i1
      have q := (v1 i i0 (by omega))
      have E := j_ef hJ q.1.1 q.1.2
      have l := x3 i i0 i1
      have : s 28 (400 * t + i) < cut := by omega
      exact ⟨⟨q.1.1, this⟩, by rw [u18 _ q.1.1 this, if_neg (by omega)]⟩
    refine ⟨⟨x1, by omega⟩, fun i i0 i1 => ?_, fun i j i0 ij j1 => ?_⟩
    · obtain ⟨w1, w2⟩ := vlt i i0 i1
      have q := v1 i i0 (by omega)
      rw [w2]
      exact ⟨w1, q.2.1, q.2.2.1, q.2.2.2⟩
    · rw [(vlt i i0 (by omega)).2, (vlt j (by omega) j1).2]
      exact v2 i j i0 ij (by omega)
  · intro c p0 p1
    rw [o26] at p1
    obtain ⟨a1, a2, a3, a4⟩ := hC.1 c p0 p1
    obtain ⟨x1, x2, x3, x4⟩ := cb_b (p := cut) hJ a1.1 a1.2
    have pc : s 34 c ≤ cbS s (s 32 c) cut := by
      by_cases h : s 34 c ≤ cbS s (s 32 c) cut
      · exact h
      · have h1 := a4 (cbS s (s 32 c) cut) x1 (by omega)
        have h2 := x4 (cbS s (s 32 c) cut) (Int.le_refl _) (by omega)
        omega
    rw [o32, o34, u30 _ a1.1 a1.2, u36 c p0 p1, u10, o28]
    refine ⟨a1, ⟨a2.1, pc⟩, ?_, fun i i0 i1 => ?_⟩
    · split <;> omega
    · have q := (hV (s 32 c) a1.1 a1.2).2.1 i i0 (by omega)
      have l := x3 i i0 (by omega)
      have E := j_ef hJ q.1.1 q.1.2
      rw [u18 _ q.1.1 (by omega), if_neg (by omega)]
      exact a4 i i0 i1
  · rw [o26, o 38 (by decide)]
    exact hC.2
  · intro i i0 i1
    rw [u212] at i0
    rw [u213] at i1
    rw [u23, u23, u25 i i1, o14]
    exact hS.1 i i0 (by omega)
  · rw [ff, u212]; exact hS.2.1
  · rw [u213, u23, u9]; exact CT.2.2.2
  · rw [u213, u25t, u23, u9, o14]
  · rw [ff, u215, u9, o14]
  · rw [o 46 (by decide)]; exact hN.1
  · have ec : fch u = fch s := fch_c o4 o8 o10 o12
    have eE : eL u (s 1 11) cut = eL s (s 1 11) cut := by
      refine eL_cc (by omega) cut (fun j e j0 j1 e0 e1 => ?_)
      rw [u18 j j0 j1]
      by_cases hc : cut ≤ s 18 j
      · rw [if_pos hc]
        constructor <;> intro <;> omega
      · rw [if_neg hc]
    rw [ec, o1, u9, eE, o 46 (by decide), o 48 (by decide)]
    exact unow
  · intro k k0 k1 hk
    rw [ff] at k1
    rw [o4] at hk
    rw [o1, u18 k k0 (by omega)]
    have := hH k k0 k1 hk
    split <;> omega
  · obtain ⟨y1, y2, y3⟩ := hY
    refine ⟨fun i i0 i1 => ?_, by rw [o 0 (by decide)]; exact y2, by rw [o 0 (by decide), o 85 (by decide)]; exact y3⟩
    rw [o1] at i1
    rw [o 61 (by decide), u10]
    exact y1 i i0 i1
section KD
variable {g : qG} {s : aS} {d : Nat} {Q : Int32 → qS → Prop} {T : String → qS → Prop}
theorem fd_b {s : aS} (hJ : jJ s) : s 2 10 ≤ fdS s ∧ fdS s ≤ s 2 9 := by
  have B := jb hJ
  have F := fI_b (p := fun k => decide (s 20 k = 1)) (hi := s 2 9) (s 2 10) (by omega)
  exact ⟨F.1, F.2.1⟩
theorem k_cutAt (hw : qWF g) (hJ : jJ s) {p : Int} (p0 : s 2 10 ≤ p) (p1 : p ≤ s 2 9) (hQ : ∀ u, crR s (mn p (fdS s)) u → Q (iI (s 2 9 - mn p (fdS s))) (qi u)) : qC g (d + 5) mX2_cutAt [.inr 1, .inl (iI p)] (qi s) Q T := by
  have B := jb hJ
  have F := fd_b hJ
  have C0 : s 2 10 ≤ mn p (fdS s) ∧ mn p (fdS s) ≤ s 2 9 := by unfold mn; split <;> omega
  have ec : (if fdS s < p then fdS s else p) = mn p (fdS s) := by unfold mn; split <;> split <;> omega
  refine wX2_cutAt hw (k_firstDamaged hw hJ ?_)
  simp +contextual (disch := omega) only [z_app, z_rd, z_cl, z_add, z_sub, z_mul, z_neg, z_lit, z_le, z_lt, z_eq, z_ite, z_at, z_pt, z_up, z_wr, z_wi, z_inS, z_toInt, z_nb0, z_nb1, Int.cast_ofNat_Int, true_and, and_true, not_true_eq_false, not_false_eq_true, false_imp_iff, true_imp_iff, aup_o, aup_k, ite_true, ite_false, ec]
  refine k_hideFrom hw hJ (by omega) (by omega) (fun u1 a1 a2 a3 => ?_)
  refine k_dropRec hw hJ (by omega) C0.2 (a1 18 (by decide) (by decide)) (fun u2 b1 b2 b3 b4 => ?_)
  have f : ∀ x : Nat, x ≠ 30 → x ≠ 36 → x ≠ 2 → x ≠ 18 → u2 x = s x := fun x h1 h2 h3 h4 => by rw [b1 x h3 h4, a1 x h1 h2]
  refine k_dropSeg hw hJ (by omega) C0.2 (f 14 (by decide) (by decide) (by decide) (by decide)) (f 21 (by decide) (by decide) (by decide) (by decide)) (f 23 (by decide) (by decide) (by decide) (by decide)) (f 25 (by decide) (by decide) (by decide) (by decide)) (fun u3 d1 d2 d3 d4 d5 => ?_)
  rw [z_fl]
  have q : ∀ x : Nat, x ≠ 30 → x ≠ 36 → x ≠ 2 → x ≠ 18 → x ≠ 21 → x ≠ 23 → x ≠ 25 → x ≠ 55 → afl u3 55 ((4 : Nat) : Int) (-1) x = s x := fun x h1 h2 h3 h4 h5 h6 h7 h8 => by rw [afl_o h8, d1 x h5 h6 h7, f x h1 h2 h3 h4]
  have q4 := q 4 (by decide) (by decide) (by decide) (by decide) (by decide) (by decide) (by decide) (by decide)
  have q6 := q 6 (by decide) (by decide) (by decide) (by decide) (by decide) (by decide) (by decide) (by decide)
  have q8 := q 8 (by decide) (by decide) (by decide) (by decide) (by decide) (by decide) (by decide) (by decide)
  have q10 := q 10 (by decide) (by decide) (by decide) (by decide) (by decide) (by decide) (by decide) (by decide)
  have q12 := q 12 (by decide) (by decide) (by decide) (by decide) (by decide) (by decide) (by decide) (by decide)
  have q14 := q 14 (by decide) (by decide) (by decide) (by decide) (by decide) (by decide) (by decide) (by decide)
  have q1 := q 1 (by decide) (by decide) (by decide) (by decide) (by decide) (by decide) (by decide) (by decide)
  have q46 := q 46 (by decide) (by decide) (by decide) (by decide) (by decide) (by decide) (by decide) (by decide)
  have q48 := q 48 (by decide) (by decide) (by decide) (by decide) (by decide) (by decide) (by decide) (by decide)
  have q18 : ∀ k, 0 ≤ k → k < mn p (fdS s) → afl u3 55 ((4 : Nat) : Int) (-1) 18 k = if mn p (fdS s) ≤ s 18 k then -1 else s 18 k := fun k k0 k1 => by rw [afl_o (by decide), d1 18 (by decide) (by decide) (by decide)]; exact b4 k k0 k1
  have eE : eL (afl u3 55 ((4 : Nat) : Int) (-1)) (s 1 11) (mn p (fdS s)) = eL s (s 1 11) (mn p (fdS s)) := by
    refine eL_cc (by omega) _ (fun j e j0 j1 e0 e1 => ?_)
    rw [q18 j j0 j1]
    by_cases hc : mn p (fdS s) ≤ s 18 j
    · rw [if_pos hc]
      constructor <;> intro <;> omega
    · rw [if_neg hc]
  have hl : llS (afl u3 55 ((4 : Nat) : Int) (-1)) (s 1 11) (mn p (fdS s)) = llS s (s 1 11) (mn p (fdS s)) := by
    have : ∀ n, llF (afl u3 55 ((4 : Nat) : Int) (-1)) (s 1 11) n = llF s (s 1 11) n := by
      intro n
      induction n with
      | zero => rfl
      | succ n ih =>
        show llF (afl u3 55 ((4 : Nat) : Int) (-1)) (s 1 11) n ++ lcS (afl u3 55 ((4 : Nat) : Int) (-1)) (s 1 11 + n) = llF s (s 1 11) n ++ lcS s (s 1 11 + n)
        rw [ih]
        congr 1
        unfold lcS
        rw [q4, q6]
    exact this _
  refine k_recover39W hw (by rw [q1]; omega) (by rw [q1]; omega) (by omega) (fun j j0 j1 => ?_) (by rw [q46]; exact f01_kept hJ) (by rw [q1, hl, eE]; exact ll_el hJ (by omega) _ C0.2) (by rw [q1, eE]; exact el_le hJ (by omega) (by omega) C0.2) (fun u4 g1 g2 g3 => ?_)
  · obtain ⟨r1, r2⟩ := hJ.2.1 j j0 (by omega)
    have w2 := r2.1
    refine ⟨?_, ?_, ?_⟩
    · unfold jR1 at r1 ⊢
      rw [q4, q8, q10, q12, q14]
      exact r1
    · rw [q6]; omega
    · rw [q4, q6]
      exact fun h => r2.2.2.1 (by omega)
  · have ecF : fch (afl u3 55 ((4 : Nat) : Int) (-1)) = fch s := fch_c q4 q8 q10 q12
    rw [ecF, q1, eE, q46, q48] at g3
    have e9 : u1 2 9 = s 2 9 := by rw [a1 2 (by decide) (by decide)]
    have FIN := hQ u4 ⟨fun x x2 x18 x21 x23 x25 x30 x36 x41 x43 x55 x59 => by rw [g1 x x41 x43 x59, q x x30 x36 x2 x18 x21 x23 x25 x55], ?_, ?_, fun k k0 k1 => by rw [g1 18 (by decide) (by decide) (by decide)]; exact q18 k k0 k1, fun t t0 t1 => ?_, fun c c0 c1 => ?_, ⟨?_, ?_, ?_, ?_, ?_⟩, fun i => ?_, fun i hi => ?_, ?_, fun t t0 t1 => ?_, g3⟩
    · exact FIN
    · rw [g1 2 (by decide) (by decide) (by decide), afl_o (by decide), d1 2 (by decide) (by decide) (by decide), b2]
    · rw [g1 2 (by decide) (by decide) (by decide), afl_o (by decide), d1 2 (by decide) (by decide) (by decide), b3, a1 2 (by decide) (by decide)]
    · rw [g1 30 (by decide) (by decide) (by decide), afl_o (by decide), d1 30 (by decide) (by decide) (by decide), b1 30 (by decide) (by decide)]; exact a2 t t0 t1
    · rw [g1 36 (by decide) (by decide) (by decide), afl_o (by decide), d1 36 (by decide) (by decide) (by decide), b1 36 (by decide) (by decide)]; exact a3 c c0 c1
    · rw [g1 21 (by decide) (by decide) (by decide), afl_o (by decide)]; exact d2.1
    · rw [g1 21 (by decide) (by decide) (by decide), afl_o (by decide)]; exact d2.2.1
    · rw [g1 21 (by decide) (by decide) (by decide), afl_o (by decide)]; exact d2.2.2.1
    · rw [g1 21 (by decide) (by decide) (by decide), afl_o (by decide)]; exact d2.2.2.2.1
    · rw [g1 21 (by decide) (by decide) (by decide), afl_o (by decide)]; exact d2.2.2.2.2
    · rw [g1 23 (by decide) (by decide) (by decide), afl_o (by decide)]; exact d3 i
    · rw [g1 25 (by decide) (by decide) (by decide), afl_o (by decide)]; exact d4 i hi
    · rw [g1 25 (by decide) (by decide) (by decide), afl_o (by decide)]; exact d5
    · rw [g1 55 (by decide) (by decide) (by decide)]; exact afl_k t0 (by omega)
end KD
