/-! ===== what the reference's reading methods answer ===== -/
def eS (s : aS) (i : Int) : Int := if i < s 21 3 - s 21 2 then s 23 (s 21 2 + i + 1) else s 2 9
theorem sI_k {c lo : Int} : ∀ hi : Int, lo ≤ hi → sI (fun _ => c) lo hi = c * (hi - lo) := by
  intro hi h
  have a := sI_lb (f := fun _ => c) (c := c) hi h (fun i _ _ => Int.le_refl _)
  have b := sI_ub (f := fun _ => c) (c := c) hi h (fun i _ _ => Int.le_refl _)
  omega
/-- how many of a range lie in another one -/
theorem sI_in {p q hi : Int} (h0 : 0 ≤ p) (h1 : q ≤ hi) (h2 : p ≤ hi) (h3 : 0 ≤ q) : sI (fun k => if p ≤ k ∧ k < q then 1 else 0) 0 hi = if q - p ≤ 0 then 0 else q - p := by
  have z : ∀ lo up, lo ≤ up → (∀ i, lo ≤ i → i < up → ¬ (p ≤ i ∧ i < q)) → sI (fun k => if p ≤ k ∧ k < q then 1 else 0) lo up = 0 := by
    intro lo up hl hn
    rw [sI_c (g := fun _ => 0) up (fun i a b => if_neg (hn i a b)), sI_k up hl, Int.zero_mul]
  by_cases h : q ≤ p
  · rw [if_pos (by omega)]
    exact z 0 hi (by omega) (fun i _ _ => by omega)
  · rw [if_neg (by omega), sI_s (mid := p) (by omega) hi (by omega), z 0 p (by omega) (fun i _ _ => by omega), sI_s (mid := q) (by omega) hi (by omega), z q hi (by omega) (fun i _ _ => by omega), sI_c (g := fun _ => 1) q (fun i a b => if_pos ⟨a, b⟩), sI_k q (by omega)]
    omega
theorem sp_b {s : aS} (h : jJ s) {c : Int} (h0 : 0 ≤ c) (h1 : c < s 26 6) : 0 ≤ spS s c ∧ spS s c ≤ s 30 (s 32 c) - s 34 c := by
  have C := jc h h0 h1
  unfold spS
  split <;> omega
/-- the least begin of an open transaction, as the class and as the reference count it; the first needed record; the consumers' holds; the hold -/
def lbS (s : aS) : Int := mI (fun t => if s 55 t = -1 then s 2 9 else s 55 t) 0 4 (s 2 9)
def thS (s : aS) : Int := mI (fun t => if s 55 t = -1 then 401 else s 55 t) 0 4 401
def lnS (s : aS) : Int := fI (fun k => decide (s 4 k ≠ 6 ∧ s 1 11 ≤ s 18 k)) (s 23 (s 21 2)) (s 2 9)
def chS (s : aS) (w : Int) : Int := mI (fun c => if c = w then s 2 9 else hdS s c) 0 (s 26 6) (s 2 9)
def hwS (s : aS) (w : Int) : Int := mI (fun c => if c = w then s 2 9 else hdS s c) 0 (s 26 6) (mn (mn (s 2 10) (lbS s)) (lnS s))
theorem jt {s : aS} (h : jJ s) {t : Int} (h0 : 0 ≤ t) (h1 : t < 4) : -1 ≤ s 55 t ∧ s 55 t < 400 := by
  have B := jb h
  rcases h.2.2.2.1 t h0 h1 with a | ⟨⟨a1, a2, a3⟩, -⟩ <;> omega
theorem th_lb {s : aS} (h : jJ s) : mn (s 2 10) (thS s) = mn (s 2 10) (lbS s) := by
  have B := jb h
  obtain ⟨a1, a2, a3⟩ := mI_b (f := fun t => if s 55 t = -1 then s 2 9 else s 55 t) (hi := 4) 0 (s 2 9)
  obtain ⟨b1, b2, b3⟩ := mI_b (f := fun t => if s 55 t = -1 then 401 else s 55 t) (hi := 4) 0 401
  have e1 : lbS s = mI (fun t => if s 55 t = -1 then s 2 9 else s 55 t) 0 4 (s 2 9) := rfl
  have e2 : thS s = mI (fun t => if s 55 t = -1 then 401 else s 55 t) 0 4 401 := rfl
  rw [← e1] at a1 a2 a3
  rw [← e2] at b1 b2 b3
  have k1 : lbS s = s 2 9 ∨ thS s ≤ lbS s := by
    rcases a3 with a3 | ⟨i, i0, i1, i2⟩
    · exact Or.inl a3
    · have := b2 i i0 i1
      by_cases hh : s 55 i = -1
      · rw [if_pos hh] at i2; exact Or.inl i2
      · rw [if_neg hh] at i2 this; right; omega
  have k2 : thS s = 401 ∨ lbS s ≤ thS s := by
    rcases b3 with b3 | ⟨i, i0, i1, i2⟩
    · exact Or.inl b3
    · have := a2 i i0 i1
      by_cases hh : s 55 i = -1
      · rw [if_pos hh] at i2; exact Or.inl i2
      · rw [if_neg hh] at i2 this; right; omega
  unfold mn
  split <;> split <;> omega
theorem lb_b {s : aS} (h : jJ s) : 0 ≤ lbS s ∧ lbS s ≤ s 2 9 := by
  have B := jb h
  obtain ⟨a1, a2, a3⟩ := mI_b (f := fun t => if s 55 t = -1 then s 2 9 else s 55 t) (hi := 4) 0 (s 2 9)
  refine ⟨?_, a1⟩
  show 0 ≤ mI (fun t => if s 55 t = -1 then s 2 9 else s 55 t) 0 4 (s 2 9)
  rcases a3 with a3 | ⟨i, i0, i1, i2⟩
  · omega
  · have := jt h i0 i1
    rw [i2]
    split <;> omega
theorem ln_b {s : aS} (h : jJ s) : s 23 (s 21 2) ≤ lnS s ∧ lnS s ≤ s 2 9 := by
  have B := jb h
  have := fI_b (p := fun k => decide (s 4 k ≠ 6 ∧ s 1 11 ≤ s 18 k)) (hi := s 2 9) (s 23 (s 21 2)) (by omega)
  exact ⟨this.1, this.2.1⟩
theorem hw_eq {s : aS} (h : jJ s) (w : Int) : hwS s w = mn (mn (mn (s 2 10) (thS s)) (lnS s)) (chS s w) := by
  have B := jb h
  have b1 := lb_b h
  unfold hwS chS
  rw [th_lb h]
  have e : mn (mn (s 2 10) (lbS s)) (lnS s) = mn (mn (mn (s 2 10) (lbS s)) (lnS s)) (s 2 9) := by
    unfold mn
    repeat' split
    all_goals omega
  have e2 := mI_mn (f := fun c => if c = w then s 2 9 else hdS s c) (hi := s 26 6) 0 (mn (mn (s 2 10) (lbS s)) (lnS s)) (s 2 9)
  rw [← e] at e2
  exact e2
theorem ch_b {s : aS} (h : jJ s) (w : Int) : 0 ≤ chS s w ∧ chS s w ≤ s 2 9 := by
  have B := jb h
  obtain ⟨a1, a2, a3⟩ := mI_b (f := fun c => if c = w then s 2 9 else hdS s c) (hi := s 26 6) 0 (s 2 9)
  refine ⟨?_, a1⟩
  show 0 ≤ mI (fun c => if c = w then s 2 9 else hdS s c) 0 (s 26 6) (s 2 9)
  rcases a3 with a3 | ⟨i, i0, i1, i2⟩
  · omega
  · have := hd_b h i0 i1
    rw [i2]
    split <;> omega
theorem th_b {s : aS} (h : jJ s) : 0 ≤ thS s ∧ thS s ≤ 401 := by
  obtain ⟨a1, a2, a3⟩ := mI_b (f := fun t => if s 55 t = -1 then 401 else s 55 t) (hi := 4) 0 401
  refine ⟨?_, a1⟩
  show 0 ≤ mI (fun t => if s 55 t = -1 then 401 else s 55 t) 0 4 401
  rcases a3 with a3 | ⟨i, i0, i1, i2⟩
  · omega
  · have := jt h i0 i1
    rw [i2]
    split <;> omega
theorem hw_b {s : aS} (h : jJ s) (w : Int) : 0 ≤ hwS s w ∧ hwS s w ≤ s 2 10 ∧ hwS s w ≤ lbS s ∧ hwS s w ≤ lnS s ∧ (∀ c, 0 ≤ c → c < s 26 6 → c ≠ w → hwS s w ≤ hdS s c) := by
  have B := jb h
  have b1 := lb_b h
  have b2 := ln_b h
  obtain ⟨a1, a2, a3⟩ := mI_b (f := fun c => if c = w then s 2 9 else hdS s c) (hi := s 26 6) 0 (mn (mn (s 2 10) (lbS s)) (lnS s))
  have e : hwS s w = mI (fun c => if c = w then s 2 9 else hdS s c) 0 (s 26 6) (mn (mn (s 2 10) (lbS s)) (lnS s)) := rfl
  rw [← e] at a1 a2 a3
  have m1 := mn_l (mn (s 2 10) (lbS s)) (lnS s)
  have m2 := mn_r (mn (s 2 10) (lbS s)) (lnS s)
  have m3 := mn_l (s 2 10) (lbS s)
  have m4 := mn_r (s 2 10) (lbS s)
  refine ⟨?_, by omega, by omega, by omega, fun c c0 c1 c2 => ?_⟩
  · rcases a3 with a3 | ⟨i, i0, i1, i2⟩
    · rcases mn_or (mn (s 2 10) (lbS s)) (lnS s) with e1 | e1 <;> rcases mn_or (s 2 10) (lbS s) with e2 | e2 <;> omega
    · have := hd_b h i0 i1
      split at i2 <;> omega
  · have := a2 c c0 c1
    rw [if_neg c2] at this
    exact this
/-- how far a hold lets the log be trimmed -/
def tkS (s : aS) (h : Int) : Int := fI (fun i => decide (h < s 23 (i + 1))) (s 21 2) (s 21 3)
/-- the consumer with the least hold -/
def lhF (s : aS) : Int → Nat → Int → Int
  | _, 0, b => b
  | c, n + 1, b => lhF s (c + 1) n (if b = -1 ∨ hdS s c < hdS s b then c else b)
def lhS (s : aS) (c b : Int) : Int := lhF s c (s 26 6 - c).toNat b
theorem lh_e {s : aS} {c b : Int} (h : s 26 6 ≤ c) : lhS s c b = b := by
  unfold lhS
  rw [show (s 26 6 - c).toNat = 0 by omega]
  rfl
theorem lh_f {s : aS} {c b : Int} (h : c < s 26 6) : lhS s c b = lhS s (c + 1) (if b = -1 ∨ hdS s c < hdS s b then c else b) := by
  unfold lhS
  rw [show (s 26 6 - c).toNat = (s 26 6 - (c + 1)).toNat + 1 by omega]
  rfl
def lgF (s : aS) : Int → Nat → Int → Int
  | _, 0, b => b
  | c, n + 1, b => lgF s (c + 1) n (if 0 < asS s c ∧ (b = -1 ∨ hdS s c < hdS s b) then c else b)
def lgS (s : aS) (c b : Int) : Int := lgF s c (s 26 6 - c).toNat b
theorem lg_e {s : aS} {c b : Int} (h : s 26 6 ≤ c) : lgS s c b = b := by
  unfold lgS
  rw [show (s 26 6 - c).toNat = 0 by omega]
  rfl
theorem lg_f {s : aS} {c b : Int} (h : c < s 26 6) : lgS s c b = lgS s (c + 1) (if 0 < asS s c ∧ (b = -1 ∨ hdS s c < hdS s b) then c else b) := by
  unfold lgS
  rw [show (s 26 6 - c).toNat = (s 26 6 - (c + 1)).toNat + 1 by omega]
  rfl
theorem as_hd {s : aS} (h : jJ s) {c : Int} (h0 : 0 ≤ c) (h1 : c < s 26 6) : (0 < asS s c → hdS s c < s 2 9) ∧ (¬ 0 < asS s c → hdS s c = s 2 9 ∧ asS s c = 0) := by
  have C := jc h h0 h1
  have em : mx (s 34 c) (s 36 c) = s 34 c + spS s c := by unfold mx spS; split <;> split <;> omega
  have S := sp_b h h0 h1
  have ea : asS s c = s 30 (s 32 c) - s 34 c - spS s c := rfl
  refine ⟨fun hp => ?_, fun hn => ⟨?_, by omega⟩⟩
  · obtain ⟨-, a2, -⟩ := mI_b (f := fun i => s 28 (400 * s 32 c + i)) (hi := s 30 (s 32 c)) (mx (s 34 c) (s 36 c)) (s 2 9)
    have a := a2 (mx (s 34 c) (s 36 c)) (Int.le_refl _) (by omega)
    have b := jv h (t := s 32 c) (i := mx (s 34 c) (s 36 c)) C.1 C.2.1 (by omega) (by omega)
    exact Int.lt_of_le_of_lt a b.2
  · exact mI_e (by omega)
/-- the one that lags is the one with the least hold, if that one has a message that is not spilled -/
theorem lg_lh {s : aS} (h : jJ s) : ∀ c b b' : Int, 0 ≤ c → ((b = -1 ∧ b' = -1) ∨ (0 ≤ b ∧ b < s 26 6 ∧ hdS s b = s 2 9 ∧ b' = -1) ∨ (0 ≤ b ∧ b < s 26 6 ∧ hdS s b < s 2 9 ∧ b' = b)) →
    ((lhS s c b = -1 ∧ lgS s c b' = -1) ∨ (0 ≤ lhS s c b ∧ lhS s c b < s 26 6 ∧ hdS s (lhS s c b) = s 2 9 ∧ lgS s c b' = -1) ∨ (0 ≤ lhS s c b ∧ lhS s c b < s 26 6 ∧ hdS s (lhS s c b) < s 2 9 ∧ lgS s c b' = lhS s c b)) := by
  refine stepUp (s 26 6) (fun c ih b b' h0 hb => ?_)
  by_cases hc : c < s 26 6
  · rw [lh_f hc, lg_f hc]
    refine ih hc _ _ (by omega) ?_
    obtain ⟨p1, p2⟩ := as_hd h h0 hc
    have hb0 := hd_b h h0 hc
    by_cases hp : 0 < asS s c
    · have q := p1 hp
      rcases hb with ⟨e1, e2⟩ | ⟨e1, e2, e3, e4⟩ | ⟨e1, e2, e3, e4⟩
      · rw [if_pos (Or.inl e1), if_pos ⟨hp, Or.inl e2⟩]
        exact Or.inr (Or.inr ⟨h0, hc, q, rfl⟩)
      · rw [if_pos (Or.inr (by omega)), if_pos ⟨hp, Or.inl e4⟩]
        exact Or.inr (Or.inr ⟨h0, hc, q, rfl⟩)
      · subst e4
        by_cases hl : hdS s c < hdS s b'
        · rw [if_pos (Or.inr hl), if_pos ⟨hp, Or.inr hl⟩]
          exact Or.inr (Or.inr ⟨h0, hc, q, rfl⟩)
        · rw [if_neg (by omega), if_neg (by omega)]
          exact Or.inr (Or.inr ⟨e1, e2, e3, rfl⟩)
    · have q := (p2 hp).1
      rw [if_neg (c := 0 < asS s c ∧ (b' = -1 ∨ hdS s c < hdS s b')) (fun x => hp x.1)]
      rcases hb with ⟨e1, e2⟩ | ⟨e1, e2, e3, e4⟩ | ⟨e1, e2, e3, e4⟩
      · rw [if_pos (Or.inl e1)]
        exact Or.inr (Or.inl ⟨h0, hc, q, e2⟩)
      · rw [if_neg (by omega)]
        exact Or.inr (Or.inl ⟨e1, e2, e3, e4⟩)
      · rw [if_neg (by omega)]
        exact Or.inr (Or.inr ⟨e1, e2, e3, e4⟩)
  · rw [lh_e (by omega), lg_e (by omega)]
    exact hb
theorem j_ef {s : aS} (h : jJ s) {k : Int} (h0 : 0 ≤ k) (h1 : k < s 2 9) : -1 ≤ s 18 k ∧ s 18 k < s 2 9 ∧ (s 18 k = -1 ∨ k ≤ s 18 k) := by
  obtain ⟨⟨⟨t1, t2⟩, -⟩, ⟨o1, o2⟩, -, -, r7, -, r3, r4, r5, -⟩ := h.2.1 k h0 h1
  by_cases h8 : s 4 k ≤ 2 ∨ s 4 k = 8
  · have := r3 h8; omega
  by_cases ho : s 6 k = -1
  · have := r4 ⟨by omega, by omega, ho⟩; omega
  by_cases h7 : s 4 k = 7
  · have := r7 (Or.inl h7); omega
  rcases r5 ⟨by omega, by omega, by omega⟩ with e | ⟨e1, e2, -⟩ <;> omega
section MR2
variable {g : qG} {s a : aS} {d : Nat} {Q : Int32 → qS → Prop} {T : String → qS → Prop}
theorem m_bytes_l (hw : qWF g) (hJ : jJ s) (hr : rL s a) : ∀ i x : Int, 0 ≤ i → i ≤ s 2 9 → Q (iI (x + sI (s 14) i (s 2 9))) (qi a) → qV g mX10_bytes (d + 1) 0 7 [some (.inr 86), some (.inl (iI x)), some (.inl (iI i))] [] (qi a) Q T := by
  have B := jb hJ
  refine stepUp (s 2 9) (fun i ih x h0 h1 hQ => wX10_bytes_7 hw ?_)
  by_cases h : i < s 2 9
  · simp +contextual (disch := omega) only [z_app, z_rd, z_cl, z_add, z_sub, z_mul, z_neg, z_lit, z_leT, z_leF, z_ltT, z_ltF, z_eqT, z_eqF, i_leT, i_leF, i_ltT, i_ltF, i_eqT, i_eqF, z_le, z_lt, z_eq, z_ite, z_at, z_pt, z_up, z_wr, z_wi1, z_wi0, z_wi, z_inS, z_toInt, z_nb0, z_nb1, Int.cast_ofNat_Int, true_and, and_true, not_true_eq_false, not_false_eq_true, false_imp_iff, true_imp_iff, aup_o, aup_k, ite_true, ite_false, z_fa000, z_fa001, z_fa010, z_fa011, z_fa100, z_fa101, z_fa110, z_fa111, if_true, if_false, rs_3 hr, rs_4 hr, rs_5 hr, rs_15 hr, rs_16 hr, rs_19 hr, rs_20 hr, rs_27 hr, rs_28 hr, rs_34 hr, rr_88 hr, rr_89 hr, rr_90 hr, rr_91 hr, rr_92 hr, rr_93 hr, rr_94 hr, rr_95 hr, rr_96 hr, rg_97 hr, rg_98 hr, rt_99 hr, rv_100 hr, rv_101 hr, rc_102 hr, rc_103 hr, rp_104 hr]
    rw [sI_f _ h, ← Int.add_assoc] at hQ
    exact ih h _ (by omega) (by omega) hQ
  · simp +contextual (disch := omega) only [z_app, z_rd, z_cl, z_add, z_sub, z_mul, z_neg, z_lit, z_leT, z_leF, z_ltT, z_ltF, z_eqT, z_eqF, i_leT, i_leF, i_ltT, i_ltF, i_eqT, i_eqF, z_le, z_lt, z_eq, z_ite, z_at, z_pt, z_up, z_wr, z_wi1, z_wi0, z_wi, z_inS, z_toInt, z_nb0, z_nb1, Int.cast_ofNat_Int, true_and, and_true, not_true_eq_false, not_false_eq_true, false_imp_iff, true_imp_iff, aup_o, aup_k, ite_true, ite_false, z_fa000, z_fa001, z_fa010, z_fa011, z_fa100, z_fa101, z_fa110, z_fa111, if_true, if_false, rs_3 hr, rs_4 hr, rs_5 hr, rs_15 hr, rs_16 hr, rs_19 hr, rs_20 hr, rs_27 hr, rs_28 hr, rs_34 hr, rr_88 hr, rr_89 hr, rr_90 hr, rr_91 hr, rr_92 hr, rr_93 hr, rr_94 hr, rr_95 hr, rr_96 hr, rg_97 hr, rg_98 hr, rt_99 hr, rv_100 hr, rv_101 hr, rc_102 hr, rc_103 hr, rp_104 hr]
    rw [sI_e (by omega), Int.add_zero] at hQ
    exact hQ
theorem m_bytes (hw : qWF g) (hJ : jJ s) (hr : rL s a) (hQ : Q (iI (s 21 5)) (qi a)) : qC g (d + 1) mX10_bytes [.inr 86] (qi a) Q T := by
  have B := jb hJ
  refine wX10_bytes hw ?_
  simp +contextual (disch := omega) only [z_app, z_rd, z_cl, z_add, z_sub, z_mul, z_neg, z_lit, z_leT, z_leF, z_ltT, z_ltF, z_eqT, z_eqF, i_leT, i_leF, i_ltT, i_ltF, i_eqT, i_eqF, z_le, z_lt, z_eq, z_ite, z_at, z_pt, z_up, z_wr, z_wi1, z_wi0, z_wi, z_inS, z_toInt, z_nb0, z_nb1, Int.cast_ofNat_Int, true_and, and_true, not_true_eq_false, not_false_eq_true, false_imp_iff, true_imp_iff, aup_o, aup_k, ite_true, ite_false, z_fa000, z_fa001, z_fa010, z_fa011, z_fa100, z_fa101, z_fa110, z_fa111, if_true, if_false, rs_3 hr, rs_4 hr, rs_5 hr, rs_15 hr, rs_16 hr, rs_19 hr, rs_20 hr, rs_27 hr, rs_28 hr, rs_34 hr, rr_88 hr, rr_89 hr, rr_90 hr, rr_91 hr, rr_92 hr, rr_93 hr, rr_94 hr, rr_95 hr, rr_96 hr, rg_97 hr, rg_98 hr, rt_99 hr, rv_100 hr, rv_101 hr, rc_102 hr, rc_103 hr, rp_104 hr, Int.add_zero]
  refine m_bytes_l hw hJ hr _ _ (by omega) (by omega) ?_
  rw [hJ.2.2.2.2.2.2.1.2.2.2.2] at hQ
  rw [Int.zero_add]
  exact hQ
theorem m_endOf (hw : qWF g) (hJ : jJ s) (hr : rL s a) {i : Int} (h0 : 0 ≤ i) (h1 : i ≤ s 21 3 - s 21 2) (hQ : Q (iI (eS s i)) (qi a)) : qC g (d + 1) mX10_endOf [.inr 86, .inl (iI i)] (qi a) Q T := by
  have B := jb hJ
  refine wX10_endOf hw ?_
  unfold eS at hQ
  by_cases h : i < s 21 3 - s 21 2
  · rw [if_pos h] at hQ
    simp +contextual (disch := omega) only [z_app, z_rd, z_cl, z_add, z_sub, z_mul, z_neg, z_lit, z_leT, z_leF, z_ltT, z_ltF, z_eqT, z_eqF, i_leT, i_leF, i_ltT, i_ltF, i_eqT, i_eqF, z_le, z_lt, z_eq, z_ite, z_at, z_pt, z_up, z_wr, z_wi1, z_wi0, z_wi, z_inS, z_toInt, z_nb0, z_nb1, Int.cast_ofNat_Int, true_and, and_true, not_true_eq_false, not_false_eq_true, false_imp_iff, true_imp_iff, aup_o, aup_k, ite_true, ite_false, z_fa000, z_fa001, z_fa010, z_fa011, z_fa100, z_fa101, z_fa110, z_fa111, if_true, if_false, rs_3 hr, rs_4 hr, rs_5 hr, rs_15 hr, rs_16 hr, rs_19 hr, rs_20 hr, rs_27 hr, rs_28 hr, rs_34 hr, rr_88 hr, rr_89 hr, rr_90 hr, rr_91 hr, rr_92 hr, rr_93 hr, rr_94 hr, rr_95 hr, rr_96 hr, rg_97 hr, rg_98 hr, rt_99 hr, rv_100 hr, rv_101 hr, rc_102 hr, rc_103 hr, rp_104 hr]
    rw [← Int.add_assoc]
    exact hQ
  · rw [if_neg h] at hQ
    simp +contextual (disch := omega) only [z_app, z_rd, z_cl, z_add, z_sub, z_mul, z_neg, z_lit, z_leT, z_leF, z_ltT, z_ltF, z_eqT, z_eqF, i_leT, i_leF, i_ltT, i_ltF, i_eqT, i_eqF, z_le, z_lt, z_eq, z_ite, z_at, z_pt, z_up, z_wr, z_wi1, z_wi0, z_wi, z_inS, z_toInt, z_nb0, z_nb1, Int.cast_ofNat_Int, true_and, and_true, not_true_eq_false, not_false_eq_true, false_imp_iff, true_imp_iff, aup_o, aup_k, ite_true, ite_false, z_fa000, z_fa001, z_fa010, z_fa011, z_fa100, z_fa101, z_fa110, z_fa111, if_true, if_false, rs_3 hr, rs_4 hr, rs_5 hr, rs_15 hr, rs_16 hr, rs_19 hr, rs_20 hr, rs_27 hr, rs_28 hr, rs_34 hr, rr_88 hr, rr_89 hr, rr_90 hr, rr_91 hr, rr_92 hr, rr_93 hr, rr_94 hr, rr_95 hr, rr_96 hr, rg_97 hr, rg_98 hr, rt_99 hr, rv_100 hr, rv_101 hr, rc_102 hr, rc_103 hr, rp_104 hr]
    exact hQ
theorem e_b (hJ : jJ s) {i : Int} (h0 : 0 ≤ i) (h1 : i ≤ s 21 3 - s 21 2) : 0 ≤ s 23 (s 21 2 + i) ∧ s 23 (s 21 2 + i) ≤ eS s i ∧ eS s i ≤ s 2 9 ∧ s 25 (s 21 2 + i) = sI (s 14) (s 23 (s 21 2 + i)) (eS s i) := by
  have B := jb hJ
  obtain ⟨hB, -, -, -, -, -, hS, -⟩ := hJ
  have a1 := j_mono hS (i := s 21 2) (Int.le_refl _) (s 21 2 + i) (by omega) (by omega)
  have b3 := hS.2.2.1
  unfold eS
  by_cases h : i < s 21 3 - s 21 2
  · rw [if_pos h]
    obtain ⟨a2, a3⟩ := hS.1 (s 21 2 + i) (by omega) (by omega)
    have a4 := j_mono hS (i := s 21 2 + i + 1) (by omega) (s 21 3) (by omega) (Int.le_refl _)
    exact ⟨by omega, by omega, by omega, a3⟩
  · rw [if_neg h]
    have e : s 21 2 + i = s 21 3 := by omega
    rw [e] at a1 ⊢
    exact ⟨by omega, b3, Int.le_refl _, hS.2.2.2.1⟩
theorem m_bytesOf_l (hw : qWF g) (hJ : jJ s) (hr : rL s a) {i : Int} (h0 : 0 ≤ i) (h1 : i ≤ s 21 3 - s 21 2) : ∀ k x : Int, 0 ≤ k → k ≤ eS s i → Q (iI (x + sI (s 14) k (eS s i))) (qi a) → qV g mX10_bytesOf (d + 2) 0 9 [some (.inr 86), some (.inl (iI i)), some (.inl (iI x)), some (.inl (iI k))] [] (qi a) Q T := by
  have B := jb hJ
  have E := e_b hJ h0 h1
  refine stepUp (eS s i) (fun k ih x k0 k1 hQ => wX10_bytesOf_9 hw ?_)
  refine m_endOf hw hJ hr h0 h1 ?_
  by_cases h : k < eS s i
  · simp +contextual (disch := omega) only [z_app, z_rd, z_cl, z_add, z_sub, z_mul, z_neg, z_lit, z_leT, z_leF, z_ltT, z_ltF, z_eqT, z_eqF, i_leT, i_leF, i_ltT, i_ltF, i_eqT, i_eqF, z_le, z_lt, z_eq, z_ite, z_at, z_pt, z_up, z_wr, z_wi1, z_wi0, z_wi, z_inS, z_toInt, z_nb0, z_nb1, Int.cast_ofNat_Int, true_and, and_true, not_true_eq_false, not_false_eq_true, false_imp_iff, true_imp_iff, aup_o, aup_k, ite_true, ite_false, z_fa000, z_fa001, z_fa010, z_fa011, z_fa100, z_fa101, z_fa110, z_fa111, if_true, if_false, rs_3 hr, rs_4 hr, rs_5 hr, rs_15 hr, rs_16 hr, rs_19 hr, rs_20 hr, rs_27 hr, rs_28 hr, rs_34 hr, rr_88 hr, rr_89 hr, rr_90 hr, rr_91 hr, rr_92 hr, rr_93 hr, rr_94 hr, rr_95 hr, rr_96 hr, rg_97 hr, rg_98 hr, rt_99 hr, rv_100 hr, rv_101 hr, rc_102 hr, rc_103 hr, rp_104 hr]
    rw [sI_f _ h, ← Int.add_assoc] at hQ
    exact ih h _ (by omega) (by omega) hQ
  · simp +contextual (disch := omega) only [z_app, z_rd, z_cl, z_add, z_sub, z_mul, z_neg, z_lit, z_leT, z_leF, z_ltT, z_ltF, z_eqT, z_eqF, i_leT, i_leF, i_ltT, i_ltF, i_eqT, i_eqF, z_le, z_lt, z_eq, z_ite, z_at, z_pt, z_up, z_wr, z_wi1, z_wi0, z_wi, z_inS, z_toInt, z_nb0, z_nb1, Int.cast_ofNat_Int, true_and, and_true, not_true_eq_false, not_false_eq_true, false_imp_iff, true_imp_iff, aup_o, aup_k, ite_true, ite_false, z_fa000, z_fa001, z_fa010, z_fa011, z_fa100, z_fa101, z_fa110, z_fa111, if_true, if_false, rs_3 hr, rs_4 hr, rs_5 hr, rs_15 hr, rs_16 hr, rs_19 hr, rs_20 hr, rs_27 hr, rs_28 hr, rs_34 hr, rr_88 hr, rr_89 hr, rr_90 hr, rr_91 hr, rr_92 hr, rr_93 hr, rr_94 hr, rr_95 hr, rr_96 hr, rg_97 hr, rg_98 hr, rt_99 hr, rv_100 hr, rv_101 hr, rc_102 hr, rc_103 hr, rp_104 hr]
    rw [sI_e (by omega), Int.add_zero] at hQ
    exact hQ
theorem m_bytesOf (hw : qWF g) (hJ : jJ s) (hr : rL s a) {i : Int} (h0 : 0 ≤ i) (h1 : i ≤ s 21 3 - s 21 2) (hQ : Q (iI (s 25 (s 21 2 + i))) (qi a)) : qC g (d + 2) mX10_bytesOf [.inr 86, .inl (iI i)] (qi a) Q T := by
  have B := jb hJ
  have E := e_b hJ h0 h1
  refine wX10_bytesOf hw ?_
  simp +contextual (disch := omega) only [z_app, z_rd, z_cl, z_add, z_sub, z_mul, z_neg, z_lit, z_leT, z_leF, z_ltT, z_ltF, z_eqT, z_eqF, i_leT, i_leF, i_ltT, i_ltF, i_eqT, i_eqF, z_le, z_lt, z_eq, z_ite, z_at, z_pt, z_up, z_wr, z_wi1, z_wi0, z_wi, z_inS, z_toInt, z_nb0, z_nb1, Int.cast_ofNat_Int, true_and, and_true, not_true_eq_false, not_false_eq_true, false_imp_iff, true_imp_iff, aup_o, aup_k, ite_true, ite_false, z_fa000, z_fa001, z_fa010, z_fa011, z_fa100, z_fa101, z_fa110, z_fa111, if_true, if_false, rs_3 hr, rs_4 hr, rs_5 hr, rs_15 hr, rs_16 hr, rs_19 hr, rs_20 hr, rs_27 hr, rs_28 hr, rs_34 hr, rr_88 hr, rr_89 hr, rr_90 hr, rr_91 hr, rr_92 hr, rr_93 hr, rr_94 hr, rr_95 hr, rr_96 hr, rg_97 hr, rg_98 hr, rt_99 hr, rv_100 hr, rv_101 hr, rc_102 hr, rc_103 hr, rp_104 hr]
  refine m_bytesOf_l hw hJ hr h0 h1 _ _ E.1 E.2.1 ?_
  rw [E.2.2.2] at hQ
  rw [Int.zero_add]
  exact hQ
theorem m_spilledOf_l (hw : qWF g) (hJ : jJ s) (hr : rL s a) {c : Int} (c0 : 0 ≤ c) (c1 : c < s 26 6) : ∀ k x : Int, 0 ≤ k → k ≤ 400 → Q (iI (x + sI (fun k => if s 34 c ≤ k ∧ k < s 36 c then 1 else 0) k 400)) (qi a) → qV g mX10_spilledOf (d + 2) 0 4 [some (.inr 86), some (.inl (iI c)), some (.inl (iI x)), some (.inl (iI k))] [] (qi a) Q T := by
  have B := jb hJ
  refine stepUp 400 (fun k ih x k0 k1 hQ => wX10_spilledOf_4 hw ?_)
  by_cases h : k < 400
  · simp +contextual (disch := omega) only [z_app, z_rd, z_cl, z_add, z_sub, z_mul, z_neg, z_lit, z_leT, z_leF, z_ltT, z_ltF, z_eqT, z_eqF, i_leT, i_leF, i_ltT, i_ltF, i_eqT, i_eqF, z_le, z_lt, z_eq, z_ite, z_at, z_pt, z_up, z_wr, z_wi1, z_wi0, z_wi, z_inS, z_toInt, z_nb0, z_nb1, Int.cast_ofNat_Int, true_and, and_true, not_true_eq_false, not_false_eq_true, false_imp_iff, true_imp_iff, aup_o, aup_k, ite_true, ite_false, z_fa000, z_fa001, z_fa010, z_fa011, z_fa100, z_fa101, z_fa110, z_fa111, if_true, if_false, rs_3 hr, rs_4 hr, rs_5 hr, rs_15 hr, rs_16 hr, rs_19 hr, rs_20 hr, rs_27 hr, rs_28 hr, rs_34 hr, rr_88 hr, rr_89 hr, rr_90 hr, rr_91 hr, rr_92 hr, rr_93 hr, rr_94 hr, rr_95 hr, rr_96 hr, rg_97 hr, rg_98 hr, rt_99 hr, rv_100 hr, rv_101 hr, rc_102 hr, rc_103 hr, rp_104 hr]
    rw [sI_f _ h, ← Int.add_assoc] at hQ
    refine m_isAside hw hr c0 (by omega) k0 h (fun hh => ?_) (fun hh => ?_)
    · simp +contextual (disch := omega) only [z_app, z_rd, z_cl, z_add, z_sub, z_mul, z_neg, z_lit, z_leT, z_leF, z_ltT, z_ltF, z_eqT, z_eqF, i_leT, i_leF, i_ltT, i_ltF, i_eqT, i_eqF, z_le, z_lt, z_eq, z_ite, z_at, z_pt, z_up, z_wr, z_wi1, z_wi0, z_wi, z_inS, z_toInt, z_nb0, z_nb1, Int.cast_ofNat_Int, true_and, and_true, not_true_eq_false, not_false_eq_true, false_imp_iff, true_imp_iff, aup_o, aup_k, ite_true, ite_false, z_fa000, z_fa001, z_fa010, z_fa011, z_fa100, z_fa101, z_fa110, z_fa111, if_true, if_false, rs_3 hr, rs_4 hr, rs_5 hr, rs_15 hr, rs_16 hr, rs_19 hr, rs_20 hr, rs_27 hr, rs_28 hr, rs_34 hr, rr_88 hr, rr_89 hr, rr_90 hr, rr_91 hr, rr_92 hr, rr_93 hr, rr_94 hr, rr_95 hr, rr_96 hr, rg_97 hr, rg_98 hr, rt_99 hr, rv_100 hr, rv_101 hr, rc_102 hr, rc_103 hr, rp_104 hr]
      rw [if_pos hh.2] at hQ
      exact ih h _ (by omega) (by omega) hQ
    · simp +contextual (disch := omega) only [z_app, z_rd, z_cl, z_add, z_sub, z_mul, z_neg, z_lit, z_leT, z_leF, z_ltT, z_ltF, z_eqT, z_eqF, i_leT, i_leF, i_ltT, i_ltF, i_eqT, i_eqF, z_le, z_lt, z_eq, z_ite, z_at, z_pt, z_up, z_wr, z_wi1, z_wi0, z_wi, z_inS, z_toInt, z_nb0, z_nb1, Int.cast_ofNat_Int, true_and, and_true, not_true_eq_false, not_false_eq_true, false_imp_iff, true_imp_iff, aup_o, aup_k, ite_true, ite_false, z_fa000, z_fa001, z_fa010, z_fa011, z_fa100, z_fa101, z_fa110, z_fa111, if_true, if_false, rs_3 hr, rs_4 hr, rs_5 hr, rs_15 hr, rs_16 hr, rs_19 hr, rs_20 hr, rs_27 hr, rs_28 hr, rs_34 hr, rr_88 hr, rr_89 hr, rr_90 hr, rr_91 hr, rr_92 hr, rr_93 hr, rr_94 hr, rr_95 hr, rr_96 hr, rg_97 hr, rg_98 hr, rt_99 hr, rv_100 hr, rv_101 hr, rc_102 hr, rc_103 hr, rp_104 hr]
      rw [if_neg (fun x => hh ⟨c1, x⟩)] at hQ
      exact ih h _ (by omega) (by omega) hQ
  · simp +contextual (disch := omega) only [z_app, z_rd, z_cl, z_add, z_sub, z_mul, z_neg, z_lit, z_leT, z_leF, z_ltT, z_ltF, z_eqT, z_eqF, i_leT, i_leF, i_ltT, i_ltF, i_eqT, i_eqF, z_le, z_lt, z_eq, z_ite, z_at, z_pt, z_up, z_wr, z_wi1, z_wi0, z_wi, z_inS, z_toInt, z_nb0, z_nb1, Int.cast_ofNat_Int, true_and, and_true, not_true_eq_false, not_false_eq_true, false_imp_iff, true_imp_iff, aup_o, aup_k, ite_true, ite_false, z_fa000, z_fa001, z_fa010, z_fa011, z_fa100, z_fa101, z_fa110, z_fa111, if_true, if_false, rs_3 hr, rs_4 hr, rs_5 hr, rs_15 hr, rs_16 hr, rs_19 hr, rs_20 hr, rs_27 hr, rs_28 hr, rs_34 hr, rr_88 hr, rr_89 hr, rr_90 hr, rr_91 hr, rr_92 hr, rr_93 hr, rr_94 hr, rr_95 hr, rr_96 hr, rg_97 hr, rg_98 hr, rt_99 hr, rv_100 hr, rv_101 hr, rc_102 hr, rc_103 hr, rp_104 hr]
    rw [sI_e (by omega), Int.add_zero] at hQ
    exact hQ
theorem m_spilledOf (hw : qWF g) (hJ : jJ s) (hr : rL s a) {c : Int} (c0 : 0 ≤ c) (c1 : c < s 26 6) (hQ : Q (iI (spS s c)) (qi a)) : qC g (d + 2) mX10_spilledOf [.inr 86, .inl (iI c)] (qi a) Q T := by
  have C := jc hJ c0 c1
  refine wX10_spilledOf hw ?_
  refine ⟨rfl, m_spilledOf_l hw hJ hr c0 c1 0 0 (by omega) (by omega) ?_⟩
  rw [sI_in (by omega) (by omega) (by omega) (by omega), Int.zero_add]
  exact hQ
theorem m_spilled_l (hw : qWF g) (hJ : jJ s) (hr : rL s a) : ∀ c x : Int, 0 ≤ c → c ≤ s 26 6 → Q (iI (x + sI (spS s) c (s 26 6))) (qi a) → qV g mX10_spilled (d + 3) 0 4 [some (.inr 86), some (.inl (iI x)), some (.inl (iI c))] [] (qi a) Q T := by
  have B := jb hJ
  refine stepUp (s 26 6) (fun c ih x c0 c1 hQ => wX10_spilled_4 hw ?_)
  by_cases h : c < s 26 6
  · simp +contextual (disch := omega) only [z_app, z_rd, z_cl, z_add, z_sub, z_mul, z_neg, z_lit, z_leT, z_leF, z_ltT, z_ltF, z_eqT, z_eqF, i_leT, i_leF, i_ltT, i_ltF, i_eqT, i_eqF, z_le, z_lt, z_eq, z_ite, z_at, z_pt, z_up, z_wr, z_wi1, z_wi0, z_wi, z_inS, z_toInt, z_nb0, z_nb1, Int.cast_ofNat_Int, true_and, and_true, not_true_eq_false, not_false_eq_true, false_imp_iff, true_imp_iff, aup_o, aup_k, ite_true, ite_false, z_fa000, z_fa001, z_fa010, z_fa011, z_fa100, z_fa101, z_fa110, z_fa111, if_true, if_false, rs_3 hr, rs_4 hr, rs_5 hr, rs_15 hr, rs_16 hr, rs_19 hr, rs_20 hr, rs_27 hr, rs_28 hr, rs_34 hr, rr_88 hr, rr_89 hr, rr_90 hr, rr_91 hr, rr_92 hr, rr_93 hr, rr_94 hr, rr_95 hr, rr_96 hr, rg_97 hr, rg_98 hr, rt_99 hr, rv_100 hr, rv_101 hr, rc_102 hr, rc_103 hr, rp_104 hr]
    rw [sI_f _ h, ← Int.add_assoc] at hQ
    refine m_spilledOf hw hJ hr c0 h ?_
    simp +contextual (disch := omega) only [z_app, z_rd, z_cl, z_add, z_sub, z_mul, z_neg, z_lit, z_leT, z_leF, z_ltT, z_ltF, z_eqT, z_eqF, i_leT, i_leF, i_ltT, i_ltF, i_eqT, i_eqF, z_le, z_lt, z_eq, z_ite, z_at, z_pt, z_up, z_wr, z_wi1, z_wi0, z_wi, z_inS, z_toInt, z_nb0, z_nb1, Int.cast_ofNat_Int, true_and, and_true, not_true_eq_false, not_false_eq_true, false_imp_iff, true_imp_iff, aup_o, aup_k, ite_true, ite_false, z_fa000, z_fa001, z_fa010, z_fa011, z_fa100, z_fa101, z_fa110, z_fa111, if_true, if_false, rs_3 hr, rs_4 hr, rs_5 hr, rs_15 hr, rs_16 hr, rs_19 hr, rs_20 hr, rs_27 hr, rs_28 hr, rs_34 hr, rr_88 hr, rr_89 hr, rr_90 hr, rr_91 hr, rr_92 hr, rr_93 hr, rr_94 hr, rr_95 hr, rr_96 hr, rg_97 hr, rg_98 hr, rt_99 hr, rv_100 hr, rv_101 hr, rc_102 hr, rc_103 hr, rp_104 hr]
    exact ih h _ (by omega) (by omega) hQ
  · simp +contextual (disch := omega) only [z_app, z_rd, z_cl, z_add, z_sub, z_mul, z_neg, z_lit, z_leT, z_leF, z_ltT, z_ltF, z_eqT, z_eqF, i_leT, i_leF, i_ltT, i_ltF, i_eqT, i_eqF, z_le, z_lt, z_eq, z_ite, z_at, z_pt, z_up, z_wr, z_wi1, z_wi0, z_wi, z_inS, z_toInt, z_nb0, z_nb1, Int.cast_ofNat_Int, true_and, and_true, not_true_eq_false, not_false_eq_true, false_imp_iff, true_imp_iff, aup_o, aup_k, ite_true, ite_false, z_fa000, z_fa001, z_fa010, z_fa011, z_fa100, z_fa101, z_fa110, z_fa111, if_true, if_false, rs_3 hr, rs_4 hr, rs_5 hr, rs_15 hr, rs_16 hr, rs_19 hr, rs_20 hr, rs_27 hr, rs_28 hr, rs_34 hr, rr_88 hr, rr_89 hr, rr_90 hr, rr_91 hr, rr_92 hr, rr_93 hr, rr_94 hr, rr_95 hr, rr_96 hr, rg_97 hr, rg_98 hr, rt_99 hr, rv_100 hr, rv_101 hr, rc_102 hr, rc_103 hr, rp_104 hr]
    rw [sI_e (by omega), Int.add_zero] at hQ
    exact hQ
theorem m_spilled (hw : qWF g) (hJ : jJ s) (hr : rL s a) (hQ : Q (iI (sI (spS s) 0 (s 26 6))) (qi a)) : qC g (d + 3) mX10_spilled [.inr 86] (qi a) Q T := by
  have B := jb hJ
  refine wX10_spilled hw ?_
  refine ⟨rfl, m_spilled_l hw hJ hr 0 0 (by omega) (by omega) ?_⟩
  rw [Int.zero_add]
  exact hQ
theorem m_holdOf_l (hw : qWF g) (hJ : jJ s) (hr : rL s a) {c : Int} (c0 : 0 ≤ c) (c1 : c < s 26 6) : ∀ k x : Int, s 34 c ≤ k → k ≤ s 30 (s 32 c) → 0 ≤ x → x ≤ 400 → Q (iI (mI (fun i => s 28 (400 * s 32 c + i)) (mx k (s 36 c)) (s 30 (s 32 c)) x)) (qi a) → qV g mX10_holdOf (d + 2) 0 20 [some (.inr 86), some (.inl (iI c)), some (.inl (iI x)), some (.inl (iI (s 32 c))), some (.inl (iI k))] [] (qi a) Q T := by
  have B := jb hJ
  have C := jc hJ c0 c1
  refine stepUp (s 30 (s 32 c)) (fun k ih x k0 k1 x0 x1 hQ => wX10_holdOf_20 hw ?_)
  by_cases h : k < s 30 (s 32 c)
  · have V := jv hJ (t := s 32 c) (i := k) C.1 C.2.1 (by omega) h
    simp +contextual (disch := omega) only [z_app, z_rd, z_cl, z_add, z_sub, z_mul, z_neg, z_lit, z_leT, z_leF, z_ltT, z_ltF, z_eqT, z_eqF, i_leT, i_leF, i_ltT, i_ltF, i_eqT, i_eqF, z_le, z_lt, z_eq, z_ite, z_at, z_pt, z_up, z_wr, z_wi1, z_wi0, z_wi, z_inS, z_toInt, z_nb0, z_nb1, Int.cast_ofNat_Int, true_and, and_true, not_true_eq_false, not_false_eq_true, false_imp_iff, true_imp_iff, aup_o, aup_k, ite_true, ite_false, z_fa000, z_fa001, z_fa010, z_fa011, z_fa100, z_fa101, z_fa110, z_fa111, if_true, if_false, rs_3 hr, rs_4 hr, rs_5 hr, rs_15 hr, rs_16 hr, rs_19 hr, rs_20 hr, rs_27 hr, rs_28 hr, rs_34 hr, rr_88 hr, rr_89 hr, rr_90 hr, rr_91 hr, rr_92 hr, rr_93 hr, rr_94 hr, rr_95 hr, rr_96 hr, rg_97 hr, rg_98 hr, rt_99 hr, rv_100 hr, rv_101 hr, rc_102 hr, rc_103 hr, rp_104 hr]
    refine m_isAside hw hr c0 (by omega) (by omega) (by omega) (fun hh => ?_) (fun hh => ?_)
    · simp +contextual (disch := omega) only [z_app, z_rd, z_cl, z_add, z_sub, z_mul, z_neg, z_lit, z_leT, z_leF, z_ltT, z_ltF, z_eqT, z_eqF, i_leT, i_leF, i_ltT, i_ltF, i_eqT, i_eqF, z_le, z_lt, z_eq, z_ite, z_at, z_pt, z_up, z_wr, z_wi1, z_wi0, z_wi, z_inS, z_toInt, z_nb0, z_nb1, Int.cast_ofNat_Int, true_and, and_true, not_true_eq_false, not_false_eq_true, false_imp_iff, true_imp_iff, aup_o, aup_k, ite_true, ite_false, z_fa000, z_fa001, z_fa010, z_fa011, z_fa100, z_fa101, z_fa110, z_fa111, if_true, if_false, rs_3 hr, rs_4 hr, rs_5 hr, rs_15 hr, rs_16 hr, rs_19 hr, rs_20 hr, rs_27 hr, rs_28 hr, rs_34 hr, rr_88 hr, rr_89 hr, rr_90 hr, rr_91 hr, rr_92 hr, rr_93 hr, rr_94 hr, rr_95 hr, rr_96 hr, rg_97 hr, rg_98 hr, rt_99 hr, rv_100 hr, rv_101 hr, rc_102 hr, rc_103 hr, rp_104 hr]
      have e : mx (k + 1) (s 36 c) = mx k (s 36 c) := by unfold mx; split <;> split <;> omega
      rw [← e] at hQ
      exact ih h _ (by omega) (by omega) x0 x1 hQ
    · simp +contextual (disch := omega) only [z_app, z_rd, z_cl, z_add, z_sub, z_mul, z_neg, z_lit, z_leT, z_leF, z_ltT, z_ltF, z_eqT, z_eqF, i_leT, i_leF, i_ltT, i_ltF, i_eqT, i_eqF, z_le, z_lt, z_eq, z_ite, z_at, z_pt, z_up, z_wr, z_wi1, z_wi0, z_wi, z_inS, z_toInt, z_nb0, z_nb1, Int.cast_ofNat_Int, true_and, and_true, not_true_eq_false, not_false_eq_true, false_imp_iff, true_imp_iff, aup_o, aup_k, ite_true, ite_false, z_fa000, z_fa001, z_fa010, z_fa011, z_fa100, z_fa101, z_fa110, z_fa111, if_true, if_false, rs_3 hr, rs_4 hr, rs_5 hr, rs_15 hr, rs_16 hr, rs_19 hr, rs_20 hr, rs_27 hr, rs_28 hr, rs_34 hr, rr_88 hr, rr_89 hr, rr_90 hr, rr_91 hr, rr_92 hr, rr_93 hr, rr_94 hr, rr_95 hr, rr_96 hr, rg_97 hr, rg_98 hr, rt_99 hr, rv_100 hr, rv_101 hr, rc_102 hr, rc_103 hr, rp_104 hr]
      have e1 : mx k (s 36 c) = k := by unfold mx; split <;> omega
      have e2 : mx (k + 1) (s 36 c) = k + 1 := by unfold mx; split <;> omega
      refine m_recordOf hw hr C.1 C.2.1 (by omega) h (by omega) ?_
      simp +contextual (disch := omega) only [z_app, z_rd, z_cl, z_add, z_sub, z_mul, z_neg, z_lit, z_leT, z_leF, z_ltT, z_ltF, z_eqT, z_eqF, i_leT, i_leF, i_ltT, i_ltF, i_eqT, i_eqF, z_le, z_lt, z_eq, z_ite, z_at, z_pt, z_up, z_wr, z_wi1, z_wi0, z_wi, z_inS, z_toInt, z_nb0, z_nb1, Int.cast_ofNat_Int, true_and, and_true, not_true_eq_false, not_false_eq_true, false_imp_iff, true_imp_iff, aup_o, aup_k, ite_true, ite_false, z_fa000, z_fa001, z_fa010, z_fa011, z_fa100, z_fa101, z_fa110, z_fa111, if_true, if_false, rs_3 hr, rs_4 hr, rs_5 hr, rs_15 hr, rs_16 hr, rs_19 hr, rs_20 hr, rs_27 hr, rs_28 hr, rs_34 hr, rr_88 hr, rr_89 hr, rr_90 hr, rr_91 hr, rr_92 hr, rr_93 hr, rr_94 hr, rr_95 hr, rr_96 hr, rg_97 hr, rg_98 hr, rt_99 hr, rv_100 hr, rv_101 hr, rc_102 hr, rc_103 hr, rp_104 hr]
      rw [e1, mI_f h] at hQ
      refine ih h _ (by omega) (by omega) ?_ ?_ ?_
      · split <;> omega
      · split <;> omega
      · rw [e2]
        exact hQ
  · simp +contextual (disch := omega) only [z_app, z_rd, z_cl, z_add, z_sub, z_mul, z_neg, z_lit, z_leT, z_leF, z_ltT, z_ltF, z_eqT, z_eqF, i_leT, i_leF, i_ltT, i_ltF, i_eqT, i_eqF, z_le, z_lt, z_eq, z_ite, z_at, z_pt, z_up, z_wr, z_wi1, z_wi0, z_wi, z_inS, z_toInt, z_nb0, z_nb1, Int.cast_ofNat_Int, true_and, and_true, not_true_eq_false, not_false_eq_true, false_imp_iff, true_imp_iff, aup_o, aup_k, ite_true, ite_false, z_fa000, z_fa001, z_fa010, z_fa011, z_fa100, z_fa101, z_fa110, z_fa111, if_true, if_false, rs_3 hr, rs_4 hr, rs_5 hr, rs_15 hr, rs_16 hr, rs_19 hr, rs_20 hr, rs_27 hr, rs_28 hr, rs_34 hr, rr_88 hr, rr_89 hr, rr_90 hr, rr_91 hr, rr_92 hr, rr_93 hr, rr_94 hr, rr_95 hr, rr_96 hr, rg_97 hr, rg_98 hr, rt_99 hr, rv_100 hr, rv_101 hr, rc_102 hr, rc_103 hr, rp_104 hr]
    rw [mI_e (by unfold mx; split <;> omega)] at hQ
    exact hQ
theorem m_holdOf (hw : qWF g) (hJ : jJ s) (hr : rL s a) {c : Int} (c0 : 0 ≤ c) (c1 : c < s 26 6) (hQ : Q (iI (hdS s c)) (qi a)) : qC g (d + 2) mX10_holdOf [.inr 86, .inl (iI c)] (qi a) Q T := by
  have B := jb hJ
  have C := jc hJ c0 c1
  refine wX10_holdOf hw ?_
  simp +contextual (disch := omega) only [z_app, z_rd, z_cl, z_add, z_sub, z_mul, z_neg, z_lit, z_leT, z_leF, z_ltT, z_ltF, z_eqT, z_eqF, i_leT, i_leF, i_ltT, i_ltF, i_eqT, i_eqF, z_le, z_lt, z_eq, z_ite, z_at, z_pt, z_up, z_wr, z_wi1, z_wi0, z_wi, z_inS, z_toInt, z_nb0, z_nb1, Int.cast_ofNat_Int, true_and, and_true, not_true_eq_false, not_false_eq_true, false_imp_iff, true_imp_iff, aup_o, aup_k, ite_true, ite_false, z_fa000, z_fa001, z_fa010, z_fa011, z_fa100, z_fa101, z_fa110, z_fa111, if_true, if_false, rs_3 hr, rs_4 hr, rs_5 hr, rs_15 hr, rs_16 hr, rs_19 hr, rs_20 hr, rs_27 hr, rs_28 hr, rs_34 hr, rr_88 hr, rr_89 hr, rr_90 hr, rr_91 hr, rr_92 hr, rr_93 hr, rr_94 hr, rr_95 hr, rr_96 hr, rg_97 hr, rg_98 hr, rt_99 hr, rv_100 hr, rv_101 hr, rc_102 hr, rc_103 hr, rp_104 hr]
  exact m_holdOf_l hw hJ hr c0 c1 _ _ (Int.le_refl _) C.2.2.2.1 (by omega) (by omega) hQ
theorem m_transactionHold_l (hw : qWF g) (hJ : jJ s) (hr : rL s a) : ∀ t x : Int, 0 ≤ t → t ≤ 4 → 0 ≤ x → x ≤ 401 → Q (iI (mI (fun t => if s 55 t = -1 then 401 else s 55 t) t 4 x)) (qi a) → qV g mX10_transactionHold (d + 1) 0 6 [some (.inr 86), some (.inl (iI x)), some (.inl (iI t))] [] (qi a) Q T := by
  refine stepUp 4 (fun t ih x t0 t1 x0 x1 hQ => wX10_transactionHold_6 hw ?_)
  by_cases h : t < 4
  · have J := jt hJ t0 h
    rw [mI_f h] at hQ
    by_cases hb : s 55 t = -1
    · simp +contextual (disch := omega) only [z_app, z_rd, z_cl, z_add, z_sub, z_mul, z_neg, z_lit, z_leT, z_leF, z_ltT, z_ltF, z_eqT, z_eqF, i_leT, i_leF, i_ltT, i_ltF, i_eqT, i_eqF, z_le, z_lt, z_eq, z_ite, z_at, z_pt, z_up, z_wr, z_wi1, z_wi0, z_wi, z_inS, z_toInt, z_nb0, z_nb1, Int.cast_ofNat_Int, true_and, and_true, not_true_eq_false, not_false_eq_true, false_imp_iff, true_imp_iff, aup_o, aup_k, ite_true, ite_false, z_fa000, z_fa001, z_fa010, z_fa011, z_fa100, z_fa101, z_fa110, z_fa111, if_true, if_false, rs_3 hr, rs_4 hr, rs_5 hr, rs_15 hr, rs_16 hr, rs_19 hr, rs_20 hr, rs_27 hr, rs_28 hr, rs_34 hr, rr_88 hr, rr_89 hr, rr_90 hr, rr_91 hr, rr_92 hr, rr_93 hr, rr_94 hr, rr_95 hr, rr_96 hr, rg_97 hr, rg_98 hr, rt_99 hr, rv_100 hr, rv_101 hr, rc_102 hr, rc_103 hr, rp_104 hr]
      rw [if_pos hb, show mn x 401 = x by unfold mn; split <;> omega] at hQ
      exact ih h _ (by omega) (by omega) x0 x1 hQ
    · simp +contextual (disch := omega) only [z_app, z_rd, z_cl, z_add, z_sub, z_mul, z_neg, z_lit, z_leT, z_leF, z_ltT, z_ltF, z_eqT, z_eqF, i_leT, i_leF, i_ltT, i_ltF, i_eqT, i_eqF, z_le, z_lt, z_eq, z_ite, z_at, z_pt, z_up, z_wr, z_wi1, z_wi0, z_wi, z_inS, z_toInt, z_nb0, z_nb1, Int.cast_ofNat_Int, true_and, and_true, not_true_eq_false, not_false_eq_true, false_imp_iff, true_imp_iff, aup_o, aup_k, ite_true, ite_false, z_fa000, z_fa001, z_fa010, z_fa011, z_fa100, z_fa101, z_fa110, z_fa111, if_true, if_false, rs_3 hr, rs_4 hr, rs_5 hr, rs_15 hr, rs_16 hr, rs_19 hr, rs_20 hr, rs_27 hr, rs_28 hr, rs_34 hr, rr_88 hr, rr_89 hr, rr_90 hr, rr_91 hr, rr_92 hr, rr_93 hr, rr_94 hr, rr_95 hr, rr_96 hr, rg_97 hr, rg_98 hr, rt_99 hr, rv_100 hr, rv_101 hr, rc_102 hr, rc_103 hr, rp_104 hr]
      rw [if_neg hb] at hQ
      exact ih h _ (by omega) (by omega) (by split <;> omega) (by split <;> omega) hQ
  · simp +contextual (disch := omega) only [z_app, z_rd, z_cl, z_add, z_sub, z_mul, z_neg, z_lit, z_leT, z_leF, z_ltT, z_ltF, z_eqT, z_eqF, i_leT, i_leF, i_ltT, i_ltF, i_eqT, i_eqF, z_le, z_lt, z_eq, z_ite, z_at, z_pt, z_up, z_wr, z_wi1, z_wi0, z_wi, z_inS, z_toInt, z_nb0, z_nb1, Int.cast_ofNat_Int, true_and, and_true, not_true_eq_false, not_false_eq_true, false_imp_iff, true_imp_iff, aup_o, aup_k, ite_true, ite_false, z_fa000, z_fa001, z_fa010, z_fa011, z_fa100, z_fa101, z_fa110, z_fa111, if_true, if_false, rs_3 hr, rs_4 hr, rs_5 hr, rs_15 hr, rs_16 hr, rs_19 hr, rs_20 hr, rs_27 hr, rs_28 hr, rs_34 hr, rr_88 hr, rr_89 hr, rr_90 hr, rr_91 hr, rr_92 hr, rr_93 hr, rr_94 hr, rr_95 hr, rr_96 hr, rg_97 hr, rg_98 hr, rt_99 hr, rv_100 hr, rv_101 hr, rc_102 hr, rc_103 hr, rp_104 hr]
    rw [mI_e (by omega)] at hQ
    exact hQ
theorem m_transactionHold (hw : qWF g) (hJ : jJ s) (hr : rL s a) (hQ : Q (iI (thS s)) (qi a)) : qC g (d + 1) mX10_transactionHold [.inr 86] (qi a) Q T :=
  wX10_transactionHold hw ⟨rfl, m_transactionHold_l hw hJ hr 0 401 (by omega) (by omega) (by omega) (by omega) hQ⟩
theorem m_effectHold_l (hw : qWF g) (hJ : jJ s) (hr : rL s a) : ∀ (k : Int) (o : Option qP), 0 ≤ k → k ≤ s 2 9 → Q (iI (fI (fun k => decide (s 4 k ≠ 6 ∧ s 1 11 ≤ s 18 k)) k (s 2 9))) (qi a) → qV g mX10_effectHold (d + 1) 0 5 [some (.inr 86), some (.inl (iI k)), o] [] (qi a) Q T := by
  have B := jb hJ
  refine stepUp (s 2 9) (fun k ih o k0 k1 hQ => wX10_effectHold_5 hw ?_)
  by_cases h : k < s 2 9
  · have E := j_ef hJ k0 h
    have R := (hJ.2.1 k k0 h).1.1
    have r3 := (hJ.2.1 k k0 h).2.2.2.2.2.2.1
    rw [fI_f h] at hQ
    by_cases hm : s 4 k ≠ 6 ∧ s 1 11 ≤ s 18 k
    · rw [if_pos (decide_eq_true hm)] at hQ
      obtain ⟨hm1, hm2⟩ := hm
      have hx : s 4 k = 7 ∨ (3 ≤ s 4 k ∧ s 4 k ≤ 5) := by
        by_cases h8 : s 4 k ≤ 2 ∨ s 4 k = 8
        · have := r3 h8; omega
        · omega
      rcases hx with hx | hx
      · simp +contextual (disch := omega) only [z_app, z_rd, z_cl, z_add, z_sub, z_mul, z_neg, z_lit, z_leT, z_leF, z_ltT, z_ltF, z_eqT, z_eqF, i_leT, i_leF, i_ltT, i_ltF, i_eqT, i_eqF, z_le, z_lt, z_eq, z_ite, z_at, z_pt, z_up, z_wr, z_wi1, z_wi0, z_wi, z_inS, z_toInt, z_nb0, z_nb1, Int.cast_ofNat_Int, true_and, and_true, not_true_eq_false, not_false_eq_true, false_imp_iff, true_imp_iff, aup_o, aup_k, ite_true, ite_false, z_fa000, z_fa001, z_fa010, z_fa011, z_fa100, z_fa101, z_fa110, z_fa111, if_true, if_false, rs_3 hr, rs_4 hr, rs_5 hr, rs_15 hr, rs_16 hr, rs_19 hr, rs_20 hr, rs_27 hr, rs_28 hr, rs_34 hr, rr_88 hr, rr_89 hr, rr_90 hr, rr_91 hr, rr_92 hr, rr_93 hr, rr_94 hr, rr_95 hr, rr_96 hr, rg_97 hr, rg_98 hr, rt_99 hr, rv_100 hr, rv_101 hr, rc_102 hr, rc_103 hr, rp_104 hr]
        exact hQ
      · simp +contextual (disch := omega) only [z_app, z_rd, z_cl, z_add, z_sub, z_mul, z_neg, z_lit, z_leT, z_leF, z_ltT, z_ltF, z_eqT, z_eqF, i_leT, i_leF, i_ltT, i_ltF, i_eqT, i_eqF, z_le, z_lt, z_eq, z_ite, z_at, z_pt, z_up, z_wr, z_wi1, z_wi0, z_wi, z_inS, z_toInt, z_nb0, z_nb1, Int.cast_ofNat_Int, true_and, and_true, not_true_eq_false, not_false_eq_true, false_imp_iff, true_imp_iff, aup_o, aup_k, ite_true, ite_false, z_fa000, z_fa001, z_fa010, z_fa011, z_fa100, z_fa101, z_fa110, z_fa111, if_true, if_false, rs_3 hr, rs_4 hr, rs_5 hr, rs_15 hr, rs_16 hr, rs_19 hr, rs_20 hr, rs_27 hr, rs_28 hr, rs_34 hr, rr_88 hr, rr_89 hr, rr_90 hr, rr_91 hr, rr_92 hr, rr_93 hr, rr_94 hr, rr_95 hr, rr_96 hr, rg_97 hr, rg_98 hr, rt_99 hr, rv_100 hr, rv_101 hr, rc_102 hr, rc_103 hr, rp_104 hr]
        exact hQ
    · rw [if_neg (by simpa using hm)] at hQ
      by_cases h3 : 3 ≤ s 4 k ∧ s 4 k ≤ 5
      · have e2 : s 18 k < s 1 11 := by omega
        by_cases h4 : s 18 k = -1
        · simp +contextual (disch := omega) only [z_app, z_rd, z_cl, z_add, z_sub, z_mul, z_neg, z_lit, z_leT, z_leF, z_ltT, z_ltF, z_eqT, z_eqF, i_leT, i_leF, i_ltT, i_ltF, i_eqT, i_eqF, z_le, z_lt, z_eq, z_ite, z_at, z_pt, z_up, z_wr, z_wi1, z_wi0, z_wi, z_inS, z_toInt, z_nb0, z_nb1, Int.cast_ofNat_Int, true_and, and_true, not_true_eq_false, not_false_eq_true, false_imp_iff, true_imp_iff, aup_o, aup_k, ite_true, ite_false, z_fa000, z_fa001, z_fa010, z_fa011, z_fa100, z_fa101, z_fa110, z_fa111, if_true, if_false, rs_3 hr, rs_4 hr, rs_5 hr, rs_15 hr, rs_16 hr, rs_19 hr, rs_20 hr, rs_27 hr, rs_28 hr, rs_34 hr, rr_88 hr, rr_89 hr, rr_90 hr, rr_91 hr, rr_92 hr, rr_93 hr, rr_94 hr, rr_95 hr, rr_96 hr, rg_97 hr, rg_98 hr, rt_99 hr, rv_100 hr, rv_101 hr, rc_102 hr, rc_103 hr, rp_104 hr]
          exact ih h _ (by omega) (by omega) hQ
        · simp +contextual (disch := omega) only [z_app, z_rd, z_cl, z_add, z_sub, z_mul, z_neg, z_lit, z_leT, z_leF, z_ltT, z_ltF, z_eqT, z_eqF, i_leT, i_leF, i_ltT, i_ltF, i_eqT, i_eqF, z_le, z_lt, z_eq, z_ite, z_at, z_pt, z_up, z_wr, z_wi1, z_wi0, z_wi, z_inS, z_toInt, z_nb0, z_nb1, Int.cast_ofNat_Int, true_and, and_true, not_true_eq_false, not_false_eq_true, false_imp_iff, true_imp_iff, aup_o, aup_k, ite_true, ite_false, z_fa000, z_fa001, z_fa010, z_fa011, z_fa100, z_fa101, z_fa110, z_fa111, if_true, if_false, rs_3 hr, rs_4 hr, rs_5 hr, rs_15 hr, rs_16 hr, rs_19 hr, rs_20 hr, rs_27 hr, rs_28 hr, rs_34 hr, rr_88 hr, rr_89 hr, rr_90 hr, rr_91 hr, rr_92 hr, rr_93 hr, rr_94 hr, rr_95 hr, rr_96 hr, rg_97 hr, rg_98 hr, rt_99 hr, rv_100 hr, rv_101 hr, rc_102 hr, rc_103 hr, rp_104 hr]
          exact ih h _ (by omega) (by omega) hQ
      · by_cases h7 : s 4 k = 7
        · have e2 : s 18 k < s 1 11 := by omega
          by_cases h4 : s 18 k = -1
          · simp +contextual (disch := omega) only [z_app, z_rd, z_cl, z_add, z_sub, z_mul, z_neg, z_lit, z_leT, z_leF, z_ltT, z_ltF, z_eqT, z_eqF, i_leT, i_leF, i_ltT, i_ltF, i_eqT, i_eqF, z_le, z_lt, z_eq, z_ite, z_at, z_pt, z_up, z_wr, z_wi1, z_wi0, z_wi, z_inS, z_toInt, z_nb0, z_nb1, Int.cast_ofNat_Int, true_and, and_true, not_true_eq_false, not_false_eq_true, false_imp_iff, true_imp_iff, aup_o, aup_k, ite_true, ite_false, z_fa000, z_fa001, z_fa010, z_fa011, z_fa100, z_fa101, z_fa110, z_fa111, if_true, if_false, rs_3 hr, rs_4 hr, rs_5 hr, rs_15 hr, rs_16 hr, rs_19 hr, rs_20 hr, rs_27 hr, rs_28 hr, rs_34 hr, rr_88 hr, rr_89 hr, rr_90 hr, rr_91 hr, rr_92 hr, rr_93 hr, rr_94 hr, rr_95 hr, rr_96 hr, rg_97 hr, rg_98 hr, rt_99 hr, rv_100 hr, rv_101 hr, rc_102 hr, rc_103 hr, rp_104 hr]
            exact ih h _ (by omega) (by omega) hQ
          · simp +contextual (disch := omega) only [z_app, z_rd, z_cl, z_add, z_sub, z_mul, z_neg, z_lit, z_leT, z_leF, z_ltT, z_ltF, z_eqT, z_eqF, i_leT, i_leF, i_ltT, i_ltF, i_eqT, i_eqF, z_le, z_lt, z_eq, z_ite, z_at, z_pt, z_up, z_wr, z_wi1, z_wi0, z_wi, z_inS, z_toInt, z_nb0, z_nb1, Int.cast_ofNat_Int, true_and, and_true, not_true_eq_false, not_false_eq_true, false_imp_iff, true_imp_iff, aup_o, aup_k, ite_true, ite_false, z_fa000, z_fa001, z_fa010, z_fa011, z_fa100, z_fa101, z_fa110, z_fa111, if_true, if_false, rs_3 hr, rs_4 hr, rs_5 hr, rs_15 hr, rs_16 hr, rs_19 hr, rs_20 hr, rs_27 hr, rs_28 hr, rs_34 hr, rr_88 hr, rr_89 hr, rr_90 hr, rr_91 hr, rr_92 hr, rr_93 hr, rr_94 hr, rr_95 hr, rr_96 hr, rg_97 hr, rg_98 hr, rt_99 hr, rv_100 hr, rv_101 hr, rc_102 hr, rc_103 hr, rp_104 hr]
            exact ih h _ (by omega) (by omega) hQ
        · simp +contextual (disch := omega) only [z_app, z_rd, z_cl, z_add, z_sub, z_mul, z_neg, z_lit, z_leT, z_leF, z_ltT, z_ltF, z_eqT, z_eqF, i_leT, i_leF, i_ltT, i_ltF, i_eqT, i_eqF, z_le, z_lt, z_eq, z_ite, z_at, z_pt, z_up, z_wr, z_wi1, z_wi0, z_wi, z_inS, z_toInt, z_nb0, z_nb1, Int.cast_ofNat_Int, true_and, and_true, not_true_eq_false, not_false_eq_true, false_imp_iff, true_imp_iff, aup_o, aup_k, ite_true, ite_false, z_fa000, z_fa001, z_fa010, z_fa011, z_fa100, z_fa101, z_fa110, z_fa111, if_true, if_false, rs_3 hr, rs_4 hr, rs_5 hr, rs_15 hr, rs_16 hr, rs_19 hr, rs_20 hr, rs_27 hr, rs_28 hr, rs_34 hr, rr_88 hr, rr_89 hr, rr_90 hr, rr_91 hr, rr_92 hr, rr_93 hr, rr_94 hr, rr_95 hr, rr_96 hr, rg_97 hr, rg_98 hr, rt_99 hr, rv_100 hr, rv_101 hr, rc_102 hr, rc_103 hr, rp_104 hr]
          exact ih h _ (by omega) (by omega) hQ
  · simp +contextual (disch := omega) only [z_app, z_rd, z_cl, z_add, z_sub, z_mul, z_neg, z_lit, z_leT, z_leF, z_ltT, z_ltF, z_eqT, z_eqF, i_leT, i_leF, i_ltT, i_ltF, i_eqT, i_eqF, z_le, z_lt, z_eq, z_ite, z_at, z_pt, z_up, z_wr, z_wi1, z_wi0, z_wi, z_inS, z_toInt, z_nb0, z_nb1, Int.cast_ofNat_Int, true_and, and_true, not_true_eq_false, not_false_eq_true, false_imp_iff, true_imp_iff, aup_o, aup_k, ite_true, ite_false, z_fa000, z_fa001, z_fa010, z_fa011, z_fa100, z_fa101, z_fa110, z_fa111, if_true, if_false, rs_3 hr, rs_4 hr, rs_5 hr, rs_15 hr, rs_16 hr, rs_19 hr, rs_20 hr, rs_27 hr, rs_28 hr, rs_34 hr, rr_88 hr, rr_89 hr, rr_90 hr, rr_91 hr, rr_92 hr, rr_93 hr, rr_94 hr, rr_95 hr, rr_96 hr, rg_97 hr, rg_98 hr, rt_99 hr, rv_100 hr, rv_101 hr, rc_102 hr, rc_103 hr, rp_104 hr]
    rw [fI_e (by omega)] at hQ
    rw [show k = s 2 9 by omega] at hQ
    exact hQ
theorem m_effectHold (hw : qWF g) (hJ : jJ s) (hr : rL s a) (hQ : Q (iI (lnS s)) (qi a)) : qC g (d + 1) mX10_effectHold [.inr 86] (qi a) Q T := by
  have B := jb hJ
  refine wX10_effectHold hw ?_
  simp +contextual (disch := omega) only [z_app, z_rd, z_cl, z_add, z_sub, z_mul, z_neg, z_lit, z_leT, z_leF, z_ltT, z_ltF, z_eqT, z_eqF, i_leT, i_leF, i_ltT, i_ltF, i_eqT, i_eqF, z_le, z_lt, z_eq, z_ite, z_at, z_pt, z_up, z_wr, z_wi1, z_wi0, z_wi, z_inS, z_toInt, z_nb0, z_nb1, Int.cast_ofNat_Int, true_and, and_true, not_true_eq_false, not_false_eq_true, false_imp_iff, true_imp_iff, aup_o, aup_k, ite_true, ite_false, z_fa000, z_fa001, z_fa010, z_fa011, z_fa100, z_fa101, z_fa110, z_fa111, if_true, if_false, rs_3 hr, rs_4 hr, rs_5 hr, rs_15 hr, rs_16 hr, rs_19 hr, rs_20 hr, rs_27 hr, rs_28 hr, rs_34 hr, rr_88 hr, rr_89 hr, rr_90 hr, rr_91 hr, rr_92 hr, rr_93 hr, rr_94 hr, rr_95 hr, rr_96 hr, rg_97 hr, rg_98 hr, rt_99 hr, rv_100 hr, rv_101 hr, rc_102 hr, rc_103 hr, rp_104 hr, Int.add_zero]
  exact m_effectHold_l hw hJ hr _ _ (by omega) (by omega) hQ
theorem m_consumerHold_l (hw : qWF g) (hJ : jJ s) (hr : rL s a) {w : Int} (w1 : -2147483648 ≤ w) (w2 : w < 2147483648) : ∀ c x : Int, 0 ≤ c → c ≤ s 26 6 → 0 ≤ x → x ≤ s 2 9 → Q (iI (mI (fun c => if c = w then s 2 9 else hdS s c) c (s 26 6) x)) (qi a) → qV g mX10_consumerHold (d + 3) 0 7 [some (.inr 86), some (.inl (iI w)), some (.inl (iI x)), some (.inl (iI c))] [] (qi a) Q T := by
  have B := jb hJ
  refine stepUp (s 26 6) (fun c ih x c0 c1 x0 x1 hQ => wX10_consumerHold_7 hw ?_)
  by_cases h : c < s 26 6
  · have H := hd_b hJ c0 h
    rw [mI_f h] at hQ
    by_cases hb : c = w
    · simp +contextual (disch := omega) only [z_app, z_rd, z_cl, z_add, z_sub, z_mul, z_neg, z_lit, z_leT, z_leF, z_ltT, z_ltF, z_eqT, z_eqF, i_leT, i_leF, i_ltT, i_ltF, i_eqT, i_eqF, z_le, z_lt, z_eq, z_ite, z_at, z_pt, z_up, z_wr, z_wi1, z_wi0, z_wi, z_inS, z_toInt, z_nb0, z_nb1, Int.cast_ofNat_Int, true_and, and_true, not_true_eq_false, not_false_eq_true, false_imp_iff, true_imp_iff, aup_o, aup_k, ite_true, ite_false, z_fa000, z_fa001, z_fa010, z_fa011, z_fa100, z_fa101, z_fa110, z_fa111, if_true, if_false, rs_3 hr, rs_4 hr, rs_5 hr, rs_15 hr, rs_16 hr, rs_19 hr, rs_20 hr, rs_27 hr, rs_28 hr, rs_34 hr, rr_88 hr, rr_89 hr, rr_90 hr, rr_91 hr, rr_92 hr, rr_93 hr, rr_94 hr, rr_95 hr, rr_96 hr, rg_97 hr, rg_98 hr, rt_99 hr, rv_100 hr, rv_101 hr, rc_102 hr, rc_103 hr, rp_104 hr]
      rw [if_pos hb, show mn x (s 2 9) = x by unfold mn; split <;> omega] at hQ
      exact ih h _ (by omega) (by omega) x0 x1 hQ
    · simp +contextual (disch := omega) only [z_app, z_rd, z_cl, z_add, z_sub, z_mul, z_neg, z_lit, z_leT, z_leF, z_ltT, z_ltF, z_eqT, z_eqF, i_leT, i_leF, i_ltT, i_ltF, i_eqT, i_eqF, z_le, z_lt, z_eq, z_ite, z_at, z_pt, z_up, z_wr, z_wi1, z_wi0, z_wi, z_inS, z_toInt, z_nb0, z_nb1, Int.cast_ofNat_Int, true_and, and_true, not_true_eq_false, not_false_eq_true, false_imp_iff, true_imp_iff, aup_o, aup_k, ite_true, ite_false, z_fa000, z_fa001, z_fa010, z_fa011, z_fa100, z_fa101, z_fa110, z_fa111, if_true, if_false, rs_3 hr, rs_4 hr, rs_5 hr, rs_15 hr, rs_16 hr, rs_19 hr, rs_20 hr, rs_27 hr, rs_28 hr, rs_34 hr, rr_88 hr, rr_89 hr, rr_90 hr, rr_91 hr, rr_92 hr, rr_93 hr, rr_94 hr, rr_95 hr, rr_96 hr, rg_97 hr, rg_98 hr, rt_99 hr, rv_100 hr, rv_101 hr, rc_102 hr, rc_103 hr, rp_104 hr]
      rw [if_neg hb] at hQ
      refine m_holdOf hw hJ hr c0 h ?_
      simp +contextual (disch := omega) only [z_app, z_rd, z_cl, z_add, z_sub, z_mul, z_neg, z_lit, z_leT, z_leF, z_ltT, z_ltF, z_eqT, z_eqF, i_leT, i_leF, i_ltT, i_ltF, i_eqT, i_eqF, z_le, z_lt, z_eq, z_ite, z_at, z_pt, z_up, z_wr, z_wi1, z_wi0, z_wi, z_inS, z_toInt, z_nb0, z_nb1, Int.cast_ofNat_Int, true_and, and_true, not_true_eq_false, not_false_eq_true, false_imp_iff, true_imp_iff, aup_o, aup_k, ite_true, ite_false, z_fa000, z_fa001, z_fa010, z_fa011, z_fa100, z_fa101, z_fa110, z_fa111, if_true, if_false, rs_3 hr, rs_4 hr, rs_5 hr, rs_15 hr, rs_16 hr, rs_19 hr, rs_20 hr, rs_27 hr, rs_28 hr, rs_34 hr, rr_88 hr, rr_89 hr, rr_90 hr, rr_91 hr, rr_92 hr, rr_93 hr, rr_94 hr, rr_95 hr, rr_96 hr, rg_97 hr, rg_98 hr, rt_99 hr, rv_100 hr, rv_101 hr, rc_102 hr, rc_103 hr, rp_104 hr]
      exact ih h _ (by omega) (by omega) (by split <;> omega) (by split <;> omega) hQ
  · simp +contextual (disch := omega) only [z_app, z_rd, z_cl, z_add, z_sub, z_mul, z_neg, z_lit, z_leT, z_leF, z_ltT, z_ltF, z_eqT, z_eqF, i_leT, i_leF, i_ltT, i_ltF, i_eqT, i_eqF, z_le, z_lt, z_eq, z_ite, z_at, z_pt, z_up, z_wr, z_wi1, z_wi0, z_wi, z_inS, z_toInt, z_nb0, z_nb1, Int.cast_ofNat_Int, true_and, and_true, not_true_eq_false, not_false_eq_true, false_imp_iff, true_imp_iff, aup_o, aup_k, ite_true, ite_false, z_fa000, z_fa001, z_fa010, z_fa011, z_fa100, z_fa101, z_fa110, z_fa111, if_true, if_false, rs_3 hr, rs_4 hr, rs_5 hr, rs_15 hr, rs_16 hr, rs_19 hr, rs_20 hr, rs_27 hr, rs_28 hr, rs_34 hr, rr_88 hr, rr_89 hr, rr_90 hr, rr_91 hr, rr_92 hr, rr_93 hr, rr_94 hr, rr_95 hr, rr_96 hr, rg_97 hr, rg_98 hr, rt_99 hr, rv_100 hr, rv_101 hr, rc_102 hr, rc_103 hr, rp_104 hr]
    rw [mI_e (by omega)] at hQ
    exact hQ
theorem m_consumerHold (hw : qWF g) (hJ : jJ s) (hr : rL s a) {w : Int} (w1 : -2147483648 ≤ w) (w2 : w < 2147483648) (hQ : Q (iI (chS s w)) (qi a)) : qC g (d + 3) mX10_consumerHold [.inr 86, .inl (iI w)] (qi a) Q T := by
  have B := jb hJ
  refine wX10_consumerHold hw ?_
  simp +contextual (disch := omega) only [z_app, z_rd, z_cl, z_add, z_sub, z_mul, z_neg, z_lit, z_leT, z_leF, z_ltT, z_ltF, z_eqT, z_eqF, i_leT, i_leF, i_ltT, i_ltF, i_eqT, i_eqF, z_le, z_lt, z_eq, z_ite, z_at, z_pt, z_up, z_wr, z_wi1, z_wi0, z_wi, z_inS, z_toInt, z_nb0, z_nb1, Int.cast_ofNat_Int, true_and, and_true, not_true_eq_false, not_false_eq_true, false_imp_iff, true_imp_iff, aup_o, aup_k, ite_true, ite_false, z_fa000, z_fa001, z_fa010, z_fa011, z_fa100, z_fa101, z_fa110, z_fa111, if_true, if_false, rs_3 hr, rs_4 hr, rs_5 hr, rs_15 hr, rs_16 hr, rs_19 hr, rs_20 hr, rs_27 hr, rs_28 hr, rs_34 hr, rr_88 hr, rr_89 hr, rr_90 hr, rr_91 hr, rr_92 hr, rr_93 hr, rr_94 hr, rr_95 hr, rr_96 hr, rg_97 hr, rg_98 hr, rt_99 hr, rv_100 hr, rv_101 hr, rc_102 hr, rc_103 hr, rp_104 hr]
  exact m_consumerHold_l hw hJ hr w1 w2 _ _ (by omega) (by omega) (by omega) (by omega) hQ
theorem m_holdWithout (hw : qWF g) (hJ : jJ s) (hr : rL s a) {w : Int} (w1 : -2147483648 ≤ w) (w2 : w < 2147483648) (hQ : Q (iI (hwS s w)) (qi a)) : qC g (d + 4) mX10_holdWithout [.inr 86, .inl (iI w)] (qi a) Q T := by
  have B := jb hJ
  have b1 := th_b hJ
  have b2 := ln_b hJ
  have b3 := ch_b hJ w
  refine wX10_holdWithout hw ?_
  refine m_transactionHold hw hJ hr ?_
  refine m_effectHold hw hJ hr ?_
  refine m_consumerHold hw hJ hr w1 w2 ?_
  rw [hw_eq hJ] at hQ
  have e : mn (mn (mn (s 2 10) (thS s)) (lnS s)) (chS s w) = (if (if s 2 10 < thS s then s 2 10 else thS s) < (if lnS s < chS s w then lnS s else chS s w) then (if s 2 10 < thS s then s 2 10 else thS s) else (if lnS s < chS s w then lnS s else chS s w)) := by
    unfold mn
    repeat' split
    all_goals omega
  rw [e] at hQ
  simp +contextual (disch := omega) only [z_app, z_rd, z_cl, z_add, z_sub, z_mul, z_neg, z_lit, z_leT, z_leF, z_ltT, z_ltF, z_eqT, z_eqF, i_leT, i_leF, i_ltT, i_ltF, i_eqT, i_eqF, z_le, z_lt, z_eq, z_ite, z_at, z_pt, z_up, z_wr, z_wi1, z_wi0, z_wi, z_inS, z_toInt, z_nb0, z_nb1, Int.cast_ofNat_Int, true_and, and_true, not_true_eq_false, not_false_eq_true, false_imp_iff, true_imp_iff, aup_o, aup_k, ite_true, ite_false, z_fa000, z_fa001, z_fa010, z_fa011, z_fa100, z_fa101, z_fa110, z_fa111, if_true, if_false, rs_3 hr, rs_4 hr, rs_5 hr, rs_15 hr, rs_16 hr, rs_19 hr, rs_20 hr, rs_27 hr, rs_28 hr, rs_34 hr, rr_88 hr, rr_89 hr, rr_90 hr, rr_91 hr, rr_92 hr, rr_93 hr, rr_94 hr, rr_95 hr, rr_96 hr, rg_97 hr, rg_98 hr, rt_99 hr, rv_100 hr, rv_101 hr, rc_102 hr, rc_103 hr, rp_104 hr]
  exact hQ
theorem m_hold (hw : qWF g) (hJ : jJ s) (hr : rL s a) (hQ : Q (iI (hwS s (-1))) (qi a)) : qC g (d + 5) mX10_hold [.inr 86] (qi a) Q T := by
  refine wX10_hold hw ?_
  simp +contextual (disch := omega) only [z_app, z_rd, z_cl, z_add, z_sub, z_mul, z_neg, z_lit, z_leT, z_leF, z_ltT, z_ltF, z_eqT, z_eqF, i_leT, i_leF, i_ltT, i_ltF, i_eqT, i_eqF, z_le, z_lt, z_eq, z_ite, z_at, z_pt, z_up, z_wr, z_wi1, z_wi0, z_wi, z_inS, z_toInt, z_nb0, z_nb1, Int.cast_ofNat_Int, true_and, and_true, not_true_eq_false, not_false_eq_true, false_imp_iff, true_imp_iff, aup_o, aup_k, ite_true, ite_false, z_fa000, z_fa001, z_fa010, z_fa011, z_fa100, z_fa101, z_fa110, z_fa111, if_true, if_false, rs_3 hr, rs_4 hr, rs_5 hr, rs_15 hr, rs_16 hr, rs_19 hr, rs_20 hr, rs_27 hr, rs_28 hr, rs_34 hr, rr_88 hr, rr_89 hr, rr_90 hr, rr_91 hr, rr_92 hr, rr_93 hr, rr_94 hr, rr_95 hr, rr_96 hr, rg_97 hr, rg_98 hr, rt_99 hr, rv_100 hr, rv_101 hr, rc_102 hr, rc_103 hr, rp_104 hr]
  exact m_holdWithout hw hJ hr (by omega) (by omega) hQ
theorem m_freeSegments_l (hw : qWF g) (hJ : jJ s) (hr : rL s a) {h : Int} (w1 : -2147483648 ≤ h) (w2 : h < 2147483648) : ∀ i : Int, 0 ≤ i → i ≤ s 21 3 - s 21 2 → Q (iI (fI (fun i => decide (h < s 23 (i + 1))) (s 21 2 + i) (s 21 3) - s 21 2)) (qi a) → qV g mX10_freeSegments (d + 1) 0 2 [some (.inr 86), some (.inl (iI h)), some (.inl (iI i))] [] (qi a) Q T := by
  have B := jb hJ
  refine stepUp (s 21 3 - s 21 2) (fun i ih i0 i1 hQ => wX10_freeSegments_2 hw ?_)
  by_cases hi : i < s 21 3 - s 21 2
  · have E := e_b hJ (i := i + 1) (by omega) (by omega)
    rw [← Int.add_assoc] at E
    have e9 : s 21 2 + (i + 1) = s 21 2 + i + 1 := by omega
    rw [fI_f (by omega)] at hQ
    by_cases hh : h < s 23 (s 21 2 + i + 1)
    · rw [if_pos (decide_eq_true hh)] at hQ
      simp +contextual (disch := omega) only [z_app, z_rd, z_cl, z_add, z_sub, z_mul, z_neg, z_lit, z_leT, z_leF, z_ltT, z_ltF, z_eqT, z_eqF, i_leT, i_leF, i_ltT, i_ltF, i_eqT, i_eqF, z_le, z_lt, z_eq, z_ite, z_at, z_pt, z_up, z_wr, z_wi1, z_wi0, z_wi, z_inS, z_toInt, z_nb0, z_nb1, Int.cast_ofNat_Int, true_and, and_true, not_true_eq_false, not_false_eq_true, false_imp_iff, true_imp_iff, aup_o, aup_k, ite_true, ite_false, z_fa000, z_fa001, z_fa010, z_fa011, z_fa100, z_fa101, z_fa110, z_fa111, if_true, if_false, rs_3 hr, rs_4 hr, rs_5 hr, rs_15 hr, rs_16 hr, rs_19 hr, rs_20 hr, rs_27 hr, rs_28 hr, rs_34 hr, rr_88 hr, rr_89 hr, rr_90 hr, rr_91 hr, rr_92 hr, rr_93 hr, rr_94 hr, rr_95 hr, rr_96 hr, rg_97 hr, rg_98 hr, rt_99 hr, rv_100 hr, rv_101 hr, rc_102 hr, rc_103 hr, rp_104 hr, e9]
      rw [show s 21 2 + i - s 21 2 = i by omega] at hQ
      exact hQ
    · rw [if_neg (by simpa using hh)] at hQ
      simp +contextual (disch := omega) only [z_app, z_rd, z_cl, z_add, z_sub, z_mul, z_neg, z_lit, z_leT, z_leF, z_ltT, z_ltF, z_eqT, z_eqF, i_leT, i_leF, i_ltT, i_ltF, i_eqT, i_eqF, z_le, z_lt, z_eq, z_ite, z_at, z_pt, z_up, z_wr, z_wi1, z_wi0, z_wi, z_inS, z_toInt, z_nb0, z_nb1, Int.cast_ofNat_Int, true_and, and_true, not_true_eq_false, not_false_eq_true, false_imp_iff, true_imp_iff, aup_o, aup_k, ite_true, ite_false, z_fa000, z_fa001, z_fa010, z_fa011, z_fa100, z_fa101, z_fa110, z_fa111, if_true, if_false, rs_3 hr, rs_4 hr, rs_5 hr, rs_15 hr, rs_16 hr, rs_19 hr, rs_20 hr, rs_27 hr, rs_28 hr, rs_34 hr, rr_88 hr, rr_89 hr, rr_90 hr, rr_91 hr, rr_92 hr, rr_93 hr, rr_94 hr, rr_95 hr, rr_96 hr, rg_97 hr, rg_98 hr, rt_99 hr, rv_100 hr, rv_101 hr, rc_102 hr, rc_103 hr, rp_104 hr, e9]
      refine ih hi (by omega) (by omega) ?_
      rw [e9]
      exact hQ
  · simp +contextual (disch := omega) only [z_app, z_rd, z_cl, z_add, z_sub, z_mul, z_neg, z_lit, z_leT, z_leF, z_ltT, z_ltF, z_eqT, z_eqF, i_leT, i_leF, i_ltT, i_ltF, i_eqT, i_eqF, z_le, z_lt, z_eq, z_ite, z_at, z_pt, z_up, z_wr, z_wi1, z_wi0, z_wi, z_inS, z_toInt, z_nb0, z_nb1, Int.cast_ofNat_Int, true_and, and_true, not_true_eq_false, not_false_eq_true, false_imp_iff, true_imp_iff, aup_o, aup_k, ite_true, ite_false, z_fa000, z_fa001, z_fa010, z_fa011, z_fa100, z_fa101, z_fa110, z_fa111, if_true, if_false, rs_3 hr, rs_4 hr, rs_5 hr, rs_15 hr, rs_16 hr, rs_19 hr, rs_20 hr, rs_27 hr, rs_28 hr, rs_34 hr, rr_88 hr, rr_89 hr, rr_90 hr, rr_91 hr, rr_92 hr, rr_93 hr, rr_94 hr, rr_95 hr, rr_96 hr, rg_97 hr, rg_98 hr, rt_99 hr, rv_100 hr, rv_101 hr, rc_102 hr, rc_103 hr, rp_104 hr]
    rw [fI_e (by omega)] at hQ
    rw [show s 21 2 + i - s 21 2 = i by omega] at hQ
    exact hQ
theorem m_freeSegments (hw : qWF g) (hJ : jJ s) (hr : rL s a) {h : Int} (w1 : -2147483648 ≤ h) (w2 : h < 2147483648) (hQ : Q (iI (tkS s h - s 21 2)) (qi a)) : qC g (d + 1) mX10_freeSegments [.inr 86, .inl (iI h)] (qi a) Q T := by
  have B := jb hJ
  refine wX10_freeSegments hw ⟨rfl, m_freeSegments_l hw hJ hr w1 w2 0 (by omega) (by omega) ?_⟩
  rw [Int.add_zero]
  exact hQ
theorem m_asideOf_l (hw : qWF g) (hJ : jJ s) (hr : rL s a) {c : Int} (c0 : 0 ≤ c) (c1 : c < s 26 6) : ∀ k x : Int, s 34 c ≤ k → k ≤ s 30 (s 32 c) → 0 ≤ x → x + (s 30 (s 32 c) - k) ≤ 400 → Q (iI (x + (s 30 (s 32 c) - mx k (s 36 c)))) (qi a) → qV g mX10_asideOf (d + 2) 0 9 [some (.inr 86), some (.inl (iI c)), some (.inl (iI x)), some (.inl (iI k))] [] (qi a) Q T := by
  have B := jb hJ
  have C := jc hJ c0 c1
  refine stepUp (s 30 (s 32 c)) (fun k ih x k0 k1 x0 x1 hQ => wX10_asideOf_9 hw ?_)
  by_cases h : k < s 30 (s 32 c)
  · simp +contextual (disch := omega) only [z_app, z_rd, z_cl, z_add, z_sub, z_mul, z_neg, z_lit, z_leT, z_leF, z_ltT, z_ltF, z_eqT, z_eqF, i_leT, i_leF, i_ltT, i_ltF, i_eqT, i_eqF, z_le, z_lt, z_eq, z_ite, z_at, z_pt, z_up, z_wr, z_wi1, z_wi0, z_wi, z_inS, z_toInt, z_nb0, z_nb1, Int.cast_ofNat_Int, true_and, and_true, not_true_eq_false, not_false_eq_true, false_imp_iff, true_imp_iff, aup_o, aup_k, ite_true, ite_false, z_fa000, z_fa001, z_fa010, z_fa011, z_fa100, z_fa101, z_fa110, z_fa111, if_true, if_false, rs_3 hr, rs_4 hr, rs_5 hr, rs_15 hr, rs_16 hr, rs_19 hr, rs_20 hr, rs_27 hr, rs_28 hr, rs_34 hr, rr_88 hr, rr_89 hr, rr_90 hr, rr_91 hr, rr_92 hr, rr_93 hr, rr_94 hr, rr_95 hr, rr_96 hr, rg_97 hr, rg_98 hr, rt_99 hr, rv_100 hr, rv_101 hr, rc_102 hr, rc_103 hr, rp_104 hr]
    refine m_isAside hw hr c0 (by omega) (by omega) (by omega) (fun hh => ?_) (fun hh => ?_)
    · simp +contextual (disch := omega) only [z_app, z_rd, z_cl, z_add, z_sub, z_mul, z_neg, z_lit, z_leT, z_leF, z_ltT, z_ltF, z_eqT, z_eqF, i_leT, i_leF, i_ltT, i_ltF, i_eqT, i_eqF, z_le, z_lt, z_eq, z_ite, z_at, z_pt, z_up, z_wr, z_wi1, z_wi0, z_wi, z_inS, z_toInt, z_nb0, z_nb1, Int.cast_ofNat_Int, true_and, and_true, not_true_eq_false, not_false_eq_true, false_imp_iff, true_imp_iff, aup_o, aup_k, ite_true, ite_false, z_fa000, z_fa001, z_fa010, z_fa011, z_fa100, z_fa101, z_fa110, z_fa111, if_true, if_false, rs_3 hr, rs_4 hr, rs_5 hr, rs_15 hr, rs_16 hr, rs_19 hr, rs_20 hr, rs_27 hr, rs_28 hr, rs_34 hr, rr_88 hr, rr_89 hr, rr_90 hr, rr_91 hr, rr_92 hr, rr_93 hr, rr_94 hr, rr_95 hr, rr_96 hr, rg_97 hr, rg_98 hr, rt_99 hr, rv_100 hr, rv_101 hr, rc_102 hr, rc_103 hr, rp_104 hr]
      have e : mx (k + 1) (s 36 c) = mx k (s 36 c) := by unfold mx; split <;> split <;> omega
      refine ih h _ (by omega) (by omega) (by omega) (by omega) ?_
      rw [e, Int.add_zero]
      exact hQ
    · simp +contextual (disch := omega) only [z_app, z_rd, z_cl, z_add, z_sub, z_mul, z_neg, z_lit, z_leT, z_leF, z_ltT, z_ltF, z_eqT, z_eqF, i_leT, i_leF, i_ltT, i_ltF, i_eqT, i_eqF, z_le, z_lt, z_eq, z_ite, z_at, z_pt, z_up, z_wr, z_wi1, z_wi0, z_wi, z_inS, z_toInt, z_nb0, z_nb1, Int.cast_ofNat_Int, true_and, and_true, not_true_eq_false, not_false_eq_true, false_imp_iff, true_imp_iff, aup_o, aup_k, ite_true, ite_false, z_fa000, z_fa001, z_fa010, z_fa011, z_fa100, z_fa101, z_fa110, z_fa111, if_true, if_false, rs_3 hr, rs_4 hr, rs_5 hr, rs_15 hr, rs_16 hr, rs_19 hr, rs_20 hr, rs_27 hr, rs_28 hr, rs_34 hr, rr_88 hr, rr_89 hr, rr_90 hr, rr_91 hr, rr_92 hr, rr_93 hr, rr_94 hr, rr_95 hr, rr_96 hr, rg_97 hr, rg_98 hr, rt_99 hr, rv_100 hr, rv_101 hr, rc_102 hr, rc_103 hr, rp_104 hr]
      have e1 : mx k (s 36 c) = k := by unfold mx; split <;> omega
      have e2 : mx (k + 1) (s 36 c) = k + 1 := by unfold mx; split <;> omega
      refine ih h _ (by omega) (by omega) (by omega) (by omega) ?_
      rw [e1] at hQ
      rw [e2, show x + 1 + (s 30 (s 32 c) - (k + 1)) = x + (s 30 (s 32 c) - k) by omega]
      exact hQ
  · simp +contextual (disch := omega) only [z_app, z_rd, z_cl, z_add, z_sub, z_mul, z_neg, z_lit, z_leT, z_leF, z_ltT, z_ltF, z_eqT, z_eqF, i_leT, i_leF, i_ltT, i_ltF, i_eqT, i_eqF, z_le, z_lt, z_eq, z_ite, z_at, z_pt, z_up, z_wr, z_wi1, z_wi0, z_wi, z_inS, z_toInt, z_nb0, z_nb1, Int.cast_ofNat_Int, true_and, and_true, not_true_eq_false, not_false_eq_true, false_imp_iff, true_imp_iff, aup_o, aup_k, ite_true, ite_false, z_fa000, z_fa001, z_fa010, z_fa011, z_fa100, z_fa101, z_fa110, z_fa111, if_true, if_false, rs_3 hr, rs_4 hr, rs_5 hr, rs_15 hr, rs_16 hr, rs_19 hr, rs_20 hr, rs_27 hr, rs_28 hr, rs_34 hr, rr_88 hr, rr_89 hr, rr_90 hr, rr_91 hr, rr_92 hr, rr_93 hr, rr_94 hr, rr_95 hr, rr_96 hr, rg_97 hr, rg_98 hr, rt_99 hr, rv_100 hr, rv_101 hr, rc_102 hr, rc_103 hr, rp_104 hr]
    rw [show x + (s 30 (s 32 c) - mx k (s 36 c)) = x by unfold mx; split <;> omega] at hQ
    exact hQ
theorem m_asideOf (hw : qWF g) (hJ : jJ s) (hr : rL s a) {c : Int} (c0 : 0 ≤ c) (c1 : c < s 26 6) (hQ : Q (iI (asS s c)) (qi a)) : qC g (d + 2) mX10_asideOf [.inr 86, .inl (iI c)] (qi a) Q T := by
  have B := jb hJ
  have C := jc hJ c0 c1
  have em : mx (s 34 c) (s 36 c) = s 34 c + spS s c := by unfold mx spS; split <;> split <;> omega
  refine wX10_asideOf hw ?_
  simp +contextual (disch := omega) only [z_app, z_rd, z_cl, z_add, z_sub, z_mul, z_neg, z_lit, z_leT, z_leF, z_ltT, z_ltF, z_eqT, z_eqF, i_leT, i_leF, i_ltT, i_ltF, i_eqT, i_eqF, z_le, z_lt, z_eq, z_ite, z_at, z_pt, z_up, z_wr, z_wi1, z_wi0, z_wi, z_inS, z_toInt, z_nb0, z_nb1, Int.cast_ofNat_Int, true_and, and_true, not_true_eq_false, not_false_eq_true, false_imp_iff, true_imp_iff, aup_o, aup_k, ite_true, ite_false, z_fa000, z_fa001, z_fa010, z_fa011, z_fa100, z_fa101, z_fa110, z_fa111, if_true, if_false, rs_3 hr, rs_4 hr, rs_5 hr, rs_15 hr, rs_16 hr, rs_19 hr, rs_20 hr, rs_27 hr, rs_28 hr, rs_34 hr, rr_88 hr, rr_89 hr, rr_90 hr, rr_91 hr, rr_92 hr, rr_93 hr, rr_94 hr, rr_95 hr, rr_96 hr, rg_97 hr, rg_98 hr, rt_99 hr, rv_100 hr, rv_101 hr, rc_102 hr, rc_103 hr, rp_104 hr]
  refine m_asideOf_l hw hJ hr c0 c1 _ _ (Int.le_refl _) C.2.2.2.1 (by omega) (by omega) ?_
  rw [em, show 0 + (s 30 (s 32 c) - (s 34 c + spS s c)) = asS s c by unfold asS; omega]
  exact hQ
theorem as_b (hJ : jJ s) {c : Int} (c0 : 0 ≤ c) (c1 : c < s 26 6) : 0 ≤ asS s c ∧ asS s c ≤ 400 := by
  have C := jc hJ c0 c1
  have S := sp_b hJ c0 c1
  unfold asS
  omega
theorem m_lagging_l (hw : qWF g) (hJ : jJ s) (hr : rL s a) : ∀ c b : Int, 0 ≤ c → c ≤ s 26 6 → -1 ≤ b → b < s 26 6 → Q (iI (lgS s c b)) (qi a) → qV g mX10_lagging (d + 3) 0 4 [some (.inr 86), some (.inl (iI b)), some (.inl (iI c))] [] (qi a) Q T := by
  have B := jb hJ
  refine stepUp (s 26 6) (fun c ih b c0 c1 b0 b1 hQ => wX10_lagging_4 hw ?_)
  by_cases h : c < s 26 6
  · have A := as_b hJ c0 h
    have H := hd_b hJ c0 h
    rw [lg_f h] at hQ
    simp +contextual (disch := omega) only [z_app, z_rd, z_cl, z_add, z_sub, z_mul, z_neg, z_lit, z_leT, z_leF, z_ltT, z_ltF, z_eqT, z_eqF, i_leT, i_leF, i_ltT, i_ltF, i_eqT, i_eqF, z_le, z_lt, z_eq, z_ite, z_at, z_pt, z_up, z_wr, z_wi1, z_wi0, z_wi, z_inS, z_toInt, z_nb0, z_nb1, Int.cast_ofNat_Int, true_and, and_true, not_true_eq_false, not_false_eq_true, false_imp_iff, true_imp_iff, aup_o, aup_k, ite_true, ite_false, z_fa000, z_fa001, z_fa010, z_fa011, z_fa100, z_fa101, z_fa110, z_fa111, if_true, if_false, rs_3 hr, rs_4 hr, rs_5 hr, rs_15 hr, rs_16 hr, rs_19 hr, rs_20 hr, rs_27 hr, rs_28 hr, rs_34 hr, rr_88 hr, rr_89 hr, rr_90 hr, rr_91 hr, rr_92 hr, rr_93 hr, rr_94 hr, rr_95 hr, rr_96 hr, rg_97 hr, rg_98 hr, rt_99 hr, rv_100 hr, rv_101 hr, rc_102 hr, rc_103 hr, rp_104 hr]
    refine m_asideOf hw hJ hr c0 h ?_
    by_cases ha : 0 < asS s c
    · by_cases hb : b = -1
      · rw [if_pos ⟨ha, Or.inl hb⟩] at hQ
        simp +contextual (disch := omega) only [z_app, z_rd, z_cl, z_add, z_sub, z_mul, z_neg, z_lit, z_leT, z_leF, z_ltT, z_ltF, z_eqT, z_eqF, i_leT, i_leF, i_ltT, i_ltF, i_eqT, i_eqF, z_le, z_lt, z_eq, z_ite, z_at, z_pt, z_up, z_wr, z_wi1, z_wi0, z_wi, z_inS, z_toInt, z_nb0, z_nb1, Int.cast_ofNat_Int, true_and, and_true, not_true_eq_false, not_false_eq_true, false_imp_iff, true_imp_iff, aup_o, aup_k, ite_true, ite_false, z_fa000, z_fa001, z_fa010, z_fa011, z_fa100, z_fa101, z_fa110, z_fa111, if_true, if_false, rs_3 hr, rs_4 hr, rs_5 hr, rs_15 hr, rs_16 hr, rs_19 hr, rs_20 hr, rs_27 hr, rs_28 hr, rs_34 hr, rr_88 hr, rr_89 hr, rr_90 hr, rr_91 hr, rr_92 hr, rr_93 hr, rr_94 hr, rr_95 hr, rr_96 hr, rg_97 hr, rg_98 hr, rt_99 hr, rv_100 hr, rv_101 hr, rc_102 hr, rc_103 hr, rp_104 hr]
        exact ih h _ (by omega) (by omega) (by omega) (by omega) hQ
      · simp +contextual (disch := omega) only [z_app, z_rd, z_cl, z_add, z_sub, z_mul, z_neg, z_lit, z_leT, z_leF, z_ltT, z_ltF, z_eqT, z_eqF, i_leT, i_leF, i_ltT, i_ltF, i_eqT, i_eqF, z_le, z_lt, z_eq, z_ite, z_at, z_pt, z_up, z_wr, z_wi1, z_wi0, z_wi, z_inS, z_toInt, z_nb0, z_nb1, Int.cast_ofNat_Int, true_and, and_true, not_true_eq_false, not_false_eq_true, false_imp_iff, true_imp_iff, aup_o, aup_k, ite_true, ite_false, z_fa000, z_fa001, z_fa010, z_fa011, z_fa100, z_fa101, z_fa110, z_fa111, if_true, if_false, rs_3 hr, rs_4 hr, rs_5 hr, rs_15 hr, rs_16 hr, rs_19 hr, rs_20 hr, rs_27 hr, rs_28 hr, rs_34 hr, rr_88 hr, rr_89 hr, rr_90 hr, rr_91 hr, rr_92 hr, rr_93 hr, rr_94 hr, rr_95 hr, rr_96 hr, rg_97 hr, rg_98 hr, rt_99 hr, rv_100 hr, rv_101 hr, rc_102 hr, rc_103 hr, rp_104 hr]
        refine m_holdOf hw hJ hr c0 h ?_
        refine m_holdOf hw hJ hr (by omega) b1 ?_
        have H2 := hd_b hJ (c := b) (by omega) b1
        by_cases hh : hdS s c < hdS s b
        · rw [if_pos ⟨ha, Or.inr hh⟩] at hQ
          simp +contextual (disch := omega) only [z_app, z_rd, z_cl, z_add, z_sub, z_mul, z_neg, z_lit, z_leT, z_leF, z_ltT, z_ltF, z_eqT, z_eqF, i_leT, i_leF, i_ltT, i_ltF, i_eqT, i_eqF, z_le, z_lt, z_eq, z_ite, z_at, z_pt, z_up, z_wr, z_wi1, z_wi0, z_wi, z_inS, z_toInt, z_nb0, z_nb1, Int.cast_ofNat_Int, true_and, and_true, not_true_eq_false, not_false_eq_true, false_imp_iff, true_imp_iff, aup_o, aup_k, ite_true, ite_false, z_fa000, z_fa001, z_fa010, z_fa011, z_fa100, z_fa101, z_fa110, z_fa111, if_true, if_false, rs_3 hr, rs_4 hr, rs_5 hr, rs_15 hr, rs_16 hr, rs_19 hr, rs_20 hr, rs_27 hr, rs_28 hr, rs_34 hr, rr_88 hr, rr_89 hr, rr_90 hr, rr_91 hr, rr_92 hr, rr_93 hr, rr_94 hr, rr_95 hr, rr_96 hr, rg_97 hr, rg_98 hr, rt_99 hr, rv_100 hr, rv_101 hr, rc_102 hr, rc_103 hr, rp_104 hr]
          exact ih h _ (by omega) (by omega) (by omega) (by omega) hQ
        · rw [if_neg (by omega)] at hQ
          simp +contextual (disch := omega) only [z_app, z_rd, z_cl, z_add, z_sub, z_mul, z_neg, z_lit, z_leT, z_leF, z_ltT, z_ltF, z_eqT, z_eqF, i_leT, i_leF, i_ltT, i_ltF, i_eqT, i_eqF, z_le, z_lt, z_eq, z_ite, z_at, z_pt, z_up, z_wr, z_wi1, z_wi0, z_wi, z_inS, z_toInt, z_nb0, z_nb1, Int.cast_ofNat_Int, true_and, and_true, not_true_eq_false, not_false_eq_true, false_imp_iff, true_imp_iff, aup_o, aup_k, ite_true, ite_false, z_fa000, z_fa001, z_fa010, z_fa011, z_fa100, z_fa101, z_fa110, z_fa111, if_true, if_false, rs_3 hr, rs_4 hr, rs_5 hr, rs_15 hr, rs_16 hr, rs_19 hr, rs_20 hr, rs_27 hr, rs_28 hr, rs_34 hr, rr_88 hr, rr_89 hr, rr_90 hr, rr_91 hr, rr_92 hr, rr_93 hr, rr_94 hr, rr_95 hr, rr_96 hr, rg_97 hr, rg_98 hr, rt_99 hr, rv_100 hr, rv_101 hr, rc_102 hr, rc_103 hr, rp_104 hr]
          exact ih h _ (by omega) (by omega) (by omega) (by omega) hQ
    · rw [if_neg (fun x => ha x.1)] at hQ
      simp +contextual (disch := omega) only [z_app, z_rd, z_cl, z_add, z_sub, z_mul, z_neg, z_lit, z_leT, z_leF, z_ltT, z_ltF, z_eqT, z_eqF, i_leT, i_leF, i_ltT, i_ltF, i_eqT, i_eqF, z_le, z_lt, z_eq, z_ite, z_at, z_pt, z_up, z_wr, z_wi1, z_wi0, z_wi, z_inS, z_toInt, z_nb0, z_nb1, Int.cast_ofNat_Int, true_and, and_true, not_true_eq_false, not_false_eq_true, false_imp_iff, true_imp_iff, aup_o, aup_k, ite_true, ite_false, z_fa000, z_fa001, z_fa010, z_fa011, z_fa100, z_fa101, z_fa110, z_fa111, if_true, if_false, rs_3 hr, rs_4 hr, rs_5 hr, rs_15 hr, rs_16 hr, rs_19 hr, rs_20 hr, rs_27 hr, rs_28 hr, rs_34 hr, rr_88 hr, rr_89 hr, rr_90 hr, rr_91 hr, rr_92 hr, rr_93 hr, rr_94 hr, rr_95 hr, rr_96 hr, rg_97 hr, rg_98 hr, rt_99 hr, rv_100 hr, rv_101 hr, rc_102 hr, rc_103 hr, rp_104 hr]
      exact ih h _ (by omega) (by omega) (by omega) (by omega) hQ
  · simp +contextual (disch := omega) only [z_app, z_rd, z_cl, z_add, z_sub, z_mul, z_neg, z_lit, z_leT, z_leF, z_ltT, z_ltF, z_eqT, z_eqF, i_leT, i_leF, i_ltT, i_ltF, i_eqT, i_eqF, z_le, z_lt, z_eq, z_ite, z_at, z_pt, z_up, z_wr, z_wi1, z_wi0, z_wi, z_inS, z_toInt, z_nb0, z_nb1, Int.cast_ofNat_Int, true_and, and_true, not_true_eq_false, not_false_eq_true, false_imp_iff, true_imp_iff, aup_o, aup_k, ite_true, ite_false, z_fa000, z_fa001, z_fa010, z_fa011, z_fa100, z_fa101, z_fa110, z_fa111, if_true, if_false, rs_3 hr, rs_4 hr, rs_5 hr, rs_15 hr, rs_16 hr, rs_19 hr, rs_20 hr, rs_27 hr, rs_28 hr, rs_34 hr, rr_88 hr, rr_89 hr, rr_90 hr, rr_91 hr, rr_92 hr, rr_93 hr, rr_94 hr, rr_95 hr, rr_96 hr, rg_97 hr, rg_98 hr, rt_99 hr, rv_100 hr, rv_101 hr, rc_102 hr, rc_103 hr, rp_104 hr]
    rw [lg_e (by omega)] at hQ
    exact hQ
theorem m_lagging (hw : qWF g) (hJ : jJ s) (hr : rL s a) (hQ : Q (iI (lgS s 0 (-1))) (qi a)) : qC g (d + 3) mX10_lagging [.inr 86] (qi a) Q T := by
  have B := jb hJ
  refine wX10_lagging hw ⟨rfl, m_lagging_l hw hJ hr 0 (-1) (by omega) (by omega) (by omega) (by omega) hQ⟩
end MR2
