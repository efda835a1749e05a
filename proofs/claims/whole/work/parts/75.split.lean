/-! ===== the class's tokens, evaluated ===== -/
theorem kd1 {b : Int} (h : kd b = 1) : 97 ≤ b ∧ b ≤ 122 := by unfold kd at h; (repeat' split at h) <;> omega
theorem kd2 {b : Int} (h : kd b = 2) : 48 ≤ b ∧ b ≤ 57 := by unfold kd at h; (repeat' split at h) <;> omega
theorem kd1' {b : Int} (h : 97 ≤ b ∧ b ≤ 122) : kd b = 1 := by unfold kd; rw [if_neg (by omega), if_pos h]
theorem kd2' {b : Int} (h : 48 ≤ b ∧ b ≤ 57) : kd b = 2 := by unfold kd; rw [if_neg (by omega), if_neg (by omega), if_pos h]
theorem kd0 {b : Int} : kd b = 0 ↔ b = 32 ∨ b = 10 := by
  unfold kd
  constructor
  · intro h; (repeat' split at h) <;> omega
  · intro h; rw [if_pos h]
def fc (b : Int → Int) (S V : Int) : Int := if kd (b S) = 3 then b S else if kd (b S) = 1 then (if V.toNat ≤ 8 then (if kw (lt b S V.toNat) = -1 then 302 else 256 + kw (lt b S V.toNat)) else 302) else if V ≤ 5 then 301 else 302
def fv (b : Int → Int) (S V : Int) : Int := if kd (b S) = 2 ∧ V ≤ 5 then nv b S (S + V) else V
def evS (u : aS) (b : Int → Int) (j : Int) : aS := fun k x => if k = 80 ∧ 0 ≤ x ∧ x < j then fc b (u 82 x) (u 84 x) else if k = 84 ∧ 0 ≤ x ∧ x < j then fv b (u 82 x) (u 84 x) else u k x
theorem ev_0 (u : aS) (b : Int → Int) : evS u b 0 = u := by
  funext k x
  unfold evS
  rw [if_neg (by omega), if_neg (by omega)]
theorem ev_o {u : aS} {b : Int → Int} {j : Int} {k : Nat} (h1 : k ≠ 80) (h2 : k ≠ 84) : evS u b j k = u k := by
  funext x
  unfold evS
  rw [if_neg (fun h => h1 h.1), if_neg (fun h => h2 h.1)]
theorem ev_s {u : aS} {b : Int → Int} {j : Int} (j0 : 0 ≤ j) : evS u b (j + 1) = aup (aup (evS u b j) 80 j (fc b (u 82 j) (u 84 j))) 84 j (fv b (u 82 j) (u 84 j)) := by
  funext k x
  by_cases h0 : k = 80
  · subst h0
    rw [aup_o (by decide), aup_k]
    by_cases hx : x = j
    · rw [if_pos hx, hx]; unfold evS; rw [if_pos ⟨rfl, j0, by omega⟩]
    · rw [if_neg hx]; unfold evS
      by_cases hl : 0 ≤ x ∧ x < j
      · rw [if_pos ⟨rfl, by omega, by omega⟩, if_pos ⟨rfl, by omega, by omega⟩]
      · rw [if_neg (by omega), if_neg (by omega), if_neg (by omega), if_neg (by omega)]
  · by_cases h4 : k = 84
    · subst h4
      rw [aup_k]
      by_cases hx : x = j
      · rw [if_pos hx, hx]; unfold evS; rw [if_neg (by omega), if_pos ⟨rfl, j0, by omega⟩]
      · rw [if_neg hx, aup_o (by decide)]; unfold evS
        by_cases hl : 0 ≤ x ∧ x < j
        · rw [if_neg (by omega), if_pos ⟨rfl, by omega, by omega⟩, if_neg (by omega), if_pos ⟨rfl, by omega, by omega⟩]
        · rw [if_neg (by omega), if_neg (by omega), if_neg (by omega), if_neg (by omega)]
    · rw [aup_o h4, aup_o h0, ev_o h0 h4, ev_o h0 h4]
/-- the tokens of a text of n bytes, c of them, that end at e -/
def tkF (w : aS) (b : Int → Int) (n c : Int) (e : Int → Int) : Prop :=
  (0 ≤ c ∧ c ≤ n ∧ n ≤ 900 ∧ w 80 c = 303 ∧ w 82 c = n) ∧
  (∀ j, 0 ≤ j → j ≤ c → 0 ≤ ep e j ∧ ep e j ≤ w 82 j ∧ ∀ x, ep e j ≤ x → x < w 82 j → kd (b x) = 0) ∧
  (∀ j, 0 ≤ j → j < c → (w 82 j < e j ∧ e j ≤ n) ∧ (w 80 j = fc b (w 82 j) (e j - w 82 j) ∧ w 84 j = fv b (w 82 j) (e j - w 82 j)) ∧ kd (b (w 82 j)) ≠ 0 ∧ (kd (b (w 82 j)) = 3 → e j = w 82 j + 1) ∧
    (∀ x, w 82 j ≤ x → x < e j → kd (b x) = kd (b (w 82 j))) ∧ (kd (b (w 82 j)) ≠ 3 → e j < n → kd (b (e j)) ≠ kd (b (w 82 j))))
theorem tk_fin {u : aS} {b : Int → Int} {n c : Int} (n1 : n ≤ 900) (h : tkA u b c n) : tkF (evS (aup (aup u 80 c 303) 82 c n) b c) b n c (tE u) := by
  obtain ⟨h1, h2, h3, h4, h5, h6⟩ := h
  have w80 : evS (aup (aup u 80 c 303) 82 c n) b c 80 c = 303 := by
    unfold evS
    rw [if_neg (by omega), if_neg (by omega), aup_o (by decide), aup_s]
  have w82 : ∀ j, evS (aup (aup u 80 c 303) 82 c n) b c 82 j = if j = c then n else u 82 j := fun j => by
    rw [ev_o (by decide) (by decide), aup_k, aup_o (by decide)]
  have u84 : ∀ j, aup (aup u 80 c 303) 82 c n 84 j = u 84 j := fun j => by rw [aup_o (by decide), aup_o (by decide)]
  refine ⟨⟨h2, h3, n1, w80, by rw [w82, if_pos rfl]⟩, fun j j0 j1 => ?_, fun j j0 j1 => ?_⟩
  · rw [w82]
    by_cases e : j = c
    · rw [if_pos e, e]; exact ⟨h4, h5, h6⟩
    · rw [if_neg e]
      obtain ⟨-, -, b3, -⟩ := h1 j j0 (by omega)
      refine ⟨?_, b3⟩
      unfold ep
      by_cases e0 : j = 0
      · rw [if_pos e0]; exact Int.le_refl _
      · rw [if_neg e0]
        obtain ⟨a, -⟩ := h1 (j - 1) (by omega) (by omega)
        show 0 ≤ u 82 (j - 1) + u 84 (j - 1)
        omega
  · obtain ⟨⟨a1, a2, a3, a4, a5, a6⟩, b2, b3, b4⟩ := h1 j j0 j1
    have x82 : evS (aup (aup u 80 c 303) 82 c n) b c 82 j = u 82 j := by rw [w82, if_neg (by omega)]
    have y82 : aup (aup u 80 c 303) 82 c n 82 j = u 82 j := by rw [aup_k, if_neg (by omega), aup_o (by decide)]
    have x80 : evS (aup (aup u 80 c 303) 82 c n) b c 80 j = fc b (u 82 j) (u 84 j) := by
      show (if 80 = 80 ∧ 0 ≤ j ∧ j < c then fc b (aup (aup u 80 c 303) 82 c n 82 j) (aup (aup u 80 c 303) 82 c n 84 j) else _) = _
      rw [if_pos ⟨rfl, j0, j1⟩, y82, u84]
    have x84 : evS (aup (aup u 80 c 303) 82 c n) b c 84 j = fv b (u 82 j) (u 84 j) := by
      show (if 84 = 80 ∧ 0 ≤ j ∧ j < c then _ else if 84 = 84 ∧ 0 ≤ j ∧ j < c then fv b (aup (aup u 80 c 303) 82 c n 82 j) (aup (aup u 80 c 303) 82 c n 84 j) else _) = _
      rw [if_neg (by omega), if_pos ⟨rfl, j0, j1⟩, y82, u84]
    rw [x82, x80, x84]
    show (u 82 j < u 82 j + u 84 j ∧ u 82 j + u 84 j ≤ n) ∧ (fc b (u 82 j) (u 84 j) = fc b (u 82 j) (u 82 j + u 84 j - u 82 j) ∧ fv b (u 82 j) (u 84 j) = fv b (u 82 j) (u 82 j + u 84 j - u 82 j)) ∧ kd (b (u 82 j)) ≠ 0 ∧ (kd (b (u 82 j)) = 3 → u 82 j + u 84 j = u 82 j + 1) ∧ (∀ x, u 82 j ≤ x → x < u 82 j + u 84 j → kd (b x) = kd (b (u 82 j))) ∧ (kd (b (u 82 j)) ≠ 3 → u 82 j + u 84 j < n → kd (b (u 82 j + u 84 j)) ≠ kd (b (u 82 j)))
    rw [show u 82 j + u 84 j - u 82 j = u 84 j by omega]
    refine ⟨⟨by omega, a3⟩, ⟨rfl, rfl⟩, a4, fun hh => by have := a5 hh; omega, b2, fun hh hl => ?_⟩
    by_cases hc : j + 1 < c
    · obtain ⟨-, -, -, c4⟩ := h1 (j + 1) (by omega) hc
      have c5 := c4 (by omega)
      unfold ep at c5
      rw [if_neg (by omega), show j + 1 - 1 = j by omega] at c5
      rcases c5 with c5 | c5
      · exact (hh c5).elim
      · exact c5
    · have ec : c = j + 1 := by omega
      have e6 := h6 (u 82 j + u 84 j) (by unfold ep; rw [if_neg (by omega), ec, show j + 1 - 1 = j by omega]; exact Int.le_refl _) hl
      rw [e6]
      exact fun h => a4 h.symm
section SP
variable {g : qG} {s : aS} {d : Nat} {Q : Int32 → qS → Prop} {T : String → qS → Prop}
theorem k_evaluate (hw : qWF g) {w : aS} {b : Int → Int} {j S V n : Int} (n1 : n ≤ 900) (hb : ∀ i, 0 ≤ i → i < n → (-128 ≤ w 85 i ∧ w 85 i ≤ 127) ∧ b i = w 85 i % 256) (j0 : 0 ≤ j) (j1 : j < 901) (h80 : w 80 j = pc0 (kd (b S)) (b S)) (h82 : w 82 j = S) (h84 : w 84 j = V) (S0 : 0 ≤ S) (V0 : 1 ≤ V) (SV : S + V ≤ n) (hk : kd (b S) ≠ 0) (hx : ∀ x, S ≤ x → x < S + V → kd (b x) = kd (b S)) (hQ : Q (iI 0) (qi (aup (aup w 80 j (fc b S V)) 84 j (fv b S V)))) : qC g (d + 3) mX8_evaluate [.inr 78, .inl (iI j), .inr 85] (qi w) Q T := by
  have K := kd_b (b S)
  have hbS : 0 ≤ b S ∧ b S < 256 := by have := hb S S0 (by omega); omega
  refine wX8_evaluate hw ?_
  by_cases k3 : kd (b S) = 3
  · have e1 : fc b S V = w 80 j := by rw [h80]; unfold fc pc0; rw [if_pos k3, if_pos k3]
    have e2 : fv b S V = w 84 j := by rw [h84]; unfold fv; rw [if_neg (by omega)]
    rw [e1, aup_id, e2, aup_id] at hQ
    have h8 : w 80 j = b S := by rw [h80]; unfold pc0; rw [if_pos k3]
    simp (disch := omega) only [z_app, z_rd, z_cl, z_add, z_sub, z_mul, z_neg, z_lit, z_leT, z_leF, z_ltT, z_ltF, z_eqT, z_eqF, i_leT, i_leF, i_ltT, i_ltF, i_eqT, i_eqF, z_le, z_lt, z_eq, z_ite, z_at, z_pt, z_up, z_wr, z_wi1, z_wi0, z_wi, z_inS, z_toInt, z_nb0, z_nb1, Int.cast_ofNat_Int, true_and, and_true, not_true_eq_false, not_false_eq_true, false_imp_iff, true_imp_iff, aup_o, aup_k, ite_true, ite_false, z_fa000, z_fa001, z_fa010, z_fa011, z_fa100, z_fa101, z_fa110, z_fa111, if_true, if_false, h8]
    exact hQ
  by_cases k1 : kd (b S) = 1
  · have h8 : w 80 j = 300 := by rw [h80]; unfold pc0; rw [if_neg k3, if_pos k1]
    have e2 : fv b S V = w 84 j := by rw [h84]; unfold fv; rw [if_neg (by omega)]
    have ev : ((V.toNat : Nat) : Int) = V := by omega
    have lc : lt b S V.toNat = lt (w 85) S V.toNat := lt_c _ (fun x x0 x1 => by
      have h1 := kd1 ((hx x x0 (by omega)).trans k1)
      have h2 := hb x (by omega) (by omega)
      omega)
    have e1 : fc b S V = if V.toNat ≤ 8 then (if kw (lt (w 85) S V.toNat) = -1 then 302 else 256 + kw (lt (w 85) S V.toNat)) else 302 := by unfold fc; rw [if_neg k3, if_pos k1, lc]
    have e3 : aup (aup w 80 j (fc b S V)) 84 j (fv b S V) = aup w 80 j (fc b S V) := by
      rw [e2, show w 84 j = aup w 80 j (fc b S V) 84 j by rw [aup_o (by decide)], aup_id]
    rw [e3, e1] at hQ
    have kb := kw_b (lt (w 85) S V.toNat)
    have wa := fun (Q' : Int32 → qS → Prop) => k_wordAt (d := d) (s := w) (v := V.toNat) (S := S) (Q := Q') (T := T) hw S0 (by omega) (fun x x0 x1 => by
      have h1 := kd1 ((hx x x0 (by omega)).trans k1)
      have h2 := hb x (by omega) (by omega)
      omega)
    rw [ev] at wa
    simp (disch := omega) only [z_app, z_rd, z_cl, z_add, z_sub, z_mul, z_neg, z_lit, z_leT, z_leF, z_ltT, z_ltF, z_eqT, z_eqF, i_leT, i_leF, i_ltT, i_ltF, i_eqT, i_eqF, z_le, z_lt, z_eq, z_ite, z_at, z_pt, z_up, z_wr, z_wi1, z_wi0, z_wi, z_inS, z_toInt, z_nb0, z_nb1, Int.cast_ofNat_Int, true_and, and_true, not_true_eq_false, not_false_eq_true, false_imp_iff, true_imp_iff, aup_o, aup_k, ite_true, ite_false, z_fa000, z_fa001, z_fa010, z_fa011, z_fa100, z_fa101, z_fa110, z_fa111, if_true, if_false, h8, h82, h84]
    refine wa _ ?_
    simp (disch := omega) only [z_app, z_rd, z_cl, z_add, z_sub, z_mul, z_neg, z_lit, z_leT, z_leF, z_ltT, z_ltF, z_eqT, z_eqF, i_leT, i_leF, i_ltT, i_ltF, i_eqT, i_eqF, z_le, z_lt, z_eq, z_ite, z_at, z_pt, z_up, z_wr, z_wi1, z_wi0, z_wi, z_inS, z_toInt, z_nb0, z_nb1, Int.cast_ofNat_Int, true_and, and_true, not_true_eq_false, not_false_eq_true, false_imp_iff, true_imp_iff, aup_o, aup_k, ite_true, ite_false, z_fa000, z_fa001, z_fa010, z_fa011, z_fa100, z_fa101, z_fa110, z_fa111, if_true, if_false]
    exact hQ
  · have k2 : kd (b S) = 2 := by omega
    have h8 : w 80 j = 301 := by rw [h80]; unfold pc0; rw [if_neg k3, if_neg k1]
    by_cases h5 : V ≤ 5
    · have e1 : fc b S V = w 80 j := by rw [h8]; unfold fc; rw [if_neg k3, if_neg k1, if_pos h5]
      have e2 : fv b S V = nv (w 85) S (S + V) := by
        unfold fv
        rw [if_pos ⟨k2, h5⟩]
        refine nv_c _ (by omega) (fun x x0 x1 => ?_)
        have h1 := kd2 ((hx x x0 x1).trans k2)
        have h2 := hb x (by omega) (by omega)
        omega
      rw [e1, aup_id, e2] at hQ
      have na := fun (Q' : Int32 → qS → Prop) => k_numberAt (d := d + 1) (s := w) (S := S) (e := S + V) (Q := Q') (T := T) hw S0 (by omega) (by omega)
      rw [show S + V - S = V by omega] at na
      simp (disch := omega) only [z_app, z_rd, z_cl, z_add, z_sub, z_mul, z_neg, z_lit, z_leT, z_leF, z_ltT, z_ltF, z_eqT, z_eqF, i_leT, i_leF, i_ltT, i_ltF, i_eqT, i_eqF, z_le, z_lt, z_eq, z_ite, z_at, z_pt, z_up, z_wr, z_wi1, z_wi0, z_wi, z_inS, z_toInt, z_nb0, z_nb1, Int.cast_ofNat_Int, true_and, and_true, not_true_eq_false, not_false_eq_true, false_imp_iff, true_imp_iff, aup_o, aup_k, ite_true, ite_false, z_fa000, z_fa001, z_fa010, z_fa011, z_fa100, z_fa101, z_fa110, z_fa111, if_true, if_false, h8, h82, h84]
      refine na _ ?_
      simp (disch := omega) only [z_app, z_rd, z_cl, z_add, z_sub, z_mul, z_neg, z_lit, z_leT, z_leF, z_ltT, z_ltF, z_eqT, z_eqF, i_leT, i_leF, i_ltT, i_ltF, i_eqT, i_eqF, z_le, z_lt, z_eq, z_ite, z_at, z_pt, z_up, z_wr, z_wi1, z_wi0, z_wi, z_inS, z_toInt, z_nb0, z_nb1, Int.cast_ofNat_Int, true_and, and_true, not_true_eq_false, not_false_eq_true, false_imp_iff, true_imp_iff, aup_o, aup_k, ite_true, ite_false, z_fa000, z_fa001, z_fa010, z_fa011, z_fa100, z_fa101, z_fa110, z_fa111, if_true, if_false]
      exact hQ
    · have e1 : fc b S V = 302 := by unfold fc; rw [if_neg k3, if_neg k1, if_neg h5]
      have e2 : fv b S V = w 84 j := by rw [h84]; unfold fv; rw [if_neg (by omega)]
      have e3 : aup (aup w 80 j (fc b S V)) 84 j (fv b S V) = aup w 80 j (fc b S V) := by
        rw [e2, show w 84 j = aup w 80 j (fc b S V) 84 j by rw [aup_o (by decide)], aup_id]
      rw [e3, e1] at hQ
      simp (disch := omega) only [z_app, z_rd, z_cl, z_add, z_sub, z_mul, z_neg, z_lit, z_leT, z_leF, z_ltT, z_ltF, z_eqT, z_eqF, i_leT, i_leF, i_ltT, i_ltF, i_eqT, i_eqF, z_le, z_lt, z_eq, z_ite, z_at, z_pt, z_up, z_wr, z_wi1, z_wi0, z_wi, z_inS, z_toInt, z_nb0, z_nb1, Int.cast_ofNat_Int, true_and, and_true, not_true_eq_false, not_false_eq_true, false_imp_iff, true_imp_iff, aup_o, aup_k, ite_true, ite_false, z_fa000, z_fa001, z_fa010, z_fa011, z_fa100, z_fa101, z_fa110, z_fa111, if_true, if_false, h8, h82, h84]
      exact hQ
theorem k_split (hw : qWF g) {b : Int → Int} {n : Int} (n0 : 0 ≤ n) (n1 : n ≤ 900) (hb : ∀ i, 0 ≤ i → i < n → (-128 ≤ s 85 i ∧ s 85 i ≤ 127) ∧ b i = s 85 i % 256) (hQ : ∀ (w : aS) (c : Int) (e : Int → Int), tkF w b n c e → (∀ x : Nat, x ≠ 78 → x ≠ 80 → x ≠ 82 → x ≠ 84 → w x = s x) → Q (iI 0) (qi w)) : qC g (d + 4) mX8_split [.inr 78, .inr 85, .inl (iI n)] (qi s) Q T := by
  refine wX8_split hw ?_
  have i0 : tkA (aup s 78 3 0) b 0 0 := ⟨fun j j0 j1 => by omega, by omega, by omega, by show (0 : Int) ≤ 0; omega, by show (0 : Int) ≤ 0; omega, fun x x0 x1 => by have : (0 : Int) ≤ x := x0; omega⟩
  have L := k_split_l (d := d + 2) (T := T) (Q := Q) (s := aup s 78 3 0) hw n1 (fun i i0 i1 => by rw [aup_o (by decide)]; exact hb i i0 i1) (fun u c l3 o5 o6 hc hf hf7 hT => ?_) 0 (aup s 78 3 0) 0 none none (Int.le_refl _) n0 (aup_s _ _ _ _) (fun _ _ _ _ _ => rfl) (fun _ _ => rfl) i0
  · simp (disch := omega) only [z_app, z_rd, z_cl, z_add, z_sub, z_mul, z_neg, z_lit, z_leT, z_leF, z_ltT, z_ltF, z_eqT, z_eqF, i_leT, i_leF, i_ltT, i_ltF, i_eqT, i_eqF, z_le, z_lt, z_eq, z_ite, z_at, z_pt, z_up, z_wr, z_wi1, z_wi0, z_wi, z_inS, z_toInt, z_nb0, z_nb1, Int.cast_ofNat_Int, true_and, and_true, not_true_eq_false, not_false_eq_true, false_imp_iff, true_imp_iff, aup_o, aup_k, ite_true, ite_false, z_fa000, z_fa001, z_fa010, z_fa011, z_fa100, z_fa101, z_fa110, z_fa111, if_true, if_false]
    exact L
  · have fin := tk_fin n1 hT
    have u78 : ∀ j : Int, evS (aup (aup u 80 c 303) 82 c n) b j 78 3 = c := fun j => by rw [ev_o (by decide) (by decide), aup_o (by decide), aup_o (by decide)]; exact hc
    have T1 := hT.1
    have C : 0 ≤ c ∧ c ≤ n := ⟨hT.2.1, hT.2.2.1⟩
    have loop : ∀ j : Int, 0 ≤ j → j ≤ c → qV g mX8_split (d + 4) 0 104 [some (.inr 78), some (.inr 85), some (.inl (iI n)), some (.inl l3), some (.inl (iI j)), o5, o6] [] (qi (evS (aup (aup u 80 c 303) 82 c n) b j)) Q T := by
      refine stepUp c (fun j ih j0 j1 => wX8_split_104 hw ?_)
      have e78 := u78 j
      by_cases h : j < c
      · obtain ⟨⟨a1, a2, a3, a4, a5, a6⟩, b2, b3, b4⟩ := T1 j j0 h
        have st := ih h (by omega) (by omega)
        rw [ev_s j0, aup_k, if_neg (by omega), aup_o (k := 80) (k' := 82) (by decide), aup_o (k := 82) (k' := 84) (by decide), aup_o (k := 80) (k' := 84) (by decide)] at st
        clear T1
        simp (disch := omega) only [z_app, z_rd, z_cl, z_add, z_sub, z_mul, z_neg, z_lit, z_leT, z_leF, z_ltT, z_ltF, z_eqT, z_eqF, i_leT, i_leF, i_ltT, i_ltF, i_eqT, i_eqF, z_le, z_lt, z_eq, z_ite, z_at, z_pt, z_up, z_wr, z_wi1, z_wi0, z_wi, z_inS, z_toInt, z_nb0, z_nb1, Int.cast_ofNat_Int, true_and, and_true, not_true_eq_false, not_false_eq_true, false_imp_iff, true_imp_iff, aup_o, aup_k, ite_true, ite_false, z_fa000, z_fa001, z_fa010, z_fa011, z_fa100, z_fa101, z_fa110, z_fa111, if_true, if_false, e78]
        refine k_evaluate hw n1 (fun i i0 i1 => ?_) j0 (by omega) ?_ ?_ ?_ a1 a2 a3 a4 b2 st
        · rw [ev_o (by decide) (by decide), aup_o (by decide), aup_o (by decide), hf 85 (by decide) (by decide) (by decide) (by decide), aup_o (by decide)]
          exact hb i i0 i1
        · unfold evS
          rw [if_neg (by omega), if_neg (by omega), aup_o (by decide), aup_k, if_neg (by omega)]
          exact a6
        · rw [ev_o (by decide) (by decide), aup_k, if_neg (by omega), aup_o (by decide)]
        · unfold evS
          rw [if_neg (by omega), if_neg (by omega), aup_o (by decide), aup_o (by decide)]
      · have ej : j = c := by omega
        subst ej
        have q := hQ _ _ _ fin (fun x x1 x2 x3 x4 => by rw [ev_o x2 x4, aup_o x3, aup_o x2, hf x x1 x2 x3 x4, aup_o x1])
        simp (disch := omega) only [z_app, z_rd, z_cl, z_add, z_sub, z_mul, z_neg, z_lit, z_leT, z_leF, z_ltT, z_ltF, z_eqT, z_eqF, i_leT, i_leF, i_ltT, i_ltF, i_eqT, i_eqF, z_le, z_lt, z_eq, z_ite, z_at, z_pt, z_up, z_wr, z_wi1, z_wi0, z_wi, z_inS, z_toInt, z_nb0, z_nb1, Int.cast_ofNat_Int, true_and, and_true, not_true_eq_false, not_false_eq_true, false_imp_iff, true_imp_iff, aup_o, aup_k, ite_true, ite_false, z_fa000, z_fa001, z_fa010, z_fa011, z_fa100, z_fa101, z_fa110, z_fa111, if_true, if_false, e78]
        exact q
    have l := loop 0 (by omega) C.1
    rw [ev_0] at l
    exact l
end SP
