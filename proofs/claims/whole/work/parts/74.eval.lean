/-! ===== words and numbers of the class's tokens ===== -/
def WL : List (List Int) := [[98, 101, 103, 105, 110], [99, 111, 109, 109, 105, 116], [97, 98, 111, 114, 116], [119, 114, 105, 116, 101], [114, 101, 109, 111, 118, 101], [99, 111, 112, 121], [115, 101, 110, 100], [106, 111, 105, 110], [114, 101, 97, 100], [102, 108, 117, 115, 104], [109, 97, 114, 107], [114, 101, 112, 101, 97, 116], [119, 104, 101, 110], [105, 110], [110, 101, 120, 116], [100, 117, 114, 97, 98, 108, 101], [98, 121, 116, 101, 115], [117, 110, 114, 101, 97, 100]]
def wlp (k i : Nat) : Int := (WL.getD k []).getD i 32
theorem wl_qwc' : ∀ k : Fin 18, ∀ i : Fin 8, qwc (8 * k.val + i.val) = iI (wlp k.val i.val) ∧ (32 ≤ wlp k.val i.val ∧ wlp k.val i.val ≤ 122) := by decide +kernel
theorem wl_qwc {k i : Nat} (hk : k < 18) (hi : i < 8) : qwc (8 * k + i) = iI (wlp k i) ∧ (32 ≤ wlp k i ∧ wlp k i ≤ 122) := wl_qwc' ⟨k, hk⟩ ⟨i, hi⟩
theorem wl_len : ∀ l ∈ WL, l.length ≤ 8 ∧ ∀ x ∈ l, x ≠ 32 := by decide
/-- letters -/
def lt (f : Int → Int) (a : Int) : Nat → List Int
  | 0 => []
  | k + 1 => lt f a k ++ [f (a + k)]
theorem lt_len (f : Int → Int) (a : Int) : ∀ k, (lt f a k).length = k := by
  intro k
  induction k with
  | zero => rfl
  | succ k ih => show (lt f a k ++ [f (a + k)]).length = k + 1; rw [List.length_append, ih]; rfl
theorem lt_at (f : Int → Int) (a : Int) : ∀ (k i : Nat), i < k → (lt f a k).getD i 32 = f (a + i) := by
  intro k
  induction k with
  | zero => intro i h; omega
  | succ k ih =>
    intro i h
    show (lt f a k ++ [f (a + k)]).getD i 32 = _
    by_cases hi : i < k
    · rw [List.getD_eq_getElem?_getD, List.getElem?_append_left (by rw [lt_len]; exact hi), ← List.getD_eq_getElem?_getD, ih i hi]
    · have e : i = k := by omega
      subst e
      rw [List.getD_eq_getElem?_getD, List.getElem?_append_right (by rw [lt_len]; exact Nat.le_refl _), lt_len, Nat.sub_self]
      rfl
theorem lt_out (f : Int → Int) (a : Int) {k i : Nat} (h : k ≤ i) : (lt f a k).getD i 32 = 32 := by
  rw [List.getD_eq_getElem?_getD, List.getElem?_eq_none (by rw [lt_len]; exact h)]
  rfl
theorem lt_c {f g : Int → Int} {a : Int} : ∀ k : Nat, (∀ x, a ≤ x → x < a + k → f x = g x) → lt f a k = lt g a k := by
  intro k
  induction k with
  | zero => intro _; rfl
  | succ k ih =>
    intro h
    show lt f a k ++ [f (a + k)] = lt g a k ++ [g (a + k)]
    rw [ih (fun x x0 x1 => h x x0 (by omega)), h (a + k) (by omega) (by omega)]
theorem lt_m {f : Int → Int} {a : Int} : ∀ (k : Nat) (y : Int), y ∈ lt f a k → ∃ x, a ≤ x ∧ x < a + k ∧ y = f x := by
  intro k
  induction k with
  | zero => intro y h; cases h
  | succ k ih =>
    intro y h
    rcases List.mem_append.mp h with h | h
    · obtain ⟨x, x0, x1, x2⟩ := ih y h
      exact ⟨x, x0, by omega, x2⟩
    · exact ⟨a + k, by omega, by omega, List.mem_singleton.mp h⟩
theorem pad_eq : ∀ (x y : List Int), (∀ z ∈ x, z ≠ 32) → (∀ z ∈ y, z ≠ 32) → x.length ≤ 8 → y.length ≤ 8 → (∀ i : Nat, i < 8 → x.getD i 32 = y.getD i 32) → x = y := by
  intro x y hx hy lx ly h
  have key : ∀ (x y : List Int), (∀ z ∈ y, z ≠ 32) → y.length ≤ 8 → (∀ i : Nat, i < 8 → x.getD i 32 = y.getD i 32) → y.length ≤ x.length := by
    intro x y hy ly h
    by_cases hl : y.length ≤ x.length
    · exact hl
    · have e := h x.length (by omega)
      rw [List.getD_eq_getElem?_getD, List.getElem?_eq_none (Nat.le_refl _), List.getD_eq_getElem?_getD, List.getElem?_eq_getElem (by omega)] at e
      exact (hy _ (List.getElem_mem _) e.symm).elim
  have l1 := key x y hy ly h
  have l2 := key y x hx lx (fun i hi => (h i hi).symm)
  refine List.ext_getElem (by omega) (fun i h1 h2 => ?_)
  have e := h i (by omega)
  rw [List.getD_eq_getElem?_getD, List.getElem?_eq_getElem h1, List.getD_eq_getElem?_getD, List.getElem?_eq_getElem h2] at e
  exact e
def kwn (l : List Int) : Nat → Nat → Int
  | 0, _ => -1
  | f + 1, k => if l = WL.getD k [] then k else kwn l f (k + 1)
def kw (l : List Int) : Int := kwn l 18 0
theorem kwn_b (l : List Int) : ∀ f k : Nat, -1 ≤ kwn l f k ∧ kwn l f k < k + f ∨ (f = 0 ∧ kwn l f k = -1) := by
  intro f
  induction f with
  | zero => intro k; right; exact ⟨rfl, rfl⟩
  | succ f ih =>
    intro k
    left
    show -1 ≤ (if l = WL.getD k [] then (k : Int) else kwn l f (k + 1)) ∧ (if l = WL.getD k [] then (k : Int) else kwn l f (k + 1)) < k + (f + 1 : Nat)
    by_cases h : l = WL.getD k []
    · rw [if_pos h]; omega
    · rw [if_neg h]
      rcases ih (k + 1) with h1 | h1 <;> omega
theorem kw_b (l : List Int) : -1 ≤ kw l ∧ kw l ≤ 17 := by
  have h : -1 ≤ kw l ∧ kw l < ((0 : Nat) : Int) + ((18 : Nat) : Int) ∨ ((18 : Nat) = 0 ∧ kw l = -1) := kwn_b l 18 0
  omega
/-- numbers -/
def nvl (f : Int → Int) (a : Int) : Nat → Int
  | 0 => 0
  | k + 1 => 10 * nvl f a k + (f (a + k) - 48)
def nv (f : Int → Int) (a e : Int) : Int := nvl f a (e - a).toNat
theorem nv_l {f : Int → Int} {a e : Int} (h : a ≤ e) : nv f a (e + 1) = 10 * nv f a e + (f e - 48) := by
  unfold nv
  rw [show (e + 1 - a).toNat = (e - a).toNat + 1 by omega]
  show 10 * nvl f a (e - a).toNat + (f (a + ((e - a).toNat : Nat)) - 48) = _
  rw [show a + (((e - a).toNat : Nat) : Int) = e by omega]
theorem nv_e {f : Int → Int} {a : Int} : nv f a a = 0 := by
  unfold nv
  rw [show (a - a).toNat = 0 by omega]
  rfl
theorem nv_b {f : Int → Int} {a e : Int} (h0 : a ≤ e) (h : e ≤ a + 5) (hd : ∀ x, a ≤ x → x < e → 48 ≤ f x ∧ f x ≤ 57) : 0 ≤ nv f a e ∧ nv f a e ≤ 99999 := by
  have st : ∀ (k c : Int), 0 ≤ c → a ≤ k → k < e → 0 ≤ nv f a k → nv f a k ≤ c → 0 ≤ nv f a (k + 1) ∧ nv f a (k + 1) ≤ 10 * c + 9 := by
    intro k c c0 k0 k1 x0 x1
    have := hd k k0 k1
    rw [nv_l k0]
    omega
  have z : nv f a a = 0 := nv_e
  by_cases e0 : e = a
  · subst e0; omega
  have s1 := st a 0 (by omega) (by omega) (by omega) (by omega) (by omega)
  by_cases e1 : e = a + 1
  · subst e1; omega
  have s2 := st (a + 1) 9 (by omega) (by omega) (by omega) s1.1 (by omega)
  by_cases e2 : e = a + 1 + 1
  · subst e2; omega
  have s3 := st (a + 1 + 1) 99 (by omega) (by omega) (by omega) s2.1 (by omega)
  by_cases e3 : e = a + 1 + 1 + 1
  · subst e3; omega
  have s4 := st (a + 1 + 1 + 1) 999 (by omega) (by omega) (by omega) s3.1 (by omega)
  by_cases e4 : e = a + 1 + 1 + 1 + 1
  · subst e4; omega
  have s5 := st (a + 1 + 1 + 1 + 1) 9999 (by omega) (by omega) (by omega) s4.1 (by omega)
  have e5 : e = a + 1 + 1 + 1 + 1 + 1 := by omega
  subst e5
  omega
theorem nv_c {f g : Int → Int} {a : Int} : ∀ e : Int, a ≤ e → (∀ x, a ≤ x → x < e → f x = g x) → nv f a e = nv g a e := by
  refine stepDown a (fun e ih h0 h => ?_)
  by_cases h1 : a < e
  · have x := nv_l (f := f) (a := a) (e := e - 1) (by omega)
    have y := nv_l (f := g) (a := a) (e := e - 1) (by omega)
    rw [show e - 1 + 1 = e by omega] at x y
    rw [x, y, ih h1 (by omega) (fun x x0 x1 => h x x0 (by omega)), h (e - 1) (by omega) (by omega)]
  · rw [show e = a by omega, nv_e, nv_e]
section EV
variable {g : qG} {s : aS} {d : Nat} {Q : Int32 → qS → Prop} {T : String → qS → Prop}
theorem k_isWord (hw : qWF g) {k v : Nat} {S : Int} (hk : k < 18) (S0 : 0 ≤ S) (S1 : S + v ≤ 900) (hl : ∀ x, S ≤ x → x < S + v → 97 ≤ s 85 x ∧ s 85 x ≤ 122) (h1 : (∀ i : Nat, i < 8 → wlp k i = (lt (s 85) S v).getD i 32) → Q (iI 1) (qi s)) (h0 : ¬ (∀ i : Nat, i < 8 → wlp k i = (lt (s 85) S v).getD i 32) → Q (iI 0) (qi s)) : qC g (d + 1) mX8_isWord [.inl (iI (8 * k)), .inr 85, .inl (iI S), .inl (iI v)] (qi s) Q T := by
  have nn : nI 900 = iI 900 := z_nI 900
  have loop : ∀ (f i : Nat) (o5 o6 : Option qP), i + f = 8 → (∀ j : Nat, j < i → wlp k j = (lt (s 85) S v).getD j 32) → qV g mX8_isWord (d + 1) 0 3 [some (.inl (iI (8 * k))), some (.inr 85), some (.inl (iI S)), some (.inl (iI v)), some (.inl (iI i)), o5, o6] [] (qi s) Q T := by
    intro f
    induction f with
    | zero =>
      intro i o5 o6 hf hj
      have e : i = 8 := by omega
      subst e
      have q := h1 hj
      refine wX8_isWord_3 hw ?_
      simp (disch := omega) only [z_app, z_rd, z_cl, z_add, z_sub, z_mul, z_neg, z_lit, z_leT, z_leF, z_ltT, z_ltF, z_eqT, z_eqF, i_leT, i_leF, i_ltT, i_ltF, i_eqT, i_eqF, z_le, z_lt, z_eq, z_ite, z_at, z_pt, z_up, z_wr, z_wi1, z_wi0, z_wi, z_inS, z_toInt, z_nb0, z_nb1, Int.cast_ofNat_Int, true_and, and_true, not_true_eq_false, not_false_eq_true, false_imp_iff, true_imp_iff, aup_o, aup_k, ite_true, ite_false, z_fa000, z_fa001, z_fa010, z_fa011, z_fa100, z_fa101, z_fa110, z_fa111, if_true, if_false]
      exact ⟨Or.inr trivial, q⟩
    | succ f ih =>
      intro i o5 o6 hf hj
      have W := wl_qwc hk (i := i) (by omega)
      have ni : iI (8 * (k : Int)) + iI (i : Int) = nI (8 * k + i) := by rw [z_add, z_nI]; rfl
      have lenb : ∀ y : Int32, ([.inl y] : List qP).length ≤ 8 := fun _ => show 1 ≤ 8 by decide
      have key : ∀ (t : Int), t = (if i < v then 1 else 0) → qV g mX8_isWord (d + 1) 0 51 [some (.inl (iI (8 * k))), some (.inr 85), some (.inl (iI S)), some (.inl (iI v)), some (.inl (iI i)), some (.inl (iI (S + i))), o6] [.inl (iI t)] (qi s) Q T := by
        intro t ht
        refine wX8_isWord_51 hw ⟨by decide, 8 * k + i, ni, by omega, ?_⟩
        rw [W.1]
        by_cases hv : i < v
        · rw [if_pos hv] at ht
          subst ht
          have L := hl (S + i) (by omega) (by omega)
          have ea := lt_at (s 85) S v i hv
          by_cases hq : wlp k i = s 85 (S + i)
          · have st := ih (i + 1) (some (.inl (iI (S + i)))) (some (.inl (iI 1))) (by omega) (fun j hj' => by
              by_cases e : j = i
              · rw [e, ea]; exact hq
              · exact hj j (by omega))
            rw [show ((i + 1 : Nat) : Int) = (i : Int) + 1 by omega] at st
            simp (disch := omega) only [z_app, z_rd, z_cl, z_add, z_sub, z_mul, z_neg, z_lit, z_leT, z_leF, z_ltT, z_ltF, z_eqT, z_eqF, i_leT, i_leF, i_ltT, i_ltF, i_eqT, i_eqF, z_le, z_lt, z_eq, z_ite, z_at, z_pt, z_up, z_wr, z_wi1, z_wi0, z_wi, z_inS, z_toInt, z_nb0, z_nb1, Int.cast_ofNat_Int, true_and, and_true, not_true_eq_false, not_false_eq_true, false_imp_iff, true_imp_iff, aup_o, aup_k, ite_true, ite_false, z_fa000, z_fa001, z_fa010, z_fa011, z_fa100, z_fa101, z_fa110, z_fa111, if_true, if_false]
            exact st
          · have q := h0 (fun h => hq (by rw [h i (by omega), ea]))
            simp (disch := omega) only [z_app, z_rd, z_cl, z_add, z_sub, z_mul, z_neg, z_lit, z_leT, z_leF, z_ltT, z_ltF, z_eqT, z_eqF, i_leT, i_leF, i_ltT, i_ltF, i_eqT, i_eqF, z_le, z_lt, z_eq, z_ite, z_at, z_pt, z_up, z_wr, z_wi1, z_wi0, z_wi, z_inS, z_toInt, z_nb0, z_nb1, Int.cast_ofNat_Int, true_and, and_true, not_true_eq_false, not_false_eq_true, false_imp_iff, true_imp_iff, aup_o, aup_k, ite_true, ite_false, z_fa000, z_fa001, z_fa010, z_fa011, z_fa100, z_fa101, z_fa110, z_fa111, if_true, if_false]
            exact ⟨Or.inl trivial, q⟩
        · rw [if_neg hv] at ht
          subst ht
          have ea := lt_out (s 85) S (k := v) (i := i) (by omega)
          by_cases hq : wlp k i = 32
          · have st := ih (i + 1) (some (.inl (iI (S + i)))) (some (.inl (iI 0))) (by omega) (fun j hj' => by
              by_cases e : j = i
              · rw [e, ea]; exact hq
              · exact hj j (by omega))
            rw [show ((i + 1 : Nat) : Int) = (i : Int) + 1 by omega] at st
            simp (disch := omega) only [z_app, z_rd, z_cl, z_add, z_sub, z_mul, z_neg, z_lit, z_leT, z_leF, z_ltT, z_ltF, z_eqT, z_eqF, i_leT, i_leF, i_ltT, i_ltF, i_eqT, i_eqF, z_le, z_lt, z_eq, z_ite, z_at, z_pt, z_up, z_wr, z_wi1, z_wi0, z_wi, z_inS, z_toInt, z_nb0, z_nb1, Int.cast_ofNat_Int, true_and, and_true, not_true_eq_false, not_false_eq_true, false_imp_iff, true_imp_iff, aup_o, aup_k, ite_true, ite_false, z_fa000, z_fa001, z_fa010, z_fa011, z_fa100, z_fa101, z_fa110, z_fa111, if_true, if_false]
            exact st
          · have q := h0 (fun h => hq (by rw [h i (by omega), ea]))
            simp (disch := omega) only [z_app, z_rd, z_cl, z_add, z_sub, z_mul, z_neg, z_lit, z_leT, z_leF, z_ltT, z_ltF, z_eqT, z_eqF, i_leT, i_leF, i_ltT, i_ltF, i_eqT, i_eqF, z_le, z_lt, z_eq, z_ite, z_at, z_pt, z_up, z_wr, z_wi1, z_wi0, z_wi, z_inS, z_toInt, z_nb0, z_nb1, Int.cast_ofNat_Int, true_and, and_true, not_true_eq_false, not_false_eq_true, false_imp_iff, true_imp_iff, aup_o, aup_k, ite_true, ite_false, z_fa000, z_fa001, z_fa010, z_fa011, z_fa100, z_fa101, z_fa110, z_fa111, if_true, if_false]
            exact ⟨Or.inl trivial, q⟩
      refine wX8_isWord_3 hw ?_
      by_cases hv : i < v
      · have q := key 1 (by rw [if_pos hv])
        simp (disch := omega) only [z_app, z_rd, z_cl, z_add, z_sub, z_mul, z_neg, z_lit, z_leT, z_leF, z_ltT, z_ltF, z_eqT, z_eqF, i_leT, i_leF, i_ltT, i_ltF, i_eqT, i_eqF, z_le, z_lt, z_eq, z_ite, z_at, z_pt, z_up, z_wr, z_wi1, z_wi0, z_wi, z_inS, z_toInt, z_nb0, z_nb1, Int.cast_ofNat_Int, true_and, and_true, not_true_eq_false, not_false_eq_true, false_imp_iff, true_imp_iff, aup_o, aup_k, ite_true, ite_false, z_fa000, z_fa001, z_fa010, z_fa011, z_fa100, z_fa101, z_fa110, z_fa111, if_true, if_false, nn, lenb]
        exact q
      · have q := key 0 (by rw [if_neg hv])
        simp (disch := omega) only [z_app, z_rd, z_cl, z_add, z_sub, z_mul, z_neg, z_lit, z_leT, z_leF, z_ltT, z_ltF, z_eqT, z_eqF, i_leT, i_leF, i_ltT, i_ltF, i_eqT, i_eqF, z_le, z_lt, z_eq, z_ite, z_at, z_pt, z_up, z_wr, z_wi1, z_wi0, z_wi, z_inS, z_toInt, z_nb0, z_nb1, Int.cast_ofNat_Int, true_and, and_true, not_true_eq_false, not_false_eq_true, false_imp_iff, true_imp_iff, aup_o, aup_k, ite_true, ite_false, z_fa000, z_fa001, z_fa010, z_fa011, z_fa100, z_fa101, z_fa110, z_fa111, if_true, if_false, nn, lenb]
        exact q
  have l := loop 8 0 none none rfl (fun j hj => by omega)
  exact wX8_isWord hw ⟨rfl, l⟩
theorem k_wordAt (hw : qWF g) {v : Nat} {S : Int} (S0 : 0 ≤ S) (S1 : S + v ≤ 900) (hl : ∀ x, S ≤ x → x < S + v → 97 ≤ s 85 x ∧ s 85 x ≤ 122) (hQ : Q (iI (if v ≤ 8 then (if kw (lt (s 85) S v) = -1 then 302 else 256 + kw (lt (s 85) S v)) else 302)) (qi s)) : qC g (d + 2) mX8_wordAt [.inr 85, .inl (iI S), .inl (iI v)] (qi s) Q T := by
  refine wX8_wordAt hw ?_
  by_cases hv : v ≤ 8
  · rw [if_pos hv] at hQ
    have loop : ∀ (f k : Nat), k + f = 18 → kw (lt (s 85) S v) = kwn (lt (s 85) S v) f k → qV g mX8_wordAt (d + 2) 0 12 [some (.inr 85), some (.inl (iI S)), some (.inl (iI v)), some (.inl (iI (8 * k)))] [] (qi s) Q T := by
      intro f
      induction f with
      | zero =>
        intro k hk hkw
        have e : k = 18 := by omega
        rw [hkw, show kwn (lt (s 85) S v) 0 k = -1 from rfl, if_pos rfl] at hQ
        refine wX8_wordAt_12 hw ⟨by show 1 ≤ 8; decide, ?_⟩
        simp (disch := omega) only [z_app, z_rd, z_cl, z_add, z_sub, z_mul, z_neg, z_lit, z_leT, z_leF, z_ltT, z_ltF, z_eqT, z_eqF, i_leT, i_leF, i_ltT, i_ltF, i_eqT, i_eqF, z_le, z_lt, z_eq, z_ite, z_at, z_pt, z_up, z_wr, z_wi1, z_wi0, z_wi, z_inS, z_toInt, z_nb0, z_nb1, Int.cast_ofNat_Int, true_and, and_true, not_true_eq_false, not_false_eq_true, false_imp_iff, true_imp_iff, aup_o, aup_k, ite_true, ite_false, z_fa000, z_fa001, z_fa010, z_fa011, z_fa100, z_fa101, z_fa110, z_fa111, if_true, if_false]
        exact hQ
      | succ f ih =>
        intro k hk hkw
        have hkw' : kw (lt (s 85) S v) = if lt (s 85) S v = WL.getD k [] then (k : Int) else kwn (lt (s 85) S v) f (k + 1) := hkw
        have WM : WL.getD k [] ∈ WL := by
          rw [List.getD_eq_getElem?_getD, List.getElem?_eq_getElem (show k < WL.length by show k < 18; omega)]
          exact List.getElem_mem _
        have WB := wl_len _ WM
        refine wX8_wordAt_12 hw ⟨by show 1 ≤ 8; decide, ?_⟩
        simp (disch := omega) only [z_app, z_rd, z_cl, z_add, z_sub, z_mul, z_neg, z_lit, z_leT, z_leF, z_ltT, z_ltF, z_eqT, z_eqF, i_leT, i_leF, i_ltT, i_ltF, i_eqT, i_eqF, z_le, z_lt, z_eq, z_ite, z_at, z_pt, z_up, z_wr, z_wi1, z_wi0, z_wi, z_inS, z_toInt, z_nb0, z_nb1, Int.cast_ofNat_Int, true_and, and_true, not_true_eq_false, not_false_eq_true, false_imp_iff, true_imp_iff, aup_o, aup_k, ite_true, ite_false, z_fa000, z_fa001, z_fa010, z_fa011, z_fa100, z_fa101, z_fa110, z_fa111, if_true, if_false]
        refine k_isWord hw (by omega) S0 S1 hl (fun h => ?_) (fun h => ?_)
        · have e : lt (s 85) S v = WL.getD k [] := by
            refine pad_eq _ _ (fun z hz => ?_) WB.2 (by rw [lt_len]; exact hv) WB.1 (fun i hi => (h i hi).symm)
            obtain ⟨x, x0, x1, x2⟩ := lt_m v z hz
            have := hl x x0 x1
            omega
          rw [hkw', if_pos e, if_neg (by omega)] at hQ
          have dv : iI (8 * (k : Int)) / iI 8 = iI k := by
            have : ∀ k : Fin 18, iI (8 * ((k.val : Nat) : Int)) / iI 8 = iI ((k.val : Nat) : Int) := by decide +kernel
            exact this ⟨k, by omega⟩
          have n8 : ¬ iI 8 = iI 0 := by decide +kernel
          simp (disch := omega) only [z_app, z_rd, z_cl, z_add, z_sub, z_mul, z_neg, z_lit, z_leT, z_leF, z_ltT, z_ltF, z_eqT, z_eqF, i_leT, i_leF, i_ltT, i_ltF, i_eqT, i_eqF, z_le, z_lt, z_eq, z_ite, z_at, z_pt, z_up, z_wr, z_wi1, z_wi0, z_wi, z_inS, z_toInt, z_nb0, z_nb1, Int.cast_ofNat_Int, true_and, and_true, not_true_eq_false, not_false_eq_true, false_imp_iff, true_imp_iff, aup_o, aup_k, ite_true, ite_false, z_fa000, z_fa001, z_fa010, z_fa011, z_fa100, z_fa101, z_fa110, z_fa111, if_true, if_false, dv]
          exact hQ
        · have e : ¬ lt (s 85) S v = WL.getD k [] := fun e => h (fun i _ => by unfold wlp; rw [e])
          have st := ih (k + 1) (by omega) (by rw [hkw', if_neg e])
          rw [show 8 * ((k + 1 : Nat) : Int) = 8 * (k : Int) + 8 by omega] at st
          simp (disch := omega) only [z_app, z_rd, z_cl, z_add, z_sub, z_mul, z_neg, z_lit, z_leT, z_leF, z_ltT, z_ltF, z_eqT, z_eqF, i_leT, i_leF, i_ltT, i_ltF, i_eqT, i_eqF, z_le, z_lt, z_eq, z_ite, z_at, z_pt, z_up, z_wr, z_wi1, z_wi0, z_wi, z_inS, z_toInt, z_nb0, z_nb1, Int.cast_ofNat_Int, true_and, and_true, not_true_eq_false, not_false_eq_true, false_imp_iff, true_imp_iff, aup_o, aup_k, ite_true, ite_false, z_fa000, z_fa001, z_fa010, z_fa011, z_fa100, z_fa101, z_fa110, z_fa111, if_true, if_false]
          exact st
    have l := loop 18 0 rfl rfl
    simp (disch := omega) only [z_app, z_rd, z_cl, z_add, z_sub, z_mul, z_neg, z_lit, z_leT, z_leF, z_ltT, z_ltF, z_eqT, z_eqF, i_leT, i_leF, i_ltT, i_ltF, i_eqT, i_eqF, z_le, z_lt, z_eq, z_ite, z_at, z_pt, z_up, z_wr, z_wi1, z_wi0, z_wi, z_inS, z_toInt, z_nb0, z_nb1, Int.cast_ofNat_Int, true_and, and_true, not_true_eq_false, not_false_eq_true, false_imp_iff, true_imp_iff, aup_o, aup_k, ite_true, ite_false, z_fa000, z_fa001, z_fa010, z_fa011, z_fa100, z_fa101, z_fa110, z_fa111, if_true, if_false]
    exact l
  · rw [if_neg hv] at hQ
    simp (disch := omega) only [z_app, z_rd, z_cl, z_add, z_sub, z_mul, z_neg, z_lit, z_leT, z_leF, z_ltT, z_ltF, z_eqT, z_eqF, i_leT, i_leF, i_ltT, i_ltF, i_eqT, i_eqF, z_le, z_lt, z_eq, z_ite, z_at, z_pt, z_up, z_wr, z_wi1, z_wi0, z_wi, z_inS, z_toInt, z_nb0, z_nb1, Int.cast_ofNat_Int, true_and, and_true, not_true_eq_false, not_false_eq_true, false_imp_iff, true_imp_iff, aup_o, aup_k, ite_true, ite_false, z_fa000, z_fa001, z_fa010, z_fa011, z_fa100, z_fa101, z_fa110, z_fa111, if_true, if_false]
    exact hQ
theorem k_numberAt (hw : qWF g) {S e : Int} (S0 : 0 ≤ S) (Se : S ≤ e) (S1 : e ≤ 900) (hQ : Q (iI (nv (s 85) S e)) (qi s)) : qC g (d + 1) mX8_numberAt [.inr 85, .inl (iI S), .inl (iI (e - S))] (qi s) Q T := by
  have nn : nI 900 = iI 900 := z_nI 900
  have loop : ∀ i : Int, S ≤ i → i ≤ e → qV g mX8_numberAt (d + 1) 0 5 [some (.inr 85), some (.inl (iI S)), some (.inl (iI (e - S))), some (.inl (iI (nv (s 85) S i))), some (.inl (iI i))] [] (qi s) Q T := by
    refine stepUp e (fun i ih i0 i1 => wX8_numberAt_5 hw ?_)
    by_cases h : i < e
    · have st := ih h (by omega) (by omega)
      rw [nv_l i0] at st
      simp (disch := omega) only [z_app, z_rd, z_cl, z_add, z_sub, z_mul, z_neg, z_lit, z_leT, z_leF, z_ltT, z_ltF, z_eqT, z_eqF, i_leT, i_leF, i_ltT, i_ltF, i_eqT, i_eqF, z_le, z_lt, z_eq, z_ite, z_at, z_pt, z_up, z_wr, z_wi1, z_wi0, z_wi, z_inS, z_toInt, z_nb0, z_nb1, Int.cast_ofNat_Int, true_and, and_true, not_true_eq_false, not_false_eq_true, false_imp_iff, true_imp_iff, aup_o, aup_k, ite_true, ite_false, z_fa000, z_fa001, z_fa010, z_fa011, z_fa100, z_fa101, z_fa110, z_fa111, if_true, if_false, nn]
      exact st
    · have ei : i = e := by omega
      subst ei
      simp (disch := omega) only [z_app, z_rd, z_cl, z_add, z_sub, z_mul, z_neg, z_lit, z_leT, z_leF, z_ltT, z_ltF, z_eqT, z_eqF, i_leT, i_leF, i_ltT, i_ltF, i_eqT, i_eqF, z_le, z_lt, z_eq, z_ite, z_at, z_pt, z_up, z_wr, z_wi1, z_wi0, z_wi, z_inS, z_toInt, z_nb0, z_nb1, Int.cast_ofNat_Int, true_and, and_true, not_true_eq_false, not_false_eq_true, false_imp_iff, true_imp_iff, aup_o, aup_k, ite_true, ite_false, z_fa000, z_fa001, z_fa010, z_fa011, z_fa100, z_fa101, z_fa110, z_fa111, if_true, if_false, nn]
      exact hQ
  have l := loop S (Int.le_refl _) Se
  rw [nv_e] at l
  exact wX8_numberAt hw ⟨rfl, l⟩
end EV
