/-! ===== the class's runner ===== -/
def kI (v s : aS) : Prop := jJ s ∧ (∀ x : Nat, x = 0 ∨ 63 ≤ x → s x = v x) ∧ (s 62 2 = 0 ∧ s 62 3 = -1) ∧ 0 ≤ s 62 1 ∧ s 62 1 ≤ 200
def kFi (v s : aS) : Prop := jJ s ∧ (∀ x : Nat, x = 0 ∨ 63 ≤ x → s x = v x)
theorem kI_b {v s : aS} (h : kI v s) (h1 : s 62 1 + 1 ≤ 200) : kI v (bg1 s) := by
  obtain ⟨a1, a2, ⟨a3, a4⟩, a5, a6⟩ := h
  refine ⟨jJ_b a1, fun x hx => ?_, ⟨?_, ?_⟩, ?_, ?_⟩
  · unfold bg1; rw [aup_o (by omega)]; exact a2 x hx
  · unfold bg1; rw [aup_i (by decide)]; exact a3
  · unfold bg1; rw [aup_i (by decide)]; exact a4
  · unfold bg1; rw [aup_s]; omega
  · unfold bg1; rw [aup_s]; exact h1
theorem kFi_b {v s : aS} (h : kI v s) (f p : Int) : kFi v (aup (aup (bg1 s) 62 2 f) 62 3 p) := by
  refine ⟨jJ_w (jJ_b h.1) (fun k hk => by rw [aup_o (by omega), aup_o (by omega)]), fun x hx => ?_⟩
  rw [aup_o (by omega), aup_o (by omega)]
  unfold bg1
  rw [aup_o (by omega)]
  exact h.2.1 x hx
section KR
variable {g : qG} {Q : Int32 → qS → Prop} {T : String → qS → Prop} {s v : aS} {c K : Int} {J E : Int → Int}
/-- what is known of the program -/
def kPg (v : aS) (J E : Int → Int) (c K : Int) : Prop := tB (v 80) (v 84) c ∧ K ≤ 60 ∧ ∀ a, 0 ≤ a → a < K → cm (v 80) (v 84) (v 82) v J a ∧ v 77 a = E a ∧ 0 ≤ J a ∧ J a < c
theorem k_start {d : Nat} (hw : qWF g) (hP : kPg v J E c K) (hI : kI v s) {a : Int} (a0 : 0 ≤ a) (a1 : a < K)
    (h4 : 200 < s 62 1 + 1 → Q (iI 4) (qi (bg1 s)))
    (h7 : s 62 1 + 1 ≤ 200 → 267 ≤ v 80 (J a) → Q (iI 0) (qi (bg1 s)))
    (hf : ∀ f, s 62 1 + 1 ≤ 200 → v 80 (J a) < 267 → cF1 (v 80) (v 84) J (bg1 s) a f → Q (iI f) (qi (bg1 s)))
    (h0 : s 62 1 + 1 ≤ 200 → v 80 (J a) < 267 → (¬ cI (v 80) (v 84) J (bg1 s) a ∧ ¬ cA (v 80) (v 84) J a ∧ ¬ cS (v 80) (v 84) J (bg1 s) a) → kI v (cO (v 80) (v 84) J (bg1 s) a) → Q (iI 0) (qi (cO (v 80) (v 84) J (bg1 s) a))) : qC g (d + 7) mX6_start [.inr 62, .inr 1, .inl (iI a)] (qi s) Q T := by
  obtain ⟨hB, K6, hA⟩ := hP
  obtain ⟨⟨m1, m2, m3, m4⟩, m5, m6, m7⟩ := hA a a0 a1
  have e65 : s 65 a = v 80 (J a) := by rw [hI.2.1 65 (Or.inr (by decide))]; exact m1
  have i1 := hI.2.2.2.1
  have i2 := hI.2.2.2.2
  refine wX6_start hw ?_
  by_cases c1 : s 62 1 + 1 ≤ 200
  · by_cases c2 : v 80 (J a) < 267
    · obtain ⟨n1, n2, n3, n4⟩ := m4.1 c2
      have b0 : ∀ x : Nat, x = 0 ∨ 63 ≤ x → bg1 s x = v x := fun x hx => (kI_b hI c1).2.1 x hx
      have jb := (kI_b hI c1).1
      have wd : wdR (v 80 (J a)) := ⟨m3.1, by omega⟩
      have f1 : 1 ≤ nbs (v 80 (J a) - 256) → n32 (v 69 a) = n32 (v 84 (J a + 1)) := fun h => by rw [n1 h]
      have f2 : 2 ≤ nbs (v 80 (J a) - 256) → n32 (v 71 a) = n32 (v 84 (J a + 2)) := fun h => by rw [n2 h]
      have f3 : 3 ≤ nbs (v 80 (J a) - 256) → n32 (v 73 a) = n32 (v 84 (J a + 3)) := fun h => by rw [n3 h]
      have XI : bI (bg1 s) (v 80 (J a)) (n32 (v 69 a)) (n32 (v 71 a)) (n32 (v 75 a)) ↔ cI (v 80) (v 84) J (bg1 s) a := by
        unfold cI; rw [n4]; exact bI_n m3.1 c2 f1 f2
      have XA : bA (v 80 (J a)) (n32 (v 69 a)) (n32 (v 71 a)) (n32 (v 73 a)) ↔ cA (v 80) (v 84) J a := by
        unfold cA; exact bA_n m3.1 c2 f1 f2 f3
      have XS : bS (bg1 s) (v 80 (J a)) (n32 (v 69 a)) (n32 (v 75 a)) ↔ cS (v 80) (v 84) J (bg1 s) a := by
        unfold cS; rw [n4]; exact bS_N m3.1 c2 f1
      have XO : stS (opS (bg1 s) (v 80 (J a)) (n32 (v 69 a)) (n32 (v 71 a)) (n32 (v 73 a)) (n32 (v 75 a))) = cO (v 80) (v 84) J (bg1 s) a := by
        unfold cO; rw [n4, op_n m3.1 c2 f1 f2 f3]
      have main : ∀ Q' : Int32 → qS → Prop, (∀ f, cF1 (v 80) (v 84) J (bg1 s) a f → Q' (iI f) (qi (bg1 s))) → (qC g (d + 6) mX2_perform [.inr 1, .inl (iI (v 80 (J a))), .inl (iI (v 69 a)), .inl (iI (v 71 a)), .inl (iI (v 73 a)), .inl (iI (v 75 a))] (qi (bg1 s)) (fun _ s4 => Q (iI 0) s4) T → Q' (iI 0) (qi (bg1 s))) → qC g (d + 6) mX2_refusal [.inr 1, .inl (iI (v 80 (J a))), .inl (iI (v 69 a)), .inl (iI (v 71 a)), .inl (iI (v 73 a)), .inl (iI (v 75 a))] (qi (bg1 s)) Q' T := by
        intro Q' q1 q0
        rw [← n32_e (v 69 a), ← n32_e (v 71 a), ← n32_e (v 73 a), ← n32_e (v 75 a)] at q0 ⊢
        refine k_refusal (d := d + 3) hw jb wd (n32_i _) (n32_i _) (n32_i _) (n32_i _) (fun x1 => ?_) (fun x1 x2 => ?_) (fun x1 x2 x3 => ?_) (fun x1 x2 x3 => ?_)
        · exact q1 1 (Or.inl ⟨XI.mp x1, rfl⟩)
        · exact q1 2 (Or.inr (Or.inl ⟨fun h => x1 (XI.mpr h), XA.mp x2, rfl⟩))
        · exact q1 3 (Or.inr (Or.inr ⟨fun h => x1 (XI.mpr h), fun h => x2 (XA.mpr h), XS.mp x3, rfl⟩))
        · obtain ⟨J1, P⟩ := p_all (c := n32 (v 73 a)) hw jb wd x1 x2 x3
          refine q0 (P _ _ _ ?_)
          rw [XO]
          refine h0 c1 c2 ⟨fun h => x1 (XI.mpr h), fun h => x2 (XA.mpr h), fun h => x3 (XS.mpr h)⟩ ?_
          have J2 := j_stS J1
          rw [XO] at J2
          have fr : ∀ x : Nat, x = 0 ∨ 62 ≤ x → cO (v 80) (v 84) J (bg1 s) a x = bg1 s x := fun x hx => by unfold cO; exact sto _ _ _ _ _ _ hx
          have kb := kI_b hI c1
          refine ⟨J2, fun x hx => by rw [fr x (by omega)]; exact b0 x hx, ?_, ?_⟩
          · rw [fr 62 (by decide)]; exact kb.2.2.1
          · rw [fr 62 (by decide)]; exact kb.2.2.2
      have hf := fun f => hf f c1 c2
      have e69 : s 69 a = v 69 a := by rw [hI.2.1 69 (Or.inr (by decide))]
      have e71 : s 71 a = v 71 a := by rw [hI.2.1 71 (Or.inr (by decide))]
      have e73 : s 73 a = v 73 a := by rw [hI.2.1 73 (Or.inr (by decide))]
      have e75 : s 75 a = v 75 a := by rw [hI.2.1 75 (Or.inr (by decide))]
      unfold bg1 at main hf
      clear h0 h4 h7 XI XA XS XO f1 f2 f3 n1 n2 n3 n4 m4 jb b0
      simp (disch := omega) only [z_app, z_rd, z_cl, z_add, z_sub, z_mul, z_neg, z_lit, z_leT, z_leF, z_ltT, z_ltF, z_eqT, z_eqF, i_leT, i_leF, i_ltT, i_ltF, i_eqT, i_eqF, z_le, z_lt, z_eq, z_ite, z_at, z_pt, z_up, z_wr, z_wi1, z_wi0, z_wi, z_inS, z_toInt, z_nb0, z_nb1, Int.cast_ofNat_Int, true_and, and_true, not_true_eq_false, not_false_eq_true, false_imp_iff, true_imp_iff, aup_o, aup_k, ite_true, ite_false, z_fa000, z_fa001, z_fa010, z_fa011, z_fa100, z_fa101, z_fa110, z_fa111, if_true, if_false, e65, e69, e71, e73, e75]
      refine main _ (fun f hf1 => ?_) (fun hp => ?_)
      · have q := hf f hf1
        have fb : 1 ≤ f ∧ f ≤ 3 := by
          rcases hf1 with h | h | h
          · have := h.2; omega
          · have := h.2.2; omega
          · have := h.2.2.2; omega
        clear main hf hf1
        simp (disch := omega) only [z_app, z_rd, z_cl, z_add, z_sub, z_mul, z_neg, z_lit, z_leT, z_leF, z_ltT, z_ltF, z_eqT, z_eqF, i_leT, i_leF, i_ltT, i_ltF, i_eqT, i_eqF, z_le, z_lt, z_eq, z_ite, z_at, z_pt, z_up, z_wr, z_wi1, z_wi0, z_wi, z_inS, z_toInt, z_nb0, z_nb1, Int.cast_ofNat_Int, true_and, and_true, not_true_eq_false, not_false_eq_true, false_imp_iff, true_imp_iff, aup_o, aup_k, ite_true, ite_false, z_fa000, z_fa001, z_fa010, z_fa011, z_fa100, z_fa101, z_fa110, z_fa111, if_true, if_false]
        exact q
      · clear main hf
        simp (disch := omega) only [z_app, z_rd, z_cl, z_add, z_sub, z_mul, z_neg, z_lit, z_leT, z_leF, z_ltT, z_ltF, z_eqT, z_eqF, i_leT, i_leF, i_ltT, i_ltF, i_eqT, i_eqF, z_le, z_lt, z_eq, z_ite, z_at, z_pt, z_up, z_wr, z_wi1, z_wi0, z_wi, z_inS, z_toInt, z_nb0, z_nb1, Int.cast_ofNat_Int, true_and, and_true, not_true_eq_false, not_false_eq_true, false_imp_iff, true_imp_iff, aup_o, aup_k, ite_true, ite_false, z_fa000, z_fa001, z_fa010, z_fa011, z_fa100, z_fa101, z_fa110, z_fa111, if_true, if_false]
        exact hp
    · have q := h7 c1 (by omega)
      unfold bg1 at q
      clear h0 h4 h7 hf m4
      simp (disch := omega) only [z_app, z_rd, z_cl, z_add, z_sub, z_mul, z_neg, z_lit, z_leT, z_leF, z_ltT, z_ltF, z_eqT, z_eqF, i_leT, i_leF, i_ltT, i_ltF, i_eqT, i_eqF, z_le, z_lt, z_eq, z_ite, z_at, z_pt, z_up, z_wr, z_wi1, z_wi0, z_wi, z_inS, z_toInt, z_nb0, z_nb1, Int.cast_ofNat_Int, true_and, and_true, not_true_eq_false, not_false_eq_true, false_imp_iff, true_imp_iff, aup_o, aup_k, ite_true, ite_false, z_fa000, z_fa001, z_fa010, z_fa011, z_fa100, z_fa101, z_fa110, z_fa111, if_true, if_false, e65]
      exact q
  · have q := h4 (by omega)
    unfold bg1 at q
    clear h0 h4 h7 hf m4
    simp (disch := omega) only [z_app, z_rd, z_cl, z_add, z_sub, z_mul, z_neg, z_lit, z_leT, z_leF, z_ltT, z_ltF, z_eqT, z_eqF, i_leT, i_leF, i_ltT, i_ltF, i_eqT, i_eqF, z_le, z_lt, z_eq, z_ite, z_at, z_pt, z_up, z_wr, z_wi1, z_wi0, z_wi, z_inS, z_toInt, z_nb0, z_nb1, Int.cast_ofNat_Int, true_and, and_true, not_true_eq_false, not_false_eq_true, false_imp_iff, true_imp_iff, aup_o, aup_k, ite_true, ite_false, z_fa000, z_fa001, z_fa010, z_fa011, z_fa100, z_fa101, z_fa110, z_fa111, if_true, if_false]
    exact q
theorem k_inner {d : Nat} (hw : qWF g) (hP : kPg v J E c K) (hI : kI v s) {a : Int} (a0 : 0 ≤ a) (a1 : a < K) (hQ : Q (iI (if 267 ≤ v 80 (J a) then rdS (v 80) (v 84) s (J a) else 0)) (qi s)) : qC g (d + 5) mX6_innerRounds [.inr 62, .inr 1, .inl (iI a)] (qi s) Q T := by
  obtain ⟨hB, K6, hA⟩ := hP
  obtain ⟨⟨m1, m2, m3, m4⟩, m5, m6, m7⟩ := hA a a0 a1
  have e65 : s 65 a = v 80 (J a) := by rw [hI.2.1 65 (Or.inr (by decide))]; exact m1
  refine wX6_innerRounds hw ?_
  by_cases c1 : v 80 (J a) = 267
  · rw [if_pos (by omega)] at hQ
    unfold rdS at hQ
    rw [if_pos c1] at hQ
    obtain ⟨n1, n2, n3⟩ := m4.2.1 c1
    have e69 : s 69 a = v 84 (J a + 1) := by rw [hI.2.1 69 (Or.inr (by decide))]; exact n1
    clear m4
    simp (disch := omega) only [z_app, z_rd, z_cl, z_add, z_sub, z_mul, z_neg, z_lit, z_leT, z_leF, z_ltT, z_ltF, z_eqT, z_eqF, i_leT, i_leF, i_ltT, i_ltF, i_eqT, i_eqF, z_le, z_lt, z_eq, z_ite, z_at, z_pt, z_up, z_wr, z_wi1, z_wi0, z_wi, z_inS, z_toInt, z_nb0, z_nb1, Int.cast_ofNat_Int, true_and, and_true, not_true_eq_false, not_false_eq_true, false_imp_iff, true_imp_iff, aup_o, aup_k, ite_true, ite_false, z_fa000, z_fa001, z_fa010, z_fa011, z_fa100, z_fa101, z_fa110, z_fa111, if_true, if_false, e65, c1, e69]
    exact hQ
  · by_cases c2 : v 80 (J a) = 268
    · rw [if_pos (by omega)] at hQ
      unfold rdS at hQ
      rw [if_neg c1] at hQ
      obtain ⟨x, y, n1, n2, n3, n4, n5, n6⟩ := m4.2.2 c2
      have e80 : s 80 = v 80 := hI.2.1 80 (Or.inr (by decide))
      have e84 : s 84 = v 84 := hI.2.1 84 (Or.inr (by decide))
      have h := fun (Q' : Int32 → qS → Prop) => k_holds (d := d) (Q := Q') (T := T) hw hI.1 (by rw [e80, e84]; exact hB) a0 (by omega) m6 m7 (by rw [e80]; omega) (by rw [e80]; exact n1) (by rw [e80]; exact n2) (by rw [e80]; exact n3) (by rw [hI.2.1 69 (Or.inr (by decide))]; exact n4) (by rw [hI.2.1 71 (Or.inr (by decide))]; exact n5) (by rw [hI.2.1 73 (Or.inr (by decide))]; exact n6)
      rw [e80, e84] at h
      clear m4 n2
      cases hh : hb (v 80) (v 84) s (J a) with
      | true =>
        have e : (if hb (v 80) (v 84) s (J a) = true then (1 : Int) else 0) = 1 := by rw [hh]; rfl
        rw [e] at h hQ
        simp (disch := omega) only [z_app, z_rd, z_cl, z_add, z_sub, z_mul, z_neg, z_lit, z_leT, z_leF, z_ltT, z_ltF, z_eqT, z_eqF, i_leT, i_leF, i_ltT, i_ltF, i_eqT, i_eqF, z_le, z_lt, z_eq, z_ite, z_at, z_pt, z_up, z_wr, z_wi1, z_wi0, z_wi, z_inS, z_toInt, z_nb0, z_nb1, Int.cast_ofNat_Int, true_and, and_true, not_true_eq_false, not_false_eq_true, false_imp_iff, true_imp_iff, aup_o, aup_k, ite_true, ite_false, z_fa000, z_fa001, z_fa010, z_fa011, z_fa100, z_fa101, z_fa110, z_fa111, if_true, if_false, e65, c2]
        refine h _ ?_
        simp (disch := omega) only [z_app, z_rd, z_cl, z_add, z_sub, z_mul, z_neg, z_lit, z_leT, z_leF, z_ltT, z_ltF, z_eqT, z_eqF, i_leT, i_leF, i_ltT, i_ltF, i_eqT, i_eqF, z_le, z_lt, z_eq, z_ite, z_at, z_pt, z_up, z_wr, z_wi1, z_wi0, z_wi, z_inS, z_toInt, z_nb0, z_nb1, Int.cast_ofNat_Int, true_and, and_true, not_true_eq_false, not_false_eq_true, false_imp_iff, true_imp_iff, aup_o, aup_k, ite_true, ite_false, z_fa000, z_fa001, z_fa010, z_fa011, z_fa100, z_fa101, z_fa110, z_fa111, if_true, if_false]
        exact hQ
      | false =>
        have e : (if hb (v 80) (v 84) s (J a) = true then (1 : Int) else 0) = 0 := by rw [hh]; rfl
        rw [e] at h hQ
        simp (disch := omega) only [z_app, z_rd, z_cl, z_add, z_sub, z_mul, z_neg, z_lit, z_leT, z_leF, z_ltT, z_ltF, z_eqT, z_eqF, i_leT, i_leF, i_ltT, i_ltF, i_eqT, i_eqF, z_le, z_lt, z_eq, z_ite, z_at, z_pt, z_up, z_wr, z_wi1, z_wi0, z_wi, z_inS, z_toInt, z_nb0, z_nb1, Int.cast_ofNat_Int, true_and, and_true, not_true_eq_false, not_false_eq_true, false_imp_iff, true_imp_iff, aup_o, aup_k, ite_true, ite_false, z_fa000, z_fa001, z_fa010, z_fa011, z_fa100, z_fa101, z_fa110, z_fa111, if_true, if_false, e65, c2]
        refine h _ ?_
        simp (disch := omega) only [z_app, z_rd, z_cl, z_add, z_sub, z_mul, z_neg, z_lit, z_leT, z_leF, z_ltT, z_ltF, z_eqT, z_eqF, i_leT, i_leF, i_ltT, i_ltF, i_eqT, i_eqF, z_le, z_lt, z_eq, z_ite, z_at, z_pt, z_up, z_wr, z_wi1, z_wi0, z_wi, z_inS, z_toInt, z_nb0, z_nb1, Int.cast_ofNat_Int, true_and, and_true, not_true_eq_false, not_false_eq_true, false_imp_iff, true_imp_iff, aup_o, aup_k, ite_true, ite_false, z_fa000, z_fa001, z_fa010, z_fa011, z_fa100, z_fa101, z_fa110, z_fa111, if_true, if_false]
        exact hQ
    · rw [if_neg (by omega)] at hQ
      clear m4
      simp (disch := omega) only [z_app, z_rd, z_cl, z_add, z_sub, z_mul, z_neg, z_lit, z_leT, z_leF, z_ltT, z_ltF, z_eqT, z_eqF, i_leT, i_leF, i_ltT, i_ltF, i_eqT, i_eqF, z_le, z_lt, z_eq, z_ite, z_at, z_pt, z_up, z_wr, z_wi1, z_wi0, z_wi, z_inS, z_toInt, z_nb0, z_nb1, Int.cast_ofNat_Int, true_and, and_true, not_true_eq_false, not_false_eq_true, false_imp_iff, true_imp_iff, aup_o, aup_k, ite_true, ite_false, z_fa000, z_fa001, z_fa010, z_fa011, z_fa100, z_fa101, z_fa110, z_fa111, if_true, if_false, e65]
      exact hQ
theorem k_empty {d : Nat} (hw : qWF g) {z r : Int} {l5 : Int32} (z0 : 0 ≤ z) (z1 : z ≤ 60) (r0 : 1 ≤ r) (r1 : r ≤ 50) (hQ : Q (iI 1) (qi s)) : ∀ (n : Nat) (i : Int) (o7 o8 o9 o10 : Option qP), (r - i).toNat ≤ n → 0 ≤ i → i ≤ r → qV g mX6_runBlock (d + 1) 0 3 [some (.inr 62), some (.inr 1), some (.inl (iI z)), some (.inl (iI z)), some (.inl (iI r)), some (.inl l5), some (.inl (iI i)), o7, o8, o9, o10] [] (qi s) Q T := by
  intro n
  induction n with
  | zero =>
    intro i o7 o8 o9 o10 hn i0 i5
    have h : r ≤ i := by omega
    refine wX6_runBlock_3 hw ?_
    simp (disch := omega) only [z_app, z_rd, z_cl, z_add, z_sub, z_mul, z_neg, z_lit, z_leT, z_leF, z_ltT, z_ltF, z_eqT, z_eqF, i_leT, i_leF, i_ltT, i_ltF, i_eqT, i_eqF, z_le, z_lt, z_eq, z_ite, z_at, z_pt, z_up, z_wr, z_wi1, z_wi0, z_wi, z_inS, z_toInt, z_nb0, z_nb1, Int.cast_ofNat_Int, true_and, and_true, not_true_eq_false, not_false_eq_true, false_imp_iff, true_imp_iff, aup_o, aup_k, ite_true, ite_false, z_fa000, z_fa001, z_fa010, z_fa011, z_fa100, z_fa101, z_fa110, z_fa111, if_true, if_false]
    exact ⟨Or.inr trivial, hQ⟩
  | succ n ih =>
    intro i o7 o8 o9 o10 hn i0 i5
    refine wX6_runBlock_3 hw ?_
    by_cases h : r ≤ i
    · simp (disch := omega) only [z_app, z_rd, z_cl, z_add, z_sub, z_mul, z_neg, z_lit, z_leT, z_leF, z_ltT, z_ltF, z_eqT, z_eqF, i_leT, i_leF, i_ltT, i_ltF, i_eqT, i_eqF, z_le, z_lt, z_eq, z_ite, z_at, z_pt, z_up, z_wr, z_wi1, z_wi0, z_wi, z_inS, z_toInt, z_nb0, z_nb1, Int.cast_ofNat_Int, true_and, and_true, not_true_eq_false, not_false_eq_true, false_imp_iff, true_imp_iff, aup_o, aup_k, ite_true, ite_false, z_fa000, z_fa001, z_fa010, z_fa011, z_fa100, z_fa101, z_fa110, z_fa111, if_true, if_false]
      exact ⟨Or.inr trivial, hQ⟩
    · simp (disch := omega) only [z_app, z_rd, z_cl, z_add, z_sub, z_mul, z_neg, z_lit, z_leT, z_leF, z_ltT, z_ltF, z_eqT, z_eqF, i_leT, i_leF, i_ltT, i_ltF, i_eqT, i_eqF, z_le, z_lt, z_eq, z_ite, z_at, z_pt, z_up, z_wr, z_wi1, z_wi0, z_wi, z_inS, z_toInt, z_nb0, z_nb1, Int.cast_ofNat_Int, true_and, and_true, not_true_eq_false, not_false_eq_true, false_imp_iff, true_imp_iff, aup_o, aup_k, ite_true, ite_false, z_fa000, z_fa001, z_fa010, z_fa011, z_fa100, z_fa101, z_fa110, z_fa111, if_true, if_false]
      refine wX6_runBlock_16 hw ?_
      simp (disch := omega) only [z_app, z_rd, z_cl, z_add, z_sub, z_mul, z_neg, z_lit, z_leT, z_leF, z_ltT, z_ltF, z_eqT, z_eqF, i_leT, i_leF, i_ltT, i_ltF, i_eqT, i_eqF, z_le, z_lt, z_eq, z_ite, z_at, z_pt, z_up, z_wr, z_wi1, z_wi0, z_wi, z_inS, z_toInt, z_nb0, z_nb1, Int.cast_ofNat_Int, true_and, and_true, not_true_eq_false, not_false_eq_true, false_imp_iff, true_imp_iff, aup_o, aup_k, ite_true, ite_false, z_fa000, z_fa001, z_fa010, z_fa011, z_fa100, z_fa101, z_fa110, z_fa111, if_true, if_false]
      exact ih (i + 1) _ _ _ _ (by omega) (by omega) (by omega)
/-- a chain of commands, behind those of the stack -/
def kCs (g : qG) (v : aS) (J E : Int → Int) (K : Int) (l : Nat) : Prop := ∀ (d : Nat) (Q : Int32 → qS → Prop) (T : String → qS → Prop) (stk : rSt) (to : Int) (l2 l4 : Int32) (i6 : Int), stk.length + l = 4 → (∀ x, x < to → lv E x stk = (x, stk)) → to ≤ K → ∀ (n : Nat) (s : aS) (at1 cnt : Int) (o9 o10 : Option qP), (to - at1).toNat ≤ n → 0 ≤ at1 → at1 ≤ to → 0 ≤ cnt → cnt ≤ at1 → kI v s → ch J E (v 80) l at1 to →
    (∀ s' o7 o8 o9 o10, kI v s' → rto (v 80) (v 84) (v 82) J E K (lv E at1 stk) s (lv E to stk) s' → qV g mX6_runBlock (d + l + 8) 0 3 [some (.inr 62), some (.inr 1), some (.inl l2), some (.inl (iI to)), some (.inl l4), some (.inl (iI (stk.length : Nat))), some (.inl (iI (i6 + 1))), o7, o8, o9, o10] [] (qi s') Q T) →
    (∀ F, kFi v F → rfi (v 80) (v 84) (v 82) J E K (lv E at1 stk) s F → Q (iI 0) (qi F)) → qV g mX6_runBlock (d + l + 8) 0 16 [some (.inr 62), some (.inr 1), some (.inl l2), some (.inl (iI to)), some (.inl l4), some (.inl (iI (stk.length : Nat))), some (.inl (iI i6)), some (.inl (iI at1)), some (.inl (iI cnt)), o9, o10] [] (qi s) Q T
/-- a block, in all its rounds -/
def RBs (g : qG) (v : aS) (J E : Int → Int) (K : Int) (l : Nat) : Prop := ∀ (d : Nat) (Q : Int32 → qS → Prop) (T : String → qS → Prop) (s : aS) (o r : Int) (t : rSt), t.length + 1 + l = 4 → 0 ≤ o → E o ≤ K → o + 1 < E o → 1 ≤ r → r ≤ 50 → kI v s → ch J E (v 80) l (o + 1) (E o) →
    (∀ s', kI v s' → rto (v 80) (v 84) (v 82) J E K (o + 1, (o, r) :: t) s (lv E (E o) t) s' → Q (iI 1) (qi s')) →
    (∀ F, kFi v F → rfi (v 80) (v 84) (v 82) J E K (o + 1, (o, r) :: t) s F → Q (iI 0) (qi F)) → qC g (d + l + 8) mX6_runBlock [.inr 62, .inr 1, .inl (iI (o + 1)), .inl (iI (E o)), .inl (iI r), .inl (iI ((t.length : Nat) + 1))] (qi s) Q T
theorem RB_of (hw : qWF g) (K6 : K ≤ 60) {l : Nat} (h : kCs g v J E K l) : RBs g v J E K l := by
  intro d Q T s o R t hl o0 oK oE R1 R5 hI hc H1 H0
  have loop : ∀ (n : Nat) (i r : Int) (s2 : aS) (o7 o8 o9 o10 : Option qP), r = n → 0 ≤ i → i + r = R → kI v s2 → rto (v 80) (v 84) (v 82) J E K (o + 1, (o, R) :: t) s (if 0 < r then (o + 1, (o, r) :: t) else lv E (E o) t) s2 → qV g mX6_runBlock (d + l + 8) 0 3 [some (.inr 62), some (.inr 1), some (.inl (iI (o + 1))), some (.inl (iI (E o))), some (.inl (iI R)), some (.inl (iI ((t.length : Nat) + 1))), some (.inl (iI i)), o7, o8, o9, o10] [] (qi s2) Q T := by
    intro n
    induction n with
    | zero =>
      intro i r s2 o7 o8 o9 o10 hr i0 hi hI2 ht
      rw [if_neg (by omega)] at ht
      have q := H1 s2 hI2 ht
      have hiR : R ≤ i := by omega
      clear H1 H0 ht
      refine wX6_runBlock_3 (d := d + l + 7) hw ?_
      simp (disch := omega) only [z_app, z_rd, z_cl, z_add, z_sub, z_mul, z_neg, z_lit, z_leT, z_leF, z_ltT, z_ltF, z_eqT, z_eqF, i_leT, i_leF, i_ltT, i_ltF, i_eqT, i_eqF, z_le, z_lt, z_eq, z_ite, z_at, z_pt, z_up, z_wr, z_wi1, z_wi0, z_wi, z_inS, z_toInt, z_nb0, z_nb1, Int.cast_ofNat_Int, true_and, and_true, not_true_eq_false, not_false_eq_true, false_imp_iff, true_imp_iff, aup_o, aup_k, ite_true, ite_false, z_fa000, z_fa001, z_fa010, z_fa011, z_fa100, z_fa101, z_fa110, z_fa111, if_true, if_false]
      exact ⟨Or.inr trivial, q⟩
    | succ n ih =>
      intro i r s2 o7 o8 o9 o10 hr i0 hi hI2 ht
      rw [if_pos (by omega)] at ht
      have e0 : lv E (o + 1) ((o, r) :: t) = (o + 1, (o, r) :: t) := lv_ne (by omega)
      have hcast : ((((o, r) :: t).length : Nat) : Int) = (t.length : Nat) + 1 := by rw [List.length_cons]; omega
      have hh := h d Q T ((o, r) :: t) (E o) (iI (o + 1)) (iI R) i (by rw [List.length_cons]; exact hl) (fun x hx => lv_ne (by omega)) oK
      rw [hcast] at hh
      have hiR : ¬ R ≤ i := by omega
      have hQ := fun o9 o10 => hh (E o - (o + 1)).toNat s2 (o + 1) 0 o9 o10 (Nat.le_refl _) (by omega) (by omega) (by omega) (by omega) hI2 hc (fun s3 o7 o8 o9 o10 hI3 ht3 => by
        rw [e0] at ht3
        refine ih (i + 1) (r - 1) s3 o7 o8 o9 o10 (by omega) (by omega) (by omega) hI3 (rto_tr ht ?_)
        by_cases hr1 : 0 < r - 1
        · rw [if_pos hr1]
          rw [lv_1 hr1] at ht3
          exact ht3
        · rw [if_neg hr1]
          rw [lv_0 hr1] at ht3
          exact ht3) (fun F hF hf => H0 F hF (rfi_to ht (by rw [e0] at hf; exact hf)))
      clear H1 H0 ht ih h hh hcast
      refine wX6_runBlock_3 (d := d + l + 7) hw ?_
      simp (disch := omega) only [z_app, z_rd, z_cl, z_add, z_sub, z_mul, z_neg, z_lit, z_leT, z_leF, z_ltT, z_ltF, z_eqT, z_eqF, i_leT, i_leF, i_ltT, i_ltF, i_eqT, i_eqF, z_le, z_lt, z_eq, z_ite, z_at, z_pt, z_up, z_wr, z_wi1, z_wi0, z_wi, z_inS, z_toInt, z_nb0, z_nb1, Int.cast_ofNat_Int, true_and, and_true, not_true_eq_false, not_false_eq_true, false_imp_iff, true_imp_iff, aup_o, aup_k, ite_true, ite_false, z_fa000, z_fa001, z_fa010, z_fa011, z_fa100, z_fa101, z_fa110, z_fa111, if_true, if_false]
      exact hQ _ _
  refine wX6_runBlock (d := d + l + 7) hw ⟨rfl, ?_⟩
  exact loop R.toNat 0 R s _ _ _ _ (by omega) (by omega) (by omega) hI (by rw [if_pos (by omega)]; exact rto_rf _ _)
theorem kC_of (hw : qWF g) (hP : kPg v J E c K) (hE : ∀ a, 0 ≤ a → a < K → a < E a ∧ E a ≤ K) {l : Nat} (IH : ∀ l', l = l' + 1 → RBs g v J E K l') : kCs g v J E K l := by
  intro d Q T stk to l2 l4 i6 hl hst tK n
  have K6 := hP.2.1
  induction n with
  | zero =>
    intro s at1 cnt o9 o10 hn a0 a1 c0 c1 hI hc H1 H0
    have e : at1 = to := by omega
    subst e
    have q := fun o7 o8 o9 o10 => H1 s o7 o8 o9 o10 hI (rto_rf _ _)
    clear H1 H0
    refine wX6_runBlock_16 (d := d + l + 7) hw ?_
    by_cases h60 : 60 ≤ cnt
    · simp (disch := omega) only [z_app, z_rd, z_cl, z_add, z_sub, z_mul, z_neg, z_lit, z_leT, z_leF, z_ltT, z_ltF, z_eqT, z_eqF, i_leT, i_leF, i_ltT, i_ltF, i_eqT, i_eqF, z_le, z_lt, z_eq, z_ite, z_at, z_pt, z_up, z_wr, z_wi1, z_wi0, z_wi, z_inS, z_toInt, z_nb0, z_nb1, Int.cast_ofNat_Int, true_and, and_true, not_true_eq_false, not_false_eq_true, false_imp_iff, true_imp_iff, aup_o, aup_k, ite_true, ite_false, z_fa000, z_fa001, z_fa010, z_fa011, z_fa100, z_fa101, z_fa110, z_fa111, if_true, if_false]
      exact q _ _ _ _
    · simp (disch := omega) only [z_app, z_rd, z_cl, z_add, z_sub, z_mul, z_neg, z_lit, z_leT, z_leF, z_ltT, z_ltF, z_eqT, z_eqF, i_leT, i_leF, i_ltT, i_ltF, i_eqT, i_eqF, z_le, z_lt, z_eq, z_ite, z_at, z_pt, z_up, z_wr, z_wi1, z_wi0, z_wi, z_inS, z_toInt, z_nb0, z_nb1, Int.cast_ofNat_Int, true_and, and_true, not_true_eq_false, not_false_eq_true, false_imp_iff, true_imp_iff, aup_o, aup_k, ite_true, ite_false, z_fa000, z_fa001, z_fa010, z_fa011, z_fa100, z_fa101, z_fa110, z_fa111, if_true, if_false]
      exact q _ _ _ _
  | succ n ih =>
    intro s at1 cnt o9 o10 hn a0 a1 c0 c1 hI hc H1 H0
    by_cases e : at1 = to
    · subst e
      have q := fun o7 o8 o9 o10 => H1 s o7 o8 o9 o10 hI (rto_rf _ _)
      clear H1 H0
      refine wX6_runBlock_16 (d := d + l + 7) hw ?_
      by_cases h60 : 60 ≤ cnt
      · simp (disch := omega) only [z_app, z_rd, z_cl, z_add, z_sub, z_mul, z_neg, z_lit, z_leT, z_leF, z_ltT, z_ltF, z_eqT, z_eqF, i_leT, i_leF, i_ltT, i_ltF, i_eqT, i_eqF, z_le, z_lt, z_eq, z_ite, z_at, z_pt, z_up, z_wr, z_wi1, z_wi0, z_wi, z_inS, z_toInt, z_nb0, z_nb1, Int.cast_ofNat_Int, true_and, and_true, not_true_eq_false, not_false_eq_true, false_imp_iff, true_imp_iff, aup_o, aup_k, ite_true, ite_false, z_fa000, z_fa001, z_fa010, z_fa011, z_fa100, z_fa101, z_fa110, z_fa111, if_true, if_false]
        exact q _ _ _ _
      · simp (disch := omega) only [z_app, z_rd, z_cl, z_add, z_sub, z_mul, z_neg, z_lit, z_leT, z_leF, z_ltT, z_ltF, z_eqT, z_eqF, i_leT, i_leF, i_ltT, i_ltF, i_eqT, i_eqF, z_le, z_lt, z_eq, z_ite, z_at, z_pt, z_up, z_wr, z_wi1, z_wi0, z_wi, z_inS, z_toInt, z_nb0, z_nb1, Int.cast_ofNat_Int, true_and, and_true, not_true_eq_false, not_false_eq_true, false_imp_iff, true_imp_iff, aup_o, aup_k, ite_true, ite_false, z_fa000, z_fa001, z_fa010, z_fa011, z_fa100, z_fa101, z_fa110, z_fa111, if_true, if_false]
        exact q _ _ _ _
    · obtain ⟨E1, E2, E3, E4, E5⟩ := ch_inv hc (by omega)
      obtain ⟨⟨m1, m2, m3, m4⟩, m5, m6, m7⟩ := hP.2.2 at1 a0 (by omega)
      have X0 : lv E at1 stk = (at1, stk) := hst at1 (by omega)
      have e77 : ∀ t, kI v t → t 77 at1 = E at1 := fun t ht => by rw [ht.2.1 77 (Or.inr (by decide))]; exact m5
      have e67 : bg1 s 67 at1 = v 82 (J at1) := by
        unfold bg1
        rw [aup_o (by decide), hI.2.1 67 (Or.inr (by decide))]
        exact m2
      -- on, behind the command
      have on : ∀ (t : aS) (o9 o10 : Option qP), kI v t → rto (v 80) (v 84) (v 82) J E K (lv E at1 stk) s (lv E (E at1) stk) t → qV g mX6_runBlock (d + l + 8) 0 16 [some (.inr 62), some (.inr 1), some (.inl l2), some (.inl (iI to)), some (.inl l4), some (.inl (iI (stk.length : Nat))), some (.inl (iI i6)), some (.inl (iI (E at1))), some (.inl (iI (cnt + 1))), o9, o10] [] (qi t) Q T := fun t o9 o10 ht hr => ih t (E at1) (cnt + 1) o9 o10 (by omega) (by omega) E2 (by omega) (by omega) ht E5 (fun s' o7 o8 o9 o10 q1 q2 => H1 s' o7 o8 o9 o10 q1 (rto_tr hr q2)) (fun F q1 q2 => H0 F q1 (rfi_to hr q2))
      -- a failure
      have bad : ∀ f, 1 ≤ f → f ≤ 4 → rEnd (v 80) (v 84) (v 82) J K (at1, stk) s (aup (aup (bg1 s) 62 2 f) 62 3 (v 82 (J at1))) → Q (iI 0) (qi (aup (aup (bg1 s) 62 2 f) 62 3 (v 82 (J at1)))) := fun f f1 f4 hr => H0 _ (kFi_b hI f _) (by rw [X0]; exact rfi_end hr)
      -- a block inside
      have inn : ∀ (t : aS) (o9 o10 : Option qP), kI v t → s 62 1 + 1 ≤ 200 → t = bg1 s → 267 ≤ v 80 (J at1) → 1 ≤ rdS (v 80) (v 84) t (J at1) → rdS (v 80) (v 84) t (J at1) ≤ 50 → ∀ Q' : Int32 → qS → Prop, (∀ s', qV g mX6_runBlock (d + l + 8) 0 16 [some (.inr 62), some (.inr 1), some (.inl l2), some (.inl (iI to)), some (.inl l4), some (.inl (iI (stk.length : Nat))), some (.inl (iI i6)), some (.inl (iI (E at1))), some (.inl (iI (cnt + 1))), o9, o10] [] (qi s') Q T → Q' (iI 1) (qi s')) → (∀ F, Q (iI 0) (qi F) → Q' (iI 0) (qi F)) → qC g (d + l + 7) mX6_runBlock [.inr 62, .inr 1, .inl (iI (at1 + 1)), .inl (iI (E at1)), .inl (iI (rdS (v 80) (v 84) t (J at1))), .inl (iI ((stk.length : Nat) + 1))] (qi t) Q' T := by
        intro t o9 o10 ht s2 et c7 r1 r5 Q' q1 q0
        obtain ⟨l', el, hc'⟩ := E4 c7
        by_cases hem : E at1 = at1 + 1
        · have st : rto (v 80) (v 84) (v 82) J E K (lv E at1 stk) s (lv E (E at1) stk) t := by
            rw [X0]
            exact rto_st ⟨by show at1 < K; omega, s2, Or.inl ⟨c7, Or.inr hem, rfl, et⟩⟩
          have q := q1 t (on t o9 o10 ht st)
          rw [hem]
          exact wX6_runBlock (d := d + l + 6) hw ⟨rfl, k_empty hw (by omega) (by omega) r1 r5 q _ 0 _ _ _ _ (Nat.le_refl _) (by omega) (by omega)⟩
        · have st : rto (v 80) (v 84) (v 82) J E K (lv E at1 stk) s (at1 + 1, (at1, rdS (v 80) (v 84) t (J at1)) :: stk) t := by
            rw [X0]
            refine rto_st ⟨by show at1 < K; omega, s2, Or.inr (Or.inl ⟨c7, ?_, hem, ?_, ?_, et⟩)⟩
            · rw [← et]; exact ⟨r1, r5⟩
            · show stk.length < 4; omega
            · rw [← et]
          have rb := IH l' el d Q' T t at1 (rdS (v 80) (v 84) t (J at1)) stk (by omega) a0 (by omega) (by omega) r1 r5 ht hc' (fun s' k1 k2 => q1 s' (on s' o9 o10 k1 (rto_tr st k2))) (fun F k1 k2 => q0 F (H0 F k1 (rfi_to st k2)))
          subst el
          exact rb
      have sb : ∀ (t : aS), kI v t → aup t 62 2 0 = t := fun t ht => by
        have h := aup_id t 62 2
        rw [ht.2.2.1.1] at h
        exact h
      have ks := fun (Q' : Int32 → qS → Prop) => k_start (d := d + l) (Q := Q') (T := T) hw hP hI a0 (by omega : at1 < K)
      have ki := fun (t : aS) (ht : kI v t) (Q' : Int32 → qS → Prop) => k_inner (d := d + l + 2) (Q := Q') (T := T) hw hP ht a0 (by omega : at1 < K)
      have rb : ∀ t, 267 ≤ v 80 (J at1) → 0 ≤ rdS (v 80) (v 84) t (J at1) ∧ rdS (v 80) (v 84) t (J at1) ≤ 50 := fun t h7 => by
        unfold rdS
        by_cases h8 : v 80 (J at1) = 267
        · rw [if_pos h8]; exact (m4.2.1 h8).2
        · rw [if_neg h8]
          cases hb (v 80) (v 84) t (J at1) with
          | true => exact ⟨by decide, by decide⟩
          | false => exact ⟨by decide, by decide⟩
      have K1 : at1 < K := by omega
      have c60 : cnt < 60 := by omega
      have hto : at1 < to := by omega
      have L4 : stk.length ≤ 4 := by omega
      refine wX6_runBlock_16 (d := d + l + 7) hw ?_
      clear H1 H0 ih IH m4
      simp (disch := omega) only [z_app, z_rd, z_cl, z_add, z_sub, z_mul, z_neg, z_lit, z_leT, z_leF, z_ltT, z_ltF, z_eqT, z_eqF, i_leT, i_leF, i_ltT, i_ltF, i_eqT, i_eqF, z_le, z_lt, z_eq, z_ite, z_at, z_pt, z_up, z_wr, z_wi1, z_wi0, z_wi, z_inS, z_toInt, z_nb0, z_nb1, Int.cast_ofNat_Int, true_and, and_true, not_true_eq_false, not_false_eq_true, false_imp_iff, true_imp_iff, aup_o, aup_k, ite_true, ite_false, z_fa000, z_fa001, z_fa010, z_fa011, z_fa100, z_fa101, z_fa110, z_fa111, if_true, if_false]
      refine ks _ (fun h200 => ?_) (fun h1 h7 => ?_) (fun f h1 h7 hf => ?_) (fun h1 h7 hn hk => ?_)
      · have q := bad 4 (by decide) (by decide) (Or.inr (Or.inl ⟨K1, h200, rfl⟩))
        clear ks ki bad on inn
        simp (disch := omega) only [z_app, z_rd, z_cl, z_add, z_sub, z_mul, z_neg, z_lit, z_leT, z_leF, z_ltT, z_ltF, z_eqT, z_eqF, i_leT, i_leF, i_ltT, i_ltF, i_eqT, i_eqF, z_le, z_lt, z_eq, z_ite, z_at, z_pt, z_up, z_wr, z_wi1, z_wi0, z_wi, z_inS, z_toInt, z_nb0, z_nb1, Int.cast_ofNat_Int, true_and, and_true, not_true_eq_false, not_false_eq_true, false_imp_iff, true_imp_iff, aup_o, aup_k, ite_true, ite_false, z_fa000, z_fa001, z_fa010, z_fa011, z_fa100, z_fa101, z_fa110, z_fa111, if_true, if_false, e67]
        exact ⟨Or.inl trivial, q⟩
      · obtain ⟨l', el, -⟩ := E4 h7
        have kt := kI_b hI h1
        obtain ⟨t, ht⟩ : ∃ t, t = bg1 s := ⟨_, rfl⟩
        rw [← ht] at kt ⊢
        have e2 := sb t kt
        have e7 := e77 t kt
        have kit := ki t kt
        have t2 := kt.2.2.1.1
        rw [if_pos h7] at kit
        have rbt := rb t h7
        have s4 : stk.length < 4 := by omega
        have rz : rdS (v 80) (v 84) t (J at1) = 0 → ∀ o9 o10, qV g mX6_runBlock (d + l + 8) 0 16 [some (.inr 62), some (.inr 1), some (.inl l2), some (.inl (iI to)), some (.inl l4), some (.inl (iI (stk.length : Nat))), some (.inl (iI i6)), some (.inl (iI (E at1))), some (.inl (iI (cnt + 1))), o9, o10] [] (qi t) Q T := fun hz o9 o10 => on t o9 o10 kt (by
          rw [X0]
          exact rto_st ⟨K1, h1, Or.inl ⟨h7, Or.inl (by rw [← ht]; exact hz), rfl, ht⟩⟩)
        have it := fun o9 o10 => inn t o9 o10 kt h1 ht h7
        generalize rdS (v 80) (v 84) t (J at1) = R at *
        clear ks ki bad on inn e77 sb rb ht
        simp (disch := omega) only [z_app, z_rd, z_cl, z_add, z_sub, z_mul, z_neg, z_lit, z_leT, z_leF, z_ltT, z_ltF, z_eqT, z_eqF, i_leT, i_leF, i_ltT, i_ltF, i_eqT, i_eqF, z_le, z_lt, z_eq, z_ite, z_at, z_pt, z_up, z_wr, z_wi1, z_wi0, z_wi, z_inS, z_toInt, z_nb0, z_nb1, Int.cast_ofNat_Int, true_and, and_true, not_true_eq_false, not_false_eq_true, false_imp_iff, true_imp_iff, aup_o, aup_k, ite_true, ite_false, z_fa000, z_fa001, z_fa010, z_fa011, z_fa100, z_fa101, z_fa110, z_fa111, if_true, if_false, e2, e7, t2]
        refine kit _ ?_
        by_cases hr : R ≤ 0
        · have q := rz (by omega)
          clear kit it rz
          simp (disch := omega) only [z_app, z_rd, z_cl, z_add, z_sub, z_mul, z_neg, z_lit, z_leT, z_leF, z_ltT, z_ltF, z_eqT, z_eqF, i_leT, i_leF, i_ltT, i_ltF, i_eqT, i_eqF, z_le, z_lt, z_eq, z_ite, z_at, z_pt, z_up, z_wr, z_wi1, z_wi0, z_wi, z_inS, z_toInt, z_nb0, z_nb1, Int.cast_ofNat_Int, true_and, and_true, not_true_eq_false, not_false_eq_true, false_imp_iff, true_imp_iff, aup_o, aup_k, ite_true, ite_false, z_fa000, z_fa001, z_fa010, z_fa011, z_fa100, z_fa101, z_fa110, z_fa111, if_true, if_false]
          exact q _ _
        · have q := fun o9 o10 => it o9 o10 (by omega) rbt.2
          clear kit it rz
          simp (disch := omega) only [z_app, z_rd, z_cl, z_add, z_sub, z_mul, z_neg, z_lit, z_leT, z_leF, z_ltT, z_ltF, z_eqT, z_eqF, i_leT, i_leF, i_ltT, i_ltF, i_eqT, i_eqF, z_le, z_lt, z_eq, z_ite, z_at, z_pt, z_up, z_wr, z_wi1, z_wi0, z_wi, z_inS, z_toInt, z_nb0, z_nb1, Int.cast_ofNat_Int, true_and, and_true, not_true_eq_false, not_false_eq_true, false_imp_iff, true_imp_iff, aup_o, aup_k, ite_true, ite_false, z_fa000, z_fa001, z_fa010, z_fa011, z_fa100, z_fa101, z_fa110, z_fa111, if_true, if_false]
          refine q (some (.inl (iI (E at1)))) (some (.inl (iI R))) _ (fun s' hs => ?_) (fun F hF => ?_)
          · clear q
            simp (disch := omega) only [z_app, z_rd, z_cl, z_add, z_sub, z_mul, z_neg, z_lit, z_leT, z_leF, z_ltT, z_ltF, z_eqT, z_eqF, i_leT, i_leF, i_ltT, i_ltF, i_eqT, i_eqF, z_le, z_lt, z_eq, z_ite, z_at, z_pt, z_up, z_wr, z_wi1, z_wi0, z_wi, z_inS, z_toInt, z_nb0, z_nb1, Int.cast_ofNat_Int, true_and, and_true, not_true_eq_false, not_false_eq_true, false_imp_iff, true_imp_iff, aup_o, aup_k, ite_true, ite_false, z_fa000, z_fa001, z_fa010, z_fa011, z_fa100, z_fa101, z_fa110, z_fa111, if_true, if_false]
            exact hs
          · clear q
            simp (disch := omega) only [z_app, z_rd, z_cl, z_add, z_sub, z_mul, z_neg, z_lit, z_leT, z_leF, z_ltT, z_ltF, z_eqT, z_eqF, i_leT, i_leF, i_ltT, i_ltF, i_eqT, i_eqF, z_le, z_lt, z_eq, z_ite, z_at, z_pt, z_up, z_wr, z_wi1, z_wi0, z_wi, z_inS, z_toInt, z_nb0, z_nb1, Int.cast_ofNat_Int, true_and, and_true, not_true_eq_false, not_false_eq_true, false_imp_iff, true_imp_iff, aup_o, aup_k, ite_true, ite_false, z_fa000, z_fa001, z_fa010, z_fa011, z_fa100, z_fa101, z_fa110, z_fa111, if_true, if_false]
            exact ⟨Or.inl trivial, hF⟩
      · have fb : 1 ≤ f ∧ f ≤ 3 := by
          rcases hf with h | h | h
          · have := h.2; omega
          · have := h.2.2; omega
          · have := h.2.2.2; omega
        have q := bad f (by omega) (by omega) (Or.inr (Or.inr ⟨K1, h1, h7, f, hf, rfl⟩))
        clear ks ki bad on inn hf
        simp (disch := omega) only [z_app, z_rd, z_cl, z_add, z_sub, z_mul, z_neg, z_lit, z_leT, z_leF, z_ltT, z_ltF, z_eqT, z_eqF, i_leT, i_leF, i_ltT, i_ltF, i_eqT, i_eqF, z_le, z_lt, z_eq, z_ite, z_at, z_pt, z_up, z_wr, z_wi1, z_wi0, z_wi, z_inS, z_toInt, z_nb0, z_nb1, Int.cast_ofNat_Int, true_and, and_true, not_true_eq_false, not_false_eq_true, false_imp_iff, true_imp_iff, aup_o, aup_k, ite_true, ite_false, z_fa000, z_fa001, z_fa010, z_fa011, z_fa100, z_fa101, z_fa110, z_fa111, if_true, if_false, e67]
        exact ⟨Or.inl trivial, q⟩
      · obtain ⟨t, ht⟩ : ∃ t, t = cO (v 80) (v 84) J (bg1 s) at1 := ⟨_, rfl⟩
        rw [← ht] at hk ⊢
        have e2 := sb t hk
        have e7 := e77 t hk
        have kit := ki t hk
        have t2 := hk.2.2.1.1
        rw [if_neg (by omega)] at kit
        have q := fun o9 o10 => on t o9 o10 hk (by
          rw [X0]
          exact rto_st ⟨K1, h1, Or.inr (Or.inr ⟨h7, hn, rfl, ht⟩)⟩)
        clear ks ki bad on inn e77 sb rb ht hn
        by_cases s4 : stk.length < 4
        · simp (disch := omega) only [z_app, z_rd, z_cl, z_add, z_sub, z_mul, z_neg, z_lit, z_leT, z_leF, z_ltT, z_ltF, z_eqT, z_eqF, i_leT, i_leF, i_ltT, i_ltF, i_eqT, i_eqF, z_le, z_lt, z_eq, z_ite, z_at, z_pt, z_up, z_wr, z_wi1, z_wi0, z_wi, z_inS, z_toInt, z_nb0, z_nb1, Int.cast_ofNat_Int, true_and, and_true, not_true_eq_false, not_false_eq_true, false_imp_iff, true_imp_iff, aup_o, aup_k, ite_true, ite_false, z_fa000, z_fa001, z_fa010, z_fa011, z_fa100, z_fa101, z_fa110, z_fa111, if_true, if_false, e2, e7, t2]
          refine kit _ ?_
          simp (disch := omega) only [z_app, z_rd, z_cl, z_add, z_sub, z_mul, z_neg, z_lit, z_leT, z_leF, z_ltT, z_ltF, z_eqT, z_eqF, i_leT, i_leF, i_ltT, i_ltF, i_eqT, i_eqF, z_le, z_lt, z_eq, z_ite, z_at, z_pt, z_up, z_wr, z_wi1, z_wi0, z_wi, z_inS, z_toInt, z_nb0, z_nb1, Int.cast_ofNat_Int, true_and, and_true, not_true_eq_false, not_false_eq_true, false_imp_iff, true_imp_iff, aup_o, aup_k, ite_true, ite_false, z_fa000, z_fa001, z_fa010, z_fa011, z_fa100, z_fa101, z_fa110, z_fa111, if_true, if_false]
          exact q _ _
        · simp (disch := omega) only [z_app, z_rd, z_cl, z_add, z_sub, z_mul, z_neg, z_lit, z_leT, z_leF, z_ltT, z_ltF, z_eqT, z_eqF, i_leT, i_leF, i_ltT, i_ltF, i_eqT, i_eqF, z_le, z_lt, z_eq, z_ite, z_at, z_pt, z_up, z_wr, z_wi1, z_wi0, z_wi, z_inS, z_toInt, z_nb0, z_nb1, Int.cast_ofNat_Int, true_and, and_true, not_true_eq_false, not_false_eq_true, false_imp_iff, true_imp_iff, aup_o, aup_k, ite_true, ite_false, z_fa000, z_fa001, z_fa010, z_fa011, z_fa100, z_fa101, z_fa110, z_fa111, if_true, if_false, e2, e7, t2]
          exact q _ _
end KR
