/-! ===== the reference's runner ===== -/
theorem rJ_m {s m b : aS} (h : rJ s m) (hf : ∀ k : Nat, 87 ≤ k → k ≤ 110 → b k = m k) (h86 : ∀ i, i ≠ 0 → (i < 38 ∨ i = 45 ∨ i = 46 ∨ i = 61 ∨ i = 62) → b 86 i = m 86 i) : rJ s b := by
  refine ⟨rL_f2 h.1 (fun k h1 h2 => hf k (by omega) h2) (fun i i0 _ i1 => h86 i i0 (Or.inl i1)), ?_⟩
  have h2 := h.2
  unfold rX at h2 ⊢
  rw [h86 2 (by decide) (by decide), h86 45 (by decide) (by decide), h86 46 (by decide) (by decide), h86 61 (by decide) (by decide), h86 62 (by decide) (by decide), hf 87 (by decide) (by decide)]
  exact h2
theorem rJ_fail {s m b : aS} {f p : Int} (h : rJ s m) (hf : ∀ k : Nat, 87 ≤ k → k ≤ 110 → b k = m k) (h86 : ∀ i, i ≠ 0 → (i < 38 ∨ i = 45 ∨ i = 46) → b 86 i = m 86 i) (e1 : b 86 61 = f) (e2 : b 86 62 = p) : rJ (aup (aup s 62 2 f) 62 3 p) b := by
  refine ⟨rL_w (rL_f2 h.1 (fun k h1 h2 => hf k (by omega) h2) (fun i i0 _ i1 => h86 i i0 (Or.inl i1))) (fun k hk => by rw [aup_o (by omega), aup_o (by omega)]), ?_⟩
  have h2 := h.2
  unfold rX at h2 ⊢
  rw [h86 2 (by decide) (by decide), h86 45 (by decide) (by decide), h86 46 (by decide) (by decide), hf 87 (by decide) (by decide), e1, e2, aup_o (by decide), aup_o (by decide), aup_o (by decide), aup_o (by decide), aup_o (by decide), aup_o (by decide), aup_i (by decide), aup_s, aup_s]
  exact ⟨h2.1, h2.2.1, h2.2.2.1, h2.2.2.2.1, rfl, rfl⟩
/-- the reference, in the midst of a program -/
def mR (v z : aS) (J E : Int → Int) (c K : Int) (X : Int × rSt) (s m : aS) : Prop := rJ s m ∧ jJ s ∧ mCs v m c K J E ∧ (m 86 51 = K ∧ m 86 61 = 0 ∧ 0 ≤ m 86 55 ∧ 2 * m 86 55 ≤ 900) ∧ (m 86 60 = (X.2.length : Nat) ∧ X.2.length ≤ 4 ∧ stM m X.2 ∧ stE K X.2) ∧ (0 ≤ X.1 ∧ X.1 ≤ K) ∧ (∀ k : Nat, k < 86 ∨ 122 ≤ k → m k = z k)
section MQ
variable {g : qG} {d : Nat} {Q : Int32 → qS → Prop} {T : String → qS → Prop} {s m v z : aS} {c K : Int} {J E : Int → Int}
theorem mCs_fr {m b : aS} (hM : mCs v m c K J E) (hx : ∀ x : Nat, 111 ≤ x → x ≤ 119 → b x = m x) (h55 : b 86 55 = m 86 55) : mCs v b c K J E := by
  intro a a0 a1
  obtain ⟨x1, x2, x3, x4⟩ := hM a a0 a1
  rw [hx 112 (by decide) (by decide), hx 113 (by decide) (by decide), hx 115 (by decide) (by decide)]
  exact ⟨cmA_c x1 (fun i i0 i1 => by rw [hx 114 (by decide) (by decide)]) (fun i _ => by rw [hx 116 (by decide) (by decide), hx 117 (by decide) (by decide), hx 118 (by decide) (by decide)]; exact ⟨rfl, rfl, rfl⟩) (by rw [h55]; exact Int.le_refl _), x2, x3, x4⟩
/-- behind leave -/
theorem mR_leave {X : Int × rSt} {t b b2 : aS} {k : Int} (hE : ∀ a, 0 ≤ a → a < K → a < E a ∧ E a ≤ K) (hM : mR v z J E c K X s m) (k0 : 0 ≤ k) (k1 : k ≤ K) (hr : rJ t b) (hj : jJ t) (hx : ∀ x : Nat, x < 86 ∨ 111 ≤ x → b x = m x) (h86 : ∀ i, 38 ≤ i → i ≠ 60 → b 86 i = m 86 i) (hl : lvR b b2 (lv E k X.2).2) : mR v z J E c K (lv E k X.2) t b2 := by
  obtain ⟨M1, M2, M3, ⟨M4a, M4b, M4c, M4d⟩, ⟨M5a, M5b, M5c, M5d⟩, M6, M7⟩ := hM
  obtain ⟨L1, L2, L3, L4⟩ := hl
  obtain ⟨o1, o2, o3, o4⟩ := lv_ok hE k0 k1 X.2 M5d M5b
  have e : ∀ i, 38 ≤ i → i ≠ 60 → b2 86 i = m 86 i := fun i i0 i1 => by rw [L2 i i1, h86 i i0 i1]
  refine ⟨rJ_m hr (fun x x0 x1 => L1 x (by omega) (by omega)) (fun i i0 i1 => L2 i (by omega)), hj, mCs_fr M3 (fun x x0 x1 => by rw [L1 x (by omega) (by omega), hx x (by omega)]) (e 55 (by decide) (by decide)), ⟨?_, ?_, ?_, ?_⟩, ⟨L3, o2, L4, o1⟩, ⟨o3, o4⟩, fun x hx2 => ?_⟩
  · rw [e 51 (by decide) (by decide)]; exact M4a
  · rw [e 61 (by decide) (by decide)]; exact M4b
  · rw [e 55 (by decide) (by decide)]; exact M4c
  · rw [e 55 (by decide) (by decide)]; exact M4d
  · rw [L1 x (by omega) (by omega), hx x (by omega)]; exact M7 x hx2
theorem m_plainS (hw : qWF g) (hJ : jJ s) (hr : rJ s m) {k : Int} (k0 : 0 ≤ k) (k1 : k < 60) (hc : cmA v m k (J k)) (e112 : m 112 k = v 80 (J k) - 256) (w0 : 256 ≤ v 80 (J k)) (w1 : v 80 (J k) < 267)
    (hf : ∀ (y : aS) (f th : Int), cF1 (v 80) (v 84) J s k f → rJ s y → fM m y → y 86 0 = th → 1 ≤ th → th ≤ 3 → xo (v 80 (J k)) th = f → Q (iI 0) (qi y))
    (h0 : ∀ y : aS, (¬ cI (v 80) (v 84) J s k ∧ ¬ cA (v 80) (v 84) J k ∧ ¬ cS (v 80) (v 84) J s k) → rJ (cO (v 80) (v 84) J s k) y → fM m y → y 86 0 = 0 → Q (iI 0) (qi y)) : qC g (d + 11) mX10_call [.inr 86, .inl (iI k)] (qi m) Q T := by
  obtain ⟨d1, d2⟩ := hc.1 w1
  have n32m : n32 (-1) = -1 := rfl
  have A1 : 1 ≤ nbs (v 80 (J k) - 256) → iI (m 114 (4 * k)) = iI (n32 (v 84 (J k + 1))) := fun h => by
    have := d1 0 h
    rw [show 4 * k + ((0 : Nat) : Int) = 4 * k by omega, show J k + 1 + ((0 : Nat) : Int) = J k + 1 by omega] at this
    rw [n32_e, this]
  have A2 : 2 ≤ nbs (v 80 (J k) - 256) → iI (m 114 (4 * k + 1)) = iI (n32 (v 84 (J k + 2))) := fun h => by
    have := d1 1 h
    rw [show 4 * k + ((1 : Nat) : Int) = 4 * k + 1 by omega, show J k + 1 + ((1 : Nat) : Int) = J k + 2 by omega] at this
    rw [n32_e, this]
  have A3 : 3 ≤ nbs (v 80 (J k) - 256) → iI (m 114 (4 * k + 2)) = iI (n32 (v 84 (J k + 3))) := fun h => by
    have := d1 2 h
    rw [show 4 * k + ((2 : Nat) : Int) = 4 * k + 2 by omega, show J k + 1 + ((2 : Nat) : Int) = J k + 3 by omega] at this
    rw [n32_e, this]
  have A4 : iI (m 114 (4 * k + 3)) = iI (n32 (ptx (v 80) (v 84) (J k))) := by rw [n32_e, d2]
  have P : ¬ (3 ≤ v 80 (J k) - 256 ∧ v 80 (J k) - 256 ≤ 6) → n32 (ptx (v 80) (v 84) (J k)) = -1 := fun h => by
    unfold ptx
    rw [if_neg (fun hh => h ⟨hh.1, hh.2.1⟩)]
    exact n32m
  unfold cF1 cI cA cS at hf
  unfold cI cA cS cO at h0
  rcases wd_c ⟨w0, by omega⟩ with h | h | h | h | h | h | h | h | h | h | h
  · have e : m 112 k = 0 := by omega
    have t := P (by omega)
    rw [t] at hf h0
    rw [h] at hf h0 A1 A2 A3
    exact m_call256 hw hJ hr k0 k1 (n32_i _) (n32_i _) (n32_i _) (n32_i 0) e hf h0
  · have e : m 112 k = 1 := by omega
    have t := P (by omega)
    rw [t] at hf h0
    rw [h] at hf h0 A1 A2 A3
    exact m_call257 hw hJ hr k0 k1 (n32_i _) (n32_i _) (n32_i _) (n32_i 0) e (A1 (by decide)) hf h0
  · have e : m 112 k = 2 := by omega
    have t := P (by omega)
    rw [t] at hf h0
    rw [h] at hf h0 A1 A2 A3
    exact m_call258 hw hJ hr k0 k1 (n32_i _) (n32_i _) (n32_i _) (n32_i 0) e (A1 (by decide)) hf h0
  · have e : m 112 k = 3 := by omega
    rw [h] at hf h0 A1 A2 A3
    exact m_call259 hw hJ hr k0 k1 (n32_i _) (n32_i _) (n32_i _) (n32_i _) e (A1 (by decide)) (A2 (by decide)) (A3 (by decide)) A4 hf h0
  · have e : m 112 k = 4 := by omega
    rw [h] at hf h0 A1 A2 A3
    exact m_call260 hw hJ hr k0 k1 (n32_i _) (n32_i _) (n32_i _) (n32_i _) e (A1 (by decide)) A4 hf h0
  · have e : m 112 k = 5 := by omega
    rw [h] at hf h0 A1 A2 A3
    exact m_call261 hw hJ hr k0 k1 (n32_i _) (n32_i _) (n32_i _) (n32_i _) e (A1 (by decide)) (A2 (by decide)) A4 hf h0
  · have e : m 112 k = 6 := by omega
    rw [h] at hf h0 A1 A2 A3
    exact m_call262 hw hJ hr k0 k1 (n32_i _) (n32_i _) (n32_i _) (n32_i _) e (A1 (by decide)) (A2 (by decide)) (A3 (by decide)) A4 hf h0
  · have e : m 112 k = 7 := by omega
    have t := P (by omega)
    rw [t] at hf h0
    rw [h] at hf h0 A1 A2 A3
    exact m_call263 hw hJ hr k0 k1 (n32_i _) (n32_i _) (n32_i _) (n32_i 0) e (A1 (by decide)) hf h0
  · have e : m 112 k = 8 := by omega
    have t := P (by omega)
    rw [t] at hf h0
    rw [h] at hf h0 A1 A2 A3
    exact m_call264 hw hJ hr k0 k1 (n32_i _) (n32_i _) (n32_i _) (n32_i 0) e (A1 (by decide)) (A2 (by decide)) hf h0
  · have e : m 112 k = 9 := by omega
    have t := P (by omega)
    rw [t] at hf h0
    rw [h] at hf h0 A1 A2 A3
    exact m_call265 hw hJ hr k0 k1 (n32_i _) (n32_i _) (n32_i _) (n32_i 0) e hf h0
  · have e : m 112 k = 10 := by omega
    have t := P (by omega)
    rw [t] at hf h0
    rw [h] at hf h0 A1 A2 A3
    exact m_call266 hw hJ hr k0 k1 (n32_i _) (n32_i _) (n32_i _) (n32_i 0) e hf h0
theorem m_leaveS (hw : qWF g) {X : Int × rSt} {t b : aS} {k : Int} (K6 : K ≤ 60) (hE : ∀ a, 0 ≤ a → a < K → a < E a ∧ E a ≤ K) (hM : mR v z J E c K X s m) (k0 : 0 ≤ k) (k1 : k ≤ K) (hr : rJ t b) (hj : jJ t) (hx : ∀ x : Nat, x < 86 ∨ 111 ≤ x → b x = m x) (h86 : ∀ i, 38 ≤ i → b 86 i = m 86 i) (hQ : ∀ b2, mR v z J E c K (lv E k X.2) t b2 → Q (iI (lv E k X.2).1) (qi b2)) : qC g (d + 1) mX10_leave [.inr 86, .inl (iI k)] (qi b) Q T := by
  have hM0 := hM
  obtain ⟨M1, M2, M3, M4, ⟨M5a, M5b, M5c, M5d⟩, M6, M7⟩ := hM
  refine wX10_leave hw ⟨rfl, m_leave_l hw K6 hE k0 (by omega) X.2 b (by rw [h86 60 (by decide)]; exact M5a) M5b (stM_c _ (fun i _ => by rw [hx 120 (by decide), hx 121 (by decide)]; exact ⟨rfl, rfl⟩) M5c) M5d (fun a a0 a1 => by rw [hx 115 (by decide)]; exact (M3 a a0 a1).2.1.2.2) (fun b2 hl => hQ b2 (mR_leave hE hM0 k0 k1 hr hj hx (fun i i0 _ => h86 i i0) hl))⟩
/-- a command with a block, up to its rounds -/
theorem m_stepB (hw : qWF g) (hP : kPg v J E c K) (hE : ∀ a, 0 ≤ a → a < K → a < E a ∧ E a ≤ K) {k : Int} {stk : rSt} (hM : mR v z J E c K (k, stk) s m) (kK : k < K) (c7 : 267 ≤ v 80 (J k))
    (h67 : ∀ (emp : Int) (o4 : Option qP), (emp = 0 ∧ E k ≠ k + 1) ∨ (emp = 1 ∧ E k = k + 1) → qV g mX10_step (d + 12) 0 67 [some (.inr 86), some (.inl (iI k)), some (.inl (iI (v 80 (J k) - 256))), some (.inl (iI emp)), o4] [.inl (iI (rdS (v 80) (v 84) (bg1 s) (J k)))] (qi m) Q T) : qC g (d + 12) mX10_step [.inr 86, .inl (iI k)] (qi m) Q T := by
  obtain ⟨M1, M2, M3, M4, M5, M6, M7⟩ := hM
  have k0 : 0 ≤ k := M6.1
  obtain ⟨hB, K6, hA⟩ := hP
  obtain ⟨⟨m1, m2, m3, m4⟩, m5, m6, m7⟩ := hA k k0 kK
  obtain ⟨hc, ⟨e112, e113, e115⟩, -, -⟩ := M3 k k0 kK
  have l24 : ∀ (emp : Int) (o3 o4 : Option qP), (emp = 0 ∧ E k ≠ k + 1) ∨ (emp = 1 ∧ E k = k + 1) → qV g mX10_step (d + 12) 0 24 [some (.inr 86), some (.inl (iI k)), some (.inl (iI (v 80 (J k) - 256))), o3, o4] [.inl (iI emp)] (qi m) Q T := by
    intro emp o3 o4 he
    have q := fun o4 => h67 emp o4 he
    clear h67
    unfold rdS at q
    refine wX10_step_24 hw ?_
    by_cases h8 : v 80 (J k) = 267
    · have e4 := hc.2.1 h8
      rw [if_pos h8] at q
      have ew : v 80 (J k) - 256 = 11 := by omega
      rw [ew] at q ⊢
      clear hc he m4
      simp (disch := omega) only [z_app, z_rd, z_cl, z_add, z_sub, z_mul, z_neg, z_lit, z_leT, z_leF, z_ltT, z_ltF, z_eqT, z_eqF, i_leT, i_leF, i_ltT, i_ltF, i_eqT, i_eqF, z_le, z_lt, z_eq, z_ite, z_at, z_pt, z_up, z_wr, z_wi1, z_wi0, z_wi, z_inS, z_toInt, z_nb0, z_nb1, Int.cast_ofNat_Int, true_and, and_true, not_true_eq_false, not_false_eq_true, false_imp_iff, true_imp_iff, aup_o, aup_k, ite_true, ite_false, z_fa000, z_fa001, z_fa010, z_fa011, z_fa100, z_fa101, z_fa110, z_fa111, if_true, if_false, e4]
      exact q _
    · have h9 : v 80 (J k) = 268 := by omega
      rw [if_neg h8] at q
      have hh := fun (Q' : Int32 → qS → Prop) => m_holdsM (d := d + 7) (Q := Q') (T := T) hw (jJ_b M2) (rJ_b M1).1 hB k0 (by omega) m6 m7 h9 hc M4.2.2.2 (fun x hx => by
        obtain ⟨x2, y2, p1, p2, -⟩ := m4.2.2 h9
        rw [p1] at hx
        have e := Sum.inl.inj hx
        rw [← e]
        omega)
      have ew : v 80 (J k) - 256 = 12 := by omega
      rw [ew] at q ⊢
      clear hc he m4
      cases hb2 : hb (v 80) (v 84) (bg1 s) (J k) with
      | true =>
        have e : (if hb (v 80) (v 84) (bg1 s) (J k) = true then (1 : Int) else 0) = 1 := by rw [hb2]; rfl
        rw [e] at q hh
        simp (disch := omega) only [z_app, z_rd, z_cl, z_add, z_sub, z_mul, z_neg, z_lit, z_leT, z_leF, z_ltT, z_ltF, z_eqT, z_eqF, i_leT, i_leF, i_ltT, i_ltF, i_eqT, i_eqF, z_le, z_lt, z_eq, z_ite, z_at, z_pt, z_up, z_wr, z_wi1, z_wi0, z_wi, z_inS, z_toInt, z_nb0, z_nb1, Int.cast_ofNat_Int, true_and, and_true, not_true_eq_false, not_false_eq_true, false_imp_iff, true_imp_iff, aup_o, aup_k, ite_true, ite_false, z_fa000, z_fa001, z_fa010, z_fa011, z_fa100, z_fa101, z_fa110, z_fa111, if_true, if_false]
        refine hh _ ?_
        simp (disch := omega) only [z_app, z_rd, z_cl, z_add, z_sub, z_mul, z_neg, z_lit, z_leT, z_leF, z_ltT, z_ltF, z_eqT, z_eqF, i_leT, i_leF, i_ltT, i_ltF, i_eqT, i_eqF, z_le, z_lt, z_eq, z_ite, z_at, z_pt, z_up, z_wr, z_wi1, z_wi0, z_wi, z_inS, z_toInt, z_nb0, z_nb1, Int.cast_ofNat_Int, true_and, and_true, not_true_eq_false, not_false_eq_true, false_imp_iff, true_imp_iff, aup_o, aup_k, ite_true, ite_false, z_fa000, z_fa001, z_fa010, z_fa011, z_fa100, z_fa101, z_fa110, z_fa111, if_true, if_false]
        exact q _
      | false =>
        have e : (if hb (v 80) (v 84) (bg1 s) (J k) = true then (1 : Int) else 0) = 0 := by rw [hb2]; rfl
        rw [e] at q hh
        simp (disch := omega) only [z_app, z_rd, z_cl, z_add, z_sub, z_mul, z_neg, z_lit, z_leT, z_leF, z_ltT, z_ltF, z_eqT, z_eqF, i_leT, i_leF, i_ltT, i_ltF, i_eqT, i_eqF, z_le, z_lt, z_eq, z_ite, z_at, z_pt, z_up, z_wr, z_wi1, z_wi0, z_wi, z_inS, z_toInt, z_nb0, z_nb1, Int.cast_ofNat_Int, true_and, and_true, not_true_eq_false, not_false_eq_true, false_imp_iff, true_imp_iff, aup_o, aup_k, ite_true, ite_false, z_fa000, z_fa001, z_fa010, z_fa011, z_fa100, z_fa101, z_fa110, z_fa111, if_true, if_false]
        refine hh _ ?_
        simp (disch := omega) only [z_app, z_rd, z_cl, z_add, z_sub, z_mul, z_neg, z_lit, z_leT, z_leF, z_ltT, z_ltF, z_eqT, z_eqF, i_leT, i_leF, i_ltT, i_ltF, i_eqT, i_eqF, z_le, z_lt, z_eq, z_ite, z_at, z_pt, z_up, z_wr, z_wi1, z_wi0, z_wi, z_inS, z_toInt, z_nb0, z_nb1, Int.cast_ofNat_Int, true_and, and_true, not_true_eq_false, not_false_eq_true, false_imp_iff, true_imp_iff, aup_o, aup_k, ite_true, ite_false, z_fa000, z_fa001, z_fa010, z_fa011, z_fa100, z_fa101, z_fa110, z_fa111, if_true, if_false]
        exact q _
  have ek := hE k k0 kK
  refine wX10_step hw ?_
  by_cases h1 : E k = k + 1
  · have q := fun o3 o4 => l24 1 o3 o4 (Or.inr ⟨rfl, h1⟩)
    rw [h1] at e115
    clear l24 h67 ek m4 hc
    simp (disch := omega) only [z_app, z_rd, z_cl, z_add, z_sub, z_mul, z_neg, z_lit, z_leT, z_leF, z_ltT, z_ltF, z_eqT, z_eqF, i_leT, i_leF, i_ltT, i_ltF, i_eqT, i_eqF, z_le, z_lt, z_eq, z_ite, z_at, z_pt, z_up, z_wr, z_wi1, z_wi0, z_wi, z_inS, z_toInt, z_nb0, z_nb1, Int.cast_ofNat_Int, true_and, and_true, not_true_eq_false, not_false_eq_true, false_imp_iff, true_imp_iff, aup_o, aup_k, ite_true, ite_false, z_fa000, z_fa001, z_fa010, z_fa011, z_fa100, z_fa101, z_fa110, z_fa111, if_true, if_false, e115, e112]
    exact q _ _
  · have q := fun o3 o4 => l24 0 o3 o4 (Or.inl ⟨rfl, h1⟩)
    clear l24 h67 m4 hc
    simp (disch := omega) only [z_app, z_rd, z_cl, z_add, z_sub, z_mul, z_neg, z_lit, z_leT, z_leF, z_ltT, z_ltF, z_eqT, z_eqF, i_leT, i_leF, i_ltT, i_ltF, i_eqT, i_eqF, z_le, z_lt, z_eq, z_ite, z_at, z_pt, z_up, z_wr, z_wi1, z_wi0, z_wi, z_inS, z_toInt, z_nb0, z_nb1, Int.cast_ofNat_Int, true_and, and_true, not_true_eq_false, not_false_eq_true, false_imp_iff, true_imp_iff, aup_o, aup_k, ite_true, ite_false, z_fa000, z_fa001, z_fa010, z_fa011, z_fa100, z_fa101, z_fa110, z_fa111, if_true, if_false, e115, e112]
    exact q _ _
theorem m_stepN (hw : qWF g) (hP : kPg v J E c K) (hE : ∀ a, 0 ≤ a → a < K → a < E a ∧ E a ≤ K) (hE1 : ∀ a, 0 ≤ a → a < K → v 80 (J a) < 267 → E a = a + 1) {k : Int} {stk : rSt} {Y : Int × rSt} {t : aS} (hM : mR v z J E c K (k, stk) s m) (hn : rNext (v 80) (v 84) J E K (k, stk) s Y t) (hQ : ∀ b, mR v z J E c K Y t b → Q (iI Y.1) (qi b)) : qC g (d + 12) mX10_step [.inr 86, .inl (iI k)] (qi m) Q T := by
  obtain ⟨kK, h200, hn⟩ := hn
  have kK : k < K := kK
  have hM0 := hM
  obtain ⟨M1, M2, M3, M4, ⟨M5a, M5b, M5c, M5d⟩, M6, M7⟩ := hM
  have k0 : 0 ≤ k := M6.1
  have K6 := hP.2.1
  have ek := hE k k0 kK
  obtain ⟨hc, ⟨e112, e113, e115⟩, jb2, w0, w8⟩ := M3 k k0 kK
  have M5a : m 86 60 = (stk.length : Nat) := M5a
  have M5b : stk.length ≤ 4 := M5b
  have M5c : stM m stk := M5c
  have M5d : stE K stk := M5d
  rcases hn with ⟨c7, hz, hY, ht⟩ | ⟨c7, hr, hne, hlen, hY, ht⟩ | ⟨c7, hno, hY, ht⟩
  · have c7 : 267 ≤ v 80 (J k) := c7
    have hz : rdS (v 80) (v 84) (bg1 s) (J k) = 0 ∨ E k = k + 1 := hz
    have hY : Y = lv E (E k) stk := hY
    have lev : qC g (d + 11) mX10_leave [.inr 86, .inl (iI (E k))] (qi m) (fun r s2 => Q r s2) T := by
      refine m_leaveS (t := bg1 s) (d := d + 10) hw K6 hE hM0 (by omega) ek.2 (rJ_b M1) (jJ_b M2) (fun _ _ => rfl) (fun _ _ => rfl) (fun b2 hb2 => ?_)
      have h := hQ b2
      rw [hY, ht] at h
      exact h hb2
    refine m_stepB hw hP hE hM0 kK c7 (fun emp o4 hemp => ?_)
    have rb : 0 ≤ rdS (v 80) (v 84) (bg1 s) (J k) ∧ rdS (v 80) (v 84) (bg1 s) (J k) ≤ 50 := by
      obtain ⟨⟨-, -, -, m4⟩, -⟩ := hP.2.2 k k0 kK
      unfold rdS
      by_cases h8 : v 80 (J k) = 267
      · rw [if_pos h8]; exact (m4.2.1 h8).2
      · rw [if_neg h8]
        cases hb (v 80) (v 84) (bg1 s) (J k) with
        | true => exact ⟨by decide, by decide⟩
        | false => exact ⟨by decide, by decide⟩
    generalize rdS (v 80) (v 84) (bg1 s) (J k) = R at *
    refine wX10_step_67 hw ?_
    by_cases hR : R = 0
    · clear hQ hz hemp hc
      simp (disch := omega) only [z_app, z_rd, z_cl, z_add, z_sub, z_mul, z_neg, z_lit, z_leT, z_leF, z_ltT, z_ltF, z_eqT, z_eqF, i_leT, i_leF, i_ltT, i_ltF, i_eqT, i_eqF, z_le, z_lt, z_eq, z_ite, z_at, z_pt, z_up, z_wr, z_wi1, z_wi0, z_wi, z_inS, z_toInt, z_nb0, z_nb1, Int.cast_ofNat_Int, true_and, and_true, not_true_eq_false, not_false_eq_true, false_imp_iff, true_imp_iff, aup_o, aup_k, ite_true, ite_false, z_fa000, z_fa001, z_fa010, z_fa011, z_fa100, z_fa101, z_fa110, z_fa111, if_true, if_false, e115]
      exact lev
    · have e1 : emp = 1 := by omega
      clear hQ hz hemp hc
      simp (disch := omega) only [z_app, z_rd, z_cl, z_add, z_sub, z_mul, z_neg, z_lit, z_leT, z_leF, z_ltT, z_ltF, z_eqT, z_eqF, i_leT, i_leF, i_ltT, i_ltF, i_eqT, i_eqF, z_le, z_lt, z_eq, z_ite, z_at, z_pt, z_up, z_wr, z_wi1, z_wi0, z_wi, z_inS, z_toInt, z_nb0, z_nb1, Int.cast_ofNat_Int, true_and, and_true, not_true_eq_false, not_false_eq_true, false_imp_iff, true_imp_iff, aup_o, aup_k, ite_true, ite_false, z_fa000, z_fa001, z_fa010, z_fa011, z_fa100, z_fa101, z_fa110, z_fa111, if_true, if_false, e115]
      exact lev
  · have c7 : 267 ≤ v 80 (J k) := c7
    have hr : 1 ≤ rdS (v 80) (v 84) (bg1 s) (J k) ∧ rdS (v 80) (v 84) (bg1 s) (J k) ≤ 50 := hr
    have hne : E k ≠ k + 1 := hne
    have hlen : stk.length < 4 := hlen
    have hY : Y = (k + 1, (k, rdS (v 80) (v 84) (bg1 s) (J k)) :: stk) := hY
    refine m_stepB hw hP hE hM0 kK c7 (fun emp o4 hemp => ?_)
    have e0 : emp = 0 := by omega
    obtain ⟨n, hn⟩ : ∃ n : Int, n = (stk.length : Nat) := ⟨_, rfl⟩
    have h60 : m 86 60 = n := by omega
    have n0 : 0 ≤ n := by omega
    have n4 : n ≤ 3 := by omega
    generalize rdS (v 80) (v 84) (bg1 s) (J k) = R at *
    have q : Q (iI (k + 1)) (qi (aup (aup (aup m 120 n k) 121 n R) 86 60 (n + 1))) := by
      have h := hQ (aup (aup (aup m 120 n k) 121 n R) 86 60 (n + 1))
      rw [hY, ht] at h
      have f86 : ∀ i, i ≠ 60 → aup (aup (aup m 120 n k) 121 n R) 86 60 (n + 1) 86 i = m 86 i := fun i hi => by rw [aup_i hi, aup_o (by decide), aup_o (by decide)]
      have fx : ∀ x : Nat, x ≠ 86 → x ≠ 120 → x ≠ 121 → aup (aup (aup m 120 n k) 121 n R) 86 60 (n + 1) x = m x := fun x x1 x2 x3 => by rw [aup_o x1, aup_o x3, aup_o x2]
      refine h ⟨rJ_m (rJ_b M1) (fun x x0 x1 => fx x (by omega) (by omega) (by omega)) (fun i i0 i1 => f86 i (by omega)), jJ_b M2, mCs_fr M3 (fun x x0 x1 => fx x (by omega) (by omega) (by omega)) (f86 55 (by decide)), ?_, ⟨?_, ?_, ⟨⟨?_, ?_⟩, ?_⟩, ?_⟩, ⟨by show 0 ≤ k + 1; omega, by show k + 1 ≤ K; omega⟩, fun x hx => by rw [fx x (by omega) (by omega) (by omega)]; exact M7 x hx⟩
      · rw [f86 51 (by decide), f86 61 (by decide), f86 55 (by decide)]; exact M4
      · rw [aup_s]
        show n + 1 = (((k, R) :: stk).length : Nat)
        rw [List.length_cons]; omega
      · show ((k, R) :: stk).length ≤ 4
        rw [List.length_cons]; omega
      · rw [aup_o (by decide), aup_o (by decide), ← hn, aup_s]
      · rw [aup_o (by decide), ← hn, aup_s]
      · exact stM_c stk (fun i hi => ⟨by rw [aup_o (by decide), aup_o (by decide), aup_i (by omega)], by rw [aup_o (by decide), aup_i (by omega), aup_o (by decide)]⟩) M5c
      · intro p hp
        rcases List.mem_cons.mp hp with hp | hp
        · rw [hp]; exact ⟨⟨k0, kK⟩, hr⟩
        · exact M5d p hp
    clear hQ hY hemp hc M5c M5d
    refine wX10_step_67 hw ?_
    simp (disch := omega) only [z_app, z_rd, z_cl, z_add, z_sub, z_mul, z_neg, z_lit, z_leT, z_leF, z_ltT, z_ltF, z_eqT, z_eqF, i_leT, i_leF, i_ltT, i_ltF, i_eqT, i_eqF, z_le, z_lt, z_eq, z_ite, z_at, z_pt, z_up, z_wr, z_wi1, z_wi0, z_wi, z_inS, z_toInt, z_nb0, z_nb1, Int.cast_ofNat_Int, true_and, and_true, not_true_eq_false, not_false_eq_true, false_imp_iff, true_imp_iff, aup_o, aup_k, ite_true, ite_false, z_fa000, z_fa001, z_fa010, z_fa011, z_fa100, z_fa101, z_fa110, z_fa111, if_true, if_false]
    refine wX10_enter hw ?_
    simp (disch := omega) only [z_app, z_rd, z_cl, z_add, z_sub, z_mul, z_neg, z_lit, z_leT, z_leF, z_ltT, z_ltF, z_eqT, z_eqF, i_leT, i_leF, i_ltT, i_ltF, i_eqT, i_eqF, z_le, z_lt, z_eq, z_ite, z_at, z_pt, z_up, z_wr, z_wi1, z_wi0, z_wi, z_inS, z_toInt, z_nb0, z_nb1, Int.cast_ofNat_Int, true_and, and_true, not_true_eq_false, not_false_eq_true, false_imp_iff, true_imp_iff, aup_o, aup_k, ite_true, ite_false, z_fa000, z_fa001, z_fa010, z_fa011, z_fa100, z_fa101, z_fa110, z_fa111, if_true, if_false, h60]
    exact q
  · have c7 : v 80 (J k) < 267 := c7
    have hno : ¬ cI (v 80) (v 84) J (bg1 s) k ∧ ¬ cA (v 80) (v 84) J k ∧ ¬ cS (v 80) (v 84) J (bg1 s) k := hno
    have hY : Y = lv E (E k) stk := hY
    have ht : t = cO (v 80) (v 84) J (bg1 s) k := ht
    have ee := hE1 k k0 kK c7
    have jt : jJ t := by
      rw [ht]
      unfold cO
      exact j_stS (p_all (c := n32 (v 84 (J k + 3))) hw (jJ_b M2) ⟨w0, by omega⟩ hno.1 hno.2.1 hno.2.2).1
    have main : ∀ Q' : Int32 → qS → Prop, (∀ y : aS, qC g (d + 11) mX10_exceptionOf [.inr 86, .inl (iI (v 80 (J k) - 256))] (qi y) (fun r5 s6 => qC g (d + 11) mX10_leave [.inr 86, .inl (iI (k + 1))] (qup s6 86 61 r5) (fun r7 s8 => Q r7 s8) T) T → Q' (iI 0) (qi y)) → qC g (d + 11) mX10_call [.inr 86, .inl (iI k)] (qi m) Q' T := by
      intro Q' hQ'
      refine m_plainS (s := bg1 s) hw (jJ_b M2) (rJ_b M1) k0 (by omega) hc e112 w0 c7 (fun y f th hf _ _ _ _ _ _ => ?_) (fun y _ y1 y2 y3 => hQ' y ?_)
      · exfalso
        rcases hf with h | h | h
        · exact hno.1 h.1
        · exact hno.2.1 h.2.1
        · exact hno.2.2 h.2.2.1
      · refine m_exc0 (d := d + 10) hw y3 ?_
        have y61 : y 86 61 = 0 := by rw [y2.2 61 (by decide)]; exact M4.2.1
        have ey : aup y 86 61 0 = y := by
          have h := aup_id y 86 61
          rw [y61] at h
          exact h
        have es : qup (qi y) 86 61 (iI 0) = qi y := by rw [z_up]; exact congrArg qi ey
        rw [es]
        refine m_leaveS (t := t) (d := d + 10) hw K6 hE hM0 (by omega) (by omega) (by rw [ht]; exact y1) jt y2.1 y2.2 (fun b2 hb2 => ?_)
        have h := hQ b2
        rw [hY, ee] at h
        exact h hb2
    clear hQ
    refine wX10_step hw ?_
    have e115' : m 115 k = k + 1 := by rw [e115, ee]
    have l24 : ∀ o3 o4, qV g mX10_step (d + 12) 0 24 [some (.inr 86), some (.inl (iI k)), some (.inl (iI (v 80 (J k) - 256))), o3, o4] [.inl (iI 1)] (qi m) Q T := fun o3 o4 => by
      refine wX10_step_24 hw ?_
      clear hc hno
      simp (disch := omega) only [z_app, z_rd, z_cl, z_add, z_sub, z_mul, z_neg, z_lit, z_leT, z_leF, z_ltT, z_ltF, z_eqT, z_eqF, i_leT, i_leF, i_ltT, i_ltF, i_eqT, i_eqF, z_le, z_lt, z_eq, z_ite, z_at, z_pt, z_up, z_wr, z_wi1, z_wi0, z_wi, z_inS, z_toInt, z_nb0, z_nb1, Int.cast_ofNat_Int, true_and, and_true, not_true_eq_false, not_false_eq_true, false_imp_iff, true_imp_iff, aup_o, aup_k, ite_true, ite_false, z_fa000, z_fa001, z_fa010, z_fa011, z_fa100, z_fa101, z_fa110, z_fa111, if_true, if_false]
      exact main _ (fun y hy => hy)
    clear main hc hno
    simp (disch := omega) only [z_app, z_rd, z_cl, z_add, z_sub, z_mul, z_neg, z_lit, z_leT, z_leF, z_ltT, z_ltF, z_eqT, z_eqF, i_leT, i_leF, i_ltT, i_ltF, i_eqT, i_eqF, z_le, z_lt, z_eq, z_ite, z_at, z_pt, z_up, z_wr, z_wi1, z_wi0, z_wi, z_inS, z_toInt, z_nb0, z_nb1, Int.cast_ofNat_Int, true_and, and_true, not_true_eq_false, not_false_eq_true, false_imp_iff, true_imp_iff, aup_o, aup_k, ite_true, ite_false, z_fa000, z_fa001, z_fa010, z_fa011, z_fa100, z_fa101, z_fa110, z_fa111, if_true, if_false, e115', e112]
    exact l24 _ _
theorem cF1_u {C V J : Int → Int} {s : aS} {k f f' : Int} (h : cF1 C V J s k f) (h' : cF1 C V J s k f') : f = f' := by
  rcases h with ⟨a1, a2⟩ | ⟨a1, a3, a2⟩ | ⟨a1, a3, a4, a2⟩
  · rcases h' with ⟨b1, b2⟩ | ⟨b1, b3, b2⟩ | ⟨b1, b3, b4, b2⟩
    · omega
    · exact (b1 a1).elim
    · exact (b1 a1).elim
  · rcases h' with ⟨b1, b2⟩ | ⟨b1, b3, b2⟩ | ⟨b1, b3, b4, b2⟩
    · exact (a1 b1).elim
    · omega
    · exact (b3 a3).elim
  · rcases h' with ⟨b1, b2⟩ | ⟨b1, b3, b2⟩ | ⟨b1, b3, b4, b2⟩
    · exact (a1 b1).elim
    · exact (a3 b3).elim
    · omega
theorem cF1_b {C V J : Int → Int} {s : aS} {k f : Int} (h : cF1 C V J s k f) : 1 ≤ f ∧ f ≤ 3 := by
  rcases h with h | h | h
  · have := h.2; omega
  · have := h.2.2; omega
  · have := h.2.2.2; omega
theorem m_stepF (hw : qWF g) (hP : kPg v J E c K) (hE : ∀ a, 0 ≤ a → a < K → a < E a ∧ E a ≤ K) (hE1 : ∀ a, 0 ≤ a → a < K → v 80 (J a) < 267 → E a = a + 1) {k f : Int} {stk : rSt} (hM : mR v z J E c K (k, stk) s m) (kK : k < K) (c7 : v 80 (J k) < 267) (hf : cF1 (v 80) (v 84) J (bg1 s) k f)
    (hQ : ∀ (b : aS) (r : Int), 0 ≤ r → r ≤ 60 → b 86 61 = f → b 86 51 = K → b 113 k = v 82 (J k) → (∀ p, rJ (aup (aup (bg1 s) 62 2 f) 62 3 p) (aup (aup b 86 62 p) 86 0 0)) → (∀ x : Nat, x < 86 ∨ 122 ≤ x → b x = z x) → Q (iI r) (qi b)) : qC g (d + 12) mX10_step [.inr 86, .inl (iI k)] (qi m) Q T := by
  obtain ⟨M1, M2, M3, M4, ⟨M5a, M5b, M5c, M5d⟩, M6, M7⟩ := hM
  have k0 : 0 ≤ k := M6.1
  have K6 := hP.2.1
  have fb := cF1_b hf
  obtain ⟨hc, ⟨e112, e113, e115⟩, jb2, w0, w8⟩ := M3 k k0 kK
  have M5a : m 86 60 = (stk.length : Nat) := M5a
  have M5b : stk.length ≤ 4 := M5b
  have M5c : stM m stk := M5c
  have M5d : stE K stk := M5d
  have ee := hE1 k k0 kK c7
  have main : ∀ Q' : Int32 → qS → Prop, (∀ y : aS, qC g (d + 11) mX10_exceptionOf [.inr 86, .inl (iI (v 80 (J k) - 256))] (qi y) (fun r5 s6 => qC g (d + 11) mX10_leave [.inr 86, .inl (iI (k + 1))] (qup s6 86 61 r5) (fun r7 s8 => Q r7 s8) T) T → Q' (iI 0) (qi y)) → qC g (d + 11) mX10_call [.inr 86, .inl (iI k)] (qi m) Q' T := by
    intro Q' hQ'
    refine m_plainS (s := bg1 s) hw (jJ_b M2) (rJ_b M1) k0 (by omega) hc e112 w0 c7 (fun y f' th hf' y1 y2 y3 t1 t3 hx => hQ' y ?_) (fun y hno _ _ _ => ?_)
    · have ef := cF1_u hf' hf
      rw [ef] at hx
      refine m_exc (d := d + 10) hw w0 c7 y3 t1 t3 ?_
      rw [hx]
      have es : qup (qi y) 86 61 (iI f) = qi (aup y 86 61 f) := by rw [z_up]; rfl
      rw [es]
      have lk := lv_ok hE (k := k + 1) (by omega) (by omega) stk M5d M5b
      refine wX10_leave hw ⟨rfl, m_leave_l (d := d + 10) hw K6 hE (by omega) (by omega) stk (aup y 86 61 f) (by rw [aup_i (by decide), y2.2 60 (by decide)]; exact M5a) M5b (stM_c stk (fun i _ => by rw [aup_o (by decide), aup_o (by decide), y2.1 120 (by decide), y2.1 121 (by decide)]; exact ⟨rfl, rfl⟩) M5c) M5d (fun a a0 a1 => by rw [aup_o (by decide), y2.1 115 (by decide)]; exact (M3 a a0 a1).2.1.2.2) (fun b hb => ?_)⟩
      obtain ⟨L1, L2, -, -⟩ := hb
      have bx : ∀ x : Nat, x ≠ 86 → x ≠ 121 → b x = y x := fun x x1 x2 => by rw [L1 x x1 x2, aup_o x1]
      have b86 : ∀ i, i ≠ 60 → i ≠ 61 → b 86 i = y 86 i := fun i i1 i2 => by rw [L2 i i1, aup_i i2]
      refine hQ b _ lk.2.2.1 (by omega) (by rw [L2 61 (by decide), aup_s]) (by rw [b86 51 (by decide) (by decide), y2.2 51 (by decide)]; exact M4.1) (by rw [bx 113 (by decide) (by decide), y2.1 113 (by decide)]; exact e113) (fun p => ?_) (fun x hx2 => by rw [bx x (by omega) (by omega), y2.1 x (by omega)]; exact M7 x hx2)
      refine rJ_fail y1 (fun x x0 x1 => by rw [aup_o (by omega), aup_o (by omega), bx x (by omega) (by omega)]) (fun i i0 i1 => by rw [aup_i i0, aup_i (by omega), b86 i (by omega) (by omega)]) (by rw [aup_i (by decide), aup_i (by decide), L2 61 (by decide), aup_s]) (by rw [aup_i (by decide), aup_s])
    · exfalso
      rcases hf with h | h | h
      · exact hno.1 h.1
      · exact hno.2.1 h.2.1
      · exact hno.2.2 h.2.2.1
  clear hQ
  refine wX10_step hw ?_
  have e115' : m 115 k = k + 1 := by rw [e115, ee]
  have l24 : ∀ o3 o4, qV g mX10_step (d + 12) 0 24 [some (.inr 86), some (.inl (iI k)), some (.inl (iI (v 80 (J k) - 256))), o3, o4] [.inl (iI 1)] (qi m) Q T := fun o3 o4 => by
    refine wX10_step_24 hw ?_
    clear hc hf
    simp (disch := omega) only [z_app, z_rd, z_cl, z_add, z_sub, z_mul, z_neg, z_lit, z_leT, z_leF, z_ltT, z_ltF, z_eqT, z_eqF, i_leT, i_leF, i_ltT, i_ltF, i_eqT, i_eqF, z_le, z_lt, z_eq, z_ite, z_at, z_pt, z_up, z_wr, z_wi1, z_wi0, z_wi, z_inS, z_toInt, z_nb0, z_nb1, Int.cast_ofNat_Int, true_and, and_true, not_true_eq_false, not_false_eq_true, false_imp_iff, true_imp_iff, aup_o, aup_k, ite_true, ite_false, z_fa000, z_fa001, z_fa010, z_fa011, z_fa100, z_fa101, z_fa110, z_fa111, if_true, if_false]
    exact main _ (fun y hy => hy)
  clear main hc hf
  simp (disch := omega) only [z_app, z_rd, z_cl, z_add, z_sub, z_mul, z_neg, z_lit, z_leT, z_leF, z_ltT, z_ltF, z_eqT, z_eqF, i_leT, i_leF, i_ltT, i_ltF, i_eqT, i_eqF, z_le, z_lt, z_eq, z_ite, z_at, z_pt, z_up, z_wr, z_wi1, z_wi0, z_wi, z_inS, z_toInt, z_nb0, z_nb1, Int.cast_ofNat_Int, true_and, and_true, not_true_eq_false, not_false_eq_true, false_imp_iff, true_imp_iff, aup_o, aup_k, ite_true, ite_false, z_fa000, z_fa001, z_fa010, z_fa011, z_fa100, z_fa101, z_fa110, z_fa111, if_true, if_false, e115', e112]
  exact l24 _ _
theorem m_run_l (hw : qWF g) (hP : kPg v J E c K) (hE : ∀ a, 0 ≤ a → a < K → a < E a ∧ E a ≤ K) (hE1 : ∀ a, 0 ≤ a → a < K → v 80 (J a) < 267 → E a = a + 1) {F : aS} (hQ : ∀ b : aS, rJ F b → b 86 0 = 0 → (∀ x : Nat, x < 86 ∨ 122 ≤ x → b x = z x) → Q (iI (F 62 1)) (qi b)) : ∀ (n : Nat) (k : Int) (stk : rSt) (s m : aS) (o3 : Option qP), rr (v 80) (v 84) (v 82) J E K n (k, stk) s F → mR v z J E c K (k, stk) s m → 0 ≤ s 62 1 → s 62 1 ≤ 200 → qV g mX10_run (d + 13) 0 69 [some (.inr 86), some (.inl (iI (s 62 1))), some (.inl (iI k)), o3] [] (qi m) Q T := by
  intro n
  have K6 := hP.2.1
  induction n with
  | zero => intro k stk s m o3 h; exact h.elim
  | succ n ih =>
    intro k stk s m o3 h hM s0 s2
    have hM0 := hM
    obtain ⟨M1, M2, M3, ⟨M4a, M4b, M4c, M4d⟩, M5, M6, M7⟩ := hM
    have k0 : 0 ≤ k := M6.1
    have k1 : k ≤ K := M6.2
    rcases h with (⟨h1, h2⟩ | ⟨h1, h2, h3⟩ | ⟨h1, h2, h3, f, h4, h5⟩) | ⟨Y, t, hn, hr⟩
    · have h1 : K ≤ k := h1
      have q := hQ (aup m 86 0 0) (by rw [h2]; exact rJ_t M1 0) (aup_s _ _ _ _) (fun x hx => by rw [aup_o (by omega)]; exact M7 x hx)
      rw [h2] at q
      clear hQ ih
      refine wX10_run_69 hw ?_
      simp (disch := omega) only [z_app, z_rd, z_cl, z_add, z_sub, z_mul, z_neg, z_lit, z_leT, z_leF, z_ltT, z_ltF, z_eqT, z_eqF, i_leT, i_leF, i_ltT, i_ltF, i_eqT, i_eqF, z_le, z_lt, z_eq, z_ite, z_at, z_pt, z_up, z_wr, z_wi1, z_wi0, z_wi, z_inS, z_toInt, z_nb0, z_nb1, Int.cast_ofNat_Int, true_and, and_true, not_true_eq_false, not_false_eq_true, false_imp_iff, true_imp_iff, aup_o, aup_k, ite_true, ite_false, z_fa000, z_fa001, z_fa010, z_fa011, z_fa100, z_fa101, z_fa110, z_fa111, if_true, if_false, M4a]
      exact q
    · have h1 : k < K := h1
      have h3 : F = aup (aup (bg1 s) 62 2 4) 62 3 (v 82 (J k)) := h3
      obtain ⟨-, ⟨-, e113, -⟩, -⟩ := M3 k k0 h1
      have q := hQ (aup (aup (aup m 86 61 4) 86 62 (v 82 (J k))) 86 0 0) (by
        rw [h3]
        exact rJ_fail (rJ_b M1) (fun x x0 x1 => by rw [aup_o (by omega), aup_o (by omega), aup_o (by omega)]) (fun i i0 i1 => by rw [aup_i i0, aup_i (by omega), aup_i (by omega)]) (by rw [aup_i (by decide), aup_i (by decide), aup_s]) (by rw [aup_i (by decide), aup_s])) (aup_s _ _ _ _) (fun x hx => by rw [aup_o (by omega), aup_o (by omega), aup_o (by omega)]; exact M7 x hx)
      have e1 : F 62 1 = s 62 1 + 1 := by
        rw [h3, aup_i (by decide), aup_i (by decide)]
        unfold bg1
        rw [aup_s]
      rw [e1] at q
      have l127 : ∀ o3, qV g mX10_run (d + 13) 0 69 [some (.inr 86), some (.inl (iI (s 62 1 + 1))), some (.inl (iI k)), o3] [] (qi (aup (aup m 86 61 4) 86 62 (v 82 (J k)))) Q T := fun o3 => by
        refine wX10_run_69 hw ?_
        clear hQ ih
        simp (disch := omega) only [z_app, z_rd, z_cl, z_add, z_sub, z_mul, z_neg, z_lit, z_leT, z_leF, z_ltT, z_ltF, z_eqT, z_eqF, i_leT, i_leF, i_ltT, i_ltF, i_eqT, i_eqF, z_le, z_lt, z_eq, z_ite, z_at, z_pt, z_up, z_wr, z_wi1, z_wi0, z_wi, z_inS, z_toInt, z_nb0, z_nb1, Int.cast_ofNat_Int, true_and, and_true, not_true_eq_false, not_false_eq_true, false_imp_iff, true_imp_iff, aup_o, aup_k, ite_true, ite_false, z_fa000, z_fa001, z_fa010, z_fa011, z_fa100, z_fa101, z_fa110, z_fa111, if_true, if_false, M4a]
        exact q
      clear hQ ih q
      refine wX10_run_69 hw ?_
      simp (disch := omega) only [z_app, z_rd, z_cl, z_add, z_sub, z_mul, z_neg, z_lit, z_leT, z_leF, z_ltT, z_ltF, z_eqT, z_eqF, i_leT, i_leF, i_ltT, i_ltF, i_eqT, i_eqF, z_le, z_lt, z_eq, z_ite, z_at, z_pt, z_up, z_wr, z_wi1, z_wi0, z_wi, z_inS, z_toInt, z_nb0, z_nb1, Int.cast_ofNat_Int, true_and, and_true, not_true_eq_false, not_false_eq_true, false_imp_iff, true_imp_iff, aup_o, aup_k, ite_true, ite_false, z_fa000, z_fa001, z_fa010, z_fa011, z_fa100, z_fa101, z_fa110, z_fa111, if_true, if_false, M4a, M4b, e113]
      refine wX10_run_127 hw ⟨rfl, l127 _⟩
    · have h1 : k < K := h1
      have h3 : v 80 (J k) < 267 := h3
      have h4 : cF1 (v 80) (v 84) J (bg1 s) k f := h4
      have h5 : F = aup (aup (bg1 s) 62 2 f) 62 3 (v 82 (J k)) := h5
      have e1 : F 62 1 = s 62 1 + 1 := by
        rw [h5, aup_i (by decide), aup_i (by decide)]
        unfold bg1
        rw [aup_s]
      have fb := cF1_b h4
      have st : ∀ Q' : Int32 → qS → Prop, (∀ (b : aS) (r : Int), b 86 61 = f → b 113 k = v 82 (J k) → (∀ o3, qV g mX10_run (d + 13) 0 69 [some (.inr 86), some (.inl (iI (s 62 1 + 1))), some (.inl (iI r)), o3] [] (qi (aup b 86 62 (v 82 (J k)))) Q T) → Q' (iI r) (qi b)) → qC g (d + 12) mX10_step [.inr 86, .inl (iI k)] (qi m) Q' T := by
        intro Q' hQ'
        refine m_stepF hw hP hE hE1 hM0 h1 h3 h4 (fun b r r0 r6 b1 b2 b3 b4 b5 => hQ' b r b1 b3 (fun o3 => ?_))
        have q := hQ (aup (aup b 86 62 (v 82 (J k))) 86 0 0) (by rw [h5]; exact b4 _) (aup_s _ _ _ _) (fun x hx => by rw [aup_o (by omega), aup_o (by omega)]; exact b5 x hx)
        rw [e1] at q
        refine wX10_run_69 hw ?_
        clear hQ ih hQ' b4
        by_cases hr : K ≤ r
        · simp (disch := omega) only [z_app, z_rd, z_cl, z_add, z_sub, z_mul, z_neg, z_lit, z_leT, z_leF, z_ltT, z_ltF, z_eqT, z_eqF, i_leT, i_leF, i_ltT, i_ltF, i_eqT, i_eqF, z_le, z_lt, z_eq, z_ite, z_at, z_pt, z_up, z_wr, z_wi1, z_wi0, z_wi, z_inS, z_toInt, z_nb0, z_nb1, Int.cast_ofNat_Int, true_and, and_true, not_true_eq_false, not_false_eq_true, false_imp_iff, true_imp_iff, aup_o, aup_k, ite_true, ite_false, z_fa000, z_fa001, z_fa010, z_fa011, z_fa100, z_fa101, z_fa110, z_fa111, if_true, if_false, b2]
          exact q
        · simp (disch := omega) only [z_app, z_rd, z_cl, z_add, z_sub, z_mul, z_neg, z_lit, z_leT, z_leF, z_ltT, z_ltF, z_eqT, z_eqF, i_leT, i_leF, i_ltT, i_ltF, i_eqT, i_eqF, z_le, z_lt, z_eq, z_ite, z_at, z_pt, z_up, z_wr, z_wi1, z_wi0, z_wi, z_inS, z_toInt, z_nb0, z_nb1, Int.cast_ofNat_Int, true_and, and_true, not_true_eq_false, not_false_eq_true, false_imp_iff, true_imp_iff, aup_o, aup_k, ite_true, ite_false, z_fa000, z_fa001, z_fa010, z_fa011, z_fa100, z_fa101, z_fa110, z_fa111, if_true, if_false, b2, b1]
          exact q
      clear hQ ih
      refine wX10_run_69 hw ?_
      simp (disch := omega) only [z_app, z_rd, z_cl, z_add, z_sub, z_mul, z_neg, z_lit, z_leT, z_leF, z_ltT, z_ltF, z_eqT, z_eqF, i_leT, i_leF, i_ltT, i_ltF, i_eqT, i_eqF, z_le, z_lt, z_eq, z_ite, z_at, z_pt, z_up, z_wr, z_wi1, z_wi0, z_wi, z_inS, z_toInt, z_nb0, z_nb1, Int.cast_ofNat_Int, true_and, and_true, not_true_eq_false, not_false_eq_true, false_imp_iff, true_imp_iff, aup_o, aup_k, ite_true, ite_false, z_fa000, z_fa001, z_fa010, z_fa011, z_fa100, z_fa101, z_fa110, z_fa111, if_true, if_false, M4a, M4b]
      refine st _ (fun b r b1 b3 hb => ?_)
      clear st
      simp (disch := omega) only [z_app, z_rd, z_cl, z_add, z_sub, z_mul, z_neg, z_lit, z_leT, z_leF, z_ltT, z_ltF, z_eqT, z_eqF, i_leT, i_leF, i_ltT, i_ltF, i_eqT, i_eqF, z_le, z_lt, z_eq, z_ite, z_at, z_pt, z_up, z_wr, z_wi1, z_wi0, z_wi, z_inS, z_toInt, z_nb0, z_nb1, Int.cast_ofNat_Int, true_and, and_true, not_true_eq_false, not_false_eq_true, false_imp_iff, true_imp_iff, aup_o, aup_k, ite_true, ite_false, z_fa000, z_fa001, z_fa010, z_fa011, z_fa100, z_fa101, z_fa110, z_fa111, if_true, if_false, b1, b3]
      exact wX10_run_127 hw ⟨rfl, hb _⟩
    · have hn0 := hn
      obtain ⟨kK, h200, hn⟩ := hn
      have kK : k < K := kK
      have e1 : t 62 1 = s 62 1 + 1 := by
        rcases hn with ⟨-, -, -, ht⟩ | ⟨-, -, -, -, -, ht⟩ | ⟨-, -, -, ht⟩
        · rw [ht]; unfold bg1; rw [aup_s]
        · rw [ht]; unfold bg1; rw [aup_s]
        · rw [ht]
          unfold cO
          rw [sto _ _ _ _ _ _ (Or.inr (by decide))]
          unfold bg1
          rw [aup_s]
      obtain ⟨k', stk'⟩ := Y
      have st : ∀ Q' : Int32 → qS → Prop, (∀ b : aS, b 86 61 = 0 → (∀ o3, qV g mX10_run (d + 13) 0 69 [some (.inr 86), some (.inl (iI (s 62 1 + 1))), some (.inl (iI k')), o3] [] (qi b) Q T) → Q' (iI k') (qi b)) → qC g (d + 12) mX10_step [.inr 86, .inl (iI k)] (qi m) Q' T := by
        intro Q' hQ'
        refine m_stepN hw hP hE hE1 hM0 hn0 (fun b hb => hQ' b hb.2.2.2.1.2.1 (fun o3 => ?_))
        have i := ih k' stk' t b o3 hr hb (by omega) (by omega)
        rw [e1] at i
        exact i
      clear hQ ih hn hn0 hr
      refine wX10_run_69 hw ?_
      simp (disch := omega) only [z_app, z_rd, z_cl, z_add, z_sub, z_mul, z_neg, z_lit, z_leT, z_leF, z_ltT, z_ltF, z_eqT, z_eqF, i_leT, i_leF, i_ltT, i_ltF, i_eqT, i_eqF, z_le, z_lt, z_eq, z_ite, z_at, z_pt, z_up, z_wr, z_wi1, z_wi0, z_wi, z_inS, z_toInt, z_nb0, z_nb1, Int.cast_ofNat_Int, true_and, and_true, not_true_eq_false, not_false_eq_true, false_imp_iff, true_imp_iff, aup_o, aup_k, ite_true, ite_false, z_fa000, z_fa001, z_fa010, z_fa011, z_fa100, z_fa101, z_fa110, z_fa111, if_true, if_false, M4a, M4b]
      refine st _ (fun b b1 hb => ?_)
      clear st
      simp (disch := omega) only [z_app, z_rd, z_cl, z_add, z_sub, z_mul, z_neg, z_lit, z_leT, z_leF, z_ltT, z_ltF, z_eqT, z_eqF, i_leT, i_leF, i_ltT, i_ltF, i_eqT, i_eqF, z_le, z_lt, z_eq, z_ite, z_at, z_pt, z_up, z_wr, z_wi1, z_wi0, z_wi, z_inS, z_toInt, z_nb0, z_nb1, Int.cast_ofNat_Int, true_and, and_true, not_true_eq_false, not_false_eq_true, false_imp_iff, true_imp_iff, aup_o, aup_k, ite_true, ite_false, z_fa000, z_fa001, z_fa010, z_fa011, z_fa100, z_fa101, z_fa110, z_fa111, if_true, if_false, b1]
      exact wX10_run_127 hw ⟨rfl, hb _⟩
end MQ
