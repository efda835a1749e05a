/-! ===== the pair of run ===== -/
theorem rL_w0 {s t a : aS} (h : rL s a) (hf : ∀ k, 1 ≤ k → k < 62 → t k = s k) : rL t a := by
  unfold rL rS rR rG rT rV rC rP rK rM at h ⊢
  rw [hf 1 (by decide) (by decide), hf 2 (by decide) (by decide), hf 4 (by decide) (by decide), hf 6 (by decide) (by decide), hf 8 (by decide) (by decide), hf 10 (by decide) (by decide), hf 12 (by decide) (by decide), hf 14 (by decide) (by decide), hf 16 (by decide) (by decide), hf 18 (by decide) (by decide), hf 20 (by decide) (by decide), hf 21 (by decide) (by decide), hf 23 (by decide) (by decide), hf 26 (by decide) (by decide), hf 28 (by decide) (by decide), hf 30 (by decide) (by decide), hf 32 (by decide) (by decide), hf 34 (by decide) (by decide), hf 36 (by decide) (by decide), hf 38 (by decide) (by decide), hf 46 (by decide) (by decide), hf 48 (by decide) (by decide), hf 55 (by decide) (by decide), hf 61 (by decide) (by decide)]
  exact h
section PRN
variable {g : qG} {d : Nat} {Q : Int32 → qS → Prop} {T : String → qS → Prop} {u : aS} {c K : Int} {J E : Int → Int}
theorem k_chains (hw : qWF g) (hP : kPg u J E c K) (hE : ∀ a, 0 ≤ a → a < K → a < E a ∧ E a ≤ K) : ∀ l : Nat, kCs g u J E K l := by
  intro l
  induction l with
  | zero => exact kC_of hw hP hE (fun l' h => by omega)
  | succ l ih => exact kC_of hw hP hE (fun l' h => by
      have e : l = l' := by omega
      subst e
      exact RB_of hw hP.2.1 ih)
theorem k_runB (hw : qWF g) (hP : kPg u J E c K) (hE : ∀ a, 0 ≤ a → a < K → a < E a ∧ E a ≤ K) (hc : ch J E (u 80) 4 0 K) (K0 : 0 ≤ K) (hI : kI u u) (H : ∀ F r, kFi u F → rfi (u 80) (u 84) (u 82) J E K (0, []) u F → Q r (qi F)) : qC g (d + 12) mX6_runBlock [.inr 62, .inr 1, .inl (iI 0), .inl (iI K), .inl (iI 1), .inl (iI 0)] (qi u) Q T := by
  have K6 := hP.2.1
  have l16 := fun o9 o10 => k_chains hw hP hE 4 d Q T [] K (iI 0) (iI 1) 0 rfl (fun x _ => rfl) (Int.le_refl _) K.toNat u 0 0 o9 o10 (by omega) (by omega) K0 (by omega) (by omega) hI hc (fun s' o7 o8 o9 o10 k1 k2 => by
    have q := H s' (iI 1) ⟨k1.1, k1.2.1⟩ (rfi_to k2 (rfi_end (Or.inl ⟨Int.le_refl _, rfl⟩)))
    clear H
    refine wX6_runBlock_3 (d := d + 11) hw ?_
    simp (disch := omega) only [z_app, z_rd, z_cl, z_add, z_sub, z_mul, z_neg, z_lit, z_leT, z_leF, z_ltT, z_ltF, z_eqT, z_eqF, i_leT, i_leF, i_ltT, i_ltF, i_eqT, i_eqF, z_le, z_lt, z_eq, z_ite, z_at, z_pt, z_up, z_wr, z_wi1, z_wi0, z_wi, z_inS, z_toInt, z_nb0, z_nb1, Int.cast_ofNat_Int, true_and, and_true, not_true_eq_false, not_false_eq_true, false_imp_iff, true_imp_iff, aup_o, aup_k, ite_true, ite_false, z_fa000, z_fa001, z_fa010, z_fa011, z_fa100, z_fa101, z_fa110, z_fa111, if_true, if_false]
    exact ⟨Or.inr trivial, q⟩) (fun F k1 k2 => H F (iI 0) k1 k2)
  clear H
  refine wX6_runBlock (d := d + 11) hw ⟨rfl, ?_⟩
  refine wX6_runBlock_3 (d := d + 11) hw ?_
  simp (disch := omega) only [z_app, z_rd, z_cl, z_add, z_sub, z_mul, z_neg, z_lit, z_leT, z_leF, z_ltT, z_ltF, z_eqT, z_eqF, i_leT, i_leF, i_ltT, i_ltF, i_eqT, i_eqF, z_le, z_lt, z_eq, z_ite, z_at, z_pt, z_up, z_wr, z_wi1, z_wi0, z_wi, z_inS, z_toInt, z_nb0, z_nb1, Int.cast_ofNat_Int, true_and, and_true, not_true_eq_false, not_false_eq_true, false_imp_iff, true_imp_iff, aup_o, aup_k, ite_true, ite_false, z_fa000, z_fa001, z_fa010, z_fa011, z_fa100, z_fa101, z_fa110, z_fa111, if_true, if_false]
  exact l16 _ _
/-- the class's state when it begins to run -/
def u0 (v : aS) : aS := aup (aup (aup (aup v 0 3 0) 62 1 0) 62 2 0) 62 3 (-1)
theorem u0_x (v : aS) {x : Nat} (h0 : x ≠ 0) (h1 : x ≠ 62) : u0 v x = v x := by
  unfold u0
  rw [aup_o h1, aup_o h1, aup_o h1, aup_o h0]
theorem pr_2 (hw : qWF g) (hs : kSW g) : ∀ σ : qS, lR σ → lPlain g 20 lR mX9_run mX10_run σ := by
  rintro σ ⟨a, rfl, hJ, hr⟩
  have B := jb hJ
  have hy := hJ.2.2.2.2.2.2.2.2.2.2.2
  have hx := hr.2
  unfold rX at hx
  obtain ⟨x1, x2, x3, x4, x5, x6⟩ := hx
  have n0 : 0 ≤ a 0 3 := by omega
  have n9 : a 0 3 ≤ 900 := by omega
  unfold lPlain
  refine wX9_run (d := 19) hw ?_
  have e03 : qi a 0 3 = iI (a 0 3) := rfl
  rw [e03]
  -- the reference's text
  have text : ∀ F : aS, (∀ x : Nat, 86 ≤ x → F x = a x) → scT (aup (aup (aup (aup (aup F 86 45 0) 86 46 (-1)) 86 38 (a 0 3)) 86 2 0) 86 39 0) (fun i => a 85 i % 256) (a 0 3) := fun F hF => by
    refine ⟨by rw [aup_i (by decide), aup_i (by decide), aup_s], n9, fun x y0 y1 => ?_⟩
    rw [aup_o (by decide), aup_o (by decide), aup_o (by decide), aup_o (by decide), aup_o (by decide), hF 87 (by decide), x2 x y0 y1]
    exact ⟨rfl, by show 0 ≤ a 85 x % 256; omega, by show a 85 x % 256 < 256; omega⟩
  refine k_parse (d := 0) (b := fun i => a 85 i % 256) hw n0 n9 (fun i i0 i1 => ⟨hy i i0 i1, rfl⟩) (fun v c e K J E p1 p2 p3 p4 p5 p6 p7 p8 p9 p10 p11 => ?_) (fun v c e f x p1 p2 p3 p4 p5 p6 p7 p8 => ?_)
  · refine ⟨fun _ => ?_, fun hn => absurd (show ¬ iI 1 = 0 by decide +kernel) hn⟩
    refine wX6_clear hw ?_
    have eu : ∀ x : Nat, 63 ≤ x → u0 v x = v x := fun x hx => u0_x v (by omega) (by omega)
    have J0 := pfin_J p2 p3
    have hE3 := ch_E p11
    have hE : ∀ a, 0 ≤ a → a < K → a < E a ∧ E a ≤ K := fun a a0 a1 => ⟨(hE3 a a0 a1).1, (hE3 a a0 a1).2.1⟩
    have hE1 : ∀ a, 0 ≤ a → a < K → u0 v 80 (J a) < 267 → E a = a + 1 := fun a a0 a1 h => by
      rw [eu 80 (by decide)] at h
      exact (hE3 a a0 a1).2.2 h
    have hP : kPg (u0 v) J E c K := by
      refine ⟨by rw [eu 80 (by decide), eu 84 (by decide)]; exact p2, p7, fun k k0 k1 => ?_⟩
      obtain ⟨c1, c2⟩ := p10 k k0 k1
      refine ⟨?_, by rw [eu 77 (by decide)]; exact c2, J0 k k0 k1⟩
      unfold cm nmR at c1 ⊢
      rw [eu 80 (by decide), eu 84 (by decide), eu 82 (by decide), eu 65 (by decide), eu 67 (by decide), eu 69 (by decide), eu 71 (by decide), eu 73 (by decide), eu 75 (by decide)]
      exact c1
    have jv : jJ v := jJ_w hJ (fun k hk => p4 k (by omega))
    have v03 : v 0 3 = a 0 3 := by rw [p4 0 (by decide)]
    have ju : jJ (u0 v) := jJ_w (j_lenT jv (w := 0) (by omega) (by omega)) (fun k hk => by
      unfold u0
      rw [aup_o (by omega), aup_o (by omega), aup_o (by omega)])
    have u61 : u0 v 62 1 = 0 := by unfold u0; rw [aup_i (by decide), aup_i (by decide), aup_s]
    have u62 : u0 v 62 2 = 0 := by unfold u0; rw [aup_i (by decide), aup_s]
    have u63 : u0 v 62 3 = -1 := by unfold u0; rw [aup_s]
    have u03 : u0 v 0 3 = 0 := by unfold u0; rw [aup_o (by decide), aup_o (by decide), aup_o (by decide), aup_s]
    have hI : kI (u0 v) (u0 v) := ⟨ju, fun _ _ => rfl, ⟨u62, u63⟩, by omega, by omega⟩
    have hch : ch J E (u0 v 80) 4 0 K := by rw [eu 80 (by decide)]; exact p11
    have tk : tkF (u0 v) (fun i => a 85 i % 256) (a 0 3) c e := tkF_c p1 (eu 80 (by decide)) (eu 82 (by decide)) (eu 84 (by decide))
    have pf : pfin (u0 v 80) (u0 v 84) pX0 (.inl (K, J, E)) := by rw [eu 80 (by decide), eu 84 (by decide)]; exact p3
    have fin : ∀ F : aS, kFi (u0 v) F → rfi (u0 v 80) (u0 v 84) (u0 v 82) J E K (0, []) (u0 v) F → qC g 20 mX10_run [.inr 86] (qi F) (fun bv σ2 => lR σ2 ∧ bv = iI (F 62 1)) (fun _ _ => False) := by
      intro F hF hf
      have Fx : ∀ x : Nat, 86 ≤ x → F x = a x := fun x hx => by rw [hF.2 x (by omega), eu x (by omega), p4 x (by omega)]
      have F2 : F 86 2 = a 0 3 := by rw [Fx 86 (by decide)]; exact x1
      have tx := text F Fx
      obtain ⟨N, hN⟩ := hf
      have sc : ∀ Q' : Int32 → qS → Prop, (∀ m' : aS, scF (aup (aup (aup (aup (aup F 86 45 0) 86 46 (-1)) 86 38 (a 0 3)) 86 2 0) 86 39 0) m' → scA m' (u0 v) e c 0 → Q' (iI 0) (qi m')) → qC g 19 mX10_scan [.inr 86] (qi (aup (aup (aup (aup (aup F 86 45 0) 86 46 (-1)) 86 38 (a 0 3)) 86 2 0) 86 39 0)) Q' (fun _ _ => False) := fun Q' hQ' => m_scan (d := 15) hw hs tk (by omega) p2.1.1 tx (by rw [aup_s]; unfold ep; rw [if_pos rfl]) hQ'
      have go : ∀ m' : aS, scF (aup (aup (aup (aup (aup F 86 45 0) 86 46 (-1)) 86 38 (a 0 3)) 86 2 0) 86 39 0) m' → scA m' (u0 v) e c 0 → ∀ Q' : Int32 → qS → Prop, (∀ w : aS, w 86 45 = 0 → qV g mX10_run 20 0 69 [some (.inr 86), some (.inl (iI 0)), some (.inl (iI 0)), none] [] (qi (aup (aup (aup (aup w 86 0 0) 86 61 0) 86 62 (-1)) 86 60 0)) (fun bv σ2 => lR σ2 ∧ bv = iI (F 62 1)) (fun _ _ => False) → Q' (iI 0) (qi w)) → qC g 19 mX10_parseScript [.inr 86] (qi m') Q' (fun _ _ => False) := by
        intro m' f1 f2 Q' hQ'
        have g86 : ∀ i, 45 ≤ i → i ≠ 45 → i ≠ 46 → m' 86 i = a 86 i := fun i i0 i1 i2 => by
          rw [f1.2 i (by omega), aup_i (by omega), aup_i (by omega), aup_i (by omega), aup_i i2, aup_i i1, Fx 86 (by decide)]
        have g45 : m' 86 45 = 0 := by rw [f1.2 45 (by omega), aup_i (by decide), aup_i (by decide), aup_i (by decide), aup_i (by decide), aup_s]
        have g46 : m' 86 46 = -1 := by rw [f1.2 46 (by omega), aup_i (by decide), aup_i (by decide), aup_i (by decide), aup_s]
        have g2 : m' 86 2 = 0 := by rw [f1.2 2 (by omega), aup_i (by decide), aup_s]
        have gl : ∀ i, i < 38 → i ≠ 2 → m' 86 i = a 86 i := fun i i0 i1 => by
          rw [f1.2 i (by omega), aup_i (by omega), aup_i i1, aup_i (by omega), aup_i (by omega), aup_i (by omega), Fx 86 (by decide)]
        have gx : ∀ x : Nat, x ≠ 86 → m' x = F x := fun x hx => by rw [f1.1 x hx, aup_o hx, aup_o hx, aup_o hx, aup_o hx, aup_o hx]
        refine m_script (d := 9) hw hs tk (by rw [eu 80 (by decide), eu 84 (by decide)]; exact p2) (scT_F tx f1) f2 g45 g46 pf (fun w k' J' E' q1 q2 q3 q4 q5 q6 q7 q8 => hQ' w q3 ?_) (fun w f x q1 q2 => by cases q1)
        cases q1
        have ux : ∀ i, i ≠ 0 → i ≠ 60 → i ≠ 61 → i ≠ 62 → aup (aup (aup (aup w 86 0 0) 86 61 0) 86 62 (-1)) 86 60 0 86 i = w 86 i := fun i i0 i1 i2 i3 => by rw [aup_i i1, aup_i i3, aup_i i2, aup_i i0]
        have uo : ∀ x : Nat, x ≠ 86 → aup (aup (aup (aup w 86 0 0) 86 61 0) 86 62 (-1)) 86 60 0 x = w x := fun x hx => by rw [aup_o hx, aup_o hx, aup_o hx, aup_o hx]
        have wl : ∀ i, i < 38 → w 86 i = m' 86 i := fun i hi => q2.2 i (by omega)
        have rl : rL (u0 v) (aup (aup (aup (aup w 86 0 0) 86 61 0) 86 62 (-1)) 86 60 0) := by
          refine rL_f2 (a := a) (rL_w0 hr.1 (fun k k0 k1 => by rw [u0_x v (by omega) (by omega), p4 k (by omega)])) (fun x h1 h2 => ?_) (fun i i0 i2 i3 => ?_)
          · rw [uo x (by omega), q2.1 x (by omega) (by omega), gx x (by omega), Fx x (by omega)]
          · rw [ux i i0 (by omega) (by omega) (by omega), wl i i3, gl i i3 i2]
        have rj : rJ (u0 v) (aup (aup (aup (aup w 86 0 0) 86 61 0) 86 62 (-1)) 86 60 0) := by
          refine ⟨rl, ?_, fun i i0 i1 => ?_, ?_, ?_, ?_, ?_⟩
          · rw [ux 2 (by decide) (by decide) (by decide) (by decide), wl 2 (by decide), g2, u03]
          · rw [u03] at i1; omega
          · rw [ux 45 (by decide) (by decide) (by decide) (by decide), q3, eu 63 (by decide), p8]
          · rw [ux 46 (by decide) (by decide) (by decide) (by decide), q7, eu 63 (by decide), p9]
          · rw [aup_i (by decide), aup_i (by decide), aup_s, u62]
          · rw [aup_i (by decide), aup_s, u63]
        have l := m_run_l (d := 7) (z := F) (v := u0 v) (Q := fun bv σ2 => lR σ2 ∧ bv = iI (F 62 1)) (T := fun _ _ => False) hw hP hE hE1 (F := F) (fun b b1 b2 b3 => ⟨lR_of hF.1 b1 (fun k hk => b3 k (Or.inl hk)), rfl⟩) N 0 [] (u0 v) (aup (aup (aup (aup w 86 0 0) 86 61 0) 86 62 (-1)) 86 60 0) none hN ⟨rj, ju, mCs_fr q8 (fun x h1 h2 => uo x (by omega)) (ux 55 (by decide) (by decide) (by decide) (by decide)), ⟨?_, ?_, ?_, ?_⟩, ⟨?_, by decide, trivial, fun p hp => by cases hp⟩, ⟨Int.le_refl _, p6⟩, fun x hx => ?_⟩ (by omega) (by omega)
        · rw [u61] at l
          exact l
        · rw [ux 51 (by decide) (by decide) (by decide) (by decide)]; exact q4.1
        · rw [aup_i (by decide), aup_i (by decide), aup_s]
        · rw [ux 55 (by decide) (by decide) (by decide) (by decide)]; exact q5
        · rw [ux 55 (by decide) (by decide) (by decide) (by decide)]; exact q6
        · rw [aup_s]; rfl
        · rw [uo x (by omega), q2.1 x (by omega) (by omega), gx x (by omega)]
      refine wX10_run (d := 19) hw ?_
      clear text
      simp (disch := omega) only [z_app, z_rd, z_cl, z_add, z_sub, z_mul, z_neg, z_lit, z_leT, z_leF, z_ltT, z_ltF, z_eqT, z_eqF, i_leT, i_leF, i_ltT, i_ltF, i_eqT, i_eqF, z_le, z_lt, z_eq, z_ite, z_at, z_pt, z_up, z_wr, z_wi1, z_wi0, z_wi, z_inS, z_toInt, z_nb0, z_nb1, Int.cast_ofNat_Int, true_and, and_true, not_true_eq_false, not_false_eq_true, false_imp_iff, true_imp_iff, aup_o, aup_k, ite_true, ite_false, z_fa000, z_fa001, z_fa010, z_fa011, z_fa100, z_fa101, z_fa110, z_fa111, if_true, if_false, F2]
      refine sc _ (fun m' f1 f2 => ?_)
      refine go m' f1 f2 _ (fun w w1 w2 => ?_)
      clear sc go
      simp (disch := omega) only [z_app, z_rd, z_cl, z_add, z_sub, z_mul, z_neg, z_lit, z_leT, z_leF, z_ltT, z_ltF, z_eqT, z_eqF, i_leT, i_leF, i_ltT, i_ltF, i_eqT, i_eqF, z_le, z_lt, z_eq, z_ite, z_at, z_pt, z_up, z_wr, z_wi1, z_wi0, z_wi, z_inS, z_toInt, z_nb0, z_nb1, Int.cast_ofNat_Int, true_and, and_true, not_true_eq_false, not_false_eq_true, false_imp_iff, true_imp_iff, aup_o, aup_k, ite_true, ite_false, z_fa000, z_fa001, z_fa010, z_fa011, z_fa100, z_fa101, z_fa110, z_fa111, if_true, if_false, w1]
      exact w2
    have K0 := p6
    have kb := fun (Q' : Int32 → qS → Prop) => k_runB (d := 7) (Q := Q') (T := fun _ _ => False) hw hP hE hch p6 hI
    unfold u0 at kb fin
    clear text
    simp (disch := omega) only [z_app, z_rd, z_cl, z_add, z_sub, z_mul, z_neg, z_lit, z_leT, z_leF, z_ltT, z_ltF, z_eqT, z_eqF, i_leT, i_leF, i_ltT, i_ltF, i_eqT, i_eqF, z_le, z_lt, z_eq, z_ite, z_at, z_pt, z_up, z_wr, z_wi1, z_wi0, z_wi, z_inS, z_toInt, z_nb0, z_nb1, Int.cast_ofNat_Int, true_and, and_true, not_true_eq_false, not_false_eq_true, false_imp_iff, true_imp_iff, aup_o, aup_k, ite_true, ite_false, z_fa000, z_fa001, z_fa010, z_fa011, z_fa100, z_fa101, z_fa110, z_fa111, if_true, if_false, p5]
    refine kb _ (fun F r hF hf => ?_)
    exact fin F hF hf
  · refine ⟨fun hn => absurd (show iI 0 = 0 by decide +kernel) hn, fun _ => ?_⟩
    have eu : ∀ y : Nat, y ≠ 0 → aup v 0 3 0 y = v y := fun y hy => aup_o hy
    have jv : jJ v := jJ_w hJ (fun k hk => p4 k (by omega))
    have v03 : v 0 3 = a 0 3 := by rw [p4 0 (by decide)]
    have ju : jJ (aup v 0 3 0) := j_lenT jv (w := 0) (by omega) (by omega)
    have Fx : ∀ y : Nat, 86 ≤ y → aup v 0 3 0 y = a y := fun y hy => by rw [eu y (by omega), p4 y (by omega)]
    have tk : tkF (aup v 0 3 0) (fun i => a 85 i % 256) (a 0 3) c e := tkF_c p1 (eu 80 (by decide)) (eu 82 (by decide)) (eu 84 (by decide))
    have pf : pfin (aup v 0 3 0 80) (aup v 0 3 0 84) pX0 (.inr (f, x)) := by rw [eu 80 (by decide), eu 84 (by decide)]; exact p3
    have F2 : aup v 0 3 0 86 2 = a 0 3 := by rw [Fx 86 (by decide)]; exact x1
    have tx := text (aup v 0 3 0) Fx
    have fin : qC g 20 mX10_run [.inr 86] (qi (aup v 0 3 0)) (fun bv σ2 => lR σ2 ∧ bv = iI (-1)) (fun _ _ => False) := by
      generalize hF : aup v 0 3 0 = F at *
      have sc : ∀ Q' : Int32 → qS → Prop, (∀ m' : aS, scF (aup (aup (aup (aup (aup F 86 45 0) 86 46 (-1)) 86 38 (a 0 3)) 86 2 0) 86 39 0) m' → scA m' F e c 0 → Q' (iI 0) (qi m')) → qC g 19 mX10_scan [.inr 86] (qi (aup (aup (aup (aup (aup F 86 45 0) 86 46 (-1)) 86 38 (a 0 3)) 86 2 0) 86 39 0)) Q' (fun _ _ => False) := fun Q' hQ' => m_scan (d := 15) hw hs tk (by omega) p2.1.1 tx (by rw [aup_s]; unfold ep; rw [if_pos rfl]) hQ'
      have go : ∀ m' : aS, scF (aup (aup (aup (aup (aup F 86 45 0) 86 46 (-1)) 86 38 (a 0 3)) 86 2 0) 86 39 0) m' → scA m' F e c 0 → ∀ Q' : Int32 → qS → Prop, (∀ w : aS, w 86 45 = f → 1 ≤ f → f ≤ 3 → lR (qi (aup w 86 0 0)) → Q' (iI 0) (qi w)) → qC g 19 mX10_parseScript [.inr 86] (qi m') Q' (fun _ _ => False) := by
        intro m' f1 f2 Q' hQ'
        have g86 : ∀ i, 45 ≤ i → i ≠ 45 → i ≠ 46 → m' 86 i = a 86 i := fun i i0 i1 i2 => by
          rw [f1.2 i (by omega), aup_i (by omega), aup_i (by omega), aup_i (by omega), aup_i i2, aup_i i1, Fx 86 (by decide)]
        have g45 : m' 86 45 = 0 := by rw [f1.2 45 (by omega), aup_i (by decide), aup_i (by decide), aup_i (by decide), aup_i (by decide), aup_s]
        have g46 : m' 86 46 = -1 := by rw [f1.2 46 (by omega), aup_i (by decide), aup_i (by decide), aup_i (by decide), aup_s]
        have g2 : m' 86 2 = 0 := by rw [f1.2 2 (by omega), aup_i (by decide), aup_s]
        have gl : ∀ i, i < 38 → i ≠ 2 → m' 86 i = a 86 i := fun i i0 i1 => by
          rw [f1.2 i (by omega), aup_i (by omega), aup_i i1, aup_i (by omega), aup_i (by omega), aup_i (by omega), Fx 86 (by decide)]
        have gx : ∀ y : Nat, y ≠ 86 → m' y = F y := fun y hy => by rw [f1.1 y hy, aup_o hy, aup_o hy, aup_o hy, aup_o hy, aup_o hy]
        refine m_script (d := 9) hw hs tk (by rw [eu 80 (by decide), eu 84 (by decide)]; exact p2) (scT_F tx f1) f2 g45 g46 pf (fun w k' J' E' q1 q2 q3 q4 q5 q6 q7 q8 => by cases q1) (fun w f' x' q1 q2 => ?_)
        cases q1
        obtain ⟨b1, b2, b3, b4, b5⟩ := q2
        have wl : ∀ i, i < 38 → w 86 i = m' 86 i := fun i hi => b1.2 i (by omega)
        have rl : rL F (aup w 86 0 0) := by
          refine rL_f2 (a := a) (rL_w0 hr.1 (fun k k0 k1 => by rw [eu k (by omega), p4 k (by omega)])) (fun y h1 h2 => ?_) (fun i i0 i2 i3 => ?_)
          · rw [aup_o (by omega), b1.1 y (by omega) (by omega), gx y (by omega), Fx y (by omega)]
          · rw [aup_i i0, wl i i3, gl i i3 i2]
        have f03 : F 0 3 = 0 := by rw [← hF, aup_s]
        have rj : rJ F (aup w 86 0 0) := by
          refine ⟨rl, ?_, fun i i0 i1 => ?_, ?_, ?_, ?_, ?_⟩
          · rw [aup_i (by decide), wl 2 (by decide), g2, f03]
          · rw [f03] at i1; omega
          · rw [aup_i (by decide), b2, eu 63 (by decide), p5]
          · rw [aup_i (by decide), b3, eu 63 (by decide), p6, eu 82 (by decide)]
          · rw [aup_i (by decide), b1.2 61 (by omega), g86 61 (by decide) (by decide) (by decide), eu 62 (by decide), p4 62 (by decide)]; exact x5
          · rw [aup_i (by decide), b1.2 62 (by omega), g86 62 (by decide) (by decide) (by decide), eu 62 (by decide), p4 62 (by decide)]; exact x6
        refine hQ' w b2 b4 b5 (lR_of ju rj (fun k hk => ?_))
        rw [aup_o (by omega), b1.1 k (by omega) (by omega), gx k (by omega)]
      refine wX10_run (d := 19) hw ?_
      clear text
      simp (disch := omega) only [z_app, z_rd, z_cl, z_add, z_sub, z_mul, z_neg, z_lit, z_leT, z_leF, z_ltT, z_ltF, z_eqT, z_eqF, i_leT, i_leF, i_ltT, i_ltF, i_eqT, i_eqF, z_le, z_lt, z_eq, z_ite, z_at, z_pt, z_up, z_wr, z_wi1, z_wi0, z_wi, z_inS, z_toInt, z_nb0, z_nb1, Int.cast_ofNat_Int, true_and, and_true, not_true_eq_false, not_false_eq_true, false_imp_iff, true_imp_iff, aup_o, aup_k, ite_true, ite_false, z_fa000, z_fa001, z_fa010, z_fa011, z_fa100, z_fa101, z_fa110, z_fa111, if_true, if_false, F2]
      refine sc _ (fun m' f1 f2 => ?_)
      refine go m' f1 f2 _ (fun w w1 w2 w3 w4 => ?_)
      clear sc go
      simp (disch := omega) only [z_app, z_rd, z_cl, z_add, z_sub, z_mul, z_neg, z_lit, z_leT, z_leF, z_ltT, z_ltF, z_eqT, z_eqF, i_leT, i_leF, i_ltT, i_ltF, i_eqT, i_eqF, z_le, z_lt, z_eq, z_ite, z_at, z_pt, z_up, z_wr, z_wi1, z_wi0, z_wi, z_inS, z_toInt, z_nb0, z_nb1, Int.cast_ofNat_Int, true_and, and_true, not_true_eq_false, not_false_eq_true, false_imp_iff, true_imp_iff, aup_o, aup_k, ite_true, ite_false, z_fa000, z_fa001, z_fa010, z_fa011, z_fa100, z_fa101, z_fa110, z_fa111, if_true, if_false, w1]
      exact w4
    clear text
    simp (disch := omega) only [z_app, z_rd, z_cl, z_add, z_sub, z_mul, z_neg, z_lit, z_leT, z_leF, z_ltT, z_ltF, z_eqT, z_eqF, i_leT, i_leF, i_ltT, i_ltF, i_eqT, i_eqF, z_le, z_lt, z_eq, z_ite, z_at, z_pt, z_up, z_wr, z_wi1, z_wi0, z_wi, z_inS, z_toInt, z_nb0, z_nb1, Int.cast_ofNat_Int, true_and, and_true, not_true_eq_false, not_false_eq_true, false_imp_iff, true_imp_iff, aup_o, aup_k, ite_true, ite_false, z_fa000, z_fa001, z_fa010, z_fa011, z_fa100, z_fa101, z_fa110, z_fa111, if_true, if_false]
    exact fin
end PRN
