/-! ===== scanWord: its code ===== -/
section SWC
variable {g : qG} {d : Nat} {Q : Int32 → qS → Prop} {T : String → qS → Prop}
abbrev mS : qMd := mX10_scanWord
theorem sw_row : qtab[86]? = some (false, 10, 63, [(1, 87), (6, 88), (7, 89), (8, 90), (9, 91), (10, 92), (11, 93), (12, 94), (13, 95), (14, 96), (17, 97), (18, 98), (21, 99), (22, 100), (23, 101), (24, 102), (25, 103), (26, 104), (30, 105), (31, 106), (32, 107), (33, 108), (35, 109), (36, 110), (37, 111), (47, 112), (48, 113), (49, 114), (50, 115), (52, 116), (53, 117), (54, 118), (56, 119), (58, 120), (59, 121)]) := rfl
theorem sw_int {lo : List (Nat × Value)} {st : List Value} {m : aS} {pc idx : Nat} {j : Nat} {x : Int} (hj : j < 63) (hr : List.lookup j [(1, 87), (6, 88), (7, 89), (8, 90), (9, 91), (10, 92), (11, 93), (12, 94), (13, 95), (14, 96), (17, 97), (18, 98), (21, 99), (22, 100), (23, 101), (24, 102), (25, 103), (26, 104), (30, 105), (31, 106), (32, 107), (33, 108), (35, 109), (36, 110), (37, 111), (47, 112), (48, 113), (49, 114), (50, 115), (52, 116), (53, 117), (54, 118), (56, 119), (58, 120), (59, 121)] = none) (hf : (TX10 j).1 = RX10) (hw : Jvm.Cond.fieldLink RX10 idx RX10 (TX10 j).2.1 (TX10 j).2.2.1 ∈ qgw) (hx : m 86 j = x) (hd : decode mS.2.1 pc = .ok (.getfield idx, 3)) (h : qB g mS d (pc + 3) lo (.int (iI x) :: st) (qi m) Q T) : qB g mS d pc lo (.ref (g.2.2.2.1 86) :: st) (qi m) Q T :=
  B_get (q := (RX10, TX10, 63)) sw_row hj rfl hj hf hw (by
    unfold qfv
    rw [hr]
    show Value.int (iI (m 86 j)) = .int (iI x)
    rw [hx]) hd h
theorem sw_put {lo : List (Nat × Value)} {st : List Value} {m : aS} {pc idx : Nat} {j : Nat} {x : Int} (hj : j < 63) (hr : List.lookup j [(1, 87), (6, 88), (7, 89), (8, 90), (9, 91), (10, 92), (11, 93), (12, 94), (13, 95), (14, 96), (17, 97), (18, 98), (21, 99), (22, 100), (23, 101), (24, 102), (25, 103), (26, 104), (30, 105), (31, 106), (32, 107), (33, 108), (35, 109), (36, 110), (37, 111), (47, 112), (48, 113), (49, 114), (50, 115), (52, 116), (53, 117), (54, 118), (56, 119), (58, 120), (59, 121)] = none) (hf : (TX10 j).1 = RX10) (hfin : (TX10 j).2.2.2 = false) (hty : parseFieldDescriptor (TX10 j).2.2.1 = some .int) (hw : Jvm.Cond.fieldLink RX10 idx RX10 (TX10 j).2.1 (TX10 j).2.2.1 ∈ qgw) (hd : decode mS.2.1 pc = .ok (.putfield idx, 3)) (h : qB g mS d (pc + 3) lo st (qi (aup m 86 j x)) Q T) : qB g mS d pc lo (.int (iI x) :: .ref (g.2.2.2.1 86) :: st) (qi m) Q T :=
  B_put (q := (RX10, TX10, 63)) (ty := .int) sw_row hj hr rfl hj hf hfin hty rfl rfl hw hd (by rw [z_up]; exact h)
theorem m_isLe (hw : qWF g) {m : aS} {b : Int → Int} {n : Int} (ht : scT m b n) {x : Int} (x0 : 0 ≤ n) (x1 : x = n) (hQ : Q (iI 0) (qi m)) : qC g (d + 2) mX10_isLetter [.inr 86, .inl (iI x)] (qi m) Q T := by
  refine wX10_isLetter hw (m_byteAt0 hw ht x0 x1 ?_)
  simp (disch := omega) only [z_app, z_rd, z_cl, z_add, z_sub, z_mul, z_neg, z_lit, z_leT, z_leF, z_ltT, z_ltF, z_eqT, z_eqF, i_leT, i_leF, i_ltT, i_ltF, i_eqT, i_eqF, z_le, z_lt, z_eq, z_ite, z_at, z_pt, z_up, z_wr, z_wi1, z_wi0, z_wi, z_inS, z_toInt, z_nb0, z_nb1, Int.cast_ofNat_Int, true_and, and_true, not_true_eq_false, not_false_eq_true, false_imp_iff, true_imp_iff, aup_o, aup_k, ite_true, ite_false, z_fa000, z_fa001, z_fa010, z_fa011, z_fa100, z_fa101, z_fa110, z_fa111, if_true, if_false]
  exact ⟨Or.inl trivial, hQ⟩
theorem sw_l2 {w : Int64} {m : aS} (hQ : Q 0 (qi (aup m 86 44 (lw w (m 86 44) 18)))) : ∀ (n k : Nat), k + n = 18 → qB g mS d 86 [(3, .int (iI (k : Nat))), (1, .long w), (0, .ref (g.2.2.2.1 86))] [] (qi (aup m 86 44 (lw w (m 86 44) k))) Q T := by
  intro n
  induction n with
  | zero =>
    intro k hk
    have ek : k = 18 := by omega
    subst ek
    refine B_iload (k := 3) (x := iI ((18 : Nat) : Int)) (by decide +kernel) (List.mem_of_getElem? (i := 0) rfl) ?_
    refine B_bipush (n := 18) (v := iI 18) (by decide +kernel) (by decide +kernel) ?_
    refine B_ge (tgt := 114) (off := 25) (by decide +kernel) rfl (fun _ => ?_) (fun h => absurd (show iI 18 ≤ iI 18 by decide +kernel) h)
    exact B_retv rfl (by decide +kernel) hQ
  | succ n ih =>
    intro k hk
    have hk8 : k < 18 := by omega
    have hin : vp_in (iI ((k : Nat) : Int)) 18 := z_in (by omega) (by omega) (by decide)
    have hcl : (iI ((k : Nat) : Int)).toNatClampNeg = k := by have := z_cl (z := ((k : Nat) : Int)) (by omega) (by omega); omega
    have on : ∀ z, lw w (m 86 44) (k + 1) = z → qB g mS d 108 [(3, .int (iI (k : Nat))), (1, .long w), (0, .ref (g.2.2.2.1 86))] [] (qi (aup m 86 44 z)) Q T := fun z hz => by
      refine B_iinc (i := 3) (k := 0) (n := 1) (x := iI ((k : Nat) : Int)) (v := iI ((k + 1 : Nat) : Int)) (lo' := [(3, .int (iI ((k + 1 : Nat) : Int))), (1, .long w), (0, .ref (g.2.2.2.1 86))]) (by decide +kernel) rfl ?_ (by decide) rfl ?_
      · rw [show ((k + 1 : Nat) : Int) = (k : Int) + 1 by omega]
        exact z_add _ _
      · have i := ih (k + 1) (by omega)
        rw [hz] at i
        exact B_goto (tgt := 86) (off := -25) (by decide +kernel) rfl i
    refine B_iload (k := 3) (x := iI ((k : Nat) : Int)) (by decide +kernel) (List.mem_of_getElem? (i := 0) rfl) ?_
    refine B_bipush (n := 18) (v := iI 18) (by decide +kernel) (by decide +kernel) ?_
    refine B_ge (tgt := 114) (off := 25) (by decide +kernel) rfl (fun h => ?_) (fun _ => ?_)
    · exfalso
      have := (z_le (x := 18) (y := ((k : Nat) : Int)) (by omega) (by omega) (by omega) (by omega)).mp h
      omega
    refine B_aload (k := 0) (a := g.2.2.2.1 86) (by decide +kernel) (List.mem_of_getElem? (i := 2) rfl) ?_
    refine B_get (idx := 172) (q := (RX10, TX10, 63)) (j := 37) (y := .ref (g.2.2.2.1 111)) sw_row (by decide) rfl (by decide) rfl (sw_w _ (List.mem_of_getElem? (i := 4) rfl)) rfl (by decide +kernel) ?_
    refine B_iload (k := 3) (x := iI ((k : Nat) : Int)) (by decide +kernel) (List.mem_of_getElem? (i := 0) rfl) ?_
    refine B_lald (k := 111) (n := 18) (rs := []) rfl hin (by decide +kernel) ?_
    refine B_lload (k := 1) (x := w) (by decide +kernel) (List.mem_of_getElem? (i := 1) rfl) ?_
    refine B_lcmp (by decide +kernel) ?_
    rw [hcl]
    refine B_ifne (tgt := 108) (off := 8) (by decide +kernel) rfl (fun h => ?_) (fun h => ?_)
    · refine on _ ?_
      show (if qkw k = w then ((k : Nat) : Int) else lw w (m 86 44) k) = _
      rw [if_neg (fun e => h (by rw [e]; unfold lg_cmp; simp))]
    · have e : qkw k = w := by
        unfold lg_cmp at h
        by_cases h1 : qkw k > w
        · rw [if_pos h1] at h
          exact absurd h (by decide)
        · rw [if_neg h1] at h
          by_cases h2 : qkw k = w
          · exact h2
          · rw [if_neg h2] at h
            exact absurd h (by decide)
      refine B_aload (k := 0) (a := g.2.2.2.1 86) (by decide +kernel) (List.mem_of_getElem? (i := 2) rfl) ?_
      refine B_iload (k := 3) (x := iI ((k : Nat) : Int)) (by decide +kernel) (List.mem_of_getElem? (i := 0) rfl) ?_
      refine sw_put (idx := 194) (j := 44) (by decide) rfl rfl rfl (by decide +kernel) (sw_w _ (List.mem_of_getElem? (i := 3) rfl)) (by decide +kernel) ?_
      have o := on k (by
        show (if qkw k = w then ((k : Nat) : Int) else lw w (m 86 44) k) = _
        rw [if_pos e])
      rw [show aup (aup m 86 44 (lw w (m 86 44) k)) 86 ((44 : Nat) : Int) ((k : Nat) : Int) = aup m 86 44 ((k : Nat) : Int) from aup_aup _ _ _ _ _]
      exact o
theorem sw_65 {w : Int64} {m : aS} {S e : Int} (h39 : m 86 39 = e) (h41 : m 86 41 = S) (s0 : 0 ≤ S) (se : S < e) (e9 : e ≤ 900) (hQ : Q 0 (qi (aup (if e - S ≤ 8 then m else aup m 86 40 4) 86 44 (lw w (m 86 44) 18)))) : qB g mS d 65 [(1, .long w), (0, .ref (g.2.2.2.1 86))] [] (qi m) Q T := by
  have l84 : ∀ u : aS, u 86 44 = m 86 44 → Q 0 (qi (aup u 86 44 (lw w (m 86 44) 18))) → qB g mS d 84 [(1, .long w), (0, .ref (g.2.2.2.1 86))] [] (qi u) Q T := fun u hu q => by
    have l := sw_l2 (g := g) (d := d) (T := T) (w := w) (m := u) (Q := Q) (by rw [hu]; exact q) 18 0 (by omega)
    have e0 : aup u 86 44 (lw w (u 86 44) 0) = u := aup_id u 86 44
    rw [e0] at l
    refine B_iconst (n := 0) (v := iI ((0 : Nat) : Int)) (by decide +kernel) rfl ?_
    refine B_istore (k := 3) (lo' := [(3, .int (iI ((0 : Nat) : Int))), (1, .long w), (0, .ref (g.2.2.2.1 86))]) (by decide +kernel) (by decide) rfl ?_
    exact l
  refine B_aload (k := 0) (a := g.2.2.2.1 86) (by decide +kernel) (List.mem_of_getElem? (i := 1) rfl) ?_
  refine sw_int (idx := 179) (j := 39) (x := e) (by decide) rfl rfl (sw_w _ (List.mem_of_getElem? (i := 1) rfl)) h39 (by decide +kernel) ?_
  refine B_aload (k := 0) (a := g.2.2.2.1 86) (by decide +kernel) (List.mem_of_getElem? (i := 1) rfl) ?_
  refine sw_int (idx := 185) (j := 41) (x := S) (by decide) rfl rfl (sw_w _ (List.mem_of_getElem? (i := 2) rfl)) h41 (by decide +kernel) ?_
  refine B_isub (by decide +kernel) ?_
  rw [z_sub]
  refine B_bipush (n := 8) (v := iI 8) (by decide +kernel) (by decide +kernel) ?_
  refine B_le (tgt := 84) (off := 8) (by decide +kernel) rfl (fun h => ?_) (fun h => ?_)
  · have h8 := (z_le (x := e - S) (y := 8) (by omega) (by omega) (by omega) (by omega)).mp h
    rw [if_pos h8] at hQ
    exact l84 m rfl hQ
  · have h8 : ¬ e - S ≤ 8 := fun h9 => h ((z_le (x := e - S) (y := 8) (by omega) (by omega) (by omega) (by omega)).mpr h9)
    rw [if_neg h8] at hQ
    refine B_aload (k := 0) (a := g.2.2.2.1 86) (by decide +kernel) (List.mem_of_getElem? (i := 1) rfl) ?_
    refine B_iconst (n := 4) (v := iI 4) (by decide +kernel) rfl ?_
    refine sw_put (idx := 182) (j := 40) (x := 4) (by decide) rfl rfl rfl (by decide +kernel) (sw_w _ (List.mem_of_getElem? (i := 0) rfl)) (by decide +kernel) ?_
    exact l84 _ (aup_i (by decide)) hQ
theorem sw_l1 (hw : qWF g) {b : Int → Int} {n S e : Int} (s0 : 0 ≤ S) (se : S < e) (en : e ≤ n) (hl : ∀ x, S ≤ x → x < e → 97 ≤ b x ∧ b x ≤ 122) (he : e < n → ¬ (97 ≤ b e ∧ b e ≤ 122)) : ∀ (k : Nat) (x : Int) (m : aS) (w : Int64), (e - x).toNat ≤ k → scT m b n → m 86 39 = x → m 86 41 = S → S ≤ x → x ≤ e → (x - S ≤ 8 → w = bvL b S (x - S).toNat) →
    (∀ w' : Int64, (e - S ≤ 8 → w' = bvL b S (e - S).toNat) → qB g mS (d + 3) 65 [(1, .long w'), (0, .ref (g.2.2.2.1 86))] [] (qi (aup m 86 39 e)) Q T) → qB g mS (d + 3) 7 [(1, .long w), (0, .ref (g.2.2.2.1 86))] [] (qi m) Q T := by
  intro k
  induction k with
  | zero =>
    intro x m w hk ht h39 h41 sx xe hww hQ
    have ex : x = e := by omega
    have q := hQ w (fun h => by rw [← ex]; exact hww (by omega))
    have em : aup m 86 39 e = m := by
      rw [← ex, ← h39]
      exact aup_id m 86 39
    rw [em] at q
    have n9 := ht.2.1
    refine B_aload (k := 0) (a := g.2.2.2.1 86) (by decide +kernel) (List.mem_of_getElem? (i := 1) rfl) ?_
    refine B_aload (k := 0) (a := g.2.2.2.1 86) (by decide +kernel) (List.mem_of_getElem? (i := 1) rfl) ?_
    refine sw_int (idx := 179) (j := 39) (x := x) (by decide) rfl rfl (sw_w _ (List.mem_of_getElem? (i := 1) rfl)) h39 (by decide +kernel) ?_
    refine B_call (M' := mX10_isLetter) (d := d + 2) (st := []) (as := [.inl (iI x)]) (k := 86) (q := (RX10, TX10, 63)) (ty := .boolean) sw_row rfl rfl (qM_spec (by decide +kernel)) rfl (by decide) sw_c1 rfl (by decide) rfl (by decide +kernel) ?_
    have fin : qB g mS (d + 3) (7 + 1 + 1 + 3 + 3) [(1, .long w), (0, .ref (g.2.2.2.1 86))] [.int (iI 0)] (qi m) Q T := B_ifeq (tgt := 65) (off := 50) (by decide +kernel) rfl (fun _ => q) (fun h => absurd rfl h)
    by_cases hxn : x < n
    · exact m_isL0 hw ht (by omega) hxn (fun h => he (by omega) (by rw [← ex]; exact h)) fin
    · exact m_isLe hw ht (by omega) (by omega) fin
  | succ k ih =>
    intro x m w hk ht h39 h41 sx xe hww hQ
    have n9 := ht.2.1
    by_cases ex : x = e
    · exact ih x m w (by omega) ht h39 h41 sx xe hww hQ
    · have xn : x < n := by omega
      have hb := hl x sx (by omega)
      have nx : ∀ w' : Int64, (x + 1 - S ≤ 8 → w' = bvL b S (x + 1 - S).toNat) → qB g mS (d + 3) 52 [(1, .long w'), (0, .ref (g.2.2.2.1 86))] [] (qi m) Q T := fun w' hw' => by
        refine B_aload (k := 0) (a := g.2.2.2.1 86) (by decide +kernel) (List.mem_of_getElem? (i := 1) rfl) ?_
        refine B_dup (by decide +kernel) ?_
        refine sw_int (idx := 179) (j := 39) (x := x) (by decide) rfl rfl (sw_w _ (List.mem_of_getElem? (i := 1) rfl)) h39 (by decide +kernel) ?_
        refine B_iconst (n := 1) (v := iI 1) (by decide +kernel) rfl ?_
        refine B_iadd (by decide +kernel) ?_
        rw [z_add]
        refine sw_put (idx := 179) (j := 39) (x := x + 1) (by decide) rfl rfl rfl (by decide +kernel) (sw_w _ (List.mem_of_getElem? (i := 1) rfl)) (by decide +kernel) ?_
        refine B_goto (tgt := 7) (off := -55) (by decide +kernel) rfl ?_
        refine ih (x + 1) (aup m 86 39 (x + 1)) w' (by omega) (scT_F ht (scF_up (by decide) (by decide))) (aup_s _ _ _ _) (by rw [aup_i (by decide)]; exact h41) (by omega) (by omega) hw' (fun w2 h2 => ?_)
        rw [aup_aup]
        exact hQ w2 h2
      refine B_aload (k := 0) (a := g.2.2.2.1 86) (by decide +kernel) (List.mem_of_getElem? (i := 1) rfl) ?_
      refine B_aload (k := 0) (a := g.2.2.2.1 86) (by decide +kernel) (List.mem_of_getElem? (i := 1) rfl) ?_
      refine sw_int (idx := 179) (j := 39) (x := x) (by decide) rfl rfl (sw_w _ (List.mem_of_getElem? (i := 1) rfl)) h39 (by decide +kernel) ?_
      refine B_call (M' := mX10_isLetter) (d := d + 2) (st := []) (as := [.inl (iI x)]) (k := 86) (q := (RX10, TX10, 63)) (ty := .boolean) sw_row rfl rfl (qM_spec (by decide +kernel)) rfl (by decide) sw_c1 rfl (by decide) rfl (by decide +kernel) ?_
      refine m_isL1 hw ht (by omega) xn hb ?_
      refine B_ifeq (tgt := 65) (off := 50) (by decide +kernel) rfl (fun h => absurd h (by decide +kernel)) (fun _ => ?_)
      refine B_aload (k := 0) (a := g.2.2.2.1 86) (by decide +kernel) (List.mem_of_getElem? (i := 1) rfl) ?_
      refine sw_int (idx := 179) (j := 39) (x := x) (by decide) rfl rfl (sw_w _ (List.mem_of_getElem? (i := 1) rfl)) h39 (by decide +kernel) ?_
      refine B_aload (k := 0) (a := g.2.2.2.1 86) (by decide +kernel) (List.mem_of_getElem? (i := 1) rfl) ?_
      refine sw_int (idx := 185) (j := 41) (x := S) (by decide) rfl rfl (sw_w _ (List.mem_of_getElem? (i := 2) rfl)) h41 (by decide +kernel) ?_
      refine B_isub (by decide +kernel) ?_
      rw [z_sub]
      refine B_bipush (n := 8) (v := iI 8) (by decide +kernel) (by decide +kernel) ?_
      refine B_ge (tgt := 52) (off := 23) (by decide +kernel) rfl (fun h => ?_) (fun h => ?_)
      · have h8 := (z_le (x := 8) (y := x - S) (by omega) (by omega) (by omega) (by omega)).mp h
        exact nx w (fun h9 => by omega)
      · have h8 : ¬ 8 ≤ x - S := fun h9 => h ((z_le (x := 8) (y := x - S) (by omega) (by omega) (by omega) (by omega)).mpr h9)
        refine B_lload (k := 1) (x := w) (by decide +kernel) (List.mem_of_getElem? (i := 0) rfl) ?_
        refine B_ldc2 (i := 416) (v := 32) (by decide +kernel) (sw_w _ (List.mem_of_getElem? (i := 5) rfl)) ?_
        refine B_lmul (by decide +kernel) ?_
        refine B_aload (k := 0) (a := g.2.2.2.1 86) (by decide +kernel) (List.mem_of_getElem? (i := 1) rfl) ?_
        refine B_aload (k := 0) (a := g.2.2.2.1 86) (by decide +kernel) (List.mem_of_getElem? (i := 1) rfl) ?_
        refine sw_int (idx := 179) (j := 39) (x := x) (by decide) rfl rfl (sw_w _ (List.mem_of_getElem? (i := 1) rfl)) h39 (by decide +kernel) ?_
        refine B_call (M' := mX10_byteAt) (d := d + 2) (st := [.long (w * 32)]) (as := [.inl (iI x)]) (k := 86) (q := (RX10, TX10, 63)) (ty := .int) sw_row rfl rfl (qM_spec (by decide +kernel)) rfl (by decide) sw_c2 rfl (by show (2 + 0 : Nat) ≤ 8; omega) rfl (by decide +kernel) ?_
        refine m_byteAt1 (d := d + 1) hw ht (by omega) xn ?_
        refine B_i2l (by decide +kernel) ?_
        refine B_ladd (by decide +kernel) ?_
        refine B_ldc2 (i := 418) (v := 96) (by decide +kernel) (sw_w _ (List.mem_of_getElem? (i := 6) rfl)) ?_
        refine B_lsub (by decide +kernel) ?_
        refine B_lstore (k := 1) (lo' := [(1, .long (w * 32 + (iI (b x)).toInt64 - 96)), (0, .ref (g.2.2.2.1 86))]) (by decide +kernel) (by decide) rfl ?_
        refine nx _ (fun _ => ?_)
        rw [hww (by omega), show (x + 1 - S).toNat = (x - S).toNat + 1 by omega]
        show _ = bvL b S (x - S).toNat * 32 + (iI (b (S + ((x - S).toNat : Nat)))).toInt64 - 96
        rw [show S + (((x - S).toNat : Nat) : Int) = x by omega]
theorem k_SW (hw : qWF g) : kSW g := by
  intro d m S e Q T h39 h41 s0 se e8 n9 hb hl he h44 hQ
  have ht : scT m (m 87) (m 86 38) := ⟨rfl, n9, fun x x0 x1 => ⟨rfl, hb x x0 x1⟩⟩
  refine qC_of (Nat.le_of_ble_eq_true rfl) plX10_n hw ?_
  have main : qB g mS (d + 3) 0 [(0, .ref (g.2.2.2.1 86))] [] (qi m) Q T := by
    refine B_aload (k := 0) (a := g.2.2.2.1 86) (by decide +kernel) (List.mem_of_getElem? (i := 0) rfl) ?_
    refine B_iconst (n := 1) (v := iI 1) (by decide +kernel) rfl ?_
    refine sw_put (idx := 182) (j := 40) (x := 1) (by decide) rfl rfl rfl (by decide +kernel) (sw_w _ (List.mem_of_getElem? (i := 0) rfl)) (by decide +kernel) ?_
    refine B_lconst (n := 0) (v := 0) (by decide +kernel) rfl ?_
    refine B_lstore (k := 1) (lo' := [(1, .long 0), (0, .ref (g.2.2.2.1 86))]) (by decide +kernel) (by decide) rfl ?_
    have f1 : scF m (aup m 86 40 1) := scF_up (by decide) (by decide)
    refine sw_l1 hw s0 se e8 hl he (e - S).toNat S (aup m 86 40 1) 0 (by omega) (scT_F ht f1) (by rw [aup_i (by decide)]; exact h39) (by rw [aup_i (by decide)]; exact h41) (Int.le_refl _) (by omega) (fun _ => by rw [show (S - S).toNat = 0 by omega]; rfl) (fun w hww => ?_)
    have f2 : scF m (aup (aup m 86 40 1) 86 39 e) := scF_tr f1 (scF_up (by decide) (by decide))
    have v44 : aup (aup m 86 40 1) 86 39 e 86 44 = -1 := by rw [aup_i (by decide), aup_i (by decide)]; exact h44
    have v41 : aup (aup m 86 40 1) 86 39 e 86 41 = S := by rw [aup_i (by decide), aup_i (by decide)]; exact h41
    refine sw_65 (S := S) (e := e) (aup_s _ _ _ _) v41 s0 se (by omega) ?_
    by_cases h8 : e - S ≤ 8
    · rw [if_pos h8]
      refine hQ _ (scF_tr f2 (scF_up (by decide) (by decide))) (by rw [aup_i (by decide)]; exact v41) (by rw [aup_i (by decide), aup_s]) (by rw [if_pos h8, aup_i (by decide), aup_i (by decide), aup_s]) (fun _ => ?_)
      rw [aup_s, v44, hww h8, lw_l (by omega) (fun i hi => hl _ (by omega) (by omega)) 18 (by omega)]
      exact lwl_kw _
    · rw [if_neg h8]
      refine hQ _ (scF_tr f2 (scF_tr (scF_up (by decide) (by decide)) (scF_up (by decide) (by decide)))) (by rw [aup_i (by decide), aup_i (by decide)]; exact v41) (by rw [aup_i (by decide), aup_i (by decide), aup_s]) (by rw [if_neg h8, aup_i (by decide), aup_s]) (fun h9 => absurd h9 h8)
  intro p e' s m' args below meth c H locs cells slots la F N L
  exact main p e' s m' args below meth c H locs cells slots la F N L.has
end SWC
