/-! ===== the law's loop: printed by wip/whole/gen23.py ===== -/
def lp_0 (g : qG) (D : Nat) (R : qS → Prop) : Prop := ∀ (σ : qS) (a1 a2 a3 a4 a5 : Int32), R σ → lPair g D R mX9_append mX10_append [.inl a1, .inl a2, .inl a3, .inl a4, .inl a5] eL_append σ
def lp_1 (g : qG) (D : Nat) (R : qS → Prop) : Prop := ∀ (σ : qS) (a1 : Int32), R σ → lPair g D R mX9_truncate mX10_truncate [.inl a1] eL_truncate σ
def lp_2 (g : qG) (D : Nat) (R : qS → Prop) : Prop := ∀ σ, R σ → lPlain g D R mX9_run mX10_run σ
def lp_3 (g : qG) (D : Nat) (R : qS → Prop) : Prop := ∀ σ, R σ → lPlain g D R mX9_errorCode mX10_errorCode σ
def lp_4 (g : qG) (D : Nat) (R : qS → Prop) : Prop := ∀ σ, R σ → lPlain g D R mX9_errorPosition mX10_errorPosition σ
def lp_5 (g : qG) (D : Nat) (R : qS → Prop) : Prop := ∀ σ, R σ → lPlain g D R mX9_failure mX10_failure σ
def lp_6 (g : qG) (D : Nat) (R : qS → Prop) : Prop := ∀ σ, R σ → lPlain g D R mX9_failurePosition mX10_failurePosition σ
def lp_7 (g : qG) (D : Nat) (R : qS → Prop) : Prop := ∀ (σ : qS) (a1 a2 a3 : Int32), R σ → lPair g D R mX9_configure mX10_configure [.inl a1, .inl a2, .inl a3] eL_configure σ
def lp_8 (g : qG) (D : Nat) (R : qS → Prop) : Prop := ∀ (σ : qS), R σ → lPair g D R mX9_begin mX10_begin [] eL_begin σ
def lp_9 (g : qG) (D : Nat) (R : qS → Prop) : Prop := ∀ (σ : qS) (a1 : Int32), R σ → lPair g D R mX9_commit mX10_commit [.inl a1] eL_commit σ
def lp_10 (g : qG) (D : Nat) (R : qS → Prop) : Prop := ∀ (σ : qS) (a1 : Int32), R σ → lPair g D R mX9_abort mX10_abort [.inl a1] eL_abort σ
def lp_11 (g : qG) (D : Nat) (R : qS → Prop) : Prop := ∀ (σ : qS) (a1 a2 a3 a4 : Int32), R σ → lPair g D R mX9_write mX10_write [.inl a1, .inl a2, .inl a3, .inl a4] eL_write σ
def lp_12 (g : qG) (D : Nat) (R : qS → Prop) : Prop := ∀ (σ : qS) (a1 a2 : Int32), R σ → lPair g D R mX9_remove mX10_remove [.inl a1, .inl a2] eL_remove σ
def lp_13 (g : qG) (D : Nat) (R : qS → Prop) : Prop := ∀ (σ : qS) (a1 a2 a3 : Int32), R σ → lPair g D R mX9_copy mX10_copy [.inl a1, .inl a2, .inl a3] eL_copy σ
def lp_14 (g : qG) (D : Nat) (R : qS → Prop) : Prop := ∀ (σ : qS) (a1 a2 a3 a4 : Int32), R σ → lPair g D R mX9_send mX10_send [.inl a1, .inl a2, .inl a3, .inl a4] eL_send σ
def lp_15 (g : qG) (D : Nat) (R : qS → Prop) : Prop := ∀ (σ : qS) (a1 : Int32), R σ → lPair g D R mX9_join mX10_join [.inl a1] eL_join σ
def lp_16 (g : qG) (D : Nat) (R : qS → Prop) : Prop := ∀ (σ : qS) (a1 a2 : Int32), R σ → lPair g D R mX9_read mX10_read [.inl a1, .inl a2] eL_read σ
def lp_17 (g : qG) (D : Nat) (R : qS → Prop) : Prop := ∀ (σ : qS) (a1 a2 : Int32), R σ → lPair g D R mX9_message mX10_message [.inl a1, .inl a2] eL_message σ
def lp_18 (g : qG) (D : Nat) (R : qS → Prop) : Prop := ∀ σ, R σ → lPlain g D R mX9_flush mX10_flush σ
def lp_19 (g : qG) (D : Nat) (R : qS → Prop) : Prop := ∀ (σ : qS), R σ → lPair g D R mX9_checkpoint mX10_checkpoint [] eL_checkpoint σ
def lp_20 (g : qG) (D : Nat) (R : qS → Prop) : Prop := ∀ (σ : qS) (a1 : Int32), R σ → lPair g D R mX9_damage mX10_damage [.inl a1] eL_damage σ
def lp_21 (g : qG) (D : Nat) (R : qS → Prop) : Prop := ∀ (σ : qS) (a1 : Int32), R σ → lPair g D R mX9_crash mX10_crash [.inl a1] eL_crash σ
def lp_22 (g : qG) (D : Nat) (R : qS → Prop) : Prop := ∀ (σ : qS) (a1 : Int32), R σ → lPair g D R mX9_state mX10_state [.inl a1] eL_state σ
def lp_23 (g : qG) (D : Nat) (R : qS → Prop) : Prop := ∀ (σ : qS) (a1 a2 : Int32), R σ → lPair g D R mX9_record mX10_record [.inl a1, .inl a2] eL_record σ
def lp_24 (g : qG) (D : Nat) (R : qS → Prop) : Prop := ∀ σ, R σ → lPlain g D R mX9_segments mX10_segments σ
def lp_25 (g : qG) (D : Nat) (R : qS → Prop) : Prop := ∀ (σ : qS) (a1 a2 : Int32), R σ → lPair g D R mX9_segment mX10_segment [.inl a1, .inl a2] eL_segment σ
def lp_27 (g : qG) (D : Nat) (R : qS → Prop) : Prop := ∀ (σ : qS) (a1 a2 : Int32), R σ → lPair g D R mX9_order mX10_order [.inl a1, .inl a2] eL_order σ
def lp_28 (g : qG) (D : Nat) (R : qS → Prop) : Prop := ∀ (σ : qS) (a1 a2 : Int32), R σ → lPair g D R mX9_transaction mX10_transaction [.inl a1, .inl a2] eL_transaction σ
def lp_29 (g : qG) (D : Nat) (R : qS → Prop) : Prop := ∀ (σ : qS) (a1 a2 : Int32), R σ → lPair g D R mX9_block mX10_block [.inl a1, .inl a2] eL_block σ
def lp_30 (g : qG) (D : Nat) (R : qS → Prop) : Prop := ∀ (σ : qS) (a1 a2 a3 : Int32), R σ → lPair g D R mX9_blockAt mX10_blockAt [.inl a1, .inl a2, .inl a3] eL_blockAt σ
def lp_31 (g : qG) (D : Nat) (R : qS → Prop) : Prop := ∀ (σ : qS) (a1 a2 : Int32), R σ → lPair g D R mX9_visibleAt mX10_visibleAt [.inl a1, .inl a2] eL_visibleAt σ
def lp_32 (g : qG) (D : Nat) (R : qS → Prop) : Prop := ∀ (σ : qS) (a1 a2 : Int32), R σ → lPair g D R mX9_positionAt mX10_positionAt [.inl a1, .inl a2] eL_positionAt σ
def lp_33 (g : qG) (D : Nat) (R : qS → Prop) : Prop := ∀ (σ : qS) (a1 a2 : Int32), R σ → lPair g D R mX9_visible mX10_visible [.inl a1, .inl a2] eL_visible σ
def lp_34 (g : qG) (D : Nat) (R : qS → Prop) : Prop := ∀ (σ : qS) (a1 a2 : Int32), R σ → lPair g D R mX9_consumer mX10_consumer [.inl a1, .inl a2] eL_consumer σ
def lp_36 (g : qG) (D : Nat) (R : qS → Prop) : Prop := ∀ σ, R σ → lPlain g D R mX9_holder mX10_holder σ
def lp_37 (g : qG) (D : Nat) (R : qS → Prop) : Prop := ∀ (σ : qS), R σ → lPair g D R mX9_slowest mX10_slowest [] eL_slowest σ
def lp_38 (g : qG) (D : Nat) (R : qS → Prop) : Prop := ∀ (σ : qS) (a1 : Int32), R σ → lPair g D R mX9_wouldFree mX10_wouldFree [.inl a1] eL_wouldFree σ
theorem law_exit {g : qG} {b L : Nat} {xs : Nat → Int32} {p : Program} {e : Env} {s : State} {m : MethodId} {below : List Frame} {meth : Method} {c : Code} {n : Nat} {ls : List (Option qP)} {σ : qS} (F : lCtx g b L xs p s m meth c) (hn : n ≤ 600) : lV g b p e s m below meth c 2406 ls [] σ n := by
  intro H locs cells slots la hP hS hc hs hL
  obtain ⟨F1, F2, F3, F4, F5, F6, F7, F8, F9, F10, F11, F12, F13, F14, F15⟩ := id F
  refine va_forget (fun q hq => (F11 q.base).mp (hS.2.2 q hq)) ?_
  refine W.widen (k := 601024) (n := 7293034) (by omega) (by omega) ?_
  refine lv_iconst (v := 1) F1 F2 dL_law_2406 (by decide) ?_
  refine W.base ?_
  exact lw_ret (Drawn.sameBut.refl s.drawn lw_cs) F1 F2 F3 F7 dL_law_2407
set_option maxHeartbeats 4000000 in
set_option maxRecDepth 100000 in
theorem law_loop {g : qG} {b L : Nat} {xs : Nat → Int32} {p : Program} {e : Env} {s : State} {m : MethodId} {below : List Frame} {meth : Method} {c : Code} {D : Nat} {R : qS → Prop} (F : lCtx g b L xs p s m meth c) (hD : D ≤ 100) (h0 : lp_0 g D R) (h1 : lp_1 g D R) (h2 : lp_2 g D R) (h3 : lp_3 g D R) (h4 : lp_4 g D R) (h5 : lp_5 g D R) (h6 : lp_6 g D R) (h7 : lp_7 g D R) (h8 : lp_8 g D R) (h9 : lp_9 g D R) (h10 : lp_10 g D R) (h11 : lp_11 g D R) (h12 : lp_12 g D R) (h13 : lp_13 g D R) (h14 : lp_14 g D R) (h15 : lp_15 g D R) (h16 : lp_16 g D R) (h17 : lp_17 g D R) (h18 : lp_18 g D R) (h19 : lp_19 g D R) (h20 : lp_20 g D R) (h21 : lp_21 g D R) (h22 : lp_22 g D R) (h23 : lp_23 g D R) (h24 : lp_24 g D R) (h25 : lp_25 g D R) (h27 : lp_27 g D R) (h28 : lp_28 g D R) (h29 : lp_29 g D R) (h30 : lp_30 g D R) (h31 : lp_31 g D R) (h32 : lp_32 g D R) (h33 : lp_33 g D R) (h34 : lp_34 g D R) (h36 : lp_36 g D R) (h37 : lp_37 g D R) (h38 : lp_38 g D R) (h26 : ∀ (p : Program) (e : Env) (s : State) (m : MethodId) (below : List Frame) (meth : Method) (c : Code) (n i : Nat) (σ : qS), lCtx g b L xs p s m meth c → i + 6 ≤ L → n ≤ 512 → R σ → (∀ (u : qS) (a b9 : Option qP), R u → lV g b p e s m below meth c 2400 [none, some (.inr 0), some (.inr 86), some (.inr 122), some (.inr 123), some (.inl (nI i)), a, b9] [] u (n + 1)) → ∀ o6 o7 : Option qP, lV g b p e s m below meth c 1575 [none, some (.inr 0), some (.inr 86), some (.inr 122), some (.inr 123), some (.inl (nI i)), o6, o7] [] σ n) (h35 : ∀ (p : Program) (e : Env) (s : State) (m : MethodId) (below : List Frame) (meth : Method) (c : Code) (n i : Nat) (σ : qS), lCtx g b L xs p s m meth c → i + 6 ≤ L → n ≤ 512 → R σ → (∀ (u : qS) (a b9 : Option qP), R u → lV g b p e s m below meth c 2400 [none, some (.inr 0), some (.inr 86), some (.inr 122), some (.inr 123), some (.inl (nI i)), a, b9] [] u (n + 1)) → ∀ o6 o7 : Option qP, lV g b p e s m below meth c 2209 [none, some (.inr 0), some (.inr 86), some (.inr 122), some (.inr 123), some (.inl (nI i)), o6, o7] [] σ n) : ∀ (k j : Nat) (σ : qS) (o6 o7 : Option qP), j + k = 513 → 6 * j ≤ L → R σ → lV g b p e s m below meth c 28 [none, some (.inr 0), some (.inr 86), some (.inr 122), some (.inr 123), some (.inl (nI (6 * j))), o6, o7] [] σ j := by
  intro k
  induction k with
  | zero => intro j σ o6 o7 hj hjL hR; have h15 : L ≤ 3072 := F.2.2.2.2.2.2.2.2.2.2.2.2.2.2; omega
  | succ k ih =>
    intro j σ o6 o7 hj hjL hR
    obtain ⟨F1, F2, F3, F4, F5, F6, F7, F8, F9, F10, F11, F12, F13, F14, F15⟩ := id F
    have hbA : ¬ g.2.1 b := fun hA => absurd ((F11 b).mp hA) (Nat.not_le.mpr F14)
    refine lV_iload (k := 5) F dL_law_28 rfl ?_
    have hx : lV g b p e s m below meth c 2406 [none, some (.inr 0), some (.inr 86), some (.inr 122), some (.inr 123), some (.inl (nI (6 * j))), o6, o7] [] σ j := law_exit F (by omega)
    have hnext : 6 * j + 6 ≤ L → ∀ (u : qS) (a b9 : Option qP), R u → lV g b p e s m below meth c 2400 [none, some (.inr 0), some (.inr 86), some (.inr 122), some (.inr 123), some (.inl (nI (6 * j))), a, b9] [] u (j + 1) := by
      intro hlt u a b9 hRu H locs cells slots la hP hS hc hs hL
      refine lv_iinc (k := 1 + 4) (v := nI (6 * (j + 1))) (x := nI (6 * j)) F1 F2 dL_law_2400 hL.has rfl (by show nI (6 * j) + nI 6 = _; rw [nI_add, show 6 * (j + 1) = 6 * j + 6 from by omega]) (by decide) rfl (fun la' h' => ?_)
      exact lV_goto (tgt := 28) F dL_law_2403 rfl (ih (j + 1) u a b9 (by omega) (by omega) hRu) H locs cells slots la' hP hS hc hs (lL.of_store (v := .inl (nI (6 * (j + 1)))) (by decide) h')
    intro H locs cells slots la hP hS hc hs hL
    refine lv_aload_n (k := 0) F1 F2 dL_law_30 rfl hL.2.2.1 ?_
    refine va_slen F1 F2 F13 F14 hbA hS dL_law_31 ?_
    refine lv_bipush (v := 6) F1 F2 dL_law_32 (by decide) ?_
    refine lv_isub F1 F2 dL_law_34 ?_
    have hcmp : (Int32.ofNat L - 6 < nI (6 * j)) ↔ L < 6 * j + 6 := by
      have e1 : (Int32.ofNat L - 6 : Int32) = nI L - nI 6 := rfl
      rw [e1, Int32.lt_iff_toInt_lt, pk_sub_toInt (by omega) (by omega), nI_toInt (by omega)]
      omega
    refine lv_icmp_gt (tgt := 2406) F1 F2 dL_law_35 rfl (fun _ => hx H locs cells slots la hP hS hc hs hL) (fun hgt => ?_)
    have hlt : 6 * j + 6 ≤ L := by
      by_cases h9 : L < 6 * j + 6
      · exact absurd (hcmp.mpr h9) hgt
      · omega
    have hN := hnext hlt
    refine lv_aload_n (k := 0) F1 F2 dL_law_38 rfl hL.2.2.1 ?_
    refine lv_iload F1 F2 dL_law_39 (hL.2.2.2 5 (.inl (nI (6 * j))) rfl) ?_
    refine va_sld F1 F2 F13 F14 hbA hS (vp_in_nI (show 6 * j < L by omega) (by omega)) dL_law_41 ?_
    refine lv_bipush (v := 63) F1 F2 dL_law_42 (by decide) ?_
    refine lv_iand F1 F2 dL_law_44 ?_
    obtain ⟨v, hv, hve⟩ := pk_andE (xs (nI (6 * j)).toNatClampNeg) (m := 63) 6 (by decide)
    rw [hve]
    have hdf : ∀ v : Nat, 39 ≤ v → v < 64 → W p g.1 e room_1 s m #[Value.ref b] below meth c H locs cells slots (lw_Z below #[Value.ref b] s) (F0 m 45 la [.int (nI v)]) := by
      intro v h1 h2
      refine lv_tableOut (tgt := 2400) F1 F2 dL_law_45 (Or.inr (by rw [nI_toInt (by omega)]; omega)) rfl ?_
      exact hN σ o6 o7 hR H locs cells slots la hP hS (by omega) (by omega) hL
    have hn9 : j ≤ 512 := by omega
    match v, hv with
    | 0, _ => exact lv_tableIn (tgt := 216) F1 F2 dL_law_45 (by decide) (by decide) rfl rfl ((law_0 (D := D) F hlt hn9 hD (h0 σ _ _ _ _ _ hR) hN o6 o7) H locs cells slots la hP hS hc hs hL)
    | 1, _ => exact lv_tableIn (tgt := 320) F1 F2 dL_law_45 (by decide) (by decide) rfl rfl ((law_1 (D := D) F hlt hn9 hD (h1 σ _ hR) hN o6 o7) H locs cells slots la hP hS hc hs hL)
    | 2, _ => exact lv_tableIn (tgt := 376) F1 F2 dL_law_45 (by decide) (by decide) rfl rfl ((law_2 (D := D) F hlt hn9 hD (h2 σ hR) hN o6 o7) H locs cells slots la hP hS hc hs hL)
    | 3, _ => exact lv_tableIn (tgt := 389) F1 F2 dL_law_45 (by decide) (by decide) rfl rfl ((law_3 (D := D) F hlt hn9 hD (h3 σ hR) hN o6 o7) H locs cells slots la hP hS hc hs hL)
    | 4, _ => exact lv_tableIn (tgt := 402) F1 F2 dL_law_45 (by decide) (by decide) rfl rfl ((law_4 (D := D) F hlt hn9 hD (h4 σ hR) hN o6 o7) H locs cells slots la hP hS hc hs hL)
    | 5, _ => exact lv_tableIn (tgt := 415) F1 F2 dL_law_45 (by decide) (by decide) rfl rfl ((law_5 (D := D) F hlt hn9 hD (h5 σ hR) hN o6 o7) H locs cells slots la hP hS hc hs hL)
    | 6, _ => exact lv_tableIn (tgt := 428) F1 F2 dL_law_45 (by decide) (by decide) rfl rfl ((law_6 (D := D) F hlt hn9 hD (h6 σ hR) hN o6 o7) H locs cells slots la hP hS hc hs hL)
    | 7, _ => exact lv_tableIn (tgt := 441) F1 F2 dL_law_45 (by decide) (by decide) rfl rfl ((law_7 (D := D) F hlt hn9 hD (h7 σ _ _ _ hR) hN o6 o7) H locs cells slots la hP hS hc hs hL)
    | 8, _ => exact lv_tableIn (tgt := 521) F1 F2 dL_law_45 (by decide) (by decide) rfl rfl ((law_8 (D := D) F hlt hn9 hD (h8 σ hR) hN o6 o7) H locs cells slots la hP hS hc hs hL)
    | 9, _ => exact lv_tableIn (tgt := 565) F1 F2 dL_law_45 (by decide) (by decide) rfl rfl ((law_9 (D := D) F hlt hn9 hD (h9 σ _ hR) hN o6 o7) H locs cells slots la hP hS hc hs hL)
    | 10, _ => exact lv_tableIn (tgt := 621) F1 F2 dL_law_45 (by decide) (by decide) rfl rfl ((law_10 (D := D) F hlt hn9 hD (h10 σ _ hR) hN o6 o7) H locs cells slots la hP hS hc hs hL)
    | 11, _ => exact lv_tableIn (tgt := 677) F1 F2 dL_law_45 (by decide) (by decide) rfl rfl ((law_11 (D := D) F hlt hn9 hD (h11 σ _ _ _ _ hR) hN o6 o7) H locs cells slots la hP hS hc hs hL)
    | 12, _ => exact lv_tableIn (tgt := 769) F1 F2 dL_law_45 (by decide) (by decide) rfl rfl ((law_12 (D := D) F hlt hn9 hD (h12 σ _ _ hR) hN o6 o7) H locs cells slots la hP hS hc hs hL)
    | 13, _ => exact lv_tableIn (tgt := 837) F1 F2 dL_law_45 (by decide) (by decide) rfl rfl ((law_13 (D := D) F hlt hn9 hD (h13 σ _ _ _ hR) hN o6 o7) H locs cells slots la hP hS hc hs hL)
    | 14, _ => exact lv_tableIn (tgt := 917) F1 F2 dL_law_45 (by decide) (by decide) rfl rfl ((law_14 (D := D) F hlt hn9 hD (h14 σ _ _ _ _ hR) hN o6 o7) H locs cells slots la hP hS hc hs hL)
    | 15, _ => exact lv_tableIn (tgt := 1009) F1 F2 dL_law_45 (by decide) (by decide) rfl rfl ((law_15 (D := D) F hlt hn9 hD (h15 σ _ hR) hN o6 o7) H locs cells slots la hP hS hc hs hL)
    | 16, _ => exact lv_tableIn (tgt := 1065) F1 F2 dL_law_45 (by decide) (by decide) rfl rfl ((law_16 (D := D) F hlt hn9 hD (h16 σ _ _ hR) hN o6 o7) H locs cells slots la hP hS hc hs hL)
    | 17, _ => exact lv_tableIn (tgt := 1133) F1 F2 dL_law_45 (by decide) (by decide) rfl rfl ((law_17 (D := D) F hlt hn9 hD (h17 σ _ _ hR) hN o6 o7) H locs cells slots la hP hS hc hs hL)
    | 18, _ => exact lv_tableIn (tgt := 1201) F1 F2 dL_law_45 (by decide) (by decide) rfl rfl ((law_18 (D := D) F hlt hn9 hD (h18 σ hR) hN o6 o7) H locs cells slots la hP hS hc hs hL)
    | 19, _ => exact lv_tableIn (tgt := 1214) F1 F2 dL_law_45 (by decide) (by decide) rfl rfl ((law_19 (D := D) F hlt hn9 hD (h19 σ hR) hN o6 o7) H locs cells slots la hP hS hc hs hL)
    | 20, _ => exact lv_tableIn (tgt := 1258) F1 F2 dL_law_45 (by decide) (by decide) rfl rfl ((law_20 (D := D) F hlt hn9 hD (h20 σ _ hR) hN o6 o7) H locs cells slots la hP hS hc hs hL)
    | 21, _ => exact lv_tableIn (tgt := 1314) F1 F2 dL_law_45 (by decide) (by decide) rfl rfl ((law_21 (D := D) F hlt hn9 hD (h21 σ _ hR) hN o6 o7) H locs cells slots la hP hS hc hs hL)
    | 22, _ => exact lv_tableIn (tgt := 1370) F1 F2 dL_law_45 (by decide) (by decide) rfl rfl ((law_22 (D := D) F hlt hn9 hD (h22 σ _ hR) hN o6 o7) H locs cells slots la hP hS hc hs hL)
    | 23, _ => exact lv_tableIn (tgt := 1426) F1 F2 dL_law_45 (by decide) (by decide) rfl rfl ((law_23 (D := D) F hlt hn9 hD (h23 σ _ _ hR) hN o6 o7) H locs cells slots la hP hS hc hs hL)
    | 24, _ => exact lv_tableIn (tgt := 1494) F1 F2 dL_law_45 (by decide) (by decide) rfl rfl ((law_24 (D := D) F hlt hn9 hD (h24 σ hR) hN o6 o7) H locs cells slots la hP hS hc hs hL)
    | 25, _ => exact lv_tableIn (tgt := 1507) F1 F2 dL_law_45 (by decide) (by decide) rfl rfl ((law_25 (D := D) F hlt hn9 hD (h25 σ _ _ hR) hN o6 o7) H locs cells slots la hP hS hc hs hL)
    | 26, _ => exact lv_tableIn (tgt := 1575) F1 F2 dL_law_45 (by decide) (by decide) rfl rfl ((h26 p e s m below meth c j (6 * j) σ F hlt hn9 hR hN o6 o7) H locs cells slots la hP hS hc hs hL)
    | 27, _ => exact lv_tableIn (tgt := 1653) F1 F2 dL_law_45 (by decide) (by decide) rfl rfl ((law_27 (D := D) F hlt hn9 hD (h27 σ _ _ hR) hN o6 o7) H locs cells slots la hP hS hc hs hL)
    | 28, _ => exact lv_tableIn (tgt := 1721) F1 F2 dL_law_45 (by decide) (by decide) rfl rfl ((law_28 (D := D) F hlt hn9 hD (h28 σ _ _ hR) hN o6 o7) H locs cells slots la hP hS hc hs hL)
    | 29, _ => exact lv_tableIn (tgt := 1789) F1 F2 dL_law_45 (by decide) (by decide) rfl rfl ((law_29 (D := D) F hlt hn9 hD (h29 σ _ _ hR) hN o6 o7) H locs cells slots la hP hS hc hs hL)
    | 30, _ => exact lv_tableIn (tgt := 1857) F1 F2 dL_law_45 (by decide) (by decide) rfl rfl ((law_30 (D := D) F hlt hn9 hD (h30 σ _ _ _ hR) hN o6 o7) H locs cells slots la hP hS hc hs hL)
    | 31, _ => exact lv_tableIn (tgt := 1937) F1 F2 dL_law_45 (by decide) (by decide) rfl rfl ((law_31 (D := D) F hlt hn9 hD (h31 σ _ _ hR) hN o6 o7) H locs cells slots la hP hS hc hs hL)
    | 32, _ => exact lv_tableIn (tgt := 2005) F1 F2 dL_law_45 (by decide) (by decide) rfl rfl ((law_32 (D := D) F hlt hn9 hD (h32 σ _ _ hR) hN o6 o7) H locs cells slots la hP hS hc hs hL)
    | 33, _ => exact lv_tableIn (tgt := 2073) F1 F2 dL_law_45 (by decide) (by decide) rfl rfl ((law_33 (D := D) F hlt hn9 hD (h33 σ _ _ hR) hN o6 o7) H locs cells slots la hP hS hc hs hL)
    | 34, _ => exact lv_tableIn (tgt := 2141) F1 F2 dL_law_45 (by decide) (by decide) rfl rfl ((law_34 (D := D) F hlt hn9 hD (h34 σ _ _ hR) hN o6 o7) H locs cells slots la hP hS hc hs hL)
    | 35, _ => exact lv_tableIn (tgt := 2209) F1 F2 dL_law_45 (by decide) (by decide) rfl rfl ((h35 p e s m below meth c j (6 * j) σ F hlt hn9 hR hN o6 o7) H locs cells slots la hP hS hc hs hL)
    | 36, _ => exact lv_tableIn (tgt := 2287) F1 F2 dL_law_45 (by decide) (by decide) rfl rfl ((law_36 (D := D) F hlt hn9 hD (h36 σ hR) hN o6 o7) H locs cells slots la hP hS hc hs hL)
    | 37, _ => exact lv_tableIn (tgt := 2300) F1 F2 dL_law_45 (by decide) (by decide) rfl rfl ((law_37 (D := D) F hlt hn9 hD (h37 σ hR) hN o6 o7) H locs cells slots la hP hS hc hs hL)
    | 38, _ => exact lv_tableIn (tgt := 2344) F1 F2 dL_law_45 (by decide) (by decide) rfl rfl ((law_38 (D := D) F hlt hn9 hD (h38 σ _ hR) hN o6 o7) H locs cells slots la hP hS hc hs hL)
    | v + 39, hv => exact hdf (v + 39) (by omega) (by omega)
