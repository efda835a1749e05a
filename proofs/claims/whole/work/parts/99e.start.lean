set_option maxHeartbeats 4000000 in
set_option maxRecDepth 100000 in
theorem whole_start {p : Program} {e : Env} {s : State} {m : MethodId} {below : List Frame} {meth : Method} {c : Code} (l : Launch) (hflags : l.flags = flags0) {b L : Nat} {xs : Nat → Int32} (hL : L ≤ 3072) (C0 : lw_At p s m meth c b L xs) : W p l e room_1 s m #[Value.ref b] below meth c s.heap [] 0 0 (lw_Z below #[Value.ref b] s) (entryFrame m ([Value.ref b] : List Value).toArray 8) := by
  refine law_begin l hflags hL C0 (fun g hg F => ?_)
  have hw : qWF g := F.2.2.2.2.2.2.2.2.2.2.2.1
  exact law_loop (R := lR) (D := 20) F (by decide) (pr_0 hw) (pr_1 hw) (pr_2 hw (k_SW hw)) (pr_3 hw) (pr_4 hw) (pr_5 hw) (pr_6 hw) (pr_7 hw) (pr_8 hw) (pr_9 hw) (pr_10 hw) (pr_11 hw) (pr_12 hw) (pr_13 hw) (pr_14 hw) (pr_15 hw) (pr_16 hw) (pr_17 hw) (pr_18 hw) (pr_19 hw) (pr_20 hw) (pr_21 hw) (pr_22 hw) (pr_23 hw) (pr_24 hw) (pr_25 hw) (pr_27 hw (k_El hw)) (pr_28 hw) (pr_29 hw) (pr_30 hw) (pr_31 hw) (pr_32 hw) (pr_33 hw (k_El hw)) (pr_34 hw) (pr_36 hw) (pr_37 hw (k_El hw)) (pr_38 hw)
    (fun p e s m below meth c n i σ F hi hn hR hk o6 o7 => law_26 (D := 20) F hi hn (by decide) (pf_26 hw σ (xs (i + 1)) hR) hk o6 o7)
    (fun p e s m below meth c n i σ F hi hn hR hk o6 o7 => law_35 (D := 20) F hi hn (by decide) (pf_35 hw σ (xs (i + 1)) hR) hk o6 o7)
    513 0 q0 none none rfl (Nat.zero_le _) lR_0
