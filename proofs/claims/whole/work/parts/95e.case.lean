/-! ===== the law's cases: printed by wip/whole/gen21.py ===== -/
theorem lM_126 : ∀ w ∈ ([.methodLink RL 126 mX10_append.1, .instanceMethod mX10_append.1, .selects mX10_append.1.cls mX10_append.1 mX10_append.1] ++ qcw mX10_append : List Jvm.Cond), w ∈ qgw := qgw_of [1401, 1402, 1403, 129, 1404] (by decide +kernel) (by decide +kernel)
theorem lM_127 : ∀ w ∈ ([.methodLink RL 127 mX10_thrown.1, .instanceMethod mX10_thrown.1, .selects mX10_thrown.1.cls mX10_thrown.1 mX10_thrown.1] ++ qcw mX10_thrown : List Jvm.Cond), w ∈ qgw := qgw_of [1397, 1398, 1399, 129, 1400] (by decide +kernel) (by decide +kernel)
theorem lW_append : ∀ w ∈ ([.methodLink RL 121 yL_append, .static yL_append, .initialized yL_append.cls, .codeWith yL_append cL_append 8 (some .int) hL_append] : List Jvm.Cond), w ∈ qgw := qgw_of [1031, 1032, 118, 1033] (by decide +kernel) (by decide +kernel)
set_option maxHeartbeats 1000000 in
theorem law_0 {g : qG} {b L : Nat} {xs : Nat → Int32} {p : Program} {e : Env} {s : State} {m : MethodId} {below : List Frame} {meth : Method} {c : Code} {n D i : Nat} {σ : qS} {R : qS → Prop} (F : lCtx g b L xs p s m meth c) (hi : i + 6 ≤ L) (hn : n ≤ 512) (hD : D ≤ 100) (hp : lPair g D R mX9_append mX10_append [.inl (xs (i + 1)), .inl (xs (i + 2)), .inl (xs (i + 3)), .inl (xs (i + 4)), .inl (xs (i + 5))] eL_append σ) (hk : ∀ (u : qS) (a b9 : Option qP), R u → lV g b p e s m below meth c 2400 [none, some (.inr 0), some (.inr 86), some (.inr 122), some (.inr 123), some (.inl (nI i)), a, b9] [] u (n + 1)) (o6 o7 : Option qP) : lV g b p e s m below meth c 216 [none, some (.inr 0), some (.inr 86), some (.inr 122), some (.inr 123), some (.inl (nI i)), o6, o7] [] σ n := by
  have hw9 : qWF g := F.2.2.2.2.2.2.2.2.2.2.2.1
  refine lV_aload_n (k := 1) F dL_law_216 rfl ?_
  refine lV_arg (i := i) (j := 1) F (by omega) rfl rfl dL_law_217 dL_law_218 dL_law_220 dL_law_221 dL_law_222 ?_
  refine lV_arg (i := i) (j := 2) F (by omega) rfl rfl dL_law_223 dL_law_224 dL_law_226 dL_law_227 dL_law_228 ?_
  refine lV_arg (i := i) (j := 3) F (by omega) rfl rfl dL_law_229 dL_law_230 dL_law_232 dL_law_233 dL_law_234 ?_
  refine lV_arg (i := i) (j := 4) F (by omega) rfl rfl dL_law_235 dL_law_236 dL_law_238 dL_law_239 dL_law_240 ?_
  refine lV_arg (i := i) (j := 5) F (by omega) rfl rfl dL_law_241 dL_law_242 dL_law_244 dL_law_245 dL_law_246 ?_
  refine lV_aload_n (k := 3) F dL_law_247 rfl ?_
  have key : ∀ (k9 : Int32) (u : qS) (Q2 : Int32 → qS → Prop), qC g D mX10_append (.inr 86 :: [.inl (xs (i + 1)), .inl (xs (i + 2)), .inl (xs (i + 3)), .inl (xs (i + 4)), .inl (xs (i + 5))]) u Q2 (fun _ _ => False) → (∀ bv u2, Q2 bv u2 → R u2 ∧ u2 86 0 = k9 ∧ (k9 = 0 → bv = u2 122 0)) → lV g b p e s m below meth c 251 [none, some (.inr 0), some (.inr 86), some (.inr 122), some (.inr 123), some (.inl (nI i)), o6, o7] [.inl k9] u (n + 1) := by
    intro k9 u Q2 hq2 hQ2
    refine lV_istore (k := 6) F (by decide) (by decide) dL_law_251 ?_
    refine lV_aload_n (k := 2) F dL_law_253 rfl ?_
    refine lV_arg (i := i) (j := 1) F (by omega) rfl rfl dL_law_254 dL_law_255 dL_law_257 dL_law_258 dL_law_259 ?_
    refine lV_arg (i := i) (j := 2) F (by omega) rfl rfl dL_law_260 dL_law_261 dL_law_263 dL_law_264 dL_law_265 ?_
    refine lV_arg (i := i) (j := 3) F (by omega) rfl rfl dL_law_266 dL_law_267 dL_law_269 dL_law_270 dL_law_271 ?_
    refine lV_arg (i := i) (j := 4) F (by omega) rfl rfl dL_law_272 dL_law_273 dL_law_275 dL_law_276 dL_law_277 ?_
    refine lV_arg (i := i) (j := 5) F (by omega) rfl rfl dL_law_278 dL_law_279 dL_law_281 dL_law_282 dL_law_283 ?_
    refine lV_call (D := D) (nn := 0) (as := [.inl (xs (i + 1)), .inl (xs (i + 2)), .inl (xs (i + 3)), .inl (xs (i + 4)), .inl (xs (i + 5))]) (k := 86) (q := (RX10, TX10, 63)) (ty := .int) F rfl rfl rfl (qM_spec (by decide +kernel)) rfl lM_126 rfl (Nat.zero_le _) hD (Nat.zero_le _) (by omega) dL_law_284 hq2 (fun bv u2 hbu => ?_)
    obtain ⟨hR, h0, h1⟩ := hQ2 bv u2 hbu
    refine lV_istore (k := 7) F (by decide) (by decide) dL_law_287 ?_
    exact lV_tail (D := D) F hD (by omega) h0 h1 lM_127 dL_law_289 dL_law_290 dL_law_293 dL_law_295 dL_law_300 dL_law_302 dL_law_305 dL_law_306 dL_law_307 dL_law_308 dL_law_310 dL_law_311 dL_law_312 dL_law_317 rfl (hk u2 _ _ hR)
  refine lV_wrap (na := 7) (as := [.inr 0, .inl (xs (i + 1)), .inl (xs (i + 2)), .inl (xs (i + 3)), .inl (xs (i + 4)), .inl (xs (i + 5)), .inr 122]) F (lw_append hw9 (fun E u hE => hE.1) hp) (by decide) hD (by omega) lW_append (by decide) (by decide +kernel) (by decide) rfl dL_law_248 (fun k9 u hQ => ?_)
  rcases hQ with ⟨rfl, r, u0, hq, rfl⟩ | ⟨j, E, hj, rfl, hTE⟩
  · exact key 0 _ _ hq (fun bv u2 h => ⟨h.1, h.2.1, fun _ => h.2.2⟩)
  · refine key _ u _ (hTE.2 j hj) (fun bv u2 h => ⟨h.1, h.2, fun h0 => ?_⟩)
    exact absurd h0 (nI_ne0 (by omega) (by have := (List.getElem?_eq_some_iff.mp hj).1; have h3 : eL_append.length ≤ 3 := (by decide); omega))
theorem lM_133 : ∀ w ∈ ([.methodLink RL 133 mX10_truncate.1, .instanceMethod mX10_truncate.1, .selects mX10_truncate.1.cls mX10_truncate.1 mX10_truncate.1] ++ qcw mX10_truncate : List Jvm.Cond), w ∈ qgw := qgw_of [1414, 1415, 1416, 129, 1417] (by decide +kernel) (by decide +kernel)
theorem lW_truncate : ∀ w ∈ ([.methodLink RL 130 yL_truncate, .static yL_truncate, .initialized yL_truncate.cls, .codeWith yL_truncate cL_truncate 4 (some .int) hL_truncate] : List Jvm.Cond), w ∈ qgw := qgw_of [1044, 1045, 118, 1046] (by decide +kernel) (by decide +kernel)
set_option maxHeartbeats 1000000 in
theorem law_1 {g : qG} {b L : Nat} {xs : Nat → Int32} {p : Program} {e : Env} {s : State} {m : MethodId} {below : List Frame} {meth : Method} {c : Code} {n D i : Nat} {σ : qS} {R : qS → Prop} (F : lCtx g b L xs p s m meth c) (hi : i + 6 ≤ L) (hn : n ≤ 512) (hD : D ≤ 100) (hp : lPair g D R mX9_truncate mX10_truncate [.inl (xs (i + 1))] eL_truncate σ) (hk : ∀ (u : qS) (a b9 : Option qP), R u → lV g b p e s m below meth c 2400 [none, some (.inr 0), some (.inr 86), some (.inr 122), some (.inr 123), some (.inl (nI i)), a, b9] [] u (n + 1)) (o6 o7 : Option qP) : lV g b p e s m below meth c 320 [none, some (.inr 0), some (.inr 86), some (.inr 122), some (.inr 123), some (.inl (nI i)), o6, o7] [] σ n := by
  have hw9 : qWF g := F.2.2.2.2.2.2.2.2.2.2.2.1
  refine lV_aload_n (k := 1) F dL_law_320 rfl ?_
  refine lV_arg (i := i) (j := 1) F (by omega) rfl rfl dL_law_321 dL_law_322 dL_law_324 dL_law_325 dL_law_326 ?_
  refine lV_aload_n (k := 3) F dL_law_327 rfl ?_
  have key : ∀ (k9 : Int32) (u : qS) (Q2 : Int32 → qS → Prop), qC g D mX10_truncate (.inr 86 :: [.inl (xs (i + 1))]) u Q2 (fun _ _ => False) → (∀ bv u2, Q2 bv u2 → R u2 ∧ u2 86 0 = k9 ∧ (k9 = 0 → bv = u2 122 0)) → lV g b p e s m below meth c 331 [none, some (.inr 0), some (.inr 86), some (.inr 122), some (.inr 123), some (.inl (nI i)), o6, o7] [.inl k9] u (n + 1) := by
    intro k9 u Q2 hq2 hQ2
    refine lV_istore (k := 6) F (by decide) (by decide) dL_law_331 ?_
    refine lV_aload_n (k := 2) F dL_law_333 rfl ?_
    refine lV_arg (i := i) (j := 1) F (by omega) rfl rfl dL_law_334 dL_law_335 dL_law_337 dL_law_338 dL_law_339 ?_
    refine lV_call (D := D) (nn := 0) (as := [.inl (xs (i + 1))]) (k := 86) (q := (RX10, TX10, 63)) (ty := .int) F rfl rfl rfl (qM_spec (by decide +kernel)) rfl lM_133 rfl (Nat.zero_le _) hD (Nat.zero_le _) (by omega) dL_law_340 hq2 (fun bv u2 hbu => ?_)
    obtain ⟨hR, h0, h1⟩ := hQ2 bv u2 hbu
    refine lV_istore (k := 7) F (by decide) (by decide) dL_law_343 ?_
    exact lV_tail (D := D) F hD (by omega) h0 h1 lM_127 dL_law_345 dL_law_346 dL_law_349 dL_law_351 dL_law_356 dL_law_358 dL_law_361 dL_law_362 dL_law_363 dL_law_364 dL_law_366 dL_law_367 dL_law_368 dL_law_373 rfl (hk u2 _ _ hR)
  refine lV_wrap (na := 3) (as := [.inr 0, .inl (xs (i + 1)), .inr 122]) F (lw_truncate hw9 (fun E u hE => hE.1) hp) (by decide) hD (by omega) lW_truncate (by decide) (by decide +kernel) (by decide) rfl dL_law_328 (fun k9 u hQ => ?_)
  rcases hQ with ⟨rfl, r, u0, hq, rfl⟩ | ⟨j, E, hj, rfl, hTE⟩
  · exact key 0 _ _ hq (fun bv u2 h => ⟨h.1, h.2.1, fun _ => h.2.2⟩)
  · refine key _ u _ (hTE.2 j hj) (fun bv u2 h => ⟨h.1, h.2, fun h0 => ?_⟩)
    exact absurd h0 (nI_ne0 (by omega) (by have := (List.getElem?_eq_some_iff.mp hj).1; have h3 : eL_truncate.length ≤ 3 := (by decide); omega))
theorem lX_134 : ∀ w ∈ ([.methodLink RL 134 mX9_run.1, .instanceMethod mX9_run.1, .selects mX9_run.1.cls mX9_run.1 mX9_run.1] ++ qcw mX9_run : List Jvm.Cond), w ∈ qgw := qgw_of [514, 515, 516, 119, 517] (by decide +kernel) (by decide +kernel)
theorem lM_137 : ∀ w ∈ ([.methodLink RL 137 mX10_run.1, .instanceMethod mX10_run.1, .selects mX10_run.1.cls mX10_run.1 mX10_run.1] ++ qcw mX10_run : List Jvm.Cond), w ∈ qgw := qgw_of [1959, 1960, 1961, 129, 1962] (by decide +kernel) (by decide +kernel)
theorem law_2 {g : qG} {b L : Nat} {xs : Nat → Int32} {p : Program} {e : Env} {s : State} {m : MethodId} {below : List Frame} {meth : Method} {c : Code} {n D i : Nat} {σ : qS} {R : qS → Prop} (F : lCtx g b L xs p s m meth c) (hi : i + 6 ≤ L) (hn : n ≤ 512) (hD : D ≤ 100) (hp : lPlain g D R mX9_run mX10_run σ) (hk : ∀ (u : qS) (a b9 : Option qP), R u → lV g b p e s m below meth c 2400 [none, some (.inr 0), some (.inr 86), some (.inr 122), some (.inr 123), some (.inl (nI i)), a, b9] [] u (n + 1)) (o6 o7 : Option qP) : lV g b p e s m below meth c 376 [none, some (.inr 0), some (.inr 86), some (.inr 122), some (.inr 123), some (.inl (nI i)), o6, o7] [] σ n := by
  refine lV_aload_n (k := 1) F dL_law_376 rfl ?_
  refine lV_call (D := D) (nn := 1) (as := []) (k := 0) (q := (RX9, TX9, 4)) (ty := .int) F rfl rfl rfl (qM_spec (by decide +kernel)) rfl lX_134 rfl (Nat.zero_le _) hD (by decide) (by omega) dL_law_377 hp (fun r u hru => ?_)
  refine lV_aload_n (k := 2) F dL_law_380 rfl ?_
  refine lV_call (D := D) (nn := 0) (as := []) (k := 86) (q := (RX10, TX10, 63)) (ty := .int) F rfl rfl rfl (qM_spec (by decide +kernel)) rfl lM_137 rfl (Nat.le_of_ble_eq_true rfl) hD (Nat.zero_le _) (by omega) dL_law_381 hru (fun bv u2 hbu => ?_)
  obtain ⟨hR, rfl⟩ := hbu
  exact lV_eq (tgt := 2400) F dL_law_384 rfl (hk u2 o6 o7 hR)
theorem lX_138 : ∀ w ∈ ([.methodLink RL 138 mX9_errorCode.1, .instanceMethod mX9_errorCode.1, .selects mX9_errorCode.1.cls mX9_errorCode.1 mX9_errorCode.1] ++ qcw mX9_errorCode : List Jvm.Cond), w ∈ qgw := qgw_of [883, 884, 885, 119, 886] (by decide +kernel) (by decide +kernel)
theorem lM_141 : ∀ w ∈ ([.methodLink RL 141 mX10_errorCode.1, .instanceMethod mX10_errorCode.1, .selects mX10_errorCode.1.cls mX10_errorCode.1 mX10_errorCode.1] ++ qcw mX10_errorCode : List Jvm.Cond), w ∈ qgw := qgw_of [2094, 2095, 2096, 129, 2097] (by decide +kernel) (by decide +kernel)
theorem law_3 {g : qG} {b L : Nat} {xs : Nat → Int32} {p : Program} {e : Env} {s : State} {m : MethodId} {below : List Frame} {meth : Method} {c : Code} {n D i : Nat} {σ : qS} {R : qS → Prop} (F : lCtx g b L xs p s m meth c) (hi : i + 6 ≤ L) (hn : n ≤ 512) (hD : D ≤ 100) (hp : lPlain g D R mX9_errorCode mX10_errorCode σ) (hk : ∀ (u : qS) (a b9 : Option qP), R u → lV g b p e s m below meth c 2400 [none, some (.inr 0), some (.inr 86), some (.inr 122), some (.inr 123), some (.inl (nI i)), a, b9] [] u (n + 1)) (o6 o7 : Option qP) : lV g b p e s m below meth c 389 [none, some (.inr 0), some (.inr 86), some (.inr 122), some (.inr 123), some (.inl (nI i)), o6, o7] [] σ n := by
  refine lV_aload_n (k := 1) F dL_law_389 rfl ?_
  refine lV_call (D := D) (nn := 1) (as := []) (k := 0) (q := (RX9, TX9, 4)) (ty := .int) F rfl rfl rfl (qM_spec (by decide +kernel)) rfl lX_138 rfl (Nat.zero_le _) hD (by decide) (by omega) dL_law_390 hp (fun r u hru => ?_)
  refine lV_aload_n (k := 2) F dL_law_393 rfl ?_
  refine lV_call (D := D) (nn := 0) (as := []) (k := 86) (q := (RX10, TX10, 63)) (ty := .int) F rfl rfl rfl (qM_spec (by decide +kernel)) rfl lM_141 rfl (Nat.le_of_ble_eq_true rfl) hD (Nat.zero_le _) (by omega) dL_law_394 hru (fun bv u2 hbu => ?_)
  obtain ⟨hR, rfl⟩ := hbu
  exact lV_eq (tgt := 2400) F dL_law_397 rfl (hk u2 o6 o7 hR)
theorem lX_142 : ∀ w ∈ ([.methodLink RL 142 mX9_errorPosition.1, .instanceMethod mX9_errorPosition.1, .selects mX9_errorPosition.1.cls mX9_errorPosition.1 mX9_errorPosition.1] ++ qcw mX9_errorPosition : List Jvm.Cond), w ∈ qgw := qgw_of [887, 888, 889, 119, 890] (by decide +kernel) (by decide +kernel)
theorem lM_145 : ∀ w ∈ ([.methodLink RL 145 mX10_errorPosition.1, .instanceMethod mX10_errorPosition.1, .selects mX10_errorPosition.1.cls mX10_errorPosition.1 mX10_errorPosition.1] ++ qcw mX10_errorPosition : List Jvm.Cond), w ∈ qgw := qgw_of [2098, 2099, 2100, 129, 2101] (by decide +kernel) (by decide +kernel)
theorem law_4 {g : qG} {b L : Nat} {xs : Nat → Int32} {p : Program} {e : Env} {s : State} {m : MethodId} {below : List Frame} {meth : Method} {c : Code} {n D i : Nat} {σ : qS} {R : qS → Prop} (F : lCtx g b L xs p s m meth c) (hi : i + 6 ≤ L) (hn : n ≤ 512) (hD : D ≤ 100) (hp : lPlain g D R mX9_errorPosition mX10_errorPosition σ) (hk : ∀ (u : qS) (a b9 : Option qP), R u → lV g b p e s m below meth c 2400 [none, some (.inr 0), some (.inr 86), some (.inr 122), some (.inr 123), some (.inl (nI i)), a, b9] [] u (n + 1)) (o6 o7 : Option qP) : lV g b p e s m below meth c 402 [none, some (.inr 0), some (.inr 86), some (.inr 122), some (.inr 123), some (.inl (nI i)), o6, o7] [] σ n := by
  refine lV_aload_n (k := 1) F dL_law_402 rfl ?_
  refine lV_call (D := D) (nn := 1) (as := []) (k := 0) (q := (RX9, TX9, 4)) (ty := .int) F rfl rfl rfl (qM_spec (by decide +kernel)) rfl lX_142 rfl (Nat.zero_le _) hD (by decide) (by omega) dL_law_403 hp (fun r u hru => ?_)
  refine lV_aload_n (k := 2) F dL_law_406 rfl ?_
  refine lV_call (D := D) (nn := 0) (as := []) (k := 86) (q := (RX10, TX10, 63)) (ty := .int) F rfl rfl rfl (qM_spec (by decide +kernel)) rfl lM_145 rfl (Nat.le_of_ble_eq_true rfl) hD (Nat.zero_le _) (by omega) dL_law_407 hru (fun bv u2 hbu => ?_)
  obtain ⟨hR, rfl⟩ := hbu
  exact lV_eq (tgt := 2400) F dL_law_410 rfl (hk u2 o6 o7 hR)
theorem lX_146 : ∀ w ∈ ([.methodLink RL 146 mX9_failure.1, .instanceMethod mX9_failure.1, .selects mX9_failure.1.cls mX9_failure.1 mX9_failure.1] ++ qcw mX9_failure : List Jvm.Cond), w ∈ qgw := qgw_of [891, 892, 893, 119, 894] (by decide +kernel) (by decide +kernel)
theorem lM_149 : ∀ w ∈ ([.methodLink RL 149 mX10_failure.1, .instanceMethod mX10_failure.1, .selects mX10_failure.1.cls mX10_failure.1 mX10_failure.1] ++ qcw mX10_failure : List Jvm.Cond), w ∈ qgw := qgw_of [2102, 2103, 2104, 129, 2105] (by decide +kernel) (by decide +kernel)
theorem law_5 {g : qG} {b L : Nat} {xs : Nat → Int32} {p : Program} {e : Env} {s : State} {m : MethodId} {below : List Frame} {meth : Method} {c : Code} {n D i : Nat} {σ : qS} {R : qS → Prop} (F : lCtx g b L xs p s m meth c) (hi : i + 6 ≤ L) (hn : n ≤ 512) (hD : D ≤ 100) (hp : lPlain g D R mX9_failure mX10_failure σ) (hk : ∀ (u : qS) (a b9 : Option qP), R u → lV g b p e s m below meth c 2400 [none, some (.inr 0), some (.inr 86), some (.inr 122), some (.inr 123), some (.inl (nI i)), a, b9] [] u (n + 1)) (o6 o7 : Option qP) : lV g b p e s m below meth c 415 [none, some (.inr 0), some (.inr 86), some (.inr 122), some (.inr 123), some (.inl (nI i)), o6, o7] [] σ n := by
  refine lV_aload_n (k := 1) F dL_law_415 rfl ?_
  refine lV_call (D := D) (nn := 1) (as := []) (k := 0) (q := (RX9, TX9, 4)) (ty := .int) F rfl rfl rfl (qM_spec (by decide +kernel)) rfl lX_146 rfl (Nat.zero_le _) hD (by decide) (by omega) dL_law_416 hp (fun r u hru => ?_)
  refine lV_aload_n (k := 2) F dL_law_419 rfl ?_
  refine lV_call (D := D) (nn := 0) (as := []) (k := 86) (q := (RX10, TX10, 63)) (ty := .int) F rfl rfl rfl (qM_spec (by decide +kernel)) rfl lM_149 rfl (Nat.le_of_ble_eq_true rfl) hD (Nat.zero_le _) (by omega) dL_law_420 hru (fun bv u2 hbu => ?_)
  obtain ⟨hR, rfl⟩ := hbu
  exact lV_eq (tgt := 2400) F dL_law_423 rfl (hk u2 o6 o7 hR)
theorem lX_150 : ∀ w ∈ ([.methodLink RL 150 mX9_failurePosition.1, .instanceMethod mX9_failurePosition.1, .selects mX9_failurePosition.1.cls mX9_failurePosition.1 mX9_failurePosition.1] ++ qcw mX9_failurePosition : List Jvm.Cond), w ∈ qgw := qgw_of [895, 896, 897, 119, 898] (by decide +kernel) (by decide +kernel)
theorem lM_153 : ∀ w ∈ ([.methodLink RL 153 mX10_failurePosition.1, .instanceMethod mX10_failurePosition.1, .selects mX10_failurePosition.1.cls mX10_failurePosition.1 mX10_failurePosition.1] ++ qcw mX10_failurePosition : List Jvm.Cond), w ∈ qgw := qgw_of [2106, 2107, 2108, 129, 2109] (by decide +kernel) (by decide +kernel)
theorem law_6 {g : qG} {b L : Nat} {xs : Nat → Int32} {p : Program} {e : Env} {s : State} {m : MethodId} {below : List Frame} {meth : Method} {c : Code} {n D i : Nat} {σ : qS} {R : qS → Prop} (F : lCtx g b L xs p s m meth c) (hi : i + 6 ≤ L) (hn : n ≤ 512) (hD : D ≤ 100) (hp : lPlain g D R mX9_failurePosition mX10_failurePosition σ) (hk : ∀ (u : qS) (a b9 : Option qP), R u → lV g b p e s m below meth c 2400 [none, some (.inr 0), some (.inr 86), some (.inr 122), some (.inr 123), some (.inl (nI i)), a, b9] [] u (n + 1)) (o6 o7 : Option qP) : lV g b p e s m below meth c 428 [none, some (.inr 0), some (.inr 86), some (.inr 122), some (.inr 123), some (.inl (nI i)), o6, o7] [] σ n := by
  refine lV_aload_n (k := 1) F dL_law_428 rfl ?_
  refine lV_call (D := D) (nn := 1) (as := []) (k := 0) (q := (RX9, TX9, 4)) (ty := .int) F rfl rfl rfl (qM_spec (by decide +kernel)) rfl lX_150 rfl (Nat.zero_le _) hD (by decide) (by omega) dL_law_429 hp (fun r u hru => ?_)
  refine lV_aload_n (k := 2) F dL_law_432 rfl ?_
  refine lV_call (D := D) (nn := 0) (as := []) (k := 86) (q := (RX10, TX10, 63)) (ty := .int) F rfl rfl rfl (qM_spec (by decide +kernel)) rfl lM_153 rfl (Nat.le_of_ble_eq_true rfl) hD (Nat.zero_le _) (by omega) dL_law_433 hru (fun bv u2 hbu => ?_)
  obtain ⟨hR, rfl⟩ := hbu
  exact lV_eq (tgt := 2400) F dL_law_436 rfl (hk u2 o6 o7 hR)
theorem lM_157 : ∀ w ∈ ([.methodLink RL 157 mX10_configure.1, .instanceMethod mX10_configure.1, .selects mX10_configure.1.cls mX10_configure.1 mX10_configure.1] ++ qcw mX10_configure : List Jvm.Cond), w ∈ qgw := qgw_of [1636, 1637, 1638, 129, 1639] (by decide +kernel) (by decide +kernel)
theorem lW_configure : ∀ w ∈ ([.methodLink RL 154 yL_configure, .static yL_configure, .initialized yL_configure.cls, .codeWith yL_configure cL_configure 6 (some .int) hL_configure] : List Jvm.Cond), w ∈ qgw := qgw_of [1053, 1054, 118, 1055] (by decide +kernel) (by decide +kernel)
set_option maxHeartbeats 1000000 in
theorem law_7 {g : qG} {b L : Nat} {xs : Nat → Int32} {p : Program} {e : Env} {s : State} {m : MethodId} {below : List Frame} {meth : Method} {c : Code} {n D i : Nat} {σ : qS} {R : qS → Prop} (F : lCtx g b L xs p s m meth c) (hi : i + 6 ≤ L) (hn : n ≤ 512) (hD : D ≤ 100) (hp : lPair g D R mX9_configure mX10_configure [.inl (xs (i + 1)), .inl (xs (i + 2)), .inl (xs (i + 3))] eL_configure σ) (hk : ∀ (u : qS) (a b9 : Option qP), R u → lV g b p e s m below meth c 2400 [none, some (.inr 0), some (.inr 86), some (.inr 122), some (.inr 123), some (.inl (nI i)), a, b9] [] u (n + 1)) (o6 o7 : Option qP) : lV g b p e s m below meth c 441 [none, some (.inr 0), some (.inr 86), some (.inr 122), some (.inr 123), some (.inl (nI i)), o6, o7] [] σ n := by
  have hw9 : qWF g := F.2.2.2.2.2.2.2.2.2.2.2.1
  refine lV_aload_n (k := 1) F dL_law_441 rfl ?_
  refine lV_arg (i := i) (j := 1) F (by omega) rfl rfl dL_law_442 dL_law_443 dL_law_445 dL_law_446 dL_law_447 ?_
  refine lV_arg (i := i) (j := 2) F (by omega) rfl rfl dL_law_448 dL_law_449 dL_law_451 dL_law_452 dL_law_453 ?_
  refine lV_arg (i := i) (j := 3) F (by omega) rfl rfl dL_law_454 dL_law_455 dL_law_457 dL_law_458 dL_law_459 ?_
  refine lV_aload_n (k := 3) F dL_law_460 rfl ?_
  have key : ∀ (k9 : Int32) (u : qS) (Q2 : Int32 → qS → Prop), qC g D mX10_configure (.inr 86 :: [.inl (xs (i + 1)), .inl (xs (i + 2)), .inl (xs (i + 3))]) u Q2 (fun _ _ => False) → (∀ bv u2, Q2 bv u2 → R u2 ∧ u2 86 0 = k9 ∧ (k9 = 0 → bv = u2 122 0)) → lV g b p e s m below meth c 464 [none, some (.inr 0), some (.inr 86), some (.inr 122), some (.inr 123), some (.inl (nI i)), o6, o7] [.inl k9] u (n + 1) := by
    intro k9 u Q2 hq2 hQ2
    refine lV_istore (k := 6) F (by decide) (by decide) dL_law_464 ?_
    refine lV_aload_n (k := 2) F dL_law_466 rfl ?_
    refine lV_arg (i := i) (j := 1) F (by omega) rfl rfl dL_law_467 dL_law_468 dL_law_470 dL_law_471 dL_law_472 ?_
    refine lV_arg (i := i) (j := 2) F (by omega) rfl rfl dL_law_473 dL_law_474 dL_law_476 dL_law_477 dL_law_478 ?_
    refine lV_arg (i := i) (j := 3) F (by omega) rfl rfl dL_law_479 dL_law_480 dL_law_482 dL_law_483 dL_law_484 ?_
    refine lV_call (D := D) (nn := 0) (as := [.inl (xs (i + 1)), .inl (xs (i + 2)), .inl (xs (i + 3))]) (k := 86) (q := (RX10, TX10, 63)) (ty := .int) F rfl rfl rfl (qM_spec (by decide +kernel)) rfl lM_157 rfl (Nat.zero_le _) hD (Nat.zero_le _) (by omega) dL_law_485 hq2 (fun bv u2 hbu => ?_)
    obtain ⟨hR, h0, h1⟩ := hQ2 bv u2 hbu
    refine lV_istore (k := 7) F (by decide) (by decide) dL_law_488 ?_
    exact lV_tail (D := D) F hD (by omega) h0 h1 lM_127 dL_law_490 dL_law_491 dL_law_494 dL_law_496 dL_law_501 dL_law_503 dL_law_506 dL_law_507 dL_law_508 dL_law_509 dL_law_511 dL_law_512 dL_law_513 dL_law_518 rfl (hk u2 _ _ hR)
  refine lV_wrap (na := 5) (as := [.inr 0, .inl (xs (i + 1)), .inl (xs (i + 2)), .inl (xs (i + 3)), .inr 122]) F (lw_configure hw9 (fun E u hE => hE.1) hp) (by decide) hD (by omega) lW_configure (by decide) (by decide +kernel) (by decide) rfl dL_law_461 (fun k9 u hQ => ?_)
  rcases hQ with ⟨rfl, r, u0, hq, rfl⟩ | ⟨j, E, hj, rfl, hTE⟩
  · exact key 0 _ _ hq (fun bv u2 h => ⟨h.1, h.2.1, fun _ => h.2.2⟩)
  · refine key _ u _ (hTE.2 j hj) (fun bv u2 h => ⟨h.1, h.2, fun h0 => ?_⟩)
    exact absurd h0 (nI_ne0 (by omega) (by have := (List.getElem?_eq_some_iff.mp hj).1; have h3 : eL_configure.length ≤ 3 := (by decide); omega))
theorem lM_161 : ∀ w ∈ ([.methodLink RL 161 mX10_begin.1, .instanceMethod mX10_begin.1, .selects mX10_begin.1.cls mX10_begin.1 mX10_begin.1] ++ qcw mX10_begin : List Jvm.Cond), w ∈ qgw := qgw_of [1644, 1645, 1646, 129, 1647] (by decide +kernel) (by decide +kernel)
theorem lW_begin : ∀ w ∈ ([.methodLink RL 158 yL_begin, .static yL_begin, .initialized yL_begin.cls, .codeWith yL_begin cL_begin 3 (some .int) hL_begin] : List Jvm.Cond), w ∈ qgw := qgw_of [1066, 1067, 118, 1068] (by decide +kernel) (by decide +kernel)
set_option maxHeartbeats 1000000 in
theorem law_8 {g : qG} {b L : Nat} {xs : Nat → Int32} {p : Program} {e : Env} {s : State} {m : MethodId} {below : List Frame} {meth : Method} {c : Code} {n D i : Nat} {σ : qS} {R : qS → Prop} (F : lCtx g b L xs p s m meth c) (hi : i + 6 ≤ L) (hn : n ≤ 512) (hD : D ≤ 100) (hp : lPair g D R mX9_begin mX10_begin [] eL_begin σ) (hk : ∀ (u : qS) (a b9 : Option qP), R u → lV g b p e s m below meth c 2400 [none, some (.inr 0), some (.inr 86), some (.inr 122), some (.inr 123), some (.inl (nI i)), a, b9] [] u (n + 1)) (o6 o7 : Option qP) : lV g b p e s m below meth c 521 [none, some (.inr 0), some (.inr 86), some (.inr 122), some (.inr 123), some (.inl (nI i)), o6, o7] [] σ n := by
  have hw9 : qWF g := F.2.2.2.2.2.2.2.2.2.2.2.1
  refine lV_aload_n (k := 1) F dL_law_521 rfl ?_
  refine lV_aload_n (k := 3) F dL_law_522 rfl ?_
  have key : ∀ (k9 : Int32) (u : qS) (Q2 : Int32 → qS → Prop), qC g D mX10_begin (.inr 86 :: []) u Q2 (fun _ _ => False) → (∀ bv u2, Q2 bv u2 → R u2 ∧ u2 86 0 = k9 ∧ (k9 = 0 → bv = u2 122 0)) → lV g b p e s m below meth c 526 [none, some (.inr 0), some (.inr 86), some (.inr 122), some (.inr 123), some (.inl (nI i)), o6, o7] [.inl k9] u (n + 1) := by
    intro k9 u Q2 hq2 hQ2
    refine lV_istore (k := 6) F (by decide) (by decide) dL_law_526 ?_
    refine lV_aload_n (k := 2) F dL_law_528 rfl ?_
    refine lV_call (D := D) (nn := 0) (as := []) (k := 86) (q := (RX10, TX10, 63)) (ty := .int) F rfl rfl rfl (qM_spec (by decide +kernel)) rfl lM_161 rfl (Nat.zero_le _) hD (Nat.zero_le _) (by omega) dL_law_529 hq2 (fun bv u2 hbu => ?_)
    obtain ⟨hR, h0, h1⟩ := hQ2 bv u2 hbu
    refine lV_istore (k := 7) F (by decide) (by decide) dL_law_532 ?_
    exact lV_tail (D := D) F hD (by omega) h0 h1 lM_127 dL_law_534 dL_law_535 dL_law_538 dL_law_540 dL_law_545 dL_law_547 dL_law_550 dL_law_551 dL_law_552 dL_law_553 dL_law_555 dL_law_556 dL_law_557 dL_law_562 rfl (hk u2 _ _ hR)
  refine lV_wrap (na := 2) (as := [.inr 0, .inr 122]) F (lw_begin hw9 (fun E u hE => hE.1) hp) (by decide) hD (by omega) lW_begin (by decide) (by decide +kernel) (by decide) rfl dL_law_523 (fun k9 u hQ => ?_)
  rcases hQ with ⟨rfl, r, u0, hq, rfl⟩ | ⟨j, E, hj, rfl, hTE⟩
  · exact key 0 _ _ hq (fun bv u2 h => ⟨h.1, h.2.1, fun _ => h.2.2⟩)
  · refine key _ u _ (hTE.2 j hj) (fun bv u2 h => ⟨h.1, h.2, fun h0 => ?_⟩)
    exact absurd h0 (nI_ne0 (by omega) (by have := (List.getElem?_eq_some_iff.mp hj).1; have h3 : eL_begin.length ≤ 3 := (by decide); omega))
theorem lM_164 : ∀ w ∈ ([.methodLink RL 164 mX10_commit.1, .instanceMethod mX10_commit.1, .selects mX10_commit.1.cls mX10_commit.1 mX10_commit.1] ++ qcw mX10_commit : List Jvm.Cond), w ∈ qgw := qgw_of [1738, 1739, 1740, 129, 1741] (by decide +kernel) (by decide +kernel)
theorem lW_commit : ∀ w ∈ ([.methodLink RL 162 yL_commit, .static yL_commit, .initialized yL_commit.cls, .codeWith yL_commit cL_commit 4 (some .int) hL_commit] : List Jvm.Cond), w ∈ qgw := qgw_of [1073, 1074, 118, 1075] (by decide +kernel) (by decide +kernel)
set_option maxHeartbeats 1000000 in
theorem law_9 {g : qG} {b L : Nat} {xs : Nat → Int32} {p : Program} {e : Env} {s : State} {m : MethodId} {below : List Frame} {meth : Method} {c : Code} {n D i : Nat} {σ : qS} {R : qS → Prop} (F : lCtx g b L xs p s m meth c) (hi : i + 6 ≤ L) (hn : n ≤ 512) (hD : D ≤ 100) (hp : lPair g D R mX9_commit mX10_commit [.inl (xs (i + 1))] eL_commit σ) (hk : ∀ (u : qS) (a b9 : Option qP), R u → lV g b p e s m below meth c 2400 [none, some (.inr 0), some (.inr 86), some (.inr 122), some (.inr 123), some (.inl (nI i)), a, b9] [] u (n + 1)) (o6 o7 : Option qP) : lV g b p e s m below meth c 565 [none, some (.inr 0), some (.inr 86), some (.inr 122), some (.inr 123), some (.inl (nI i)), o6, o7] [] σ n := by
  have hw9 : qWF g := F.2.2.2.2.2.2.2.2.2.2.2.1
  refine lV_aload_n (k := 1) F dL_law_565 rfl ?_
  refine lV_arg (i := i) (j := 1) F (by omega) rfl rfl dL_law_566 dL_law_567 dL_law_569 dL_law_570 dL_law_571 ?_
  refine lV_aload_n (k := 3) F dL_law_572 rfl ?_
  have key : ∀ (k9 : Int32) (u : qS) (Q2 : Int32 → qS → Prop), qC g D mX10_commit (.inr 86 :: [.inl (xs (i + 1))]) u Q2 (fun _ _ => False) → (∀ bv u2, Q2 bv u2 → R u2 ∧ u2 86 0 = k9 ∧ (k9 = 0 → bv = u2 122 0)) → lV g b p e s m below meth c 576 [none, some (.inr 0), some (.inr 86), some (.inr 122), some (.inr 123), some (.inl (nI i)), o6, o7] [.inl k9] u (n + 1) := by
    intro k9 u Q2 hq2 hQ2
    refine lV_istore (k := 6) F (by decide) (by decide) dL_law_576 ?_
    refine lV_aload_n (k := 2) F dL_law_578 rfl ?_
    refine lV_arg (i := i) (j := 1) F (by omega) rfl rfl dL_law_579 dL_law_580 dL_law_582 dL_law_583 dL_law_584 ?_
    refine lV_call (D := D) (nn := 0) (as := [.inl (xs (i + 1))]) (k := 86) (q := (RX10, TX10, 63)) (ty := .int) F rfl rfl rfl (qM_spec (by decide +kernel)) rfl lM_164 rfl (Nat.zero_le _) hD (Nat.zero_le _) (by omega) dL_law_585 hq2 (fun bv u2 hbu => ?_)
    obtain ⟨hR, h0, h1⟩ := hQ2 bv u2 hbu
    refine lV_istore (k := 7) F (by decide) (by decide) dL_law_588 ?_
    exact lV_tail (D := D) F hD (by omega) h0 h1 lM_127 dL_law_590 dL_law_591 dL_law_594 dL_law_596 dL_law_601 dL_law_603 dL_law_606 dL_law_607 dL_law_608 dL_law_609 dL_law_611 dL_law_612 dL_law_613 dL_law_618 rfl (hk u2 _ _ hR)
  refine lV_wrap (na := 3) (as := [.inr 0, .inl (xs (i + 1)), .inr 122]) F (lw_commit hw9 (fun E u hE => hE.1) hp) (by decide) hD (by omega) lW_commit (by decide) (by decide +kernel) (by decide) rfl dL_law_573 (fun k9 u hQ => ?_)
  rcases hQ with ⟨rfl, r, u0, hq, rfl⟩ | ⟨j, E, hj, rfl, hTE⟩
  · exact key 0 _ _ hq (fun bv u2 h => ⟨h.1, h.2.1, fun _ => h.2.2⟩)
  · refine key _ u _ (hTE.2 j hj) (fun bv u2 h => ⟨h.1, h.2, fun h0 => ?_⟩)
    exact absurd h0 (nI_ne0 (by omega) (by have := (List.getElem?_eq_some_iff.mp hj).1; have h3 : eL_commit.length ≤ 3 := (by decide); omega))
theorem lM_167 : ∀ w ∈ ([.methodLink RL 167 mX10_abort.1, .instanceMethod mX10_abort.1, .selects mX10_abort.1.cls mX10_abort.1 mX10_abort.1] ++ qcw mX10_abort : List Jvm.Cond), w ∈ qgw := qgw_of [1762, 1763, 1764, 129, 1765] (by decide +kernel) (by decide +kernel)
theorem lW_abort : ∀ w ∈ ([.methodLink RL 165 yL_abort, .static yL_abort, .initialized yL_abort.cls, .codeWith yL_abort cL_abort 4 (some .int) hL_abort] : List Jvm.Cond), w ∈ qgw := qgw_of [1081, 1082, 118, 1083] (by decide +kernel) (by decide +kernel)
set_option maxHeartbeats 1000000 in
theorem law_10 {g : qG} {b L : Nat} {xs : Nat → Int32} {p : Program} {e : Env} {s : State} {m : MethodId} {below : List Frame} {meth : Method} {c : Code} {n D i : Nat} {σ : qS} {R : qS → Prop} (F : lCtx g b L xs p s m meth c) (hi : i + 6 ≤ L) (hn : n ≤ 512) (hD : D ≤ 100) (hp : lPair g D R mX9_abort mX10_abort [.inl (xs (i + 1))] eL_abort σ) (hk : ∀ (u : qS) (a b9 : Option qP), R u → lV g b p e s m below meth c 2400 [none, some (.inr 0), some (.inr 86), some (.inr 122), some (.inr 123), some (.inl (nI i)), a, b9] [] u (n + 1)) (o6 o7 : Option qP) : lV g b p e s m below meth c 621 [none, some (.inr 0), some (.inr 86), some (.inr 122), some (.inr 123), some (.inl (nI i)), o6, o7] [] σ n := by
  have hw9 : qWF g := F.2.2.2.2.2.2.2.2.2.2.2.1
  refine lV_aload_n (k := 1) F dL_law_621 rfl ?_
  refine lV_arg (i := i) (j := 1) F (by omega) rfl rfl dL_law_622 dL_law_623 dL_law_625 dL_law_626 dL_law_627 ?_
  refine lV_aload_n (k := 3) F dL_law_628 rfl ?_
  have key : ∀ (k9 : Int32) (u : qS) (Q2 : Int32 → qS → Prop), qC g D mX10_abort (.inr 86 :: [.inl (xs (i + 1))]) u Q2 (fun _ _ => False) → (∀ bv u2, Q2 bv u2 → R u2 ∧ u2 86 0 = k9 ∧ (k9 = 0 → bv = u2 122 0)) → lV g b p e s m below meth c 632 [none, some (.inr 0), some (.inr 86), some (.inr 122), some (.inr 123), some (.inl (nI i)), o6, o7] [.inl k9] u (n + 1) := by
    intro k9 u Q2 hq2 hQ2
    refine lV_istore (k := 6) F (by decide) (by decide) dL_law_632 ?_
    refine lV_aload_n (k := 2) F dL_law_634 rfl ?_
    refine lV_arg (i := i) (j := 1) F (by omega) rfl rfl dL_law_635 dL_law_636 dL_law_638 dL_law_639 dL_law_640 ?_
    refine lV_call (D := D) (nn := 0) (as := [.inl (xs (i + 1))]) (k := 86) (q := (RX10, TX10, 63)) (ty := .int) F rfl rfl rfl (qM_spec (by decide +kernel)) rfl lM_167 rfl (Nat.zero_le _) hD (Nat.zero_le _) (by omega) dL_law_641 hq2 (fun bv u2 hbu => ?_)
    obtain ⟨hR, h0, h1⟩ := hQ2 bv u2 hbu
    refine lV_istore (k := 7) F (by decide) (by decide) dL_law_644 ?_
    exact lV_tail (D := D) F hD (by omega) h0 h1 lM_127 dL_law_646 dL_law_647 dL_law_650 dL_law_652 dL_law_657 dL_law_659 dL_law_662 dL_law_663 dL_law_664 dL_law_665 dL_law_667 dL_law_668 dL_law_669 dL_law_674 rfl (hk u2 _ _ hR)
  refine lV_wrap (na := 3) (as := [.inr 0, .inl (xs (i + 1)), .inr 122]) F (lw_abort hw9 (fun E u hE => hE.1) hp) (by decide) hD (by omega) lW_abort (by decide) (by decide +kernel) (by decide) rfl dL_law_629 (fun k9 u hQ => ?_)
  rcases hQ with ⟨rfl, r, u0, hq, rfl⟩ | ⟨j, E, hj, rfl, hTE⟩
  · exact key 0 _ _ hq (fun bv u2 h => ⟨h.1, h.2.1, fun _ => h.2.2⟩)
  · refine key _ u _ (hTE.2 j hj) (fun bv u2 h => ⟨h.1, h.2, fun h0 => ?_⟩)
    exact absurd h0 (nI_ne0 (by omega) (by have := (List.getElem?_eq_some_iff.mp hj).1; have h3 : eL_abort.length ≤ 3 := (by decide); omega))
theorem lM_171 : ∀ w ∈ ([.methodLink RL 171 mX10_write.1, .instanceMethod mX10_write.1, .selects mX10_write.1.cls mX10_write.1 mX10_write.1] ++ qcw mX10_write : List Jvm.Cond), w ∈ qgw := qgw_of [1766, 1767, 1768, 129, 1769] (by decide +kernel) (by decide +kernel)
theorem lW_write : ∀ w ∈ ([.methodLink RL 168 yL_write, .static yL_write, .initialized yL_write.cls, .codeWith yL_write cL_write 7 (some .int) hL_write] : List Jvm.Cond), w ∈ qgw := qgw_of [1088, 1089, 118, 1090] (by decide +kernel) (by decide +kernel)
set_option maxHeartbeats 1000000 in
theorem law_11 {g : qG} {b L : Nat} {xs : Nat → Int32} {p : Program} {e : Env} {s : State} {m : MethodId} {below : List Frame} {meth : Method} {c : Code} {n D i : Nat} {σ : qS} {R : qS → Prop} (F : lCtx g b L xs p s m meth c) (hi : i + 6 ≤ L) (hn : n ≤ 512) (hD : D ≤ 100) (hp : lPair g D R mX9_write mX10_write [.inl (xs (i + 1)), .inl (xs (i + 2)), .inl (xs (i + 3)), .inl (xs (i + 4))] eL_write σ) (hk : ∀ (u : qS) (a b9 : Option qP), R u → lV g b p e s m below meth c 2400 [none, some (.inr 0), some (.inr 86), some (.inr 122), some (.inr 123), some (.inl (nI i)), a, b9] [] u (n + 1)) (o6 o7 : Option qP) : lV g b p e s m below meth c 677 [none, some (.inr 0), some (.inr 86), some (.inr 122), some (.inr 123), some (.inl (nI i)), o6, o7] [] σ n := by
  have hw9 : qWF g := F.2.2.2.2.2.2.2.2.2.2.2.1
  refine lV_aload_n (k := 1) F dL_law_677 rfl ?_
  refine lV_arg (i := i) (j := 1) F (by omega) rfl rfl dL_law_678 dL_law_679 dL_law_681 dL_law_682 dL_law_683 ?_
  refine lV_arg (i := i) (j := 2) F (by omega) rfl rfl dL_law_684 dL_law_685 dL_law_687 dL_law_688 dL_law_689 ?_
  refine lV_arg (i := i) (j := 3) F (by omega) rfl rfl dL_law_690 dL_law_691 dL_law_693 dL_law_694 dL_law_695 ?_
  refine lV_arg (i := i) (j := 4) F (by omega) rfl rfl dL_law_696 dL_law_697 dL_law_699 dL_law_700 dL_law_701 ?_
  refine lV_aload_n (k := 3) F dL_law_702 rfl ?_
  have key : ∀ (k9 : Int32) (u : qS) (Q2 : Int32 → qS → Prop), qC g D mX10_write (.inr 86 :: [.inl (xs (i + 1)), .inl (xs (i + 2)), .inl (xs (i + 3)), .inl (xs (i + 4))]) u Q2 (fun _ _ => False) → (∀ bv u2, Q2 bv u2 → R u2 ∧ u2 86 0 = k9 ∧ (k9 = 0 → bv = u2 122 0)) → lV g b p e s m below meth c 706 [none, some (.inr 0), some (.inr 86), some (.inr 122), some (.inr 123), some (.inl (nI i)), o6, o7] [.inl k9] u (n + 1) := by
    intro k9 u Q2 hq2 hQ2
    refine lV_istore (k := 6) F (by decide) (by decide) dL_law_706 ?_
    refine lV_aload_n (k := 2) F dL_law_708 rfl ?_
    refine lV_arg (i := i) (j := 1) F (by omega) rfl rfl dL_law_709 dL_law_710 dL_law_712 dL_law_713 dL_law_714 ?_
    refine lV_arg (i := i) (j := 2) F (by omega) rfl rfl dL_law_715 dL_law_716 dL_law_718 dL_law_719 dL_law_720 ?_
    refine lV_arg (i := i) (j := 3) F (by omega) rfl rfl dL_law_721 dL_law_722 dL_law_724 dL_law_725 dL_law_726 ?_
    refine lV_arg (i := i) (j := 4) F (by omega) rfl rfl dL_law_727 dL_law_728 dL_law_730 dL_law_731 dL_law_732 ?_
    refine lV_call (D := D) (nn := 0) (as := [.inl (xs (i + 1)), .inl (xs (i + 2)), .inl (xs (i + 3)), .inl (xs (i + 4))]) (k := 86) (q := (RX10, TX10, 63)) (ty := .int) F rfl rfl rfl (qM_spec (by decide +kernel)) rfl lM_171 rfl (Nat.zero_le _) hD (Nat.zero_le _) (by omega) dL_law_733 hq2 (fun bv u2 hbu => ?_)
    obtain ⟨hR, h0, h1⟩ := hQ2 bv u2 hbu
    refine lV_istore (k := 7) F (by decide) (by decide) dL_law_736 ?_
    exact lV_tail (D := D) F hD (by omega) h0 h1 lM_127 dL_law_738 dL_law_739 dL_law_742 dL_law_744 dL_law_749 dL_law_751 dL_law_754 dL_law_755 dL_law_756 dL_law_757 dL_law_759 dL_law_760 dL_law_761 dL_law_766 rfl (hk u2 _ _ hR)
  refine lV_wrap (na := 6) (as := [.inr 0, .inl (xs (i + 1)), .inl (xs (i + 2)), .inl (xs (i + 3)), .inl (xs (i + 4)), .inr 122]) F (lw_write hw9 (fun E u hE => hE.1) hp) (by decide) hD (by omega) lW_write (by decide) (by decide +kernel) (by decide) rfl dL_law_703 (fun k9 u hQ => ?_)
  rcases hQ with ⟨rfl, r, u0, hq, rfl⟩ | ⟨j, E, hj, rfl, hTE⟩
  · exact key 0 _ _ hq (fun bv u2 h => ⟨h.1, h.2.1, fun _ => h.2.2⟩)
  · refine key _ u _ (hTE.2 j hj) (fun bv u2 h => ⟨h.1, h.2, fun h0 => ?_⟩)
    exact absurd h0 (nI_ne0 (by omega) (by have := (List.getElem?_eq_some_iff.mp hj).1; have h3 : eL_write.length ≤ 3 := (by decide); omega))
theorem lM_175 : ∀ w ∈ ([.methodLink RL 175 mX10_remove.1, .instanceMethod mX10_remove.1, .selects mX10_remove.1.cls mX10_remove.1 mX10_remove.1] ++ qcw mX10_remove : List Jvm.Cond), w ∈ qgw := qgw_of [1785, 1786, 1787, 129, 1788] (by decide +kernel) (by decide +kernel)
theorem lW_remove : ∀ w ∈ ([.methodLink RL 172 yL_remove, .static yL_remove, .initialized yL_remove.cls, .codeWith yL_remove cL_remove 5 (some .int) hL_remove] : List Jvm.Cond), w ∈ qgw := qgw_of [1095, 1096, 118, 1097] (by decide +kernel) (by decide +kernel)
set_option maxHeartbeats 1000000 in
theorem law_12 {g : qG} {b L : Nat} {xs : Nat → Int32} {p : Program} {e : Env} {s : State} {m : MethodId} {below : List Frame} {meth : Method} {c : Code} {n D i : Nat} {σ : qS} {R : qS → Prop} (F : lCtx g b L xs p s m meth c) (hi : i + 6 ≤ L) (hn : n ≤ 512) (hD : D ≤ 100) (hp : lPair g D R mX9_remove mX10_remove [.inl (xs (i + 1)), .inl (xs (i + 2))] eL_remove σ) (hk : ∀ (u : qS) (a b9 : Option qP), R u → lV g b p e s m below meth c 2400 [none, some (.inr 0), some (.inr 86), some (.inr 122), some (.inr 123), some (.inl (nI i)), a, b9] [] u (n + 1)) (o6 o7 : Option qP) : lV g b p e s m below meth c 769 [none, some (.inr 0), some (.inr 86), some (.inr 122), some (.inr 123), some (.inl (nI i)), o6, o7] [] σ n := by
  have hw9 : qWF g := F.2.2.2.2.2.2.2.2.2.2.2.1
  refine lV_aload_n (k := 1) F dL_law_769 rfl ?_
  refine lV_arg (i := i) (j := 1) F (by omega) rfl rfl dL_law_770 dL_law_771 dL_law_773 dL_law_774 dL_law_775 ?_
  refine lV_arg (i := i) (j := 2) F (by omega) rfl rfl dL_law_776 dL_law_777 dL_law_779 dL_law_780 dL_law_781 ?_
  refine lV_aload_n (k := 3) F dL_law_782 rfl ?_
  have key : ∀ (k9 : Int32) (u : qS) (Q2 : Int32 → qS → Prop), qC g D mX10_remove (.inr 86 :: [.inl (xs (i + 1)), .inl (xs (i + 2))]) u Q2 (fun _ _ => False) → (∀ bv u2, Q2 bv u2 → R u2 ∧ u2 86 0 = k9 ∧ (k9 = 0 → bv = u2 122 0)) → lV g b p e s m below meth c 786 [none, some (.inr 0), some (.inr 86), some (.inr 122), some (.inr 123), some (.inl (nI i)), o6, o7] [.inl k9] u (n + 1) := by
    intro k9 u Q2 hq2 hQ2
    refine lV_istore (k := 6) F (by decide) (by decide) dL_law_786 ?_
    refine lV_aload_n (k := 2) F dL_law_788 rfl ?_
    refine lV_arg (i := i) (j := 1) F (by omega) rfl rfl dL_law_789 dL_law_790 dL_law_792 dL_law_793 dL_law_794 ?_
    refine lV_arg (i := i) (j := 2) F (by omega) rfl rfl dL_law_795 dL_law_796 dL_law_798 dL_law_799 dL_law_800 ?_
    refine lV_call (D := D) (nn := 0) (as := [.inl (xs (i + 1)), .inl (xs (i + 2))]) (k := 86) (q := (RX10, TX10, 63)) (ty := .int) F rfl rfl rfl (qM_spec (by decide +kernel)) rfl lM_175 rfl (Nat.zero_le _) hD (Nat.zero_le _) (by omega) dL_law_801 hq2 (fun bv u2 hbu => ?_)
    obtain ⟨hR, h0, h1⟩ := hQ2 bv u2 hbu
    refine lV_istore (k := 7) F (by decide) (by decide) dL_law_804 ?_
    exact lV_tail (D := D) F hD (by omega) h0 h1 lM_127 dL_law_806 dL_law_807 dL_law_810 dL_law_812 dL_law_817 dL_law_819 dL_law_822 dL_law_823 dL_law_824 dL_law_825 dL_law_827 dL_law_828 dL_law_829 dL_law_834 rfl (hk u2 _ _ hR)
  refine lV_wrap (na := 4) (as := [.inr 0, .inl (xs (i + 1)), .inl (xs (i + 2)), .inr 122]) F (lw_remove hw9 (fun E u hE => hE.1) hp) (by decide) hD (by omega) lW_remove (by decide) (by decide +kernel) (by decide) rfl dL_law_783 (fun k9 u hQ => ?_)
  rcases hQ with ⟨rfl, r, u0, hq, rfl⟩ | ⟨j, E, hj, rfl, hTE⟩
  · exact key 0 _ _ hq (fun bv u2 h => ⟨h.1, h.2.1, fun _ => h.2.2⟩)
  · refine key _ u _ (hTE.2 j hj) (fun bv u2 h => ⟨h.1, h.2, fun h0 => ?_⟩)
    exact absurd h0 (nI_ne0 (by omega) (by have := (List.getElem?_eq_some_iff.mp hj).1; have h3 : eL_remove.length ≤ 3 := (by decide); omega))
theorem lM_178 : ∀ w ∈ ([.methodLink RL 178 mX10_copy.1, .instanceMethod mX10_copy.1, .selects mX10_copy.1.cls mX10_copy.1 mX10_copy.1] ++ qcw mX10_copy : List Jvm.Cond), w ∈ qgw := qgw_of [1789, 1790, 1791, 129, 1792] (by decide +kernel) (by decide +kernel)
theorem lW_copy : ∀ w ∈ ([.methodLink RL 176 yL_copy, .static yL_copy, .initialized yL_copy.cls, .codeWith yL_copy cL_copy 6 (some .int) hL_copy] : List Jvm.Cond), w ∈ qgw := qgw_of [1102, 1103, 118, 1104] (by decide +kernel) (by decide +kernel)
set_option maxHeartbeats 1000000 in
theorem law_13 {g : qG} {b L : Nat} {xs : Nat → Int32} {p : Program} {e : Env} {s : State} {m : MethodId} {below : List Frame} {meth : Method} {c : Code} {n D i : Nat} {σ : qS} {R : qS → Prop} (F : lCtx g b L xs p s m meth c) (hi : i + 6 ≤ L) (hn : n ≤ 512) (hD : D ≤ 100) (hp : lPair g D R mX9_copy mX10_copy [.inl (xs (i + 1)), .inl (xs (i + 2)), .inl (xs (i + 3))] eL_copy σ) (hk : ∀ (u : qS) (a b9 : Option qP), R u → lV g b p e s m below meth c 2400 [none, some (.inr 0), some (.inr 86), some (.inr 122), some (.inr 123), some (.inl (nI i)), a, b9] [] u (n + 1)) (o6 o7 : Option qP) : lV g b p e s m below meth c 837 [none, some (.inr 0), some (.inr 86), some (.inr 122), some (.inr 123), some (.inl (nI i)), o6, o7] [] σ n := by
  have hw9 : qWF g := F.2.2.2.2.2.2.2.2.2.2.2.1
  refine lV_aload_n (k := 1) F dL_law_837 rfl ?_
  refine lV_arg (i := i) (j := 1) F (by omega) rfl rfl dL_law_838 dL_law_839 dL_law_841 dL_law_842 dL_law_843 ?_
  refine lV_arg (i := i) (j := 2) F (by omega) rfl rfl dL_law_844 dL_law_845 dL_law_847 dL_law_848 dL_law_849 ?_
  refine lV_arg (i := i) (j := 3) F (by omega) rfl rfl dL_law_850 dL_law_851 dL_law_853 dL_law_854 dL_law_855 ?_
  refine lV_aload_n (k := 3) F dL_law_856 rfl ?_
  have key : ∀ (k9 : Int32) (u : qS) (Q2 : Int32 → qS → Prop), qC g D mX10_copy (.inr 86 :: [.inl (xs (i + 1)), .inl (xs (i + 2)), .inl (xs (i + 3))]) u Q2 (fun _ _ => False) → (∀ bv u2, Q2 bv u2 → R u2 ∧ u2 86 0 = k9 ∧ (k9 = 0 → bv = u2 122 0)) → lV g b p e s m below meth c 860 [none, some (.inr 0), some (.inr 86), some (.inr 122), some (.inr 123), some (.inl (nI i)), o6, o7] [.inl k9] u (n + 1) := by
    intro k9 u Q2 hq2 hQ2
    refine lV_istore (k := 6) F (by decide) (by decide) dL_law_860 ?_
    refine lV_aload_n (k := 2) F dL_law_862 rfl ?_
    refine lV_arg (i := i) (j := 1) F (by omega) rfl rfl dL_law_863 dL_law_864 dL_law_866 dL_law_867 dL_law_868 ?_
    refine lV_arg (i := i) (j := 2) F (by omega) rfl rfl dL_law_869 dL_law_870 dL_law_872 dL_law_873 dL_law_874 ?_
    refine lV_arg (i := i) (j := 3) F (by omega) rfl rfl dL_law_875 dL_law_876 dL_law_878 dL_law_879 dL_law_880 ?_
    refine lV_call (D := D) (nn := 0) (as := [.inl (xs (i + 1)), .inl (xs (i + 2)), .inl (xs (i + 3))]) (k := 86) (q := (RX10, TX10, 63)) (ty := .int) F rfl rfl rfl (qM_spec (by decide +kernel)) rfl lM_178 rfl (Nat.zero_le _) hD (Nat.zero_le _) (by omega) dL_law_881 hq2 (fun bv u2 hbu => ?_)
    obtain ⟨hR, h0, h1⟩ := hQ2 bv u2 hbu
    refine lV_istore (k := 7) F (by decide) (by decide) dL_law_884 ?_
    exact lV_tail (D := D) F hD (by omega) h0 h1 lM_127 dL_law_886 dL_law_887 dL_law_890 dL_law_892 dL_law_897 dL_law_899 dL_law_902 dL_law_903 dL_law_904 dL_law_905 dL_law_907 dL_law_908 dL_law_909 dL_law_914 rfl (hk u2 _ _ hR)
  refine lV_wrap (na := 5) (as := [.inr 0, .inl (xs (i + 1)), .inl (xs (i + 2)), .inl (xs (i + 3)), .inr 122]) F (lw_copy hw9 (fun E u hE => hE.1) hp) (by decide) hD (by omega) lW_copy (by decide) (by decide +kernel) (by decide) rfl dL_law_857 (fun k9 u hQ => ?_)
  rcases hQ with ⟨rfl, r, u0, hq, rfl⟩ | ⟨j, E, hj, rfl, hTE⟩
  · exact key 0 _ _ hq (fun bv u2 h => ⟨h.1, h.2.1, fun _ => h.2.2⟩)
  · refine key _ u _ (hTE.2 j hj) (fun bv u2 h => ⟨h.1, h.2, fun h0 => ?_⟩)
    exact absurd h0 (nI_ne0 (by omega) (by have := (List.getElem?_eq_some_iff.mp hj).1; have h3 : eL_copy.length ≤ 3 := (by decide); omega))
theorem lM_181 : ∀ w ∈ ([.methodLink RL 181 mX10_send.1, .instanceMethod mX10_send.1, .selects mX10_send.1.cls mX10_send.1 mX10_send.1] ++ qcw mX10_send : List Jvm.Cond), w ∈ qgw := qgw_of [1793, 1794, 1795, 129, 1796] (by decide +kernel) (by decide +kernel)
theorem lW_send : ∀ w ∈ ([.methodLink RL 179 yL_send, .static yL_send, .initialized yL_send.cls, .codeWith yL_send cL_send 7 (some .int) hL_send] : List Jvm.Cond), w ∈ qgw := qgw_of [1109, 1110, 118, 1111] (by decide +kernel) (by decide +kernel)
set_option maxHeartbeats 1000000 in
theorem law_14 {g : qG} {b L : Nat} {xs : Nat → Int32} {p : Program} {e : Env} {s : State} {m : MethodId} {below : List Frame} {meth : Method} {c : Code} {n D i : Nat} {σ : qS} {R : qS → Prop} (F : lCtx g b L xs p s m meth c) (hi : i + 6 ≤ L) (hn : n ≤ 512) (hD : D ≤ 100) (hp : lPair g D R mX9_send mX10_send [.inl (xs (i + 1)), .inl (xs (i + 2)), .inl (xs (i + 3)), .inl (xs (i + 4))] eL_send σ) (hk : ∀ (u : qS) (a b9 : Option qP), R u → lV g b p e s m below meth c 2400 [none, some (.inr 0), some (.inr 86), some (.inr 122), some (.inr 123), some (.inl (nI i)), a, b9] [] u (n + 1)) (o6 o7 : Option qP) : lV g b p e s m below meth c 917 [none, some (.inr 0), some (.inr 86), some (.inr 122), some (.inr 123), some (.inl (nI i)), o6, o7] [] σ n := by
  have hw9 : qWF g := F.2.2.2.2.2.2.2.2.2.2.2.1
  refine lV_aload_n (k := 1) F dL_law_917 rfl ?_
  refine lV_arg (i := i) (j := 1) F (by omega) rfl rfl dL_law_918 dL_law_919 dL_law_921 dL_law_922 dL_law_923 ?_
  refine lV_arg (i := i) (j := 2) F (by omega) rfl rfl dL_law_924 dL_law_925 dL_law_927 dL_law_928 dL_law_929 ?_
  refine lV_arg (i := i) (j := 3) F (by omega) rfl rfl dL_law_930 dL_law_931 dL_law_933 dL_law_934 dL_law_935 ?_
  refine lV_arg (i := i) (j := 4) F (by omega) rfl rfl dL_law_936 dL_law_937 dL_law_939 dL_law_940 dL_law_941 ?_
  refine lV_aload_n (k := 3) F dL_law_942 rfl ?_
  have key : ∀ (k9 : Int32) (u : qS) (Q2 : Int32 → qS → Prop), qC g D mX10_send (.inr 86 :: [.inl (xs (i + 1)), .inl (xs (i + 2)), .inl (xs (i + 3)), .inl (xs (i + 4))]) u Q2 (fun _ _ => False) → (∀ bv u2, Q2 bv u2 → R u2 ∧ u2 86 0 = k9 ∧ (k9 = 0 → bv = u2 122 0)) → lV g b p e s m below meth c 946 [none, some (.inr 0), some (.inr 86), some (.inr 122), some (.inr 123), some (.inl (nI i)), o6, o7] [.inl k9] u (n + 1) := by
    intro k9 u Q2 hq2 hQ2
    refine lV_istore (k := 6) F (by decide) (by decide) dL_law_946 ?_
    refine lV_aload_n (k := 2) F dL_law_948 rfl ?_
    refine lV_arg (i := i) (j := 1) F (by omega) rfl rfl dL_law_949 dL_law_950 dL_law_952 dL_law_953 dL_law_954 ?_
    refine lV_arg (i := i) (j := 2) F (by omega) rfl rfl dL_law_955 dL_law_956 dL_law_958 dL_law_959 dL_law_960 ?_
    refine lV_arg (i := i) (j := 3) F (by omega) rfl rfl dL_law_961 dL_law_962 dL_law_964 dL_law_965 dL_law_966 ?_
    refine lV_arg (i := i) (j := 4) F (by omega) rfl rfl dL_law_967 dL_law_968 dL_law_970 dL_law_971 dL_law_972 ?_
    refine lV_call (D := D) (nn := 0) (as := [.inl (xs (i + 1)), .inl (xs (i + 2)), .inl (xs (i + 3)), .inl (xs (i + 4))]) (k := 86) (q := (RX10, TX10, 63)) (ty := .int) F rfl rfl rfl (qM_spec (by decide +kernel)) rfl lM_181 rfl (Nat.zero_le _) hD (Nat.zero_le _) (by omega) dL_law_973 hq2 (fun bv u2 hbu => ?_)
    obtain ⟨hR, h0, h1⟩ := hQ2 bv u2 hbu
    refine lV_istore (k := 7) F (by decide) (by decide) dL_law_976 ?_
    exact lV_tail (D := D) F hD (by omega) h0 h1 lM_127 dL_law_978 dL_law_979 dL_law_982 dL_law_984 dL_law_989 dL_law_991 dL_law_994 dL_law_995 dL_law_996 dL_law_997 dL_law_999 dL_law_1000 dL_law_1001 dL_law_1006 rfl (hk u2 _ _ hR)
  refine lV_wrap (na := 6) (as := [.inr 0, .inl (xs (i + 1)), .inl (xs (i + 2)), .inl (xs (i + 3)), .inl (xs (i + 4)), .inr 122]) F (lw_send hw9 (fun E u hE => hE.1) hp) (by decide) hD (by omega) lW_send (by decide) (by decide +kernel) (by decide) rfl dL_law_943 (fun k9 u hQ => ?_)
  rcases hQ with ⟨rfl, r, u0, hq, rfl⟩ | ⟨j, E, hj, rfl, hTE⟩
  · exact key 0 _ _ hq (fun bv u2 h => ⟨h.1, h.2.1, fun _ => h.2.2⟩)
  · refine key _ u _ (hTE.2 j hj) (fun bv u2 h => ⟨h.1, h.2, fun h0 => ?_⟩)
    exact absurd h0 (nI_ne0 (by omega) (by have := (List.getElem?_eq_some_iff.mp hj).1; have h3 : eL_send.length ≤ 3 := (by decide); omega))
theorem lM_184 : ∀ w ∈ ([.methodLink RL 184 mX10_join.1, .instanceMethod mX10_join.1, .selects mX10_join.1.cls mX10_join.1 mX10_join.1] ++ qcw mX10_join : List Jvm.Cond), w ∈ qgw := qgw_of [1800, 1801, 1802, 129, 1803] (by decide +kernel) (by decide +kernel)
theorem lW_join : ∀ w ∈ ([.methodLink RL 182 yL_join, .static yL_join, .initialized yL_join.cls, .codeWith yL_join cL_join 4 (some .int) hL_join] : List Jvm.Cond), w ∈ qgw := qgw_of [1116, 1117, 118, 1118] (by decide +kernel) (by decide +kernel)
set_option maxHeartbeats 1000000 in
theorem law_15 {g : qG} {b L : Nat} {xs : Nat → Int32} {p : Program} {e : Env} {s : State} {m : MethodId} {below : List Frame} {meth : Method} {c : Code} {n D i : Nat} {σ : qS} {R : qS → Prop} (F : lCtx g b L xs p s m meth c) (hi : i + 6 ≤ L) (hn : n ≤ 512) (hD : D ≤ 100) (hp : lPair g D R mX9_join mX10_join [.inl (xs (i + 1))] eL_join σ) (hk : ∀ (u : qS) (a b9 : Option qP), R u → lV g b p e s m below meth c 2400 [none, some (.inr 0), some (.inr 86), some (.inr 122), some (.inr 123), some (.inl (nI i)), a, b9] [] u (n + 1)) (o6 o7 : Option qP) : lV g b p e s m below meth c 1009 [none, some (.inr 0), some (.inr 86), some (.inr 122), some (.inr 123), some (.inl (nI i)), o6, o7] [] σ n := by
  have hw9 : qWF g := F.2.2.2.2.2.2.2.2.2.2.2.1
  refine lV_aload_n (k := 1) F dL_law_1009 rfl ?_
  refine lV_arg (i := i) (j := 1) F (by omega) rfl rfl dL_law_1010 dL_law_1011 dL_law_1013 dL_law_1014 dL_law_1015 ?_
  refine lV_aload_n (k := 3) F dL_law_1016 rfl ?_
  have key : ∀ (k9 : Int32) (u : qS) (Q2 : Int32 → qS → Prop), qC g D mX10_join (.inr 86 :: [.inl (xs (i + 1))]) u Q2 (fun _ _ => False) → (∀ bv u2, Q2 bv u2 → R u2 ∧ u2 86 0 = k9 ∧ (k9 = 0 → bv = u2 122 0)) → lV g b p e s m below meth c 1020 [none, some (.inr 0), some (.inr 86), some (.inr 122), some (.inr 123), some (.inl (nI i)), o6, o7] [.inl k9] u (n + 1) := by
    intro k9 u Q2 hq2 hQ2
    refine lV_istore (k := 6) F (by decide) (by decide) dL_law_1020 ?_
    refine lV_aload_n (k := 2) F dL_law_1022 rfl ?_
    refine lV_arg (i := i) (j := 1) F (by omega) rfl rfl dL_law_1023 dL_law_1024 dL_law_1026 dL_law_1027 dL_law_1028 ?_
    refine lV_call (D := D) (nn := 0) (as := [.inl (xs (i + 1))]) (k := 86) (q := (RX10, TX10, 63)) (ty := .int) F rfl rfl rfl (qM_spec (by decide +kernel)) rfl lM_184 rfl (Nat.zero_le _) hD (Nat.zero_le _) (by omega) dL_law_1029 hq2 (fun bv u2 hbu => ?_)
    obtain ⟨hR, h0, h1⟩ := hQ2 bv u2 hbu
    refine lV_istore (k := 7) F (by decide) (by decide) dL_law_1032 ?_
    exact lV_tail (D := D) F hD (by omega) h0 h1 lM_127 dL_law_1034 dL_law_1035 dL_law_1038 dL_law_1040 dL_law_1045 dL_law_1047 dL_law_1050 dL_law_1051 dL_law_1052 dL_law_1053 dL_law_1055 dL_law_1056 dL_law_1057 dL_law_1062 rfl (hk u2 _ _ hR)
  refine lV_wrap (na := 3) (as := [.inr 0, .inl (xs (i + 1)), .inr 122]) F (lw_join hw9 (fun E u hE => hE.1) hp) (by decide) hD (by omega) lW_join (by decide) (by decide +kernel) (by decide) rfl dL_law_1017 (fun k9 u hQ => ?_)
  rcases hQ with ⟨rfl, r, u0, hq, rfl⟩ | ⟨j, E, hj, rfl, hTE⟩
  · exact key 0 _ _ hq (fun bv u2 h => ⟨h.1, h.2.1, fun _ => h.2.2⟩)
  · refine key _ u _ (hTE.2 j hj) (fun bv u2 h => ⟨h.1, h.2, fun h0 => ?_⟩)
    exact absurd h0 (nI_ne0 (by omega) (by have := (List.getElem?_eq_some_iff.mp hj).1; have h3 : eL_join.length ≤ 3 := (by decide); omega))
theorem lM_187 : ∀ w ∈ ([.methodLink RL 187 mX10_read.1, .instanceMethod mX10_read.1, .selects mX10_read.1.cls mX10_read.1 mX10_read.1] ++ qcw mX10_read : List Jvm.Cond), w ∈ qgw := qgw_of [1808, 1809, 1810, 129, 1811] (by decide +kernel) (by decide +kernel)
theorem lW_read : ∀ w ∈ ([.methodLink RL 185 yL_read, .static yL_read, .initialized yL_read.cls, .codeWith yL_read cL_read 5 (some .int) hL_read] : List Jvm.Cond), w ∈ qgw := qgw_of [1123, 1124, 118, 1125] (by decide +kernel) (by decide +kernel)
set_option maxHeartbeats 1000000 in
theorem law_16 {g : qG} {b L : Nat} {xs : Nat → Int32} {p : Program} {e : Env} {s : State} {m : MethodId} {below : List Frame} {meth : Method} {c : Code} {n D i : Nat} {σ : qS} {R : qS → Prop} (F : lCtx g b L xs p s m meth c) (hi : i + 6 ≤ L) (hn : n ≤ 512) (hD : D ≤ 100) (hp : lPair g D R mX9_read mX10_read [.inl (xs (i + 1)), .inl (xs (i + 2))] eL_read σ) (hk : ∀ (u : qS) (a b9 : Option qP), R u → lV g b p e s m below meth c 2400 [none, some (.inr 0), some (.inr 86), some (.inr 122), some (.inr 123), some (.inl (nI i)), a, b9] [] u (n + 1)) (o6 o7 : Option qP) : lV g b p e s m below meth c 1065 [none, some (.inr 0), some (.inr 86), some (.inr 122), some (.inr 123), some (.inl (nI i)), o6, o7] [] σ n := by
  have hw9 : qWF g := F.2.2.2.2.2.2.2.2.2.2.2.1
  refine lV_aload_n (k := 1) F dL_law_1065 rfl ?_
  refine lV_arg (i := i) (j := 1) F (by omega) rfl rfl dL_law_1066 dL_law_1067 dL_law_1069 dL_law_1070 dL_law_1071 ?_
  refine lV_arg (i := i) (j := 2) F (by omega) rfl rfl dL_law_1072 dL_law_1073 dL_law_1075 dL_law_1076 dL_law_1077 ?_
  refine lV_aload_n (k := 3) F dL_law_1078 rfl ?_
  have key : ∀ (k9 : Int32) (u : qS) (Q2 : Int32 → qS → Prop), qC g D mX10_read (.inr 86 :: [.inl (xs (i + 1)), .inl (xs (i + 2))]) u Q2 (fun _ _ => False) → (∀ bv u2, Q2 bv u2 → R u2 ∧ u2 86 0 = k9 ∧ (k9 = 0 → bv = u2 122 0)) → lV g b p e s m below meth c 1082 [none, some (.inr 0), some (.inr 86), some (.inr 122), some (.inr 123), some (.inl (nI i)), o6, o7] [.inl k9] u (n + 1) := by
    intro k9 u Q2 hq2 hQ2
    refine lV_istore (k := 6) F (by decide) (by decide) dL_law_1082 ?_
    refine lV_aload_n (k := 2) F dL_law_1084 rfl ?_
    refine lV_arg (i := i) (j := 1) F (by omega) rfl rfl dL_law_1085 dL_law_1086 dL_law_1088 dL_law_1089 dL_law_1090 ?_
    refine lV_arg (i := i) (j := 2) F (by omega) rfl rfl dL_law_1091 dL_law_1092 dL_law_1094 dL_law_1095 dL_law_1096 ?_
    refine lV_call (D := D) (nn := 0) (as := [.inl (xs (i + 1)), .inl (xs (i + 2))]) (k := 86) (q := (RX10, TX10, 63)) (ty := .int) F rfl rfl rfl (qM_spec (by decide +kernel)) rfl lM_187 rfl (Nat.zero_le _) hD (Nat.zero_le _) (by omega) dL_law_1097 hq2 (fun bv u2 hbu => ?_)
    obtain ⟨hR, h0, h1⟩ := hQ2 bv u2 hbu
    refine lV_istore (k := 7) F (by decide) (by decide) dL_law_1100 ?_
    exact lV_tail (D := D) F hD (by omega) h0 h1 lM_127 dL_law_1102 dL_law_1103 dL_law_1106 dL_law_1108 dL_law_1113 dL_law_1115 dL_law_1118 dL_law_1119 dL_law_1120 dL_law_1121 dL_law_1123 dL_law_1124 dL_law_1125 dL_law_1130 rfl (hk u2 _ _ hR)
  refine lV_wrap (na := 4) (as := [.inr 0, .inl (xs (i + 1)), .inl (xs (i + 2)), .inr 122]) F (lw_read hw9 (fun E u hE => hE.1) hp) (by decide) hD (by omega) lW_read (by decide) (by decide +kernel) (by decide) rfl dL_law_1079 (fun k9 u hQ => ?_)
  rcases hQ with ⟨rfl, r, u0, hq, rfl⟩ | ⟨j, E, hj, rfl, hTE⟩
  · exact key 0 _ _ hq (fun bv u2 h => ⟨h.1, h.2.1, fun _ => h.2.2⟩)
  · refine key _ u _ (hTE.2 j hj) (fun bv u2 h => ⟨h.1, h.2, fun h0 => ?_⟩)
    exact absurd h0 (nI_ne0 (by omega) (by have := (List.getElem?_eq_some_iff.mp hj).1; have h3 : eL_read.length ≤ 3 := (by decide); omega))
theorem lM_190 : ∀ w ∈ ([.methodLink RL 190 mX10_message.1, .instanceMethod mX10_message.1, .selects mX10_message.1.cls mX10_message.1 mX10_message.1] ++ qcw mX10_message : List Jvm.Cond), w ∈ qgw := qgw_of [1820, 1821, 1822, 129, 1823] (by decide +kernel) (by decide +kernel)
theorem lW_message : ∀ w ∈ ([.methodLink RL 188 yL_message, .static yL_message, .initialized yL_message.cls, .codeWith yL_message cL_message 5 (some .int) hL_message] : List Jvm.Cond), w ∈ qgw := qgw_of [1130, 1131, 118, 1132] (by decide +kernel) (by decide +kernel)
set_option maxHeartbeats 1000000 in
theorem law_17 {g : qG} {b L : Nat} {xs : Nat → Int32} {p : Program} {e : Env} {s : State} {m : MethodId} {below : List Frame} {meth : Method} {c : Code} {n D i : Nat} {σ : qS} {R : qS → Prop} (F : lCtx g b L xs p s m meth c) (hi : i + 6 ≤ L) (hn : n ≤ 512) (hD : D ≤ 100) (hp : lPair g D R mX9_message mX10_message [.inl (xs (i + 1)), .inl (xs (i + 2))] eL_message σ) (hk : ∀ (u : qS) (a b9 : Option qP), R u → lV g b p e s m below meth c 2400 [none, some (.inr 0), some (.inr 86), some (.inr 122), some (.inr 123), some (.inl (nI i)), a, b9] [] u (n + 1)) (o6 o7 : Option qP) : lV g b p e s m below meth c 1133 [none, some (.inr 0), some (.inr 86), some (.inr 122), some (.inr 123), some (.inl (nI i)), o6, o7] [] σ n := by
  have hw9 : qWF g := F.2.2.2.2.2.2.2.2.2.2.2.1
  refine lV_aload_n (k := 1) F dL_law_1133 rfl ?_
  refine lV_arg (i := i) (j := 1) F (by omega) rfl rfl dL_law_1134 dL_law_1135 dL_law_1137 dL_law_1138 dL_law_1139 ?_
  refine lV_arg (i := i) (j := 2) F (by omega) rfl rfl dL_law_1140 dL_law_1141 dL_law_1143 dL_law_1144 dL_law_1145 ?_
  refine lV_aload_n (k := 3) F dL_law_1146 rfl ?_
  have key : ∀ (k9 : Int32) (u : qS) (Q2 : Int32 → qS → Prop), qC g D mX10_message (.inr 86 :: [.inl (xs (i + 1)), .inl (xs (i + 2))]) u Q2 (fun _ _ => False) → (∀ bv u2, Q2 bv u2 → R u2 ∧ u2 86 0 = k9 ∧ (k9 = 0 → bv = u2 122 0)) → lV g b p e s m below meth c 1150 [none, some (.inr 0), some (.inr 86), some (.inr 122), some (.inr 123), some (.inl (nI i)), o6, o7] [.inl k9] u (n + 1) := by
    intro k9 u Q2 hq2 hQ2
    refine lV_istore (k := 6) F (by decide) (by decide) dL_law_1150 ?_
    refine lV_aload_n (k := 2) F dL_law_1152 rfl ?_
    refine lV_arg (i := i) (j := 1) F (by omega) rfl rfl dL_law_1153 dL_law_1154 dL_law_1156 dL_law_1157 dL_law_1158 ?_
    refine lV_arg (i := i) (j := 2) F (by omega) rfl rfl dL_law_1159 dL_law_1160 dL_law_1162 dL_law_1163 dL_law_1164 ?_
    refine lV_call (D := D) (nn := 0) (as := [.inl (xs (i + 1)), .inl (xs (i + 2))]) (k := 86) (q := (RX10, TX10, 63)) (ty := .int) F rfl rfl rfl (qM_spec (by decide +kernel)) rfl lM_190 rfl (Nat.zero_le _) hD (Nat.zero_le _) (by omega) dL_law_1165 hq2 (fun bv u2 hbu => ?_)
    obtain ⟨hR, h0, h1⟩ := hQ2 bv u2 hbu
    refine lV_istore (k := 7) F (by decide) (by decide) dL_law_1168 ?_
    exact lV_tail (D := D) F hD (by omega) h0 h1 lM_127 dL_law_1170 dL_law_1171 dL_law_1174 dL_law_1176 dL_law_1181 dL_law_1183 dL_law_1186 dL_law_1187 dL_law_1188 dL_law_1189 dL_law_1191 dL_law_1192 dL_law_1193 dL_law_1198 rfl (hk u2 _ _ hR)
  refine lV_wrap (na := 4) (as := [.inr 0, .inl (xs (i + 1)), .inl (xs (i + 2)), .inr 122]) F (lw_message hw9 (fun E u hE => hE.1) hp) (by decide) hD (by omega) lW_message (by decide) (by decide +kernel) (by decide) rfl dL_law_1147 (fun k9 u hQ => ?_)
  rcases hQ with ⟨rfl, r, u0, hq, rfl⟩ | ⟨j, E, hj, rfl, hTE⟩
  · exact key 0 _ _ hq (fun bv u2 h => ⟨h.1, h.2.1, fun _ => h.2.2⟩)
  · refine key _ u _ (hTE.2 j hj) (fun bv u2 h => ⟨h.1, h.2, fun h0 => ?_⟩)
    exact absurd h0 (nI_ne0 (by omega) (by have := (List.getElem?_eq_some_iff.mp hj).1; have h3 : eL_message.length ≤ 3 := (by decide); omega))
theorem lX_191 : ∀ w ∈ ([.methodLink RL 191 mX9_flush.1, .instanceMethod mX9_flush.1, .selects mX9_flush.1.cls mX9_flush.1 mX9_flush.1] ++ qcw mX9_flush : List Jvm.Cond), w ∈ qgw := qgw_of [899, 900, 901, 119, 902] (by decide +kernel) (by decide +kernel)
theorem lM_194 : ∀ w ∈ ([.methodLink RL 194 mX10_flush.1, .instanceMethod mX10_flush.1, .selects mX10_flush.1.cls mX10_flush.1 mX10_flush.1] ++ qcw mX10_flush : List Jvm.Cond), w ∈ qgw := qgw_of [1824, 1825, 1826, 129, 1827] (by decide +kernel) (by decide +kernel)
theorem law_18 {g : qG} {b L : Nat} {xs : Nat → Int32} {p : Program} {e : Env} {s : State} {m : MethodId} {below : List Frame} {meth : Method} {c : Code} {n D i : Nat} {σ : qS} {R : qS → Prop} (F : lCtx g b L xs p s m meth c) (hi : i + 6 ≤ L) (hn : n ≤ 512) (hD : D ≤ 100) (hp : lPlain g D R mX9_flush mX10_flush σ) (hk : ∀ (u : qS) (a b9 : Option qP), R u → lV g b p e s m below meth c 2400 [none, some (.inr 0), some (.inr 86), some (.inr 122), some (.inr 123), some (.inl (nI i)), a, b9] [] u (n + 1)) (o6 o7 : Option qP) : lV g b p e s m below meth c 1201 [none, some (.inr 0), some (.inr 86), some (.inr 122), some (.inr 123), some (.inl (nI i)), o6, o7] [] σ n := by
  refine lV_aload_n (k := 1) F dL_law_1201 rfl ?_
  refine lV_call (D := D) (nn := 1) (as := []) (k := 0) (q := (RX9, TX9, 4)) (ty := .int) F rfl rfl rfl (qM_spec (by decide +kernel)) rfl lX_191 rfl (Nat.zero_le _) hD (by decide) (by omega) dL_law_1202 hp (fun r u hru => ?_)
  refine lV_aload_n (k := 2) F dL_law_1205 rfl ?_
  refine lV_call (D := D) (nn := 0) (as := []) (k := 86) (q := (RX10, TX10, 63)) (ty := .int) F rfl rfl rfl (qM_spec (by decide +kernel)) rfl lM_194 rfl (Nat.le_of_ble_eq_true rfl) hD (Nat.zero_le _) (by omega) dL_law_1206 hru (fun bv u2 hbu => ?_)
  obtain ⟨hR, rfl⟩ := hbu
  exact lV_eq (tgt := 2400) F dL_law_1209 rfl (hk u2 o6 o7 hR)
theorem lM_197 : ∀ w ∈ ([.methodLink RL 197 mX10_checkpoint.1, .instanceMethod mX10_checkpoint.1, .selects mX10_checkpoint.1.cls mX10_checkpoint.1 mX10_checkpoint.1] ++ qcw mX10_checkpoint : List Jvm.Cond), w ∈ qgw := qgw_of [1828, 1829, 1830, 129, 1831] (by decide +kernel) (by decide +kernel)
theorem lW_checkpoint : ∀ w ∈ ([.methodLink RL 195 yL_checkpoint, .static yL_checkpoint, .initialized yL_checkpoint.cls, .codeWith yL_checkpoint cL_checkpoint 3 (some .int) hL_checkpoint] : List Jvm.Cond), w ∈ qgw := qgw_of [1141, 1142, 118, 1143] (by decide +kernel) (by decide +kernel)
set_option maxHeartbeats 1000000 in
theorem law_19 {g : qG} {b L : Nat} {xs : Nat → Int32} {p : Program} {e : Env} {s : State} {m : MethodId} {below : List Frame} {meth : Method} {c : Code} {n D i : Nat} {σ : qS} {R : qS → Prop} (F : lCtx g b L xs p s m meth c) (hi : i + 6 ≤ L) (hn : n ≤ 512) (hD : D ≤ 100) (hp : lPair g D R mX9_checkpoint mX10_checkpoint [] eL_checkpoint σ) (hk : ∀ (u : qS) (a b9 : Option qP), R u → lV g b p e s m below meth c 2400 [none, some (.inr 0), some (.inr 86), some (.inr 122), some (.inr 123), some (.inl (nI i)), a, b9] [] u (n + 1)) (o6 o7 : Option qP) : lV g b p e s m below meth c 1214 [none, some (.inr 0), some (.inr 86), some (.inr 122), some (.inr 123), some (.inl (nI i)), o6, o7] [] σ n := by
  have hw9 : qWF g := F.2.2.2.2.2.2.2.2.2.2.2.1
  refine lV_aload_n (k := 1) F dL_law_1214 rfl ?_
  refine lV_aload_n (k := 3) F dL_law_1215 rfl ?_
  have key : ∀ (k9 : Int32) (u : qS) (Q2 : Int32 → qS → Prop), qC g D mX10_checkpoint (.inr 86 :: []) u Q2 (fun _ _ => False) → (∀ bv u2, Q2 bv u2 → R u2 ∧ u2 86 0 = k9 ∧ (k9 = 0 → bv = u2 122 0)) → lV g b p e s m below meth c 1219 [none, some (.inr 0), some (.inr 86), some (.inr 122), some (.inr 123), some (.inl (nI i)), o6, o7] [.inl k9] u (n + 1) := by
    intro k9 u Q2 hq2 hQ2
    refine lV_istore (k := 6) F (by decide) (by decide) dL_law_1219 ?_
    refine lV_aload_n (k := 2) F dL_law_1221 rfl ?_
    refine lV_call (D := D) (nn := 0) (as := []) (k := 86) (q := (RX10, TX10, 63)) (ty := .int) F rfl rfl rfl (qM_spec (by decide +kernel)) rfl lM_197 rfl (Nat.zero_le _) hD (Nat.zero_le _) (by omega) dL_law_1222 hq2 (fun bv u2 hbu => ?_)
    obtain ⟨hR, h0, h1⟩ := hQ2 bv u2 hbu
    refine lV_istore (k := 7) F (by decide) (by decide) dL_law_1225 ?_
    exact lV_tail (D := D) F hD (by omega) h0 h1 lM_127 dL_law_1227 dL_law_1228 dL_law_1231 dL_law_1233 dL_law_1238 dL_law_1240 dL_law_1243 dL_law_1244 dL_law_1245 dL_law_1246 dL_law_1248 dL_law_1249 dL_law_1250 dL_law_1255 rfl (hk u2 _ _ hR)
  refine lV_wrap (na := 2) (as := [.inr 0, .inr 122]) F (lw_checkpoint hw9 (fun E u hE => hE.1) hp) (by decide) hD (by omega) lW_checkpoint (by decide) (by decide +kernel) (by decide) rfl dL_law_1216 (fun k9 u hQ => ?_)
  rcases hQ with ⟨rfl, r, u0, hq, rfl⟩ | ⟨j, E, hj, rfl, hTE⟩
  · exact key 0 _ _ hq (fun bv u2 h => ⟨h.1, h.2.1, fun _ => h.2.2⟩)
  · refine key _ u _ (hTE.2 j hj) (fun bv u2 h => ⟨h.1, h.2, fun h0 => ?_⟩)
    exact absurd h0 (nI_ne0 (by omega) (by have := (List.getElem?_eq_some_iff.mp hj).1; have h3 : eL_checkpoint.length ≤ 3 := (by decide); omega))
theorem lM_200 : ∀ w ∈ ([.methodLink RL 200 mX10_damage.1, .instanceMethod mX10_damage.1, .selects mX10_damage.1.cls mX10_damage.1 mX10_damage.1] ++ qcw mX10_damage : List Jvm.Cond), w ∈ qgw := qgw_of [1840, 1841, 1842, 129, 1843] (by decide +kernel) (by decide +kernel)
theorem lW_damage : ∀ w ∈ ([.methodLink RL 198 yL_damage, .static yL_damage, .initialized yL_damage.cls, .codeWith yL_damage cL_damage 4 (some .int) hL_damage] : List Jvm.Cond), w ∈ qgw := qgw_of [1148, 1149, 118, 1150] (by decide +kernel) (by decide +kernel)
set_option maxHeartbeats 1000000 in
theorem law_20 {g : qG} {b L : Nat} {xs : Nat → Int32} {p : Program} {e : Env} {s : State} {m : MethodId} {below : List Frame} {meth : Method} {c : Code} {n D i : Nat} {σ : qS} {R : qS → Prop} (F : lCtx g b L xs p s m meth c) (hi : i + 6 ≤ L) (hn : n ≤ 512) (hD : D ≤ 100) (hp : lPair g D R mX9_damage mX10_damage [.inl (xs (i + 1))] eL_damage σ) (hk : ∀ (u : qS) (a b9 : Option qP), R u → lV g b p e s m below meth c 2400 [none, some (.inr 0), some (.inr 86), some (.inr 122), some (.inr 123), some (.inl (nI i)), a, b9] [] u (n + 1)) (o6 o7 : Option qP) : lV g b p e s m below meth c 1258 [none, some (.inr 0), some (.inr 86), some (.inr 122), some (.inr 123), some (.inl (nI i)), o6, o7] [] σ n := by
  have hw9 : qWF g := F.2.2.2.2.2.2.2.2.2.2.2.1
  refine lV_aload_n (k := 1) F dL_law_1258 rfl ?_
  refine lV_arg (i := i) (j := 1) F (by omega) rfl rfl dL_law_1259 dL_law_1260 dL_law_1262 dL_law_1263 dL_law_1264 ?_
  refine lV_aload_n (k := 3) F dL_law_1265 rfl ?_
  have key : ∀ (k9 : Int32) (u : qS) (Q2 : Int32 → qS → Prop), qC g D mX10_damage (.inr 86 :: [.inl (xs (i + 1))]) u Q2 (fun _ _ => False) → (∀ bv u2, Q2 bv u2 → R u2 ∧ u2 86 0 = k9 ∧ (k9 = 0 → bv = u2 122 0)) → lV g b p e s m below meth c 1269 [none, some (.inr 0), some (.inr 86), some (.inr 122), some (.inr 123), some (.inl (nI i)), o6, o7] [.inl k9] u (n + 1) := by
    intro k9 u Q2 hq2 hQ2
    refine lV_istore (k := 6) F (by decide) (by decide) dL_law_1269 ?_
    refine lV_aload_n (k := 2) F dL_law_1271 rfl ?_
    refine lV_arg (i := i) (j := 1) F (by omega) rfl rfl dL_law_1272 dL_law_1273 dL_law_1275 dL_law_1276 dL_law_1277 ?_
    refine lV_call (D := D) (nn := 0) (as := [.inl (xs (i + 1))]) (k := 86) (q := (RX10, TX10, 63)) (ty := .int) F rfl rfl rfl (qM_spec (by decide +kernel)) rfl lM_200 rfl (Nat.zero_le _) hD (Nat.zero_le _) (by omega) dL_law_1278 hq2 (fun bv u2 hbu => ?_)
    obtain ⟨hR, h0, h1⟩ := hQ2 bv u2 hbu
    refine lV_istore (k := 7) F (by decide) (by decide) dL_law_1281 ?_
    exact lV_tail (D := D) F hD (by omega) h0 h1 lM_127 dL_law_1283 dL_law_1284 dL_law_1287 dL_law_1289 dL_law_1294 dL_law_1296 dL_law_1299 dL_law_1300 dL_law_1301 dL_law_1302 dL_law_1304 dL_law_1305 dL_law_1306 dL_law_1311 rfl (hk u2 _ _ hR)
  refine lV_wrap (na := 3) (as := [.inr 0, .inl (xs (i + 1)), .inr 122]) F (lw_damage hw9 (fun E u hE => hE.1) hp) (by decide) hD (by omega) lW_damage (by decide) (by decide +kernel) (by decide) rfl dL_law_1266 (fun k9 u hQ => ?_)
  rcases hQ with ⟨rfl, r, u0, hq, rfl⟩ | ⟨j, E, hj, rfl, hTE⟩
  · exact key 0 _ _ hq (fun bv u2 h => ⟨h.1, h.2.1, fun _ => h.2.2⟩)
  · refine key _ u _ (hTE.2 j hj) (fun bv u2 h => ⟨h.1, h.2, fun h0 => ?_⟩)
    exact absurd h0 (nI_ne0 (by omega) (by have := (List.getElem?_eq_some_iff.mp hj).1; have h3 : eL_damage.length ≤ 3 := (by decide); omega))
theorem lM_203 : ∀ w ∈ ([.methodLink RL 203 mX10_crash.1, .instanceMethod mX10_crash.1, .selects mX10_crash.1.cls mX10_crash.1 mX10_crash.1] ++ qcw mX10_crash : List Jvm.Cond), w ∈ qgw := qgw_of [1852, 1853, 1854, 129, 1855] (by decide +kernel) (by decide +kernel)
theorem lW_crash : ∀ w ∈ ([.methodLink RL 201 yL_crash, .static yL_crash, .initialized yL_crash.cls, .codeWith yL_crash cL_crash 4 (some .int) hL_crash] : List Jvm.Cond), w ∈ qgw := qgw_of [1166, 1167, 118, 1168] (by decide +kernel) (by decide +kernel)
set_option maxHeartbeats 1000000 in
theorem law_21 {g : qG} {b L : Nat} {xs : Nat → Int32} {p : Program} {e : Env} {s : State} {m : MethodId} {below : List Frame} {meth : Method} {c : Code} {n D i : Nat} {σ : qS} {R : qS → Prop} (F : lCtx g b L xs p s m meth c) (hi : i + 6 ≤ L) (hn : n ≤ 512) (hD : D ≤ 100) (hp : lPair g D R mX9_crash mX10_crash [.inl (xs (i + 1))] eL_crash σ) (hk : ∀ (u : qS) (a b9 : Option qP), R u → lV g b p e s m below meth c 2400 [none, some (.inr 0), some (.inr 86), some (.inr 122), some (.inr 123), some (.inl (nI i)), a, b9] [] u (n + 1)) (o6 o7 : Option qP) : lV g b p e s m below meth c 1314 [none, some (.inr 0), some (.inr 86), some (.inr 122), some (.inr 123), some (.inl (nI i)), o6, o7] [] σ n := by
  have hw9 : qWF g := F.2.2.2.2.2.2.2.2.2.2.2.1
  refine lV_aload_n (k := 1) F dL_law_1314 rfl ?_
  refine lV_arg (i := i) (j := 1) F (by omega) rfl rfl dL_law_1315 dL_law_1316 dL_law_1318 dL_law_1319 dL_law_1320 ?_
  refine lV_aload_n (k := 3) F dL_law_1321 rfl ?_
  have key : ∀ (k9 : Int32) (u : qS) (Q2 : Int32 → qS → Prop), qC g D mX10_crash (.inr 86 :: [.inl (xs (i + 1))]) u Q2 (fun _ _ => False) → (∀ bv u2, Q2 bv u2 → R u2 ∧ u2 86 0 = k9 ∧ (k9 = 0 → bv = u2 122 0)) → lV g b p e s m below meth c 1325 [none, some (.inr 0), some (.inr 86), some (.inr 122), some (.inr 123), some (.inl (nI i)), o6, o7] [.inl k9] u (n + 1) := by
    intro k9 u Q2 hq2 hQ2
    refine lV_istore (k := 6) F (by decide) (by decide) dL_law_1325 ?_
    refine lV_aload_n (k := 2) F dL_law_1327 rfl ?_
    refine lV_arg (i := i) (j := 1) F (by omega) rfl rfl dL_law_1328 dL_law_1329 dL_law_1331 dL_law_1332 dL_law_1333 ?_
    refine lV_call (D := D) (nn := 0) (as := [.inl (xs (i + 1))]) (k := 86) (q := (RX10, TX10, 63)) (ty := .int) F rfl rfl rfl (qM_spec (by decide +kernel)) rfl lM_203 rfl (Nat.zero_le _) hD (Nat.zero_le _) (by omega) dL_law_1334 hq2 (fun bv u2 hbu => ?_)
    obtain ⟨hR, h0, h1⟩ := hQ2 bv u2 hbu
    refine lV_istore (k := 7) F (by decide) (by decide) dL_law_1337 ?_
    exact lV_tail (D := D) F hD (by omega) h0 h1 lM_127 dL_law_1339 dL_law_1340 dL_law_1343 dL_law_1345 dL_law_1350 dL_law_1352 dL_law_1355 dL_law_1356 dL_law_1357 dL_law_1358 dL_law_1360 dL_law_1361 dL_law_1362 dL_law_1367 rfl (hk u2 _ _ hR)
  refine lV_wrap (na := 3) (as := [.inr 0, .inl (xs (i + 1)), .inr 122]) F (lw_crash hw9 (fun E u hE => hE.1) hp) (by decide) hD (by omega) lW_crash (by decide) (by decide +kernel) (by decide) rfl dL_law_1322 (fun k9 u hQ => ?_)
  rcases hQ with ⟨rfl, r, u0, hq, rfl⟩ | ⟨j, E, hj, rfl, hTE⟩
  · exact key 0 _ _ hq (fun bv u2 h => ⟨h.1, h.2.1, fun _ => h.2.2⟩)
  · refine key _ u _ (hTE.2 j hj) (fun bv u2 h => ⟨h.1, h.2, fun h0 => ?_⟩)
    exact absurd h0 (nI_ne0 (by omega) (by have := (List.getElem?_eq_some_iff.mp hj).1; have h3 : eL_crash.length ≤ 3 := (by decide); omega))
theorem lM_206 : ∀ w ∈ ([.methodLink RL 206 mX10_state.1, .instanceMethod mX10_state.1, .selects mX10_state.1.cls mX10_state.1 mX10_state.1] ++ qcw mX10_state : List Jvm.Cond), w ∈ qgw := qgw_of [1899, 1900, 1901, 129, 1902] (by decide +kernel) (by decide +kernel)
theorem lW_state : ∀ w ∈ ([.methodLink RL 204 yL_state, .static yL_state, .initialized yL_state.cls, .codeWith yL_state cL_state 4 (some .int) hL_state] : List Jvm.Cond), w ∈ qgw := qgw_of [1201, 1202, 118, 1203] (by decide +kernel) (by decide +kernel)
set_option maxHeartbeats 1000000 in
theorem law_22 {g : qG} {b L : Nat} {xs : Nat → Int32} {p : Program} {e : Env} {s : State} {m : MethodId} {below : List Frame} {meth : Method} {c : Code} {n D i : Nat} {σ : qS} {R : qS → Prop} (F : lCtx g b L xs p s m meth c) (hi : i + 6 ≤ L) (hn : n ≤ 512) (hD : D ≤ 100) (hp : lPair g D R mX9_state mX10_state [.inl (xs (i + 1))] eL_state σ) (hk : ∀ (u : qS) (a b9 : Option qP), R u → lV g b p e s m below meth c 2400 [none, some (.inr 0), some (.inr 86), some (.inr 122), some (.inr 123), some (.inl (nI i)), a, b9] [] u (n + 1)) (o6 o7 : Option qP) : lV g b p e s m below meth c 1370 [none, some (.inr 0), some (.inr 86), some (.inr 122), some (.inr 123), some (.inl (nI i)), o6, o7] [] σ n := by
  have hw9 : qWF g := F.2.2.2.2.2.2.2.2.2.2.2.1
  refine lV_aload_n (k := 1) F dL_law_1370 rfl ?_
  refine lV_arg (i := i) (j := 1) F (by omega) rfl rfl dL_law_1371 dL_law_1372 dL_law_1374 dL_law_1375 dL_law_1376 ?_
  refine lV_aload_n (k := 3) F dL_law_1377 rfl ?_
  have key : ∀ (k9 : Int32) (u : qS) (Q2 : Int32 → qS → Prop), qC g D mX10_state (.inr 86 :: [.inl (xs (i + 1))]) u Q2 (fun _ _ => False) → (∀ bv u2, Q2 bv u2 → R u2 ∧ u2 86 0 = k9 ∧ (k9 = 0 → bv = u2 122 0)) → lV g b p e s m below meth c 1381 [none, some (.inr 0), some (.inr 86), some (.inr 122), some (.inr 123), some (.inl (nI i)), o6, o7] [.inl k9] u (n + 1) := by
    intro k9 u Q2 hq2 hQ2
    refine lV_istore (k := 6) F (by decide) (by decide) dL_law_1381 ?_
    refine lV_aload_n (k := 2) F dL_law_1383 rfl ?_
    refine lV_arg (i := i) (j := 1) F (by omega) rfl rfl dL_law_1384 dL_law_1385 dL_law_1387 dL_law_1388 dL_law_1389 ?_
    refine lV_call (D := D) (nn := 0) (as := [.inl (xs (i + 1))]) (k := 86) (q := (RX10, TX10, 63)) (ty := .int) F rfl rfl rfl (qM_spec (by decide +kernel)) rfl lM_206 rfl (Nat.zero_le _) hD (Nat.zero_le _) (by omega) dL_law_1390 hq2 (fun bv u2 hbu => ?_)
    obtain ⟨hR, h0, h1⟩ := hQ2 bv u2 hbu
    refine lV_istore (k := 7) F (by decide) (by decide) dL_law_1393 ?_
    exact lV_tail (D := D) F hD (by omega) h0 h1 lM_127 dL_law_1395 dL_law_1396 dL_law_1399 dL_law_1401 dL_law_1406 dL_law_1408 dL_law_1411 dL_law_1412 dL_law_1413 dL_law_1414 dL_law_1416 dL_law_1417 dL_law_1418 dL_law_1423 rfl (hk u2 _ _ hR)
  refine lV_wrap (na := 3) (as := [.inr 0, .inl (xs (i + 1)), .inr 122]) F (lw_state hw9 (fun E u hE => hE.1) hp) (by decide) hD (by omega) lW_state (by decide) (by decide +kernel) (by decide) rfl dL_law_1378 (fun k9 u hQ => ?_)
  rcases hQ with ⟨rfl, r, u0, hq, rfl⟩ | ⟨j, E, hj, rfl, hTE⟩
  · exact key 0 _ _ hq (fun bv u2 h => ⟨h.1, h.2.1, fun _ => h.2.2⟩)
  · refine key _ u _ (hTE.2 j hj) (fun bv u2 h => ⟨h.1, h.2, fun h0 => ?_⟩)
    exact absurd h0 (nI_ne0 (by omega) (by have := (List.getElem?_eq_some_iff.mp hj).1; have h3 : eL_state.length ≤ 3 := (by decide); omega))
theorem lM_209 : ∀ w ∈ ([.methodLink RL 209 mX10_record.1, .instanceMethod mX10_record.1, .selects mX10_record.1.cls mX10_record.1 mX10_record.1] ++ qcw mX10_record : List Jvm.Cond), w ∈ qgw := qgw_of [1907, 1908, 1909, 129, 1910] (by decide +kernel) (by decide +kernel)
theorem lW_record : ∀ w ∈ ([.methodLink RL 207 yL_record, .static yL_record, .initialized yL_record.cls, .codeWith yL_record cL_record 5 (some .int) hL_record] : List Jvm.Cond), w ∈ qgw := qgw_of [1216, 1217, 118, 1218] (by decide +kernel) (by decide +kernel)
set_option maxHeartbeats 1000000 in
theorem law_23 {g : qG} {b L : Nat} {xs : Nat → Int32} {p : Program} {e : Env} {s : State} {m : MethodId} {below : List Frame} {meth : Method} {c : Code} {n D i : Nat} {σ : qS} {R : qS → Prop} (F : lCtx g b L xs p s m meth c) (hi : i + 6 ≤ L) (hn : n ≤ 512) (hD : D ≤ 100) (hp : lPair g D R mX9_record mX10_record [.inl (xs (i + 1)), .inl (xs (i + 2))] eL_record σ) (hk : ∀ (u : qS) (a b9 : Option qP), R u → lV g b p e s m below meth c 2400 [none, some (.inr 0), some (.inr 86), some (.inr 122), some (.inr 123), some (.inl (nI i)), a, b9] [] u (n + 1)) (o6 o7 : Option qP) : lV g b p e s m below meth c 1426 [none, some (.inr 0), some (.inr 86), some (.inr 122), some (.inr 123), some (.inl (nI i)), o6, o7] [] σ n := by
  have hw9 : qWF g := F.2.2.2.2.2.2.2.2.2.2.2.1
  refine lV_aload_n (k := 1) F dL_law_1426 rfl ?_
  refine lV_arg (i := i) (j := 1) F (by omega) rfl rfl dL_law_1427 dL_law_1428 dL_law_1430 dL_law_1431 dL_law_1432 ?_
  refine lV_arg (i := i) (j := 2) F (by omega) rfl rfl dL_law_1433 dL_law_1434 dL_law_1436 dL_law_1437 dL_law_1438 ?_
  refine lV_aload_n (k := 3) F dL_law_1439 rfl ?_
  have key : ∀ (k9 : Int32) (u : qS) (Q2 : Int32 → qS → Prop), qC g D mX10_record (.inr 86 :: [.inl (xs (i + 1)), .inl (xs (i + 2))]) u Q2 (fun _ _ => False) → (∀ bv u2, Q2 bv u2 → R u2 ∧ u2 86 0 = k9 ∧ (k9 = 0 → bv = u2 122 0)) → lV g b p e s m below meth c 1443 [none, some (.inr 0), some (.inr 86), some (.inr 122), some (.inr 123), some (.inl (nI i)), o6, o7] [.inl k9] u (n + 1) := by
    intro k9 u Q2 hq2 hQ2
    refine lV_istore (k := 6) F (by decide) (by decide) dL_law_1443 ?_
    refine lV_aload_n (k := 2) F dL_law_1445 rfl ?_
    refine lV_arg (i := i) (j := 1) F (by omega) rfl rfl dL_law_1446 dL_law_1447 dL_law_1449 dL_law_1450 dL_law_1451 ?_
    refine lV_arg (i := i) (j := 2) F (by omega) rfl rfl dL_law_1452 dL_law_1453 dL_law_1455 dL_law_1456 dL_law_1457 ?_
    refine lV_call (D := D) (nn := 0) (as := [.inl (xs (i + 1)), .inl (xs (i + 2))]) (k := 86) (q := (RX10, TX10, 63)) (ty := .int) F rfl rfl rfl (qM_spec (by decide +kernel)) rfl lM_209 rfl (Nat.zero_le _) hD (Nat.zero_le _) (by omega) dL_law_1458 hq2 (fun bv u2 hbu => ?_)
    obtain ⟨hR, h0, h1⟩ := hQ2 bv u2 hbu
    refine lV_istore (k := 7) F (by decide) (by decide) dL_law_1461 ?_
    exact lV_tail (D := D) F hD (by omega) h0 h1 lM_127 dL_law_1463 dL_law_1464 dL_law_1467 dL_law_1469 dL_law_1474 dL_law_1476 dL_law_1479 dL_law_1480 dL_law_1481 dL_law_1482 dL_law_1484 dL_law_1485 dL_law_1486 dL_law_1491 rfl (hk u2 _ _ hR)
  refine lV_wrap (na := 4) (as := [.inr 0, .inl (xs (i + 1)), .inl (xs (i + 2)), .inr 122]) F (lw_record hw9 (fun E u hE => hE.1) hp) (by decide) hD (by omega) lW_record (by decide) (by decide +kernel) (by decide) rfl dL_law_1440 (fun k9 u hQ => ?_)
  rcases hQ with ⟨rfl, r, u0, hq, rfl⟩ | ⟨j, E, hj, rfl, hTE⟩
  · exact key 0 _ _ hq (fun bv u2 h => ⟨h.1, h.2.1, fun _ => h.2.2⟩)
  · refine key _ u _ (hTE.2 j hj) (fun bv u2 h => ⟨h.1, h.2, fun h0 => ?_⟩)
    exact absurd h0 (nI_ne0 (by omega) (by have := (List.getElem?_eq_some_iff.mp hj).1; have h3 : eL_record.length ≤ 3 := (by decide); omega))
theorem lX_210 : ∀ w ∈ ([.methodLink RL 210 mX9_segments.1, .instanceMethod mX9_segments.1, .selects mX9_segments.1.cls mX9_segments.1 mX9_segments.1] ++ qcw mX9_segments : List Jvm.Cond), w ∈ qgw := qgw_of [1015, 1016, 1017, 119, 1018] (by decide +kernel) (by decide +kernel)
theorem lM_213 : ∀ w ∈ ([.methodLink RL 213 mX10_segments.1, .instanceMethod mX10_segments.1, .selects mX10_segments.1.cls mX10_segments.1 mX10_segments.1] ++ qcw mX10_segments : List Jvm.Cond), w ∈ qgw := qgw_of [1915, 1916, 1917, 129, 1918] (by decide +kernel) (by decide +kernel)
theorem law_24 {g : qG} {b L : Nat} {xs : Nat → Int32} {p : Program} {e : Env} {s : State} {m : MethodId} {below : List Frame} {meth : Method} {c : Code} {n D i : Nat} {σ : qS} {R : qS → Prop} (F : lCtx g b L xs p s m meth c) (hi : i + 6 ≤ L) (hn : n ≤ 512) (hD : D ≤ 100) (hp : lPlain g D R mX9_segments mX10_segments σ) (hk : ∀ (u : qS) (a b9 : Option qP), R u → lV g b p e s m below meth c 2400 [none, some (.inr 0), some (.inr 86), some (.inr 122), some (.inr 123), some (.inl (nI i)), a, b9] [] u (n + 1)) (o6 o7 : Option qP) : lV g b p e s m below meth c 1494 [none, some (.inr 0), some (.inr 86), some (.inr 122), some (.inr 123), some (.inl (nI i)), o6, o7] [] σ n := by
  refine lV_aload_n (k := 1) F dL_law_1494 rfl ?_
  refine lV_call (D := D) (nn := 1) (as := []) (k := 0) (q := (RX9, TX9, 4)) (ty := .int) F rfl rfl rfl (qM_spec (by decide +kernel)) rfl lX_210 rfl (Nat.zero_le _) hD (by decide) (by omega) dL_law_1495 hp (fun r u hru => ?_)
  refine lV_aload_n (k := 2) F dL_law_1498 rfl ?_
  refine lV_call (D := D) (nn := 0) (as := []) (k := 86) (q := (RX10, TX10, 63)) (ty := .int) F rfl rfl rfl (qM_spec (by decide +kernel)) rfl lM_213 rfl (Nat.le_of_ble_eq_true rfl) hD (Nat.zero_le _) (by omega) dL_law_1499 hru (fun bv u2 hbu => ?_)
  obtain ⟨hR, rfl⟩ := hbu
  exact lV_eq (tgt := 2400) F dL_law_1502 rfl (hk u2 o6 o7 hR)
theorem lM_216 : ∀ w ∈ ([.methodLink RL 216 mX10_segment.1, .instanceMethod mX10_segment.1, .selects mX10_segment.1.cls mX10_segment.1 mX10_segment.1] ++ qcw mX10_segment : List Jvm.Cond), w ∈ qgw := qgw_of [1919, 1920, 1921, 129, 1922] (by decide +kernel) (by decide +kernel)
theorem lW_segment : ∀ w ∈ ([.methodLink RL 214 yL_segment, .static yL_segment, .initialized yL_segment.cls, .codeWith yL_segment cL_segment 5 (some .int) hL_segment] : List Jvm.Cond), w ∈ qgw := qgw_of [1234, 1235, 118, 1236] (by decide +kernel) (by decide +kernel)
set_option maxHeartbeats 1000000 in
theorem law_25 {g : qG} {b L : Nat} {xs : Nat → Int32} {p : Program} {e : Env} {s : State} {m : MethodId} {below : List Frame} {meth : Method} {c : Code} {n D i : Nat} {σ : qS} {R : qS → Prop} (F : lCtx g b L xs p s m meth c) (hi : i + 6 ≤ L) (hn : n ≤ 512) (hD : D ≤ 100) (hp : lPair g D R mX9_segment mX10_segment [.inl (xs (i + 1)), .inl (xs (i + 2))] eL_segment σ) (hk : ∀ (u : qS) (a b9 : Option qP), R u → lV g b p e s m below meth c 2400 [none, some (.inr 0), some (.inr 86), some (.inr 122), some (.inr 123), some (.inl (nI i)), a, b9] [] u (n + 1)) (o6 o7 : Option qP) : lV g b p e s m below meth c 1507 [none, some (.inr 0), some (.inr 86), some (.inr 122), some (.inr 123), some (.inl (nI i)), o6, o7] [] σ n := by
  have hw9 : qWF g := F.2.2.2.2.2.2.2.2.2.2.2.1
  refine lV_aload_n (k := 1) F dL_law_1507 rfl ?_
  refine lV_arg (i := i) (j := 1) F (by omega) rfl rfl dL_law_1508 dL_law_1509 dL_law_1511 dL_law_1512 dL_law_1513 ?_
  refine lV_arg (i := i) (j := 2) F (by omega) rfl rfl dL_law_1514 dL_law_1515 dL_law_1517 dL_law_1518 dL_law_1519 ?_
  refine lV_aload_n (k := 3) F dL_law_1520 rfl ?_
  have key : ∀ (k9 : Int32) (u : qS) (Q2 : Int32 → qS → Prop), qC g D mX10_segment (.inr 86 :: [.inl (xs (i + 1)), .inl (xs (i + 2))]) u Q2 (fun _ _ => False) → (∀ bv u2, Q2 bv u2 → R u2 ∧ u2 86 0 = k9 ∧ (k9 = 0 → bv = u2 122 0)) → lV g b p e s m below meth c 1524 [none, some (.inr 0), some (.inr 86), some (.inr 122), some (.inr 123), some (.inl (nI i)), o6, o7] [.inl k9] u (n + 1) := by
    intro k9 u Q2 hq2 hQ2
    refine lV_istore (k := 6) F (by decide) (by decide) dL_law_1524 ?_
    refine lV_aload_n (k := 2) F dL_law_1526 rfl ?_
    refine lV_arg (i := i) (j := 1) F (by omega) rfl rfl dL_law_1527 dL_law_1528 dL_law_1530 dL_law_1531 dL_law_1532 ?_
    refine lV_arg (i := i) (j := 2) F (by omega) rfl rfl dL_law_1533 dL_law_1534 dL_law_1536 dL_law_1537 dL_law_1538 ?_
    refine lV_call (D := D) (nn := 0) (as := [.inl (xs (i + 1)), .inl (xs (i + 2))]) (k := 86) (q := (RX10, TX10, 63)) (ty := .int) F rfl rfl rfl (qM_spec (by decide +kernel)) rfl lM_216 rfl (Nat.zero_le _) hD (Nat.zero_le _) (by omega) dL_law_1539 hq2 (fun bv u2 hbu => ?_)
    obtain ⟨hR, h0, h1⟩ := hQ2 bv u2 hbu
    refine lV_istore (k := 7) F (by decide) (by decide) dL_law_1542 ?_
    exact lV_tail (D := D) F hD (by omega) h0 h1 lM_127 dL_law_1544 dL_law_1545 dL_law_1548 dL_law_1550 dL_law_1555 dL_law_1557 dL_law_1560 dL_law_1561 dL_law_1562 dL_law_1563 dL_law_1565 dL_law_1566 dL_law_1567 dL_law_1572 rfl (hk u2 _ _ hR)
  refine lV_wrap (na := 4) (as := [.inr 0, .inl (xs (i + 1)), .inl (xs (i + 2)), .inr 122]) F (lw_segment hw9 (fun E u hE => hE.1) hp) (by decide) hD (by omega) lW_segment (by decide) (by decide +kernel) (by decide) rfl dL_law_1521 (fun k9 u hQ => ?_)
  rcases hQ with ⟨rfl, r, u0, hq, rfl⟩ | ⟨j, E, hj, rfl, hTE⟩
  · exact key 0 _ _ hq (fun bv u2 h => ⟨h.1, h.2.1, fun _ => h.2.2⟩)
  · refine key _ u _ (hTE.2 j hj) (fun bv u2 h => ⟨h.1, h.2, fun h0 => ?_⟩)
    exact absurd h0 (nI_ne0 (by omega) (by have := (List.getElem?_eq_some_iff.mp hj).1; have h3 : eL_segment.length ≤ 3 := (by decide); omega))
theorem lM_223 : ∀ w ∈ ([.methodLink RL 223 mX10_order.1, .instanceMethod mX10_order.1, .selects mX10_order.1.cls mX10_order.1 mX10_order.1] ++ qcw mX10_order : List Jvm.Cond), w ∈ qgw := qgw_of [1895, 1896, 1897, 129, 1898] (by decide +kernel) (by decide +kernel)
theorem lW_order : ∀ w ∈ ([.methodLink RL 221 yL_order, .static yL_order, .initialized yL_order.cls, .codeWith yL_order cL_order 5 (some .int) hL_order] : List Jvm.Cond), w ∈ qgw := qgw_of [1256, 1257, 118, 1258] (by decide +kernel) (by decide +kernel)
set_option maxHeartbeats 1000000 in
theorem law_27 {g : qG} {b L : Nat} {xs : Nat → Int32} {p : Program} {e : Env} {s : State} {m : MethodId} {below : List Frame} {meth : Method} {c : Code} {n D i : Nat} {σ : qS} {R : qS → Prop} (F : lCtx g b L xs p s m meth c) (hi : i + 6 ≤ L) (hn : n ≤ 512) (hD : D ≤ 100) (hp : lPair g D R mX9_order mX10_order [.inl (xs (i + 1)), .inl (xs (i + 2))] eL_order σ) (hk : ∀ (u : qS) (a b9 : Option qP), R u → lV g b p e s m below meth c 2400 [none, some (.inr 0), some (.inr 86), some (.inr 122), some (.inr 123), some (.inl (nI i)), a, b9] [] u (n + 1)) (o6 o7 : Option qP) : lV g b p e s m below meth c 1653 [none, some (.inr 0), some (.inr 86), some (.inr 122), some (.inr 123), some (.inl (nI i)), o6, o7] [] σ n := by
  have hw9 : qWF g := F.2.2.2.2.2.2.2.2.2.2.2.1
  refine lV_aload_n (k := 1) F dL_law_1653 rfl ?_
  refine lV_arg (i := i) (j := 1) F (by omega) rfl rfl dL_law_1654 dL_law_1655 dL_law_1657 dL_law_1658 dL_law_1659 ?_
  refine lV_arg (i := i) (j := 2) F (by omega) rfl rfl dL_law_1660 dL_law_1661 dL_law_1663 dL_law_1664 dL_law_1665 ?_
  refine lV_aload_n (k := 3) F dL_law_1666 rfl ?_
  have key : ∀ (k9 : Int32) (u : qS) (Q2 : Int32 → qS → Prop), qC g D mX10_order (.inr 86 :: [.inl (xs (i + 1)), .inl (xs (i + 2))]) u Q2 (fun _ _ => False) → (∀ bv u2, Q2 bv u2 → R u2 ∧ u2 86 0 = k9 ∧ (k9 = 0 → bv = u2 122 0)) → lV g b p e s m below meth c 1670 [none, some (.inr 0), some (.inr 86), some (.inr 122), some (.inr 123), some (.inl (nI i)), o6, o7] [.inl k9] u (n + 1) := by
    intro k9 u Q2 hq2 hQ2
    refine lV_istore (k := 6) F (by decide) (by decide) dL_law_1670 ?_
    refine lV_aload_n (k := 2) F dL_law_1672 rfl ?_
    refine lV_arg (i := i) (j := 1) F (by omega) rfl rfl dL_law_1673 dL_law_1674 dL_law_1676 dL_law_1677 dL_law_1678 ?_
    refine lV_arg (i := i) (j := 2) F (by omega) rfl rfl dL_law_1679 dL_law_1680 dL_law_1682 dL_law_1683 dL_law_1684 ?_
    refine lV_call (D := D) (nn := 0) (as := [.inl (xs (i + 1)), .inl (xs (i + 2))]) (k := 86) (q := (RX10, TX10, 63)) (ty := .int) F rfl rfl rfl (qM_spec (by decide +kernel)) rfl lM_223 rfl (Nat.zero_le _) hD (Nat.zero_le _) (by omega) dL_law_1685 hq2 (fun bv u2 hbu => ?_)
    obtain ⟨hR, h0, h1⟩ := hQ2 bv u2 hbu
    refine lV_istore (k := 7) F (by decide) (by decide) dL_law_1688 ?_
    exact lV_tail (D := D) F hD (by omega) h0 h1 lM_127 dL_law_1690 dL_law_1691 dL_law_1694 dL_law_1696 dL_law_1701 dL_law_1703 dL_law_1706 dL_law_1707 dL_law_1708 dL_law_1709 dL_law_1711 dL_law_1712 dL_law_1713 dL_law_1718 rfl (hk u2 _ _ hR)
  refine lV_wrap (na := 4) (as := [.inr 0, .inl (xs (i + 1)), .inl (xs (i + 2)), .inr 122]) F (lw_order hw9 (fun E u hE => hE.1) hp) (by decide) hD (by omega) lW_order (by decide) (by decide +kernel) (by decide) rfl dL_law_1667 (fun k9 u hQ => ?_)
  rcases hQ with ⟨rfl, r, u0, hq, rfl⟩ | ⟨j, E, hj, rfl, hTE⟩
  · exact key 0 _ _ hq (fun bv u2 h => ⟨h.1, h.2.1, fun _ => h.2.2⟩)
  · refine key _ u _ (hTE.2 j hj) (fun bv u2 h => ⟨h.1, h.2, fun h0 => ?_⟩)
    exact absurd h0 (nI_ne0 (by omega) (by have := (List.getElem?_eq_some_iff.mp hj).1; have h3 : eL_order.length ≤ 3 := (by decide); omega))
theorem lM_226 : ∀ w ∈ ([.methodLink RL 226 mX10_transaction.1, .instanceMethod mX10_transaction.1, .selects mX10_transaction.1.cls mX10_transaction.1 mX10_transaction.1] ++ qcw mX10_transaction : List Jvm.Cond), w ∈ qgw := qgw_of [1931, 1932, 1933, 129, 1934] (by decide +kernel) (by decide +kernel)
theorem lW_transaction : ∀ w ∈ ([.methodLink RL 224 yL_transaction, .static yL_transaction, .initialized yL_transaction.cls, .codeWith yL_transaction cL_transaction 5 (some .int) hL_transaction] : List Jvm.Cond), w ∈ qgw := qgw_of [1292, 1293, 118, 1294] (by decide +kernel) (by decide +kernel)
set_option maxHeartbeats 1000000 in
theorem law_28 {g : qG} {b L : Nat} {xs : Nat → Int32} {p : Program} {e : Env} {s : State} {m : MethodId} {below : List Frame} {meth : Method} {c : Code} {n D i : Nat} {σ : qS} {R : qS → Prop} (F : lCtx g b L xs p s m meth c) (hi : i + 6 ≤ L) (hn : n ≤ 512) (hD : D ≤ 100) (hp : lPair g D R mX9_transaction mX10_transaction [.inl (xs (i + 1)), .inl (xs (i + 2))] eL_transaction σ) (hk : ∀ (u : qS) (a b9 : Option qP), R u → lV g b p e s m below meth c 2400 [none, some (.inr 0), some (.inr 86), some (.inr 122), some (.inr 123), some (.inl (nI i)), a, b9] [] u (n + 1)) (o6 o7 : Option qP) : lV g b p e s m below meth c 1721 [none, some (.inr 0), some (.inr 86), some (.inr 122), some (.inr 123), some (.inl (nI i)), o6, o7] [] σ n := by
  have hw9 : qWF g := F.2.2.2.2.2.2.2.2.2.2.2.1
  refine lV_aload_n (k := 1) F dL_law_1721 rfl ?_
  refine lV_arg (i := i) (j := 1) F (by omega) rfl rfl dL_law_1722 dL_law_1723 dL_law_1725 dL_law_1726 dL_law_1727 ?_
  refine lV_arg (i := i) (j := 2) F (by omega) rfl rfl dL_law_1728 dL_law_1729 dL_law_1731 dL_law_1732 dL_law_1733 ?_
  refine lV_aload_n (k := 3) F dL_law_1734 rfl ?_
  have key : ∀ (k9 : Int32) (u : qS) (Q2 : Int32 → qS → Prop), qC g D mX10_transaction (.inr 86 :: [.inl (xs (i + 1)), .inl (xs (i + 2))]) u Q2 (fun _ _ => False) → (∀ bv u2, Q2 bv u2 → R u2 ∧ u2 86 0 = k9 ∧ (k9 = 0 → bv = u2 122 0)) → lV g b p e s m below meth c 1738 [none, some (.inr 0), some (.inr 86), some (.inr 122), some (.inr 123), some (.inl (nI i)), o6, o7] [.inl k9] u (n + 1) := by
    intro k9 u Q2 hq2 hQ2
    refine lV_istore (k := 6) F (by decide) (by decide) dL_law_1738 ?_
    refine lV_aload_n (k := 2) F dL_law_1740 rfl ?_
    refine lV_arg (i := i) (j := 1) F (by omega) rfl rfl dL_law_1741 dL_law_1742 dL_law_1744 dL_law_1745 dL_law_1746 ?_
    refine lV_arg (i := i) (j := 2) F (by omega) rfl rfl dL_law_1747 dL_law_1748 dL_law_1750 dL_law_1751 dL_law_1752 ?_
    refine lV_call (D := D) (nn := 0) (as := [.inl (xs (i + 1)), .inl (xs (i + 2))]) (k := 86) (q := (RX10, TX10, 63)) (ty := .int) F rfl rfl rfl (qM_spec (by decide +kernel)) rfl lM_226 rfl (Nat.zero_le _) hD (Nat.zero_le _) (by omega) dL_law_1753 hq2 (fun bv u2 hbu => ?_)
    obtain ⟨hR, h0, h1⟩ := hQ2 bv u2 hbu
    refine lV_istore (k := 7) F (by decide) (by decide) dL_law_1756 ?_
    exact lV_tail (D := D) F hD (by omega) h0 h1 lM_127 dL_law_1758 dL_law_1759 dL_law_1762 dL_law_1764 dL_law_1769 dL_law_1771 dL_law_1774 dL_law_1775 dL_law_1776 dL_law_1777 dL_law_1779 dL_law_1780 dL_law_1781 dL_law_1786 rfl (hk u2 _ _ hR)
  refine lV_wrap (na := 4) (as := [.inr 0, .inl (xs (i + 1)), .inl (xs (i + 2)), .inr 122]) F (lw_transaction hw9 (fun E u hE => hE.1) hp) (by decide) hD (by omega) lW_transaction (by decide) (by decide +kernel) (by decide) rfl dL_law_1735 (fun k9 u hQ => ?_)
  rcases hQ with ⟨rfl, r, u0, hq, rfl⟩ | ⟨j, E, hj, rfl, hTE⟩
  · exact key 0 _ _ hq (fun bv u2 h => ⟨h.1, h.2.1, fun _ => h.2.2⟩)
  · refine key _ u _ (hTE.2 j hj) (fun bv u2 h => ⟨h.1, h.2, fun h0 => ?_⟩)
    exact absurd h0 (nI_ne0 (by omega) (by have := (List.getElem?_eq_some_iff.mp hj).1; have h3 : eL_transaction.length ≤ 3 := (by decide); omega))
theorem lM_229 : ∀ w ∈ ([.methodLink RL 229 mX10_block.1, .instanceMethod mX10_block.1, .selects mX10_block.1.cls mX10_block.1 mX10_block.1] ++ qcw mX10_block : List Jvm.Cond), w ∈ qgw := qgw_of [1864, 1865, 1866, 129, 1867] (by decide +kernel) (by decide +kernel)
theorem lW_block : ∀ w ∈ ([.methodLink RL 227 yL_block, .static yL_block, .initialized yL_block.cls, .codeWith yL_block cL_block 5 (some .int) hL_block] : List Jvm.Cond), w ∈ qgw := qgw_of [1303, 1304, 118, 1305] (by decide +kernel) (by decide +kernel)
set_option maxHeartbeats 1000000 in
theorem law_29 {g : qG} {b L : Nat} {xs : Nat → Int32} {p : Program} {e : Env} {s : State} {m : MethodId} {below : List Frame} {meth : Method} {c : Code} {n D i : Nat} {σ : qS} {R : qS → Prop} (F : lCtx g b L xs p s m meth c) (hi : i + 6 ≤ L) (hn : n ≤ 512) (hD : D ≤ 100) (hp : lPair g D R mX9_block mX10_block [.inl (xs (i + 1)), .inl (xs (i + 2))] eL_block σ) (hk : ∀ (u : qS) (a b9 : Option qP), R u → lV g b p e s m below meth c 2400 [none, some (.inr 0), some (.inr 86), some (.inr 122), some (.inr 123), some (.inl (nI i)), a, b9] [] u (n + 1)) (o6 o7 : Option qP) : lV g b p e s m below meth c 1789 [none, some (.inr 0), some (.inr 86), some (.inr 122), some (.inr 123), some (.inl (nI i)), o6, o7] [] σ n := by
  have hw9 : qWF g := F.2.2.2.2.2.2.2.2.2.2.2.1
  refine lV_aload_n (k := 1) F dL_law_1789 rfl ?_
  refine lV_arg (i := i) (j := 1) F (by omega) rfl rfl dL_law_1790 dL_law_1791 dL_law_1793 dL_law_1794 dL_law_1795 ?_
  refine lV_arg (i := i) (j := 2) F (by omega) rfl rfl dL_law_1796 dL_law_1797 dL_law_1799 dL_law_1800 dL_law_1801 ?_
  refine lV_aload_n (k := 3) F dL_law_1802 rfl ?_
  have key : ∀ (k9 : Int32) (u : qS) (Q2 : Int32 → qS → Prop), qC g D mX10_block (.inr 86 :: [.inl (xs (i + 1)), .inl (xs (i + 2))]) u Q2 (fun _ _ => False) → (∀ bv u2, Q2 bv u2 → R u2 ∧ u2 86 0 = k9 ∧ (k9 = 0 → bv = u2 122 0)) → lV g b p e s m below meth c 1806 [none, some (.inr 0), some (.inr 86), some (.inr 122), some (.inr 123), some (.inl (nI i)), o6, o7] [.inl k9] u (n + 1) := by
    intro k9 u Q2 hq2 hQ2
    refine lV_istore (k := 6) F (by decide) (by decide) dL_law_1806 ?_
    refine lV_aload_n (k := 2) F dL_law_1808 rfl ?_
    refine lV_arg (i := i) (j := 1) F (by omega) rfl rfl dL_law_1809 dL_law_1810 dL_law_1812 dL_law_1813 dL_law_1814 ?_
    refine lV_arg (i := i) (j := 2) F (by omega) rfl rfl dL_law_1815 dL_law_1816 dL_law_1818 dL_law_1819 dL_law_1820 ?_
    refine lV_call (D := D) (nn := 0) (as := [.inl (xs (i + 1)), .inl (xs (i + 2))]) (k := 86) (q := (RX10, TX10, 63)) (ty := .int) F rfl rfl rfl (qM_spec (by decide +kernel)) rfl lM_229 rfl (Nat.zero_le _) hD (Nat.zero_le _) (by omega) dL_law_1821 hq2 (fun bv u2 hbu => ?_)
    obtain ⟨hR, h0, h1⟩ := hQ2 bv u2 hbu
    refine lV_istore (k := 7) F (by decide) (by decide) dL_law_1824 ?_
    exact lV_tail (D := D) F hD (by omega) h0 h1 lM_127 dL_law_1826 dL_law_1827 dL_law_1830 dL_law_1832 dL_law_1837 dL_law_1839 dL_law_1842 dL_law_1843 dL_law_1844 dL_law_1845 dL_law_1847 dL_law_1848 dL_law_1849 dL_law_1854 rfl (hk u2 _ _ hR)
  refine lV_wrap (na := 4) (as := [.inr 0, .inl (xs (i + 1)), .inl (xs (i + 2)), .inr 122]) F (lw_block hw9 (fun E u hE => hE.1) hp) (by decide) hD (by omega) lW_block (by decide) (by decide +kernel) (by decide) rfl dL_law_1803 (fun k9 u hQ => ?_)
  rcases hQ with ⟨rfl, r, u0, hq, rfl⟩ | ⟨j, E, hj, rfl, hTE⟩
  · exact key 0 _ _ hq (fun bv u2 h => ⟨h.1, h.2.1, fun _ => h.2.2⟩)
  · refine key _ u _ (hTE.2 j hj) (fun bv u2 h => ⟨h.1, h.2, fun h0 => ?_⟩)
    exact absurd h0 (nI_ne0 (by omega) (by have := (List.getElem?_eq_some_iff.mp hj).1; have h3 : eL_block.length ≤ 3 := (by decide); omega))
theorem lM_232 : ∀ w ∈ ([.methodLink RL 232 mX10_blockAt.1, .instanceMethod mX10_blockAt.1, .selects mX10_blockAt.1.cls mX10_blockAt.1 mX10_blockAt.1] ++ qcw mX10_blockAt : List Jvm.Cond), w ∈ qgw := qgw_of [1875, 1876, 1877, 129, 1878] (by decide +kernel) (by decide +kernel)
theorem lW_blockAt : ∀ w ∈ ([.methodLink RL 230 yL_blockAt, .static yL_blockAt, .initialized yL_blockAt.cls, .codeWith yL_blockAt cL_blockAt 6 (some .int) hL_blockAt] : List Jvm.Cond), w ∈ qgw := qgw_of [1314, 1315, 118, 1316] (by decide +kernel) (by decide +kernel)
set_option maxHeartbeats 1000000 in
theorem law_30 {g : qG} {b L : Nat} {xs : Nat → Int32} {p : Program} {e : Env} {s : State} {m : MethodId} {below : List Frame} {meth : Method} {c : Code} {n D i : Nat} {σ : qS} {R : qS → Prop} (F : lCtx g b L xs p s m meth c) (hi : i + 6 ≤ L) (hn : n ≤ 512) (hD : D ≤ 100) (hp : lPair g D R mX9_blockAt mX10_blockAt [.inl (xs (i + 1)), .inl (xs (i + 2)), .inl (xs (i + 3))] eL_blockAt σ) (hk : ∀ (u : qS) (a b9 : Option qP), R u → lV g b p e s m below meth c 2400 [none, some (.inr 0), some (.inr 86), some (.inr 122), some (.inr 123), some (.inl (nI i)), a, b9] [] u (n + 1)) (o6 o7 : Option qP) : lV g b p e s m below meth c 1857 [none, some (.inr 0), some (.inr 86), some (.inr 122), some (.inr 123), some (.inl (nI i)), o6, o7] [] σ n := by
  have hw9 : qWF g := F.2.2.2.2.2.2.2.2.2.2.2.1
  refine lV_aload_n (k := 1) F dL_law_1857 rfl ?_
  refine lV_arg (i := i) (j := 1) F (by omega) rfl rfl dL_law_1858 dL_law_1859 dL_law_1861 dL_law_1862 dL_law_1863 ?_
  refine lV_arg (i := i) (j := 2) F (by omega) rfl rfl dL_law_1864 dL_law_1865 dL_law_1867 dL_law_1868 dL_law_1869 ?_
  refine lV_arg (i := i) (j := 3) F (by omega) rfl rfl dL_law_1870 dL_law_1871 dL_law_1873 dL_law_1874 dL_law_1875 ?_
  refine lV_aload_n (k := 3) F dL_law_1876 rfl ?_
  have key : ∀ (k9 : Int32) (u : qS) (Q2 : Int32 → qS → Prop), qC g D mX10_blockAt (.inr 86 :: [.inl (xs (i + 1)), .inl (xs (i + 2)), .inl (xs (i + 3))]) u Q2 (fun _ _ => False) → (∀ bv u2, Q2 bv u2 → R u2 ∧ u2 86 0 = k9 ∧ (k9 = 0 → bv = u2 122 0)) → lV g b p e s m below meth c 1880 [none, some (.inr 0), some (.inr 86), some (.inr 122), some (.inr 123), some (.inl (nI i)), o6, o7] [.inl k9] u (n + 1) := by
    intro k9 u Q2 hq2 hQ2
    refine lV_istore (k := 6) F (by decide) (by decide) dL_law_1880 ?_
    refine lV_aload_n (k := 2) F dL_law_1882 rfl ?_
    refine lV_arg (i := i) (j := 1) F (by omega) rfl rfl dL_law_1883 dL_law_1884 dL_law_1886 dL_law_1887 dL_law_1888 ?_
    refine lV_arg (i := i) (j := 2) F (by omega) rfl rfl dL_law_1889 dL_law_1890 dL_law_1892 dL_law_1893 dL_law_1894 ?_
    refine lV_arg (i := i) (j := 3) F (by omega) rfl rfl dL_law_1895 dL_law_1896 dL_law_1898 dL_law_1899 dL_law_1900 ?_
    refine lV_call (D := D) (nn := 0) (as := [.inl (xs (i + 1)), .inl (xs (i + 2)), .inl (xs (i + 3))]) (k := 86) (q := (RX10, TX10, 63)) (ty := .int) F rfl rfl rfl (qM_spec (by decide +kernel)) rfl lM_232 rfl (Nat.zero_le _) hD (Nat.zero_le _) (by omega) dL_law_1901 hq2 (fun bv u2 hbu => ?_)
    obtain ⟨hR, h0, h1⟩ := hQ2 bv u2 hbu
    refine lV_istore (k := 7) F (by decide) (by decide) dL_law_1904 ?_
    exact lV_tail (D := D) F hD (by omega) h0 h1 lM_127 dL_law_1906 dL_law_1907 dL_law_1910 dL_law_1912 dL_law_1917 dL_law_1919 dL_law_1922 dL_law_1923 dL_law_1924 dL_law_1925 dL_law_1927 dL_law_1928 dL_law_1929 dL_law_1934 rfl (hk u2 _ _ hR)
  refine lV_wrap (na := 5) (as := [.inr 0, .inl (xs (i + 1)), .inl (xs (i + 2)), .inl (xs (i + 3)), .inr 122]) F (lw_blockAt hw9 (fun E u hE => hE.1) hp) (by decide) hD (by omega) lW_blockAt (by decide) (by decide +kernel) (by decide) rfl dL_law_1877 (fun k9 u hQ => ?_)
  rcases hQ with ⟨rfl, r, u0, hq, rfl⟩ | ⟨j, E, hj, rfl, hTE⟩
  · exact key 0 _ _ hq (fun bv u2 h => ⟨h.1, h.2.1, fun _ => h.2.2⟩)
  · refine key _ u _ (hTE.2 j hj) (fun bv u2 h => ⟨h.1, h.2, fun h0 => ?_⟩)
    exact absurd h0 (nI_ne0 (by omega) (by have := (List.getElem?_eq_some_iff.mp hj).1; have h3 : eL_blockAt.length ≤ 3 := (by decide); omega))
theorem lM_235 : ∀ w ∈ ([.methodLink RL 235 mX10_visibleAt.1, .instanceMethod mX10_visibleAt.1, .selects mX10_visibleAt.1.cls mX10_visibleAt.1 mX10_visibleAt.1] ++ qcw mX10_visibleAt : List Jvm.Cond), w ∈ qgw := qgw_of [1883, 1884, 1885, 129, 1886] (by decide +kernel) (by decide +kernel)
theorem lW_visibleAt : ∀ w ∈ ([.methodLink RL 233 yL_visibleAt, .static yL_visibleAt, .initialized yL_visibleAt.cls, .codeWith yL_visibleAt cL_visibleAt 5 (some .int) hL_visibleAt] : List Jvm.Cond), w ∈ qgw := qgw_of [1322, 1323, 118, 1324] (by decide +kernel) (by decide +kernel)
set_option maxHeartbeats 1000000 in
theorem law_31 {g : qG} {b L : Nat} {xs : Nat → Int32} {p : Program} {e : Env} {s : State} {m : MethodId} {below : List Frame} {meth : Method} {c : Code} {n D i : Nat} {σ : qS} {R : qS → Prop} (F : lCtx g b L xs p s m meth c) (hi : i + 6 ≤ L) (hn : n ≤ 512) (hD : D ≤ 100) (hp : lPair g D R mX9_visibleAt mX10_visibleAt [.inl (xs (i + 1)), .inl (xs (i + 2))] eL_visibleAt σ) (hk : ∀ (u : qS) (a b9 : Option qP), R u → lV g b p e s m below meth c 2400 [none, some (.inr 0), some (.inr 86), some (.inr 122), some (.inr 123), some (.inl (nI i)), a, b9] [] u (n + 1)) (o6 o7 : Option qP) : lV g b p e s m below meth c 1937 [none, some (.inr 0), some (.inr 86), some (.inr 122), some (.inr 123), some (.inl (nI i)), o6, o7] [] σ n := by
  have hw9 : qWF g := F.2.2.2.2.2.2.2.2.2.2.2.1
  refine lV_aload_n (k := 1) F dL_law_1937 rfl ?_
  refine lV_arg (i := i) (j := 1) F (by omega) rfl rfl dL_law_1938 dL_law_1939 dL_law_1941 dL_law_1942 dL_law_1943 ?_
  refine lV_arg (i := i) (j := 2) F (by omega) rfl rfl dL_law_1944 dL_law_1945 dL_law_1947 dL_law_1948 dL_law_1949 ?_
  refine lV_aload_n (k := 3) F dL_law_1950 rfl ?_
  have key : ∀ (k9 : Int32) (u : qS) (Q2 : Int32 → qS → Prop), qC g D mX10_visibleAt (.inr 86 :: [.inl (xs (i + 1)), .inl (xs (i + 2))]) u Q2 (fun _ _ => False) → (∀ bv u2, Q2 bv u2 → R u2 ∧ u2 86 0 = k9 ∧ (k9 = 0 → bv = u2 122 0)) → lV g b p e s m below meth c 1954 [none, some (.inr 0), some (.inr 86), some (.inr 122), some (.inr 123), some (.inl (nI i)), o6, o7] [.inl k9] u (n + 1) := by
    intro k9 u Q2 hq2 hQ2
    refine lV_istore (k := 6) F (by decide) (by decide) dL_law_1954 ?_
    refine lV_aload_n (k := 2) F dL_law_1956 rfl ?_
    refine lV_arg (i := i) (j := 1) F (by omega) rfl rfl dL_law_1957 dL_law_1958 dL_law_1960 dL_law_1961 dL_law_1962 ?_
    refine lV_arg (i := i) (j := 2) F (by omega) rfl rfl dL_law_1963 dL_law_1964 dL_law_1966 dL_law_1967 dL_law_1968 ?_
    refine lV_call (D := D) (nn := 0) (as := [.inl (xs (i + 1)), .inl (xs (i + 2))]) (k := 86) (q := (RX10, TX10, 63)) (ty := .int) F rfl rfl rfl (qM_spec (by decide +kernel)) rfl lM_235 rfl (Nat.zero_le _) hD (Nat.zero_le _) (by omega) dL_law_1969 hq2 (fun bv u2 hbu => ?_)
    obtain ⟨hR, h0, h1⟩ := hQ2 bv u2 hbu
    refine lV_istore (k := 7) F (by decide) (by decide) dL_law_1972 ?_
    exact lV_tail (D := D) F hD (by omega) h0 h1 lM_127 dL_law_1974 dL_law_1975 dL_law_1978 dL_law_1980 dL_law_1985 dL_law_1987 dL_law_1990 dL_law_1991 dL_law_1992 dL_law_1993 dL_law_1995 dL_law_1996 dL_law_1997 dL_law_2002 rfl (hk u2 _ _ hR)
  refine lV_wrap (na := 4) (as := [.inr 0, .inl (xs (i + 1)), .inl (xs (i + 2)), .inr 122]) F (lw_visibleAt hw9 (fun E u hE => hE.1) hp) (by decide) hD (by omega) lW_visibleAt (by decide) (by decide +kernel) (by decide) rfl dL_law_1951 (fun k9 u hQ => ?_)
  rcases hQ with ⟨rfl, r, u0, hq, rfl⟩ | ⟨j, E, hj, rfl, hTE⟩
  · exact key 0 _ _ hq (fun bv u2 h => ⟨h.1, h.2.1, fun _ => h.2.2⟩)
  · refine key _ u _ (hTE.2 j hj) (fun bv u2 h => ⟨h.1, h.2, fun h0 => ?_⟩)
    exact absurd h0 (nI_ne0 (by omega) (by have := (List.getElem?_eq_some_iff.mp hj).1; have h3 : eL_visibleAt.length ≤ 3 := (by decide); omega))
theorem lM_238 : ∀ w ∈ ([.methodLink RL 238 mX10_positionAt.1, .instanceMethod mX10_positionAt.1, .selects mX10_positionAt.1.cls mX10_positionAt.1 mX10_positionAt.1] ++ qcw mX10_positionAt : List Jvm.Cond), w ∈ qgw := qgw_of [1887, 1888, 1889, 129, 1890] (by decide +kernel) (by decide +kernel)
theorem lW_positionAt : ∀ w ∈ ([.methodLink RL 236 yL_positionAt, .static yL_positionAt, .initialized yL_positionAt.cls, .codeWith yL_positionAt cL_positionAt 5 (some .int) hL_positionAt] : List Jvm.Cond), w ∈ qgw := qgw_of [1330, 1331, 118, 1332] (by decide +kernel) (by decide +kernel)
set_option maxHeartbeats 1000000 in
theorem law_32 {g : qG} {b L : Nat} {xs : Nat → Int32} {p : Program} {e : Env} {s : State} {m : MethodId} {below : List Frame} {meth : Method} {c : Code} {n D i : Nat} {σ : qS} {R : qS → Prop} (F : lCtx g b L xs p s m meth c) (hi : i + 6 ≤ L) (hn : n ≤ 512) (hD : D ≤ 100) (hp : lPair g D R mX9_positionAt mX10_positionAt [.inl (xs (i + 1)), .inl (xs (i + 2))] eL_positionAt σ) (hk : ∀ (u : qS) (a b9 : Option qP), R u → lV g b p e s m below meth c 2400 [none, some (.inr 0), some (.inr 86), some (.inr 122), some (.inr 123), some (.inl (nI i)), a, b9] [] u (n + 1)) (o6 o7 : Option qP) : lV g b p e s m below meth c 2005 [none, some (.inr 0), some (.inr 86), some (.inr 122), some (.inr 123), some (.inl (nI i)), o6, o7] [] σ n := by
  have hw9 : qWF g := F.2.2.2.2.2.2.2.2.2.2.2.1
  refine lV_aload_n (k := 1) F dL_law_2005 rfl ?_
  refine lV_arg (i := i) (j := 1) F (by omega) rfl rfl dL_law_2006 dL_law_2007 dL_law_2009 dL_law_2010 dL_law_2011 ?_
  refine lV_arg (i := i) (j := 2) F (by omega) rfl rfl dL_law_2012 dL_law_2013 dL_law_2015 dL_law_2016 dL_law_2017 ?_
  refine lV_aload_n (k := 3) F dL_law_2018 rfl ?_
  have key : ∀ (k9 : Int32) (u : qS) (Q2 : Int32 → qS → Prop), qC g D mX10_positionAt (.inr 86 :: [.inl (xs (i + 1)), .inl (xs (i + 2))]) u Q2 (fun _ _ => False) → (∀ bv u2, Q2 bv u2 → R u2 ∧ u2 86 0 = k9 ∧ (k9 = 0 → bv = u2 122 0)) → lV g b p e s m below meth c 2022 [none, some (.inr 0), some (.inr 86), some (.inr 122), some (.inr 123), some (.inl (nI i)), o6, o7] [.inl k9] u (n + 1) := by
    intro k9 u Q2 hq2 hQ2
    refine lV_istore (k := 6) F (by decide) (by decide) dL_law_2022 ?_
    refine lV_aload_n (k := 2) F dL_law_2024 rfl ?_
    refine lV_arg (i := i) (j := 1) F (by omega) rfl rfl dL_law_2025 dL_law_2026 dL_law_2028 dL_law_2029 dL_law_2030 ?_
    refine lV_arg (i := i) (j := 2) F (by omega) rfl rfl dL_law_2031 dL_law_2032 dL_law_2034 dL_law_2035 dL_law_2036 ?_
    refine lV_call (D := D) (nn := 0) (as := [.inl (xs (i + 1)), .inl (xs (i + 2))]) (k := 86) (q := (RX10, TX10, 63)) (ty := .int) F rfl rfl rfl (qM_spec (by decide +kernel)) rfl lM_238 rfl (Nat.zero_le _) hD (Nat.zero_le _) (by omega) dL_law_2037 hq2 (fun bv u2 hbu => ?_)
    obtain ⟨hR, h0, h1⟩ := hQ2 bv u2 hbu
    refine lV_istore (k := 7) F (by decide) (by decide) dL_law_2040 ?_
    exact lV_tail (D := D) F hD (by omega) h0 h1 lM_127 dL_law_2042 dL_law_2043 dL_law_2046 dL_law_2048 dL_law_2053 dL_law_2055 dL_law_2058 dL_law_2059 dL_law_2060 dL_law_2061 dL_law_2063 dL_law_2064 dL_law_2065 dL_law_2070 rfl (hk u2 _ _ hR)
  refine lV_wrap (na := 4) (as := [.inr 0, .inl (xs (i + 1)), .inl (xs (i + 2)), .inr 122]) F (lw_positionAt hw9 (fun E u hE => hE.1) hp) (by decide) hD (by omega) lW_positionAt (by decide) (by decide +kernel) (by decide) rfl dL_law_2019 (fun k9 u hQ => ?_)
  rcases hQ with ⟨rfl, r, u0, hq, rfl⟩ | ⟨j, E, hj, rfl, hTE⟩
  · exact key 0 _ _ hq (fun bv u2 h => ⟨h.1, h.2.1, fun _ => h.2.2⟩)
  · refine key _ u _ (hTE.2 j hj) (fun bv u2 h => ⟨h.1, h.2, fun h0 => ?_⟩)
    exact absurd h0 (nI_ne0 (by omega) (by have := (List.getElem?_eq_some_iff.mp hj).1; have h3 : eL_positionAt.length ≤ 3 := (by decide); omega))
theorem lM_241 : ∀ w ∈ ([.methodLink RL 241 mX10_visible.1, .instanceMethod mX10_visible.1, .selects mX10_visible.1.cls mX10_visible.1 mX10_visible.1] ++ qcw mX10_visible : List Jvm.Cond), w ∈ qgw := qgw_of [1891, 1892, 1893, 129, 1894] (by decide +kernel) (by decide +kernel)
theorem lW_visible : ∀ w ∈ ([.methodLink RL 239 yL_visible, .static yL_visible, .initialized yL_visible.cls, .codeWith yL_visible cL_visible 5 (some .int) hL_visible] : List Jvm.Cond), w ∈ qgw := qgw_of [1342, 1343, 118, 1344] (by decide +kernel) (by decide +kernel)
set_option maxHeartbeats 1000000 in
theorem law_33 {g : qG} {b L : Nat} {xs : Nat → Int32} {p : Program} {e : Env} {s : State} {m : MethodId} {below : List Frame} {meth : Method} {c : Code} {n D i : Nat} {σ : qS} {R : qS → Prop} (F : lCtx g b L xs p s m meth c) (hi : i + 6 ≤ L) (hn : n ≤ 512) (hD : D ≤ 100) (hp : lPair g D R mX9_visible mX10_visible [.inl (xs (i + 1)), .inl (xs (i + 2))] eL_visible σ) (hk : ∀ (u : qS) (a b9 : Option qP), R u → lV g b p e s m below meth c 2400 [none, some (.inr 0), some (.inr 86), some (.inr 122), some (.inr 123), some (.inl (nI i)), a, b9] [] u (n + 1)) (o6 o7 : Option qP) : lV g b p e s m below meth c 2073 [none, some (.inr 0), some (.inr 86), some (.inr 122), some (.inr 123), some (.inl (nI i)), o6, o7] [] σ n := by
  have hw9 : qWF g := F.2.2.2.2.2.2.2.2.2.2.2.1
  refine lV_aload_n (k := 1) F dL_law_2073 rfl ?_
  refine lV_arg (i := i) (j := 1) F (by omega) rfl rfl dL_law_2074 dL_law_2075 dL_law_2077 dL_law_2078 dL_law_2079 ?_
  refine lV_arg (i := i) (j := 2) F (by omega) rfl rfl dL_law_2080 dL_law_2081 dL_law_2083 dL_law_2084 dL_law_2085 ?_
  refine lV_aload_n (k := 3) F dL_law_2086 rfl ?_
  have key : ∀ (k9 : Int32) (u : qS) (Q2 : Int32 → qS → Prop), qC g D mX10_visible (.inr 86 :: [.inl (xs (i + 1)), .inl (xs (i + 2))]) u Q2 (fun _ _ => False) → (∀ bv u2, Q2 bv u2 → R u2 ∧ u2 86 0 = k9 ∧ (k9 = 0 → bv = u2 122 0)) → lV g b p e s m below meth c 2090 [none, some (.inr 0), some (.inr 86), some (.inr 122), some (.inr 123), some (.inl (nI i)), o6, o7] [.inl k9] u (n + 1) := by
    intro k9 u Q2 hq2 hQ2
    refine lV_istore (k := 6) F (by decide) (by decide) dL_law_2090 ?_
    refine lV_aload_n (k := 2) F dL_law_2092 rfl ?_
    refine lV_arg (i := i) (j := 1) F (by omega) rfl rfl dL_law_2093 dL_law_2094 dL_law_2096 dL_law_2097 dL_law_2098 ?_
    refine lV_arg (i := i) (j := 2) F (by omega) rfl rfl dL_law_2099 dL_law_2100 dL_law_2102 dL_law_2103 dL_law_2104 ?_
    refine lV_call (D := D) (nn := 0) (as := [.inl (xs (i + 1)), .inl (xs (i + 2))]) (k := 86) (q := (RX10, TX10, 63)) (ty := .int) F rfl rfl rfl (qM_spec (by decide +kernel)) rfl lM_241 rfl (Nat.zero_le _) hD (Nat.zero_le _) (by omega) dL_law_2105 hq2 (fun bv u2 hbu => ?_)
    obtain ⟨hR, h0, h1⟩ := hQ2 bv u2 hbu
    refine lV_istore (k := 7) F (by decide) (by decide) dL_law_2108 ?_
    exact lV_tail (D := D) F hD (by omega) h0 h1 lM_127 dL_law_2110 dL_law_2111 dL_law_2114 dL_law_2116 dL_law_2121 dL_law_2123 dL_law_2126 dL_law_2127 dL_law_2128 dL_law_2129 dL_law_2131 dL_law_2132 dL_law_2133 dL_law_2138 rfl (hk u2 _ _ hR)
  refine lV_wrap (na := 4) (as := [.inr 0, .inl (xs (i + 1)), .inl (xs (i + 2)), .inr 122]) F (lw_visible hw9 (fun E u hE => hE.1) hp) (by decide) hD (by omega) lW_visible (by decide) (by decide +kernel) (by decide) rfl dL_law_2087 (fun k9 u hQ => ?_)
  rcases hQ with ⟨rfl, r, u0, hq, rfl⟩ | ⟨j, E, hj, rfl, hTE⟩
  · exact key 0 _ _ hq (fun bv u2 h => ⟨h.1, h.2.1, fun _ => h.2.2⟩)
  · refine key _ u _ (hTE.2 j hj) (fun bv u2 h => ⟨h.1, h.2, fun h0 => ?_⟩)
    exact absurd h0 (nI_ne0 (by omega) (by have := (List.getElem?_eq_some_iff.mp hj).1; have h3 : eL_visible.length ≤ 3 := (by decide); omega))
theorem lM_244 : ∀ w ∈ ([.methodLink RL 244 mX10_consumer.1, .instanceMethod mX10_consumer.1, .selects mX10_consumer.1.cls mX10_consumer.1 mX10_consumer.1] ++ qcw mX10_consumer : List Jvm.Cond), w ∈ qgw := qgw_of [1935, 1936, 1937, 129, 1938] (by decide +kernel) (by decide +kernel)
theorem lW_consumer : ∀ w ∈ ([.methodLink RL 242 yL_consumer, .static yL_consumer, .initialized yL_consumer.cls, .codeWith yL_consumer cL_consumer 5 (some .int) hL_consumer] : List Jvm.Cond), w ∈ qgw := qgw_of [1350, 1351, 118, 1352] (by decide +kernel) (by decide +kernel)
set_option maxHeartbeats 1000000 in
theorem law_34 {g : qG} {b L : Nat} {xs : Nat → Int32} {p : Program} {e : Env} {s : State} {m : MethodId} {below : List Frame} {meth : Method} {c : Code} {n D i : Nat} {σ : qS} {R : qS → Prop} (F : lCtx g b L xs p s m meth c) (hi : i + 6 ≤ L) (hn : n ≤ 512) (hD : D ≤ 100) (hp : lPair g D R mX9_consumer mX10_consumer [.inl (xs (i + 1)), .inl (xs (i + 2))] eL_consumer σ) (hk : ∀ (u : qS) (a b9 : Option qP), R u → lV g b p e s m below meth c 2400 [none, some (.inr 0), some (.inr 86), some (.inr 122), some (.inr 123), some (.inl (nI i)), a, b9] [] u (n + 1)) (o6 o7 : Option qP) : lV g b p e s m below meth c 2141 [none, some (.inr 0), some (.inr 86), some (.inr 122), some (.inr 123), some (.inl (nI i)), o6, o7] [] σ n := by
  have hw9 : qWF g := F.2.2.2.2.2.2.2.2.2.2.2.1
  refine lV_aload_n (k := 1) F dL_law_2141 rfl ?_
  refine lV_arg (i := i) (j := 1) F (by omega) rfl rfl dL_law_2142 dL_law_2143 dL_law_2145 dL_law_2146 dL_law_2147 ?_
  refine lV_arg (i := i) (j := 2) F (by omega) rfl rfl dL_law_2148 dL_law_2149 dL_law_2151 dL_law_2152 dL_law_2153 ?_
  refine lV_aload_n (k := 3) F dL_law_2154 rfl ?_
  have key : ∀ (k9 : Int32) (u : qS) (Q2 : Int32 → qS → Prop), qC g D mX10_consumer (.inr 86 :: [.inl (xs (i + 1)), .inl (xs (i + 2))]) u Q2 (fun _ _ => False) → (∀ bv u2, Q2 bv u2 → R u2 ∧ u2 86 0 = k9 ∧ (k9 = 0 → bv = u2 122 0)) → lV g b p e s m below meth c 2158 [none, some (.inr 0), some (.inr 86), some (.inr 122), some (.inr 123), some (.inl (nI i)), o6, o7] [.inl k9] u (n + 1) := by
    intro k9 u Q2 hq2 hQ2
    refine lV_istore (k := 6) F (by decide) (by decide) dL_law_2158 ?_
    refine lV_aload_n (k := 2) F dL_law_2160 rfl ?_
    refine lV_arg (i := i) (j := 1) F (by omega) rfl rfl dL_law_2161 dL_law_2162 dL_law_2164 dL_law_2165 dL_law_2166 ?_
    refine lV_arg (i := i) (j := 2) F (by omega) rfl rfl dL_law_2167 dL_law_2168 dL_law_2170 dL_law_2171 dL_law_2172 ?_
    refine lV_call (D := D) (nn := 0) (as := [.inl (xs (i + 1)), .inl (xs (i + 2))]) (k := 86) (q := (RX10, TX10, 63)) (ty := .int) F rfl rfl rfl (qM_spec (by decide +kernel)) rfl lM_244 rfl (Nat.zero_le _) hD (Nat.zero_le _) (by omega) dL_law_2173 hq2 (fun bv u2 hbu => ?_)
    obtain ⟨hR, h0, h1⟩ := hQ2 bv u2 hbu
    refine lV_istore (k := 7) F (by decide) (by decide) dL_law_2176 ?_
    exact lV_tail (D := D) F hD (by omega) h0 h1 lM_127 dL_law_2178 dL_law_2179 dL_law_2182 dL_law_2184 dL_law_2189 dL_law_2191 dL_law_2194 dL_law_2195 dL_law_2196 dL_law_2197 dL_law_2199 dL_law_2200 dL_law_2201 dL_law_2206 rfl (hk u2 _ _ hR)
  refine lV_wrap (na := 4) (as := [.inr 0, .inl (xs (i + 1)), .inl (xs (i + 2)), .inr 122]) F (lw_consumer hw9 (fun E u hE => hE.1) hp) (by decide) hD (by omega) lW_consumer (by decide) (by decide +kernel) (by decide) rfl dL_law_2155 (fun k9 u hQ => ?_)
  rcases hQ with ⟨rfl, r, u0, hq, rfl⟩ | ⟨j, E, hj, rfl, hTE⟩
  · exact key 0 _ _ hq (fun bv u2 h => ⟨h.1, h.2.1, fun _ => h.2.2⟩)
  · refine key _ u _ (hTE.2 j hj) (fun bv u2 h => ⟨h.1, h.2, fun h0 => ?_⟩)
    exact absurd h0 (nI_ne0 (by omega) (by have := (List.getElem?_eq_some_iff.mp hj).1; have h3 : eL_consumer.length ≤ 3 := (by decide); omega))
theorem lX_248 : ∀ w ∈ ([.methodLink RL 248 mX9_holder.1, .instanceMethod mX9_holder.1, .selects mX9_holder.1.cls mX9_holder.1 mX9_holder.1] ++ qcw mX9_holder : List Jvm.Cond), w ∈ qgw := qgw_of [1023, 1024, 1025, 119, 1026] (by decide +kernel) (by decide +kernel)
theorem lM_251 : ∀ w ∈ ([.methodLink RL 251 mX10_holder.1, .instanceMethod mX10_holder.1, .selects mX10_holder.1.cls mX10_holder.1 mX10_holder.1] ++ qcw mX10_holder : List Jvm.Cond), w ∈ qgw := qgw_of [1947, 1948, 1949, 129, 1950] (by decide +kernel) (by decide +kernel)
theorem law_36 {g : qG} {b L : Nat} {xs : Nat → Int32} {p : Program} {e : Env} {s : State} {m : MethodId} {below : List Frame} {meth : Method} {c : Code} {n D i : Nat} {σ : qS} {R : qS → Prop} (F : lCtx g b L xs p s m meth c) (hi : i + 6 ≤ L) (hn : n ≤ 512) (hD : D ≤ 100) (hp : lPlain g D R mX9_holder mX10_holder σ) (hk : ∀ (u : qS) (a b9 : Option qP), R u → lV g b p e s m below meth c 2400 [none, some (.inr 0), some (.inr 86), some (.inr 122), some (.inr 123), some (.inl (nI i)), a, b9] [] u (n + 1)) (o6 o7 : Option qP) : lV g b p e s m below meth c 2287 [none, some (.inr 0), some (.inr 86), some (.inr 122), some (.inr 123), some (.inl (nI i)), o6, o7] [] σ n := by
  refine lV_aload_n (k := 1) F dL_law_2287 rfl ?_
  refine lV_call (D := D) (nn := 1) (as := []) (k := 0) (q := (RX9, TX9, 4)) (ty := .int) F rfl rfl rfl (qM_spec (by decide +kernel)) rfl lX_248 rfl (Nat.zero_le _) hD (by decide) (by omega) dL_law_2288 hp (fun r u hru => ?_)
  refine lV_aload_n (k := 2) F dL_law_2291 rfl ?_
  refine lV_call (D := D) (nn := 0) (as := []) (k := 86) (q := (RX10, TX10, 63)) (ty := .int) F rfl rfl rfl (qM_spec (by decide +kernel)) rfl lM_251 rfl (Nat.le_of_ble_eq_true rfl) hD (Nat.zero_le _) (by omega) dL_law_2292 hru (fun bv u2 hbu => ?_)
  obtain ⟨hR, rfl⟩ := hbu
  exact lV_eq (tgt := 2400) F dL_law_2295 rfl (hk u2 o6 o7 hR)
theorem lM_254 : ∀ w ∈ ([.methodLink RL 254 mX10_slowest.1, .instanceMethod mX10_slowest.1, .selects mX10_slowest.1.cls mX10_slowest.1 mX10_slowest.1] ++ qcw mX10_slowest : List Jvm.Cond), w ∈ qgw := qgw_of [1951, 1952, 1953, 129, 1954] (by decide +kernel) (by decide +kernel)
theorem lW_slowest : ∀ w ∈ ([.methodLink RL 252 yL_slowest, .static yL_slowest, .initialized yL_slowest.cls, .codeWith yL_slowest cL_slowest 3 (some .int) hL_slowest] : List Jvm.Cond), w ∈ qgw := qgw_of [1377, 1378, 118, 1379] (by decide +kernel) (by decide +kernel)
set_option maxHeartbeats 1000000 in
theorem law_37 {g : qG} {b L : Nat} {xs : Nat → Int32} {p : Program} {e : Env} {s : State} {m : MethodId} {below : List Frame} {meth : Method} {c : Code} {n D i : Nat} {σ : qS} {R : qS → Prop} (F : lCtx g b L xs p s m meth c) (hi : i + 6 ≤ L) (hn : n ≤ 512) (hD : D ≤ 100) (hp : lPair g D R mX9_slowest mX10_slowest [] eL_slowest σ) (hk : ∀ (u : qS) (a b9 : Option qP), R u → lV g b p e s m below meth c 2400 [none, some (.inr 0), some (.inr 86), some (.inr 122), some (.inr 123), some (.inl (nI i)), a, b9] [] u (n + 1)) (o6 o7 : Option qP) : lV g b p e s m below meth c 2300 [none, some (.inr 0), some (.inr 86), some (.inr 122), some (.inr 123), some (.inl (nI i)), o6, o7] [] σ n := by
  have hw9 : qWF g := F.2.2.2.2.2.2.2.2.2.2.2.1
  refine lV_aload_n (k := 1) F dL_law_2300 rfl ?_
  refine lV_aload_n (k := 3) F dL_law_2301 rfl ?_
  have key : ∀ (k9 : Int32) (u : qS) (Q2 : Int32 → qS → Prop), qC g D mX10_slowest (.inr 86 :: []) u Q2 (fun _ _ => False) → (∀ bv u2, Q2 bv u2 → R u2 ∧ u2 86 0 = k9 ∧ (k9 = 0 → bv = u2 122 0)) → lV g b p e s m below meth c 2305 [none, some (.inr 0), some (.inr 86), some (.inr 122), some (.inr 123), some (.inl (nI i)), o6, o7] [.inl k9] u (n + 1) := by
    intro k9 u Q2 hq2 hQ2
    refine lV_istore (k := 6) F (by decide) (by decide) dL_law_2305 ?_
    refine lV_aload_n (k := 2) F dL_law_2307 rfl ?_
    refine lV_call (D := D) (nn := 0) (as := []) (k := 86) (q := (RX10, TX10, 63)) (ty := .int) F rfl rfl rfl (qM_spec (by decide +kernel)) rfl lM_254 rfl (Nat.zero_le _) hD (Nat.zero_le _) (by omega) dL_law_2308 hq2 (fun bv u2 hbu => ?_)
    obtain ⟨hR, h0, h1⟩ := hQ2 bv u2 hbu
    refine lV_istore (k := 7) F (by decide) (by decide) dL_law_2311 ?_
    exact lV_tail (D := D) F hD (by omega) h0 h1 lM_127 dL_law_2313 dL_law_2314 dL_law_2317 dL_law_2319 dL_law_2324 dL_law_2326 dL_law_2329 dL_law_2330 dL_law_2331 dL_law_2332 dL_law_2334 dL_law_2335 dL_law_2336 dL_law_2341 rfl (hk u2 _ _ hR)
  refine lV_wrap (na := 2) (as := [.inr 0, .inr 122]) F (lw_slowest hw9 (fun E u hE => hE.1) hp) (by decide) hD (by omega) lW_slowest (by decide) (by decide +kernel) (by decide) rfl dL_law_2302 (fun k9 u hQ => ?_)
  rcases hQ with ⟨rfl, r, u0, hq, rfl⟩ | ⟨j, E, hj, rfl, hTE⟩
  · exact key 0 _ _ hq (fun bv u2 h => ⟨h.1, h.2.1, fun _ => h.2.2⟩)
  · refine key _ u _ (hTE.2 j hj) (fun bv u2 h => ⟨h.1, h.2, fun h0 => ?_⟩)
    exact absurd h0 (nI_ne0 (by omega) (by have := (List.getElem?_eq_some_iff.mp hj).1; have h3 : eL_slowest.length ≤ 3 := (by decide); omega))
theorem lM_257 : ∀ w ∈ ([.methodLink RL 257 mX10_wouldFree.1, .instanceMethod mX10_wouldFree.1, .selects mX10_wouldFree.1.cls mX10_wouldFree.1 mX10_wouldFree.1] ++ qcw mX10_wouldFree : List Jvm.Cond), w ∈ qgw := qgw_of [1955, 1956, 1957, 129, 1958] (by decide +kernel) (by decide +kernel)
theorem lW_wouldFree : ∀ w ∈ ([.methodLink RL 255 yL_wouldFree, .static yL_wouldFree, .initialized yL_wouldFree.cls, .codeWith yL_wouldFree cL_wouldFree 4 (some .int) hL_wouldFree] : List Jvm.Cond), w ∈ qgw := qgw_of [1385, 1386, 118, 1387] (by decide +kernel) (by decide +kernel)
set_option maxHeartbeats 1000000 in
theorem law_38 {g : qG} {b L : Nat} {xs : Nat → Int32} {p : Program} {e : Env} {s : State} {m : MethodId} {below : List Frame} {meth : Method} {c : Code} {n D i : Nat} {σ : qS} {R : qS → Prop} (F : lCtx g b L xs p s m meth c) (hi : i + 6 ≤ L) (hn : n ≤ 512) (hD : D ≤ 100) (hp : lPair g D R mX9_wouldFree mX10_wouldFree [.inl (xs (i + 1))] eL_wouldFree σ) (hk : ∀ (u : qS) (a b9 : Option qP), R u → lV g b p e s m below meth c 2400 [none, some (.inr 0), some (.inr 86), some (.inr 122), some (.inr 123), some (.inl (nI i)), a, b9] [] u (n + 1)) (o6 o7 : Option qP) : lV g b p e s m below meth c 2344 [none, some (.inr 0), some (.inr 86), some (.inr 122), some (.inr 123), some (.inl (nI i)), o6, o7] [] σ n := by
  have hw9 : qWF g := F.2.2.2.2.2.2.2.2.2.2.2.1
  refine lV_aload_n (k := 1) F dL_law_2344 rfl ?_
  refine lV_arg (i := i) (j := 1) F (by omega) rfl rfl dL_law_2345 dL_law_2346 dL_law_2348 dL_law_2349 dL_law_2350 ?_
  refine lV_aload_n (k := 3) F dL_law_2351 rfl ?_
  have key : ∀ (k9 : Int32) (u : qS) (Q2 : Int32 → qS → Prop), qC g D mX10_wouldFree (.inr 86 :: [.inl (xs (i + 1))]) u Q2 (fun _ _ => False) → (∀ bv u2, Q2 bv u2 → R u2 ∧ u2 86 0 = k9 ∧ (k9 = 0 → bv = u2 122 0)) → lV g b p e s m below meth c 2355 [none, some (.inr 0), some (.inr 86), some (.inr 122), some (.inr 123), some (.inl (nI i)), o6, o7] [.inl k9] u (n + 1) := by
    intro k9 u Q2 hq2 hQ2
    refine lV_istore (k := 6) F (by decide) (by decide) dL_law_2355 ?_
    refine lV_aload_n (k := 2) F dL_law_2357 rfl ?_
    refine lV_arg (i := i) (j := 1) F (by omega) rfl rfl dL_law_2358 dL_law_2359 dL_law_2361 dL_law_2362 dL_law_2363 ?_
    refine lV_call (D := D) (nn := 0) (as := [.inl (xs (i + 1))]) (k := 86) (q := (RX10, TX10, 63)) (ty := .int) F rfl rfl rfl (qM_spec (by decide +kernel)) rfl lM_257 rfl (Nat.zero_le _) hD (Nat.zero_le _) (by omega) dL_law_2364 hq2 (fun bv u2 hbu => ?_)
    obtain ⟨hR, h0, h1⟩ := hQ2 bv u2 hbu
    refine lV_istore (k := 7) F (by decide) (by decide) dL_law_2367 ?_
    exact lV_tail (D := D) F hD (by omega) h0 h1 lM_127 dL_law_2369 dL_law_2370 dL_law_2373 dL_law_2375 dL_law_2380 dL_law_2382 dL_law_2385 dL_law_2386 dL_law_2387 dL_law_2388 dL_law_2390 dL_law_2391 dL_law_2392 dL_law_2397 rfl (hk u2 _ _ hR)
  refine lV_wrap (na := 3) (as := [.inr 0, .inl (xs (i + 1)), .inr 122]) F (lw_wouldFree hw9 (fun E u hE => hE.1) hp) (by decide) hD (by omega) lW_wouldFree (by decide) (by decide +kernel) (by decide) rfl dL_law_2352 (fun k9 u hQ => ?_)
  rcases hQ with ⟨rfl, r, u0, hq, rfl⟩ | ⟨j, E, hj, rfl, hTE⟩
  · exact key 0 _ _ hq (fun bv u2 h => ⟨h.1, h.2.1, fun _ => h.2.2⟩)
  · refine key _ u _ (hTE.2 j hj) (fun bv u2 h => ⟨h.1, h.2, fun h0 => ?_⟩)
    exact absurd h0 (nI_ne0 (by omega) (by have := (List.getElem?_eq_some_iff.mp hj).1; have h3 : eL_wouldFree.length ≤ 3 := (by decide); omega))
