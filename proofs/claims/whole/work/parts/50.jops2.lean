/-! ===== join, read, checkpoint, flush keep what holds ===== -/
/-- a consumer more -/
def jnS (s : aS) (a : Int) : aS := aup (aup (aup (aup s 32 (s 26 6) a) 34 (s 26 6) (s 30 a)) 36 (s 26 6) 0) 26 6 (s 26 6 + 1)
def jnB (s : aS) (a : Int) : aS := flS (adS (jnS s a) 7 (-1) (s 26 6) (s 30 a) a)
/-- messages taken: how many, which -/
def rdN (s : aS) (c m : Int) : Int := if m ≤ s 30 (s 32 c) - s 34 c then m else s 30 (s 32 c) - s 34 c
def rdF (s : aS) (c : Int) : Nat → List Int
  | 0 => []
  | n + 1 => rdF s c n ++ [s 28 (400 * s 32 c + (s 34 c + n))]
def rdL (s : aS) (c m : Int) : List Int := rdF s c (rdN s c m).toNat
def rd1 (s : aS) (c m : Int) : aS := awl (aup s 1 10 (rdN s c m)) 61 0 (rdL s c m)
def rd2 (s : aS) (c m : Int) : aS := aup (rd1 s c m) 34 c (s 34 c + rdN s c m)
def rdB (s : aS) (c m : Int) : aS := flS (adS (rd2 s c m) 7 (-1) c (s 34 c + rdN s c m) (s 32 c))
/-- a checkpoint -/
def kpS (s : aS) : aS := fun x i => if x = 46 ∧ 0 ≤ i ∧ i < 8 then s 41 i else if x = 48 ∧ 0 ≤ i ∧ i < 32 then s 43 i else if x = 38 ∧ 0 ≤ i ∧ i < s 26 6 then s 34 i else s x i
def mkB (s : aS) : aS := flS (kpS (aup (adS s 8 (-1) 0 0 0) 1 11 (s 2 9)))
theorem rdF_len (s : aS) (c : Int) : ∀ n, (rdF s c n).length = n := by
  intro n
  induction n with
  | zero => rfl
  | succ n ih => show (rdF s c n ++ [_]).length = n + 1; rw [List.length_append, ih]; rfl
theorem rdF_at (s : aS) (c : Int) : ∀ n j, j < n → (rdF s c n)[j]? = some (s 28 (400 * s 32 c + (s 34 c + j))) := by
  intro n
  induction n with
  | zero => intro j h; omega
  | succ n ih =>
    intro j h
    show (rdF s c n ++ [s 28 (400 * s 32 c + (s 34 c + n))])[j]? = _
    by_cases hj : j < n
    · rw [List.getElem?_append_left (by rw [rdF_len]; exact hj)]
      exact ih j hj
    · have e : j = n := by omega
      subst e
      rw [List.getElem?_append_right (by rw [rdF_len]; exact Nat.le_refl _), rdF_len, Nat.sub_self]
      rfl
theorem kp_o {s : aS} {x : Nat} (h1 : x ≠ 46) (h2 : x ≠ 48) (h3 : x ≠ 38) : kpS s x = s x := by
  funext i
  unfold kpS
  rw [if_neg (fun y => h1 y.1), if_neg (fun y => h2 y.1), if_neg (fun y => h3 y.1)]
section JP
variable {s : aS}
theorem j_fl (hJ : jJ s) : jJ (flS s) := by
  have B := jb hJ
  obtain ⟨hB, hR, hD, hT, hV, hC, hS, hN, hH, hY⟩ := hJ
  obtain ⟨⟨b1, b2, b3, b4, b5⟩, ⟨b6, b7, b8⟩, ⟨b9, b9'⟩, b10, b11, b12⟩ := hB
  refine ⟨⟨⟨b1, b2, b3, b4, b5⟩, ⟨?_, Int.le_refl _, b8⟩, ⟨b9, ?_⟩, b10, b11, b12⟩, hR, ?_, hT, hV, ⟨?_, hC.2⟩, hS, jN_c (s := s) rfl rfl rfl rfl rfl rfl rfl rfl rfl rfl rfl hN, hH, ⟨?_, hY.2⟩⟩
  · show s 23 (s 21 2) ≤ s 2 9; omega
  · show s 1 11 = 0 ∨ s 1 11 < s 2 9; omega
  · intro j j0 j1
    have j1' : j < s 2 9 := j1
    rw [fl_20, fl_10]
    have D := hD j j0 j1'
    by_cases h : s 2 10 ≤ j ∧ j < s 2 9
    · rw [if_pos h]; exact ⟨Or.inl rfl, fun _ => rfl⟩
    · rw [if_neg h]; exact ⟨D.1, fun _ => D.2 (by omega)⟩
  · intro c c0 c1
    obtain ⟨a1, a2, a3, a4⟩ := hC.1 c c0 c1
    refine ⟨a1, a2, a3, fun i i0 i1 => ?_⟩
    have := a4 i i0 i1
    show s 18 (s 28 (400 * s 32 c + i)) < s 2 9
    omega
  · intro i i0 i1
    have := hY.1 i i0 i1
    show 0 ≤ s 61 i ∧ s 61 i < s 2 9
    omega
theorem lnk7 (s : aS) : lnk s 7 (-1) = [s 2 9] := by
  unfold lnk
  rw [if_neg (by decide), if_pos (by decide)]
theorem j_jn (hJ : jJ s) (n1 : s 2 9 < 400) {a : Int} (a0 : 0 ≤ a) (a1 : a < 4) (hc : s 26 6 < 6) : jJ (fiS (jnB s a) (s 2 9) (lnk s 7 (-1))) := by
  have B := jb hJ
  have V0 := (hJ.2.2.2.2.1 a a0 a1).1
  have ho : okR s 7 (-1) (s 26 6) (s 30 a) a := ⟨by omega, by omega, by omega, by omega, by omega, by omega, by omega, by omega, by omega, by omega, by omega, by omega, fun h => by omega⟩
  have ag : agR s (jnS s a) := agR_up (agR_up (agR_up (agR_up (agR_rf s) (Or.inl (by decide)) (by decide)) (Or.inl (by decide)) (by decide)) (Or.inl (by decide)) (by decide)) (Or.inl (by decide)) (by decide)
  have hb : bsR s (jnB s a) 7 (-1) (s 26 6) (s 30 a) a := bs_ag (bs_ad ag) (agR_fl _)
  have o : ∀ c : Nat, (c ≠ 2 ∧ c ≠ 4 ∧ c ≠ 6 ∧ c ≠ 8 ∧ c ≠ 10 ∧ c ≠ 12 ∧ c ≠ 14 ∧ c ≠ 16 ∧ c ≠ 18 ∧ c ≠ 20 ∧ c ≠ 21 ∧ c ≠ 23 ∧ c ≠ 25) → jnB s a c = jnS s a c := fun c h => by unfold jnB; rw [fl_o (by omega) (by omega), ad_o _ _ _ _ _ _ h]
  have o' : ∀ c : Nat, c ≠ 26 → c ≠ 32 → c ≠ 34 → c ≠ 36 → (c ≠ 2 ∧ c ≠ 4 ∧ c ≠ 6 ∧ c ≠ 8 ∧ c ≠ 10 ∧ c ≠ 12 ∧ c ≠ 14 ∧ c ≠ 16 ∧ c ≠ 18 ∧ c ≠ 20 ∧ c ≠ 21 ∧ c ≠ 23 ∧ c ≠ 25) → jnB s a c = s c := fun c h1 h2 h3 h4 h => by rw [o c h]; unfold jnS; rw [aup_o h1, aup_o h4, aup_o h3, aup_o h2]
  have e1 : jnB s a 1 = s 1 := o' 1 (by decide) (by decide) (by decide) (by decide) (by decide)
  have e9 : adS (jnS s a) 7 (-1) (s 26 6) (s 30 a) a 2 9 = s 2 9 + 1 := by rw [ad_n]; rfl
  have e10' : adS (jnS s a) 7 (-1) (s 26 6) (s 30 a) a 2 10 = s 2 10 := by rw [ad_2 _ _ _ _ _ _ (by decide)]; rfl
  have e10 : jnB s a 2 10 = s 2 9 + 1 := by unfold jnB; rw [fl_10, e9]
  have e20 : adS (jnS s a) 7 (-1) (s 26 6) (s 30 a) a 20 = adS s 7 (-1) (s 26 6) (s 30 a) a 20 := by funext j; rw [ad_20, ad_20]; rfl
  have e26 : jnB s a 26 6 = s 26 6 + 1 := by rw [o 26 (by decide)]; unfold jnS; rw [aup_s]
  have e32 : ∀ c, jnB s a 32 c = if c = s 26 6 then a else s 32 c := fun c => by rw [o 32 (by decide)]; unfold jnS; rw [aup_o (by decide), aup_o (by decide), aup_o (by decide), aup_k]
  have e34 : ∀ c, jnB s a 34 c = if c = s 26 6 then s 30 a else s 34 c := fun c => by rw [o 34 (by decide)]; unfold jnS; rw [aup_o (by decide), aup_o (by decide), aup_k, aup_o (by decide)]
  have e36 : ∀ c, jnB s a 36 c = if c = s 26 6 then 0 else s 36 c := fun c => by rw [o 36 (by decide)]; unfold jnS; rw [aup_o (by decide), aup_k, aup_o (by decide), aup_o (by decide)]
  have e : ∀ c : Nat, c = 38 ∨ c = 46 ∨ c = 48 ∨ c = 0 ∨ c = 61 ∨ c = 85 ∨ c = 57 ∨ c = 55 → jnB s a c = s c := fun c hc => o' c (by omega) (by omega) (by omega) (by omega) (by omega)
  refine j_fin hJ n1 ho (fun h => by omega) hb e10 (Or.inr rfl) (h20_fl hJ e9 e10' e20) (congrFun e1 11) (Or.inl rfl) (congrFun e1 12) (congrFun e1 13) (by rw [e26]; omega) (by rw [e1]; omega) (jT_keep hJ n1 ho hb rfl (e 55 (by decide)) (e 57 (by decide))) ?_ (jN_fin hJ n1 ho hb (congrFun e1 11) (e 46 (by decide)) (e 48 (by decide))) (jY_keep hJ hb (by omega) (e 0 (by decide)) (congrFun e1 10) (e 61 (by decide)) (e 85 (by decide)))
  have f26 : fiS (jnB s a) (s 2 9) (lnk s 7 (-1)) 26 6 = s 26 6 + 1 := by rw [fi_o _ _ _ (by decide), e26]
  have f32 : ∀ c, fiS (jnB s a) (s 2 9) (lnk s 7 (-1)) 32 c = if c = s 26 6 then a else s 32 c := fun c => by rw [fi_o _ _ _ (by decide), e32]
  have f34 : ∀ c, fiS (jnB s a) (s 2 9) (lnk s 7 (-1)) 34 c = if c = s 26 6 then s 30 a else s 34 c := fun c => by rw [fi_o _ _ _ (by decide), e34]
  have f36 : ∀ c, fiS (jnB s a) (s 2 9) (lnk s 7 (-1)) 36 c = if c = s 26 6 then 0 else s 36 c := fun c => by rw [fi_o _ _ _ (by decide), e36]
  have f38 : fiS (jnB s a) (s 2 9) (lnk s 7 (-1)) 38 = s 38 := by rw [fi_o _ _ _ (by decide), e 38 (by decide)]
  have f2d : fiS (jnB s a) (s 2 9) (lnk s 7 (-1)) 2 10 = s 2 9 + 1 := by rw [fi_o _ _ _ (by decide), e10]
  refine ⟨fun c c0 c1 => ?_, fun c c0 c1 => ?_⟩
  · rw [f26] at c1
    rw [f32, f34, f36, f2d]
    by_cases h : c = s 26 6
    · rw [if_pos h, if_pos h, if_pos h]
      obtain ⟨x1, x2⟩ := fi_ext hJ n1 ho hb a0 a1
      refine ⟨⟨a0, a1⟩, ⟨V0.1, x1⟩, ⟨by omega, by omega⟩, fun i i0 i1 => ?_⟩
      have q := x2 i i0 i1
      rw [q.1, q.2]
      have := jve hJ a0 a1 i0 i1
      omega
    · rw [if_neg h, if_neg h, if_neg h]
      obtain ⟨q1, q2, q3, q4⟩ := hJ.2.2.2.2.2.1.1 c c0 (by omega)
      obtain ⟨x1, x2⟩ := fi_ext hJ n1 ho hb q1.1 q1.2
      refine ⟨q1, ⟨q2.1, by omega⟩, ⟨q3.1, by omega⟩, fun i i0 i1 => ?_⟩
      have q := x2 i i0 (by omega)
      rw [q.1, q.2]
      have := q4 i i0 i1
      omega
  · rw [f26, f38]
    have := hJ.2.2.2.2.2.1.2 c c0 c1
    exact ⟨this.1, fun h => this.2 (by omega)⟩
theorem rd_b (hJ : jJ s) {c m : Int} (c0 : 0 ≤ c) (c1 : c < s 26 6) (m0 : 1 ≤ m) (m1 : m ≤ 50) : 0 ≤ rdN s c m ∧ rdN s c m ≤ 50 ∧ s 34 c + rdN s c m ≤ s 30 (s 32 c) := by
  have C := jc hJ c0 c1
  unfold rdN
  split <;> omega
theorem rd_61 (hJ : jJ s) {c m : Int} (n0 : 0 ≤ rdN s c m) {i : Int} (i0 : 0 ≤ i) (i1 : i < rdN s c m) : rd1 s c m 61 i = s 28 (400 * s 32 c + (s 34 c + i)) := by
  unfold rd1
  have := awl_at (k := 61) (rdL s c m) (aup s 1 10 (rdN s c m)) 0 i.toNat (s 28 (400 * s 32 c + (s 34 c + i))) ?_
  · rw [show (0 : Int) + ((i.toNat : Nat) : Int) = i by omega] at this
    exact this
  · unfold rdL
    rw [rdF_at s c _ _ (by omega), show (((i.toNat : Nat) : Int)) = i by omega]
theorem rd1_o (s : aS) (c m : Int) {x : Nat} (h1 : x ≠ 1) (h2 : x ≠ 61) : rd1 s c m x = s x := by
  unfold rd1
  rw [awl_o h2, aup_o h1]
theorem rd1_1 (s : aS) (c m i : Int) : rd1 s c m 1 i = if i = 10 then rdN s c m else s 1 i := by
  unfold rd1
  rw [awl_o (by decide), aup_k]
/-- nothing to read: only the count of messages taken changes -/
theorem j_rd0 (hJ : jJ s) {c m : Int} (h : rdN s c m = 0) : jJ (rd1 s c m) := by
  have e1 : ∀ i, i ≠ 10 → rd1 s c m 1 i = s 1 i := fun i hi => by rw [rd1_1, if_neg hi]
  have e10 : rd1 s c m 1 10 = 0 := by rw [rd1_1, if_pos rfl, h]
  have o : ∀ x : Nat, x ≠ 1 → x ≠ 61 → rd1 s c m x = s x := fun x h1 h2 => rd1_o s c m h1 h2
  have el : rdL s c m = [] := by unfold rdL; rw [h]; rfl
  have ee : rd1 s c m = aup s 1 10 0 := by unfold rd1; rw [el, h]; rfl
  rw [ee]
  obtain ⟨hB, hR, hD, hT, hV, hC, hS, hN, hH, hY⟩ := hJ
  obtain ⟨b1, b2, b3, b4, b5, b6⟩ := hB
  refine ⟨⟨b1, b2, b3, b4, b5, ?_⟩, hR, hD, hT, hV, hC, hS, jN_c (s := s) rfl rfl rfl rfl rfl rfl rfl rfl rfl rfl rfl hN, hH, ⟨?_, hY.2⟩⟩
  · show (0 : Int) ≤ 0 ∧ (0 : Int) ≤ 50; omega
  · intro i i0 i1
    have : i < 0 := i1
    omega
theorem j_rd (hJ : jJ s) (n1 : s 2 9 < 400) {c m : Int} (c0 : 0 ≤ c) (c1 : c < s 26 6) (m0 : 1 ≤ m) (m1 : m ≤ 50) (hp : 0 < rdN s c m) : jJ (fiS (rdB s c m) (s 2 9) (lnk s 7 (-1))) := by
  have B := jb hJ
  have C := jc hJ c0 c1
  have R := rd_b hJ c0 c1 m0 m1
  have ho : okR s 7 (-1) c (s 34 c + rdN s c m) (s 32 c) := ⟨by omega, by omega, by omega, by omega, by omega, by omega, by omega, by omega, by omega, by omega, by omega, by omega, fun h => by omega⟩
  have ag : agR s (rd2 s c m) := by
    refine agR_up ?_ (Or.inl (by decide)) (by decide)
    refine ⟨by rw [rd1_o s c m (by decide) (by decide)], fun x hx => rd1_o s c m (by omega) (by omega)⟩
  have hb : bsR s (rdB s c m) 7 (-1) c (s 34 c + rdN s c m) (s 32 c) := bs_ag (bs_ad ag) (agR_fl _)
  have o : ∀ x : Nat, (x ≠ 2 ∧ x ≠ 4 ∧ x ≠ 6 ∧ x ≠ 8 ∧ x ≠ 10 ∧ x ≠ 12 ∧ x ≠ 14 ∧ x ≠ 16 ∧ x ≠ 18 ∧ x ≠ 20 ∧ x ≠ 21 ∧ x ≠ 23 ∧ x ≠ 25) → rdB s c m x = rd2 s c m x := fun x h => by unfold rdB; rw [fl_o (by omega) (by omega), ad_o _ _ _ _ _ _ h]
  have o' : ∀ x : Nat, x ≠ 1 → x ≠ 34 → x ≠ 61 → (x ≠ 2 ∧ x ≠ 4 ∧ x ≠ 6 ∧ x ≠ 8 ∧ x ≠ 10 ∧ x ≠ 12 ∧ x ≠ 14 ∧ x ≠ 16 ∧ x ≠ 18 ∧ x ≠ 20 ∧ x ≠ 21 ∧ x ≠ 23 ∧ x ≠ 25) → rdB s c m x = s x := fun x h1 h2 h3 h => by rw [o x h]; unfold rd2; rw [aup_o h2, rd1_o s c m h1 h3]
  have e1 : ∀ i, rdB s c m 1 i = if i = 10 then rdN s c m else s 1 i := fun i => by rw [o 1 (by decide)]; unfold rd2; rw [aup_o (by decide), rd1_1]
  have e2 : rd2 s c m 2 = s 2 := by unfold rd2; rw [aup_o (by decide), rd1_o s c m (by decide) (by decide)]
  have e9 : adS (rd2 s c m) 7 (-1) c (s 34 c + rdN s c m) (s 32 c) 2 9 = s 2 9 + 1 := by rw [ad_n, e2]
  have e10' : adS (rd2 s c m) 7 (-1) c (s 34 c + rdN s c m) (s 32 c) 2 10 = s 2 10 := by rw [ad_2 _ _ _ _ _ _ (by decide), e2]
  have e10 : rdB s c m 2 10 = s 2 9 + 1 := by unfold rdB; rw [fl_10, e9]
  have e20 : adS (rd2 s c m) 7 (-1) c (s 34 c + rdN s c m) (s 32 c) 20 = adS s 7 (-1) c (s 34 c + rdN s c m) (s 32 c) 20 := by
    funext j
    rw [ad_20, ad_20, e2]
    unfold rd2
    rw [aup_o (by decide), rd1_o s c m (by decide) (by decide)]
  have e34 : ∀ x, rdB s c m 34 x = if x = c then s 34 c + rdN s c m else s 34 x := fun x => by rw [o 34 (by decide)]; unfold rd2; rw [aup_k, rd1_o s c m (by decide) (by decide)]
  have e61 : rdB s c m 61 = rd1 s c m 61 := by rw [o 61 (by decide)]; unfold rd2; rw [aup_o (by decide)]
  have e : ∀ x : Nat, x = 26 ∨ x = 32 ∨ x = 36 ∨ x = 38 ∨ x = 46 ∨ x = 48 ∨ x = 0 ∨ x = 85 ∨ x = 57 ∨ x = 55 → rdB s c m x = s x := fun x hx => o' x (by omega) (by omega) (by omega) (by omega)
  have d11 : rdB s c m 1 11 = s 1 11 := by rw [e1, if_neg (by decide)]
  have f2d : fiS (rdB s c m) (s 2 9) (lnk s 7 (-1)) 2 10 = s 2 9 + 1 := by rw [fi_o _ _ _ (by decide), e10]
  refine j_fin hJ n1 ho (fun h => by omega) hb e10 (Or.inr rfl) (h20_fl hJ e9 e10' e20) d11 (Or.inl rfl) (by rw [e1, if_neg (by decide)]) (by rw [e1, if_neg (by decide)]) (by rw [e 26 (by decide)]; omega) (by rw [e1, if_pos rfl]; omega) (jT_keep hJ n1 ho hb rfl (e 55 (by decide)) (e 57 (by decide))) ?_ (jN_fin hJ n1 ho hb d11 (e 46 (by decide)) (e 48 (by decide))) ?_
  · have f26 : fiS (rdB s c m) (s 2 9) (lnk s 7 (-1)) 26 = s 26 := by rw [fi_o _ _ _ (by decide), e 26 (by decide)]
    have f32 : fiS (rdB s c m) (s 2 9) (lnk s 7 (-1)) 32 = s 32 := by rw [fi_o _ _ _ (by decide), e 32 (by decide)]
    have f34 : ∀ x, fiS (rdB s c m) (s 2 9) (lnk s 7 (-1)) 34 x = if x = c then s 34 c + rdN s c m else s 34 x := fun x => by rw [fi_o _ _ _ (by decide), e34]
    have f36 : fiS (rdB s c m) (s 2 9) (lnk s 7 (-1)) 36 = s 36 := by rw [fi_o _ _ _ (by decide), e 36 (by decide)]
    have f38 : fiS (rdB s c m) (s 2 9) (lnk s 7 (-1)) 38 = s 38 := by rw [fi_o _ _ _ (by decide), e 38 (by decide)]
    refine ⟨fun x x0 x1 => ?_, ?_⟩
    · rw [f26] at x1
      rw [f32, f34, f36, f2d]
      obtain ⟨q1, q2, q3, q4⟩ := hJ.2.2.2.2.2.1.1 x x0 x1
      obtain ⟨y1, y2⟩ := fi_ext hJ n1 ho hb q1.1 q1.2
      have key : ∀ i, 0 ≤ i → i < s 30 (s 32 x) → fiS (rdB s c m) (s 2 9) (lnk s 7 (-1)) 18 (fiS (rdB s c m) (s 2 9) (lnk s 7 (-1)) 28 (400 * s 32 x + i)) < s 2 9 + 1 := by
        intro i i0 i1
        have q := y2 i i0 i1
        rw [q.1, q.2]
        have := jve hJ q1.1 q1.2 i0 i1
        omega
      by_cases h : x = c
      · rw [if_pos h]
        refine ⟨q1, ⟨by omega, ?_⟩, ⟨q3.1, by omega⟩, fun i i0 i1 => key i i0 ?_⟩
        · rw [h] at y1 ⊢; omega
        · rw [h]; omega
      · rw [if_neg h]
        exact ⟨q1, ⟨q2.1, by omega⟩, ⟨q3.1, by omega⟩, fun i i0 i1 => key i i0 (by omega)⟩
    · rw [f26, f38]
      exact hJ.2.2.2.2.2.1.2
  · obtain ⟨y1, y2, y3⟩ := hJ.2.2.2.2.2.2.2.2.2
    unfold jY
    rw [f2d, fi_o _ _ _ (x := 0) (by decide), fi_o _ _ _ (x := 1) (by decide), fi_o _ _ _ (x := 61) (by decide), fi_o _ _ _ (x := 85) (by decide), e 0 (by decide), e1, if_pos rfl, e61, e 85 (by decide)]
    refine ⟨fun i i0 i1 => ?_, y2, y3⟩
    rw [rd_61 hJ R.1 i0 i1]
    have := jv hJ (t := s 32 c) (i := s 34 c + i) C.1 C.2.1 (by omega) (by omega)
    omega
theorem j_mk (hJ : jJ s) (n1 : s 2 9 < 400) : jJ (fiS (mkB s) (s 2 9) (lnk s 8 (-1))) := by
  have B := jb hJ
  have ho : okR s 8 (-1) 0 0 0 := ⟨by omega, by omega, by omega, by omega, by omega, by omega, by omega, by omega, by omega, by omega, by omega, by omega, fun h => by omega⟩
  have hnl : lnk s 8 (-1) = [] := by unfold lnk; rw [if_neg (by decide), if_neg (by decide)]
  have ag : agR (adS s 8 (-1) 0 0 0) (kpS (aup (adS s 8 (-1) 0 0 0) 1 11 (s 2 9))) := by
    refine ⟨?_, fun x hx => ?_⟩
    · rw [kp_o (by decide) (by decide) (by decide), aup_o (by decide)]
    · rw [kp_o (by omega) (by omega) (by omega), aup_o (by omega)]
  have hb : bsR s (mkB s) 8 (-1) 0 0 0 := bs_ag (bs_ag (bs_ad (agR_rf s)) ag) (agR_fl _)
  have o : ∀ x : Nat, x ≠ 20 → x ≠ 2 → x ≠ 46 → x ≠ 48 → x ≠ 38 → x ≠ 1 → mkB s x = adS s 8 (-1) 0 0 0 x := fun x h1 h2 h3 h4 h5 h6 => by unfold mkB; rw [fl_o h1 h2, kp_o h3 h4 h5, aup_o h6]
  have e1 : ∀ i, mkB s 1 i = if i = 11 then s 2 9 else s 1 i := fun i => by unfold mkB; rw [fl_o (by decide) (by decide), kp_o (by decide) (by decide) (by decide), aup_k, ad_o _ _ _ _ _ _ (by decide)]
  have eu2 : kpS (aup (adS s 8 (-1) 0 0 0) 1 11 (s 2 9)) 2 = adS s 8 (-1) 0 0 0 2 := by rw [kp_o (by decide) (by decide) (by decide), aup_o (by decide)]
  have e9 : kpS (aup (adS s 8 (-1) 0 0 0) 1 11 (s 2 9)) 2 9 = s 2 9 + 1 := by rw [eu2, ad_n]
  have e10' : kpS (aup (adS s 8 (-1) 0 0 0) 1 11 (s 2 9)) 2 10 = s 2 10 := by rw [eu2, ad_2 _ _ _ _ _ _ (by decide)]
  have e20 : kpS (aup (adS s 8 (-1) 0 0 0) 1 11 (s 2 9)) 20 = adS s 8 (-1) 0 0 0 20 := by rw [kp_o (by decide) (by decide) (by decide), aup_o (by decide)]
  have e10 : mkB s 2 10 = s 2 9 + 1 := by unfold mkB; rw [fl_10, e9]
  have e : ∀ x : Nat, x = 26 ∨ x = 32 ∨ x = 34 ∨ x = 36 ∨ x = 0 ∨ x = 61 ∨ x = 85 ∨ x = 57 ∨ x = 55 → mkB s x = s x := fun x hx => by rw [o x (by omega) (by omega) (by omega) (by omega) (by omega) (by omega), ad_o _ _ _ _ _ _ (by omega)]
  have e46 : ∀ f, 0 ≤ f → f < 8 → mkB s 46 f = s 41 f := by
    intro f f0 f1
    unfold mkB
    rw [fl_o (by decide) (by decide)]
    unfold kpS
    rw [if_pos ⟨rfl, f0, f1⟩, aup_o (by decide), ad_o _ _ _ _ _ _ (by decide)]
  have e48 : ∀ f, 0 ≤ f → f < 32 → mkB s 48 f = s 43 f := by
    intro f f0 f1
    unfold mkB
    rw [fl_o (by decide) (by decide)]
    unfold kpS
    rw [if_neg (by simp), if_pos ⟨rfl, f0, f1⟩, aup_o (by decide), ad_o _ _ _ _ _ _ (by decide)]
  have e38 : ∀ c, 0 ≤ c → mkB s 38 c = if c < s 26 6 then s 34 c else s 38 c := by
    intro c c0
    unfold mkB
    rw [fl_o (by decide) (by decide)]
    unfold kpS
    rw [if_neg (by simp), if_neg (by simp), aup_o (k' := 26) (by decide), ad_o _ _ _ _ _ _ (c := 26) (by decide), aup_o (k' := 34) (by decide), ad_o _ _ _ _ _ _ (c := 34) (by decide)]
    by_cases h : c < s 26 6
    · rw [if_pos ⟨rfl, c0, h⟩, if_pos h]
    · rw [if_neg (fun y => h y.2.2), if_neg h, aup_o (by decide), ad_o _ _ _ _ _ _ (by decide)]
  refine j_fin hJ n1 ho (fun h => by omega) hb e10 (Or.inr rfl) (h20_fl hJ e9 e10' e20) (m := s 2 9) (by rw [e1, if_pos rfl]) (Or.inr ⟨rfl, rfl⟩) (by rw [e1, if_neg (by decide)]) (by rw [e1, if_neg (by decide)]) (by rw [e 26 (by decide)]; omega) (by rw [e1, if_neg (by decide)]; omega) (jT_keep hJ n1 ho hb rfl (e 55 (by decide)) (e 57 (by decide))) ?_ ?_ (jY_keep hJ hb (by omega) (e 0 (by decide)) (by rw [e1, if_neg (by decide)]) (e 61 (by decide)) (e 85 (by decide)))
  · have f26 : fiS (mkB s) (s 2 9) (lnk s 8 (-1)) 26 = s 26 := by rw [fi_o _ _ _ (by decide), e 26 (by decide)]
    have f32 : fiS (mkB s) (s 2 9) (lnk s 8 (-1)) 32 = s 32 := by rw [fi_o _ _ _ (by decide), e 32 (by decide)]
    have f34 : fiS (mkB s) (s 2 9) (lnk s 8 (-1)) 34 = s 34 := by rw [fi_o _ _ _ (by decide), e 34 (by decide)]
    have f36 : fiS (mkB s) (s 2 9) (lnk s 8 (-1)) 36 = s 36 := by rw [fi_o _ _ _ (by decide), e 36 (by decide)]
    have f38 : ∀ c, 0 ≤ c → fiS (mkB s) (s 2 9) (lnk s 8 (-1)) 38 c = if c < s 26 6 then s 34 c else s 38 c := fun c c0 => by rw [fi_o _ _ _ (by decide), e38 c c0]
    have f2d : fiS (mkB s) (s 2 9) (lnk s 8 (-1)) 2 10 = s 2 9 + 1 := by rw [fi_o _ _ _ (by decide), e10]
    refine ⟨fun c c0 c1 => ?_, fun c c0 c1 => ?_⟩
    · rw [f26] at c1
      rw [f32, f34, f36, f2d]
      obtain ⟨a1, a2, a3, a4⟩ := hJ.2.2.2.2.2.1.1 c c0 c1
      obtain ⟨x1, x2⟩ := fi_ext hJ n1 ho hb a1.1 a1.2
      refine ⟨a1, ⟨a2.1, by omega⟩, ⟨a3.1, by omega⟩, fun i i0 i1 => ?_⟩
      have := x2 i i0 (by omega)
      rw [this.1, this.2]
      have := a4 i i0 i1
      omega
    · rw [f26, f38 c c0]
      have q := hJ.2.2.2.2.2.1.2 c c0 c1
      by_cases h : c < s 26 6
      · have C := jc hJ c0 h
        rw [if_pos h]
        exact ⟨by omega, fun hh => by omega⟩
      · rw [if_neg h]; exact q
  · have f46 : ∀ f, 0 ≤ f → f < 8 → fiS (mkB s) (s 2 9) (lnk s 8 (-1)) 46 f = s 41 f := fun f f0 f1 => by rw [fi_o _ _ _ (by decide), e46 f f0 f1]
    have f48 : ∀ f, 0 ≤ f → f < 32 → fiS (mkB s) (s 2 9) (lnk s 8 (-1)) 48 f = s 43 f := fun f f0 f1 => by rw [fi_o _ _ _ (by decide), e48 f f0 f1]
    have f1 : fiS (mkB s) (s 2 9) (lnk s 8 (-1)) 1 11 = s 2 9 := by rw [fi_o _ _ _ (by decide), e1, if_pos rfl]
    have f2 : fiS (mkB s) (s 2 9) (lnk s 8 (-1)) 2 9 = s 2 9 + 1 := by rw [fi_o _ _ _ (by decide), hb.1]
    refine ⟨fun f f0 f1 => ?_, ?_⟩
    · rw [f46 f f0 f1]; exact f01_now hJ f f0 f1
    · have now := fi_now (mkB s) (s 2 9) (lnk s 8 (-1))
      rw [now, f1, f2, eL_ad hJ ho (fi_18' hb) (by omega) (Int.le_refl _), eL_e (Int.le_refl _), hnl, hb.2.2.2.2.2.2.2.2.2.2.2.2.2.2.1, hb.2.2.2.2.2.2.2.2.2.2.2.2.2.2.2]
      rw [hnl] at f46 f48
      intro f f0 f1
      exact ⟨(f46 f f0 f1).symm, fun _ p p0 p1 => (f48 _ (by omega) (by omega)).symm⟩
end JP
