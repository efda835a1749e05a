/-! ===== perform, by words ===== -/
def ayS (wd b : Int) : Int := if wd = 260 then 0 else b
def awS (wd c : Int) : Int := if wd = 260 ∨ wd = 261 then 0 else c
def opS (s : aS) (wd a b c tx : Int) : aS := if wd = 256 then fiS (bgS s (frT s)) (s 2 9) (lnk s 0 (-1)) else if wd = 257 ∨ wd = 258 then fiS (clS s a (wd - 256)) (s 2 9) (lnk s (wd - 256) (s 55 a)) else if wd ≤ 262 then (if tx = -1 then fiS (adS s (wd - 256) (-1) a (ayS wd b) (awS wd c)) (s 2 9) (lnk s (wd - 256) (-1)) else fiS (ctS s tx (wd - 256) a (ayS wd b) (awS wd c)) (s 2 9) (lnk s (wd - 256) (s 55 tx))) else if wd = 263 then fiS (jnB s a) (s 2 9) (lnk s 7 (-1)) else if wd = 264 then (if rdN s a b = 0 then rd1 s a b else fiS (rdB s a b) (s 2 9) (lnk s 7 (-1))) else if wd = 265 then flS s else fiS (mkB s) (s 2 9) (lnk s 8 (-1))
def opA (s : aS) (wd a b c tx : Int) : Int := if wd = 256 then frT s else if wd = 257 ∨ wd = 258 then s 57 a else if wd ≤ 262 then s 2 9 else if wd = 263 then s 26 6 else if wd = 264 then rdN s a b else if wd = 265 then s 2 9 - s 2 10 else s 2 9
section PF
variable {g : qG} {s : aS} {d : Nat} {Q : Int32 → qS → Prop} {T : String → qS → Prop} {a b c tx : Int}
theorem op_256 : opS s 256 a b c tx = fiS (bgS s (frT s)) (s 2 9) (lnk s 0 (-1)) := if_pos rfl
theorem op_257 : opS s 257 a b c tx = fiS (clS s a 1) (s 2 9) (lnk s 1 (s 55 a)) := by
  unfold opS
  rw [if_neg (by decide), if_pos (by decide)]
  rfl
theorem op_258 : opS s 258 a b c tx = fiS (clS s a 2) (s 2 9) (lnk s 2 (s 55 a)) := by
  unfold opS
  rw [if_neg (by decide), if_pos (by decide)]
  rfl
theorem op_259n : opS s 259 a b c (-1) = fiS (adS s 3 (-1) a b c) (s 2 9) (lnk s 3 (-1)) := by
  unfold opS
  rw [if_neg (by decide), if_neg (by decide), if_pos (by decide), if_pos rfl]
  rfl
theorem op_259t (h : tx ≠ -1) : opS s 259 a b c tx = fiS (ctS s tx 3 a b c) (s 2 9) (lnk s 3 (s 55 tx)) := by
  unfold opS
  rw [if_neg (by decide), if_neg (by decide), if_pos (by decide), if_neg h]
  rfl
theorem op_260n : opS s 260 a b c (-1) = fiS (adS s 4 (-1) a 0 0) (s 2 9) (lnk s 4 (-1)) := by
  unfold opS
  rw [if_neg (by decide), if_neg (by decide), if_pos (by decide), if_pos rfl]
  rfl
theorem op_260t (h : tx ≠ -1) : opS s 260 a b c tx = fiS (ctS s tx 4 a 0 0) (s 2 9) (lnk s 4 (s 55 tx)) := by
  unfold opS
  rw [if_neg (by decide), if_neg (by decide), if_pos (by decide), if_neg h]
  rfl
theorem op_261n : opS s 261 a b c (-1) = fiS (adS s 5 (-1) a b 0) (s 2 9) (lnk s 5 (-1)) := by
  unfold opS
  rw [if_neg (by decide), if_neg (by decide), if_pos (by decide), if_pos rfl]
  rfl
theorem op_261t (h : tx ≠ -1) : opS s 261 a b c tx = fiS (ctS s tx 5 a b 0) (s 2 9) (lnk s 5 (s 55 tx)) := by
  unfold opS
  rw [if_neg (by decide), if_neg (by decide), if_pos (by decide), if_neg h]
  rfl
theorem op_262n : opS s 262 a b c (-1) = fiS (adS s 6 (-1) a b c) (s 2 9) (lnk s 6 (-1)) := by
  unfold opS
  rw [if_neg (by decide), if_neg (by decide), if_pos (by decide), if_pos rfl]
  rfl
theorem op_262t (h : tx ≠ -1) : opS s 262 a b c tx = fiS (ctS s tx 6 a b c) (s 2 9) (lnk s 6 (s 55 tx)) := by
  unfold opS
  rw [if_neg (by decide), if_neg (by decide), if_pos (by decide), if_neg h]
  rfl
theorem op_263 : opS s 263 a b c tx = fiS (jnB s a) (s 2 9) (lnk s 7 (-1)) := by
  unfold opS
  rw [if_neg (by decide), if_neg (by decide), if_neg (by decide), if_pos rfl]
theorem op_264z (h : rdN s a b = 0) : opS s 264 a b c tx = rd1 s a b := by
  unfold opS
  rw [if_neg (by decide), if_neg (by decide), if_neg (by decide), if_neg (by decide), if_pos rfl, if_pos h]
theorem op_264p (h : rdN s a b ≠ 0) : opS s 264 a b c tx = fiS (rdB s a b) (s 2 9) (lnk s 7 (-1)) := by
  unfold opS
  rw [if_neg (by decide), if_neg (by decide), if_neg (by decide), if_neg (by decide), if_pos rfl, if_neg h]
theorem op_265 : opS s 265 a b c tx = flS s := by
  unfold opS
  rw [if_neg (by decide), if_neg (by decide), if_neg (by decide), if_neg (by decide), if_neg (by decide), if_pos rfl]
theorem op_266 : opS s 266 a b c tx = fiS (mkB s) (s 2 9) (lnk s 8 (-1)) := by
  unfold opS
  rw [if_neg (by decide), if_neg (by decide), if_neg (by decide), if_neg (by decide), if_neg (by decide), if_neg (by decide)]
theorem okR_n (hJ : jJ s) {k x y w : Int} (h1 : 0 ≤ k ∧ k ≤ 8) (h2 : 0 ≤ x ∧ x ≤ 9999) (h3 : 0 ≤ y ∧ y ≤ 9999) (h4 : 0 ≤ w ∧ w ≤ 9999) (h5 : k = 3 → x < 8 ∧ y < 4) (h6 : k = 4 → x < 8) (h7 : k = 5 → x < 8 ∧ y < 8) (h8 : k = 6 → x < 4 ∧ w ≤ 20) (hk : 3 ≤ k ∧ k ≤ 6) : okR s k (-1) x y w := by
  have B := jb hJ
  exact ⟨h1, h2, h3, h4, h5, h6, h7, h8, fun h => by omega, ⟨by omega, by omega⟩, fun _ => rfl, fun h => by omega, fun h => by omega⟩
theorem okR_c (hJ : jJ s) {k x y w t : Int} (t0 : 0 ≤ t) (t1 : t < 4) (hf : s 55 t ≠ -1) (h1 : 0 ≤ k ∧ k ≤ 8) (h2 : 0 ≤ x ∧ x ≤ 9999) (h3 : 0 ≤ y ∧ y ≤ 9999) (h4 : 0 ≤ w ∧ w ≤ 9999) (h5 : k = 3 → x < 8 ∧ y < 4) (h6 : k = 4 → x < 8) (h7 : k = 5 → x < 8 ∧ y < 8) (h8 : k = 6 → x < 4 ∧ w ≤ 20) (hk : 3 ≤ k ∧ k ≤ 6) : okR s k (s 55 t) x y w := by
  have q := j_lt hJ t0 t1 hf
  exact ⟨h1, h2, h3, h4, h5, h6, h7, h8, fun h => by omega, ⟨by omega, by omega⟩, fun h => by omega, fun h => by omega, okR_t hJ t0 t1 hf⟩
theorem bS_n (hwd : bS s 256 a tx → False) : s 2 9 < 400 ∧ frT s ≠ 4 := by
  constructor
  · by_cases h : s 2 9 < 400
    · exact h
    · exact (hwd ⟨by decide, Or.inl (by omega)⟩).elim
  · intro h
    exact hwd ⟨by decide, Or.inr (Or.inr (Or.inl ⟨rfl, h⟩))⟩
/-- perform, and that it keeps what holds -/
def okP (g : qG) (s : aS) (wd a b c tx : Int) : Prop := jJ (opS s wd a b c tx) ∧ ∀ (d : Nat) (Q : Int32 → qS → Prop) (T : String → qS → Prop), Q (iI (opA s wd a b c tx)) (qi (stS (opS s wd a b c tx))) → qC g (d + 6) mX2_perform [.inr 1, .inl (iI wd), .inl (iI a), .inl (iI b), .inl (iI c), .inl (iI tx)] (qi s) Q T
theorem p_256 (hw : qWF g) (hJ : jJ s) (hS : ¬ bS s 256 a tx) : okP g s 256 a b c tx := by
  have F := frT_b s
  obtain ⟨n1, f4⟩ := bS_n hS
  have hf := F.2.2 (by omega)
  have J := j_bg hJ n1 F.1 (by omega) hf
  refine ⟨by rw [op_256]; exact J, fun d Q T hQ => wX2_perform hw ?_⟩
  rw [op_256] at hQ
  simp only [show (iI 256).toInt = 256 from z_toInt (by decide) (by decide), Int.reduceEq, false_imp_iff, true_imp_iff, not_true_eq_false, not_false_eq_true, true_and, and_true]
  refine k_freeTransaction hw hJ (fun h => (f4 h).elim) (fun _ => ?_)
  exact k_open hw hJ n1 F.1 (by omega) (k_p201 hw hJ n1 (okR_0 hJ F.1 (by omega)) bs_bg J hQ)
theorem p_257 (hw : qWF g) (hJ : jJ s) (hI : ¬ bI s 257 a b tx) (hS : ¬ bS s 257 a tx) : okP g s 257 a b c tx := by
  have a0 : 0 ≤ a ∧ a < 4 := by unfold bI at hI; omega
  have n1 : s 2 9 < 400 := by unfold bS at hS; omega
  have hf : s 55 a ≠ -1 := by unfold bS at hS; omega
  have J := j_cl hJ n1 a0.1 a0.2 hf (kd := 1) (by omega)
  refine ⟨by rw [op_257]; exact J, fun d Q T hQ => wX2_perform hw ?_⟩
  rw [op_257] at hQ
  simp only [show (iI 257).toInt = 257 from z_toInt (by decide) (by decide), Int.reduceEq, false_imp_iff, true_imp_iff, not_true_eq_false, not_false_eq_true, true_and, and_true]
  exact k_close (kd := 1) hw hJ n1 a0.1 a0.2 hf (by omega) (k_p201 hw hJ n1 (okR_cl hJ a0.1 a0.2 hf (by omega)) bs_cl J hQ)
theorem p_258 (hw : qWF g) (hJ : jJ s) (hI : ¬ bI s 258 a b tx) (hS : ¬ bS s 258 a tx) : okP g s 258 a b c tx := by
  have a0 : 0 ≤ a ∧ a < 4 := by unfold bI at hI; omega
  have n1 : s 2 9 < 400 := by unfold bS at hS; omega
  have hf : s 55 a ≠ -1 := by unfold bS at hS; omega
  have J := j_cl hJ n1 a0.1 a0.2 hf (kd := 2) (by omega)
  refine ⟨by rw [op_258]; exact J, fun d Q T hQ => wX2_perform hw ?_⟩
  rw [op_258] at hQ
  simp only [show (iI 258).toInt = 258 from z_toInt (by decide) (by decide), Int.reduceEq, false_imp_iff, true_imp_iff, not_true_eq_false, not_false_eq_true, true_and, and_true]
  exact k_close (kd := 2) hw hJ n1 a0.1 a0.2 hf (by omega) (k_p201 hw hJ n1 (okR_cl hJ a0.1 a0.2 hf (by omega)) bs_cl J hQ)
theorem p_259 (hw : qWF g) (hJ : jJ s) (hI : ¬ bI s 259 a b tx) (hA : ¬ bA 259 a b c) (hS : ¬ bS s 259 a tx) : okP g s 259 a b c tx := by
  have a0 : 0 ≤ a ∧ a < 8 := by unfold bI at hI; omega
  have b0 : 0 ≤ b ∧ b < 4 := by unfold bI at hI; unfold bA at hA; omega
  have c0 : 0 ≤ c ∧ c ≤ 9999 := by unfold bA at hA; omega
  have n1 : s 2 9 < 400 := by unfold bS at hS; omega
  by_cases ht : tx = -1
  · subst ht
    have ho : okR s 3 (-1) a b c := okR_n hJ (by omega) (by omega) (by omega) (by omega) (by omega) (by omega) (by omega) (by omega) (by omega)
    have J := j_ch hJ n1 ho
    refine ⟨by rw [op_259n]; exact J, fun d Q T hQ => wX2_perform hw ?_⟩
    rw [op_259n] at hQ
    simp only [show (iI 259).toInt = 259 from z_toInt (by decide) (by decide), Int.reduceEq, false_imp_iff, true_imp_iff, not_true_eq_false, not_false_eq_true, true_and, and_true]
    exact k_change0 (k := 3) (x := a) (y := b) (w := c) hw hJ n1 ho (k_p201 hw hJ n1 ho (bs_ad (agR_rf s)) J hQ)
  · have t0 : 0 ≤ tx ∧ tx < 4 := by unfold bI at hI; omega
    have hf : s 55 tx ≠ -1 := by unfold bS at hS; omega
    have ho : okR s 3 (s 55 tx) a b c := okR_c hJ t0.1 t0.2 hf (by omega) (by omega) (by omega) (by omega) (by omega) (by omega) (by omega) (by omega) (by omega)
    have J := j_ct hJ n1 t0.1 t0.2 hf (by omega) ho
    refine ⟨by rw [op_259t ht]; exact J, fun d Q T hQ => wX2_perform hw ?_⟩
    rw [op_259t ht] at hQ
    simp only [show (iI 259).toInt = 259 from z_toInt (by decide) (by decide), Int.reduceEq, false_imp_iff, true_imp_iff, not_true_eq_false, not_false_eq_true, true_and, and_true]
    exact k_change1 (k := 3) (x := a) (y := b) (w := c) hw hJ n1 t0.1 t0.2 ho (k_p201 hw hJ n1 ho bs_ct J hQ)
theorem p_260 (hw : qWF g) (hJ : jJ s) (hI : ¬ bI s 260 a b tx) (hA : ¬ bA 260 a b c) (hS : ¬ bS s 260 a tx) : okP g s 260 a b c tx := by
  have a0 : 0 ≤ a ∧ a < 8 := by unfold bI at hI; omega
  have n1 : s 2 9 < 400 := by unfold bS at hS; omega
  by_cases ht : tx = -1
  · subst ht
    have ho : okR s 4 (-1) a 0 0 := okR_n hJ (by omega) (by omega) (by omega) (by omega) (by omega) (by omega) (by omega) (by omega) (by omega)
    have J := j_ch hJ n1 ho
    refine ⟨by rw [op_260n]; exact J, fun d Q T hQ => wX2_perform hw ?_⟩
    rw [op_260n] at hQ
    simp only [show (iI 260).toInt = 260 from z_toInt (by decide) (by decide), Int.reduceEq, false_imp_iff, true_imp_iff, not_true_eq_false, not_false_eq_true, true_and, and_true]
    exact k_change0 (k := 4) (x := a) (y := 0) (w := 0) hw hJ n1 ho (k_p201 hw hJ n1 ho (bs_ad (agR_rf s)) J hQ)
  · have t0 : 0 ≤ tx ∧ tx < 4 := by unfold bI at hI; omega
    have hf : s 55 tx ≠ -1 := by unfold bS at hS; omega
    have ho : okR s 4 (s 55 tx) a 0 0 := okR_c hJ t0.1 t0.2 hf (by omega) (by omega) (by omega) (by omega) (by omega) (by omega) (by omega) (by omega) (by omega)
    have J := j_ct hJ n1 t0.1 t0.2 hf (by omega) ho
    refine ⟨by rw [op_260t ht]; exact J, fun d Q T hQ => wX2_perform hw ?_⟩
    rw [op_260t ht] at hQ
    simp only [show (iI 260).toInt = 260 from z_toInt (by decide) (by decide), Int.reduceEq, false_imp_iff, true_imp_iff, not_true_eq_false, not_false_eq_true, true_and, and_true]
    exact k_change1 (k := 4) (x := a) (y := 0) (w := 0) hw hJ n1 t0.1 t0.2 ho (k_p201 hw hJ n1 ho bs_ct J hQ)
theorem p_261 (hw : qWF g) (hJ : jJ s) (hI : ¬ bI s 261 a b tx) (hA : ¬ bA 261 a b c) (hS : ¬ bS s 261 a tx) : okP g s 261 a b c tx := by
  have a0 : 0 ≤ a ∧ a < 8 := by unfold bI at hI; omega
  have b0 : 0 ≤ b ∧ b < 8 := by unfold bI at hI; unfold bA at hA; omega
  have n1 : s 2 9 < 400 := by unfold bS at hS; omega
  by_cases ht : tx = -1
  · subst ht
    have ho : okR s 5 (-1) a b 0 := okR_n hJ (by omega) (by omega) (by omega) (by omega) (by omega) (by omega) (by omega) (by omega) (by omega)
    have J := j_ch hJ n1 ho
    refine ⟨by rw [op_261n]; exact J, fun d Q T hQ => wX2_perform hw ?_⟩
    rw [op_261n] at hQ
    simp only [show (iI 261).toInt = 261 from z_toInt (by decide) (by decide), Int.reduceEq, false_imp_iff, true_imp_iff, not_true_eq_false, not_false_eq_true, true_and, and_true]
    exact k_change0 (k := 5) (x := a) (y := b) (w := 0) hw hJ n1 ho (k_p201 hw hJ n1 ho (bs_ad (agR_rf s)) J hQ)
  · have t0 : 0 ≤ tx ∧ tx < 4 := by unfold bI at hI; omega
    have hf : s 55 tx ≠ -1 := by unfold bS at hS; omega
    have ho : okR s 5 (s 55 tx) a b 0 := okR_c hJ t0.1 t0.2 hf (by omega) (by omega) (by omega) (by omega) (by omega) (by omega) (by omega) (by omega) (by omega)
    have J := j_ct hJ n1 t0.1 t0.2 hf (by omega) ho
    refine ⟨by rw [op_261t ht]; exact J, fun d Q T hQ => wX2_perform hw ?_⟩
    rw [op_261t ht] at hQ
    simp only [show (iI 261).toInt = 261 from z_toInt (by decide) (by decide), Int.reduceEq, false_imp_iff, true_imp_iff, not_true_eq_false, not_false_eq_true, true_and, and_true]
    exact k_change1 (k := 5) (x := a) (y := b) (w := 0) hw hJ n1 t0.1 t0.2 ho (k_p201 hw hJ n1 ho bs_ct J hQ)
theorem p_262 (hw : qWF g) (hJ : jJ s) (hI : ¬ bI s 262 a b tx) (hA : ¬ bA 262 a b c) (hS : ¬ bS s 262 a tx) : okP g s 262 a b c tx := by
  have a0 : 0 ≤ a ∧ a < 4 := by unfold bI at hI; omega
  have b0 : 0 ≤ b ∧ b ≤ 9999 := by unfold bI at hI; unfold bA at hA; omega
  have c0 : 0 ≤ c ∧ c ≤ 20 := by unfold bA at hA; omega
  have n1 : s 2 9 < 400 := by unfold bS at hS; omega
  by_cases ht : tx = -1
  · subst ht
    have ho : okR s 6 (-1) a b c := okR_n hJ (by omega) (by omega) (by omega) (by omega) (by omega) (by omega) (by omega) (by omega) (by omega)
    have J := j_ch hJ n1 ho
    refine ⟨by rw [op_262n]; exact J, fun d Q T hQ => wX2_perform hw ?_⟩
    rw [op_262n] at hQ
    simp only [show (iI 262).toInt = 262 from z_toInt (by decide) (by decide), Int.reduceEq, false_imp_iff, true_imp_iff, not_true_eq_false, not_false_eq_true, true_and, and_true]
    exact k_change0 (k := 6) (x := a) (y := b) (w := c) hw hJ n1 ho (k_p201 hw hJ n1 ho (bs_ad (agR_rf s)) J hQ)
  · have t0 : 0 ≤ tx ∧ tx < 4 := by unfold bI at hI; omega
    have hf : s 55 tx ≠ -1 := by unfold bS at hS; omega
    have ho : okR s 6 (s 55 tx) a b c := okR_c hJ t0.1 t0.2 hf (by omega) (by omega) (by omega) (by omega) (by omega) (by omega) (by omega) (by omega) (by omega)
    have J := j_ct hJ n1 t0.1 t0.2 hf (by omega) ho
    refine ⟨by rw [op_262t ht]; exact J, fun d Q T hQ => wX2_perform hw ?_⟩
    rw [op_262t ht] at hQ
    simp only [show (iI 262).toInt = 262 from z_toInt (by decide) (by decide), Int.reduceEq, false_imp_iff, true_imp_iff, not_true_eq_false, not_false_eq_true, true_and, and_true]
    exact k_change1 (k := 6) (x := a) (y := b) (w := c) hw hJ n1 t0.1 t0.2 ho (k_p201 hw hJ n1 ho bs_ct J hQ)
theorem p_263 (hw : qWF g) (hJ : jJ s) (hI : ¬ bI s 263 a b tx) (hS : ¬ bS s 263 a tx) : okP g s 263 a b c tx := by
  have B := jb hJ
  have a0 : 0 ≤ a ∧ a < 4 := by unfold bI at hI; omega
  have n1 : s 2 9 < 400 := by unfold bS at hS; omega
  have hc : s 26 6 < 6 := by unfold bS at hS; omega
  have V0 := (hJ.2.2.2.2.1 a a0.1 a0.2).1
  have ho : okR s 7 (-1) (s 26 6) (s 30 a) a := ⟨by omega, by omega, by omega, by omega, by omega, by omega, by omega, by omega, by omega, by omega, by omega, by omega, fun h => by omega⟩
  have J := j_jn hJ n1 a0.1 a0.2 hc
  have ag : agR s (jnS s a) := agR_up (agR_up (agR_up (agR_up (agR_rf s) (Or.inl (by decide)) (by decide)) (Or.inl (by decide)) (by decide)) (Or.inl (by decide)) (by decide)) (Or.inl (by decide)) (by decide)
  refine ⟨by rw [op_263]; exact J, fun d Q T hQ => wX2_perform hw ?_⟩
  rw [op_263] at hQ
  simp only [show (iI 263).toInt = 263 from z_toInt (by decide) (by decide), Int.reduceEq, false_imp_iff, true_imp_iff, not_true_eq_false, not_false_eq_true, true_and, and_true]
  exact k_join hw hJ n1 a0.1 a0.2 hc (k_p201 hw hJ n1 ho (bs_ag (bs_ad ag) (agR_fl _)) J hQ)
theorem p_264 (hw : qWF g) (hJ : jJ s) (hI : ¬ bI s 264 a b tx) (hA : ¬ bA 264 a b c) (hS : ¬ bS s 264 a tx) : okP g s 264 a b c tx := by
  have B := jb hJ
  have a0 : 0 ≤ a ∧ a < s 26 6 := by unfold bI at hI; omega
  have b0 : 1 ≤ b ∧ b ≤ 50 := by unfold bA at hA; omega
  have n1 : s 2 9 < 400 := by unfold bS at hS; omega
  have C := jc hJ a0.1 a0.2
  have R := rd_b hJ a0.1 a0.2 b0.1 b0.2
  by_cases hz : rdN s a b = 0
  · have J := j_rd0 hJ hz
    refine ⟨by rw [op_264z hz]; exact J, fun d Q T hQ => wX2_perform hw ?_⟩
    rw [op_264z hz] at hQ
    simp only [show (iI 264).toInt = 264 from z_toInt (by decide) (by decide), Int.reduceEq, false_imp_iff, true_imp_iff, not_true_eq_false, not_false_eq_true, true_and, and_true]
    refine k_take hw hJ n1 a0.1 a0.2 b0.1 b0.2 (fun _ => k_p201n hw J (by rw [rd1_o s a b (by decide) (by decide)]; rfl) ?_) (fun hp => by omega)
    have e : opA s 264 a b c tx = 0 := hz
    rw [e] at hQ
    exact hQ
  · have J := j_rd hJ n1 a0.1 a0.2 b0.1 b0.2 (by omega)
    have ho : okR s 7 (-1) a (s 34 a + rdN s a b) (s 32 a) := ⟨by omega, by omega, by omega, by omega, by omega, by omega, by omega, by omega, by omega, by omega, by omega, by omega, fun h => by omega⟩
    have ag : agR s (rd2 s a b) := by
      refine agR_up ?_ (Or.inl (by decide)) (by decide)
      refine ⟨by rw [rd1_o s a b (by decide) (by decide)], fun x hx => rd1_o s a b (by omega) (by omega)⟩
    refine ⟨by rw [op_264p hz]; exact J, fun d Q T hQ => wX2_perform hw ?_⟩
    rw [op_264p hz] at hQ
    simp only [show (iI 264).toInt = 264 from z_toInt (by decide) (by decide), Int.reduceEq, false_imp_iff, true_imp_iff, not_true_eq_false, not_false_eq_true, true_and, and_true]
    exact k_take hw hJ n1 a0.1 a0.2 b0.1 b0.2 (fun h => (hz h).elim) (fun _ => (k_p201 hw hJ n1 ho (bs_ag (bs_ad ag) (agR_fl _)) J hQ))
theorem p_265 (hw : qWF g) (hJ : jJ s) : okP g s 265 a b c tx := by
  have B := jb hJ
  have J := j_fl hJ
  refine ⟨by rw [op_265]; exact J, fun d Q T hQ => wX2_perform hw ?_⟩
  rw [op_265] at hQ
  simp only [show (iI 265).toInt = 265 from z_toInt (by decide) (by decide), Int.reduceEq, false_imp_iff, true_imp_iff, not_true_eq_false, not_false_eq_true, true_and, and_true]
  exact k_flushAll hw (by omega) (by omega) (by omega) (k_p201n hw J rfl hQ)
theorem p_266 (hw : qWF g) (hJ : jJ s) (hS : ¬ bS s 266 a tx) : okP g s 266 a b c tx := by
  have B := jb hJ
  have n1 : s 2 9 < 400 := by unfold bS at hS; omega
  have ho : okR s 8 (-1) 0 0 0 := ⟨by omega, by omega, by omega, by omega, by omega, by omega, by omega, by omega, by omega, by omega, by omega, by omega, fun h => by omega⟩
  have J := j_mk hJ n1
  have ag : agR (adS s 8 (-1) 0 0 0) (kpS (aup (adS s 8 (-1) 0 0 0) 1 11 (s 2 9))) := by
    refine ⟨?_, fun x hx => ?_⟩
    · rw [kp_o (by decide) (by decide) (by decide), aup_o (by decide)]
    · rw [kp_o (by omega) (by omega) (by omega), aup_o (by omega)]
  refine ⟨by rw [op_266]; exact J, fun d Q T hQ => wX2_perform hw ?_⟩
  rw [op_266] at hQ
  simp only [show (iI 266).toInt = 266 from z_toInt (by decide) (by decide), Int.reduceEq, false_imp_iff, true_imp_iff, not_true_eq_false, not_false_eq_true, true_and, and_true]
  exact k_keepAll hw hJ n1 (k_p201 hw hJ n1 ho (bs_ag (bs_ag (bs_ad (agR_rf s)) ag) (agR_fl _)) J hQ)
theorem p_all (hw : qWF g) (hJ : jJ s) {wd : Int} (hwd : wdR wd) (hI : ¬ bI s wd a b tx) (hA : ¬ bA wd a b c) (hS : ¬ bS s wd a tx) : okP g s wd a b c tx := by
  rcases wd_c hwd with rfl | rfl | rfl | rfl | rfl | rfl | rfl | rfl | rfl | rfl | rfl
  · exact p_256 hw hJ hS
  · exact p_257 hw hJ hI hS
  · exact p_258 hw hJ hI hS
  · exact p_259 hw hJ hI hA hS
  · exact p_260 hw hJ hI hA hS
  · exact p_261 hw hJ hI hA hS
  · exact p_262 hw hJ hI hA hS
  · exact p_263 hw hJ hI hS
  · exact p_264 hw hJ hI hA hS
  · exact p_265 hw hJ
  · exact p_266 hw hJ hS
end PF
