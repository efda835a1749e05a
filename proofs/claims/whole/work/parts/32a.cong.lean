/-! ===== each invariant looks at few cells ===== -/
section Cong
variable {s t : aS}
theorem jR_c (h2 : t 2 9 = s 2 9) (h4 : t 4 = s 4) (h6 : t 6 = s 6) (h8 : t 8 = s 8) (h10 : t 10 = s 10) (h12 : t 12 = s 12) (h14 : t 14 = s 14) (h18 : t 18 = s 18) (h : jR s) : jR t := by
  unfold jR jR1 jR2 at h ⊢
  rw [h2, h4, h6, h8, h10, h12, h14, h18]
  exact h
theorem jD_c (h2 : t 2 = s 2) (h20 : t 20 = s 20) (h : jD s) : jD t := by
  unfold jD at h ⊢
  rw [h2, h20]
  exact h
theorem jV_c (h2 : t 2 9 = s 2 9) (h4 : t 4 = s 4) (h8 : t 8 = s 8) (h18 : t 18 = s 18) (h28 : t 28 = s 28) (h30 : t 30 = s 30) (h : jV s) : jV t := by
  unfold jV at h ⊢
  rw [h2, h4, h8, h18, h28, h30]
  exact h
theorem jC_c (h2 : t 2 10 = s 2 10) (h18 : t 18 = s 18) (h26 : t 26 6 = s 26 6) (h28 : t 28 = s 28) (h30 : t 30 = s 30) (h32 : t 32 = s 32) (h34 : t 34 = s 34) (h36 : t 36 = s 36) (h38 : t 38 = s 38) (h : jC s) : jC t := by
  unfold jC at h ⊢
  rw [h2, h18, h26, h28, h30, h32, h34, h36, h38]
  exact h
theorem el_c (h18 : t 18 = s 18) (lo : Int) (n : Nat) : el t lo n = el s lo n := by
  induction n with
  | zero => rfl
  | succ n ih => show el t lo n ++ lI (fun k => decide (t 18 k = lo + n)) 0 (lo + n + 1) = el s lo n ++ lI (fun k => decide (s 18 k = lo + n)) 0 (lo + n + 1); rw [ih, h18]
theorem eL_c (h18 : t 18 = s 18) (lo hi : Int) : eL t lo hi = eL s lo hi := el_c h18 _ _
theorem fch_c (h4 : t 4 = s 4) (h8 : t 8 = s 8) (h10 : t 10 = s 10) (h12 : t 12 = s 12) : fch t = fch s := by
  funext x k
  unfold fch
  rw [h4, h8, h10, h12]
theorem jN_c (h1 : t 1 11 = s 1 11) (h2 : t 2 9 = s 2 9) (h4 : t 4 = s 4) (h8 : t 8 = s 8) (h10 : t 10 = s 10) (h12 : t 12 = s 12) (h18 : t 18 = s 18) (h41 : t 41 = s 41) (h43 : t 43 = s 43) (h46 : t 46 = s 46) (h48 : t 48 = s 48) (h : jN s) : jN t := by
  unfold jN at h ⊢
  rw [fch_c h4 h8 h10 h12, eL_c h18, h1, h2, h41, h43, h46, h48]
  exact h
theorem jY_c (h0 : t 0 3 = s 0 3) (h1 : t 1 10 = s 1 10) (h2 : t 2 10 = s 2 10) (h61 : t 61 = s 61) (h85 : t 85 = s 85) (h : jY s) : jY t := by
  unfold jY at h ⊢
  rw [h0, h1, h2, h61, h85]
  exact h
end Cong
theorem aup_id (s : aS) (k : Nat) (i : Int) : aup s k i (s k i) = s := by
  funext x y
  unfold aup
  by_cases hx : x = k
  · subst hx
    by_cases hy : y = i
    · subst hy; rw [if_pos rfl, if_pos rfl]
    · rw [if_pos rfl, if_neg hy]
  · rw [if_neg hx]
theorem aup_aup (s : aS) (k : Nat) (i v w : Int) : aup (aup s k i v) k i w = aup s k i w := by
  funext x y
  unfold aup
  by_cases hx : x = k
  · by_cases hy : y = i <;> simp [hx, hy]
  · simp [hx]
/-- the first in a range -/
def fnd (p : Int → Bool) : Int → Nat → Int
  | lo, 0 => lo
  | lo, n + 1 => if p lo then lo else fnd p (lo + 1) n
def fI (p : Int → Bool) (lo hi : Int) : Int := fnd p lo (hi - lo).toNat
theorem fI_e {p : Int → Bool} {lo hi : Int} (h : hi ≤ lo) : fI p lo hi = lo := by
  unfold fI
  rw [show (hi - lo).toNat = 0 by omega]
  rfl
theorem fI_f {p : Int → Bool} {lo hi : Int} (h : lo < hi) : fI p lo hi = if p lo then lo else fI p (lo + 1) hi := by
  unfold fI
  rw [show (hi - lo).toNat = (hi - (lo + 1)).toNat + 1 by omega]
  rfl
theorem fI_b {p : Int → Bool} {hi : Int} : ∀ lo : Int, lo ≤ hi → lo ≤ fI p lo hi ∧ fI p lo hi ≤ hi ∧ (∀ i, lo ≤ i → i < fI p lo hi → p i = false) ∧ (fI p lo hi < hi → p (fI p lo hi) = true) := by
  refine stepUp hi (fun lo ih h => ?_)
  by_cases h1 : lo < hi
  · rw [fI_f h1]
    by_cases hp : p lo = true
    · rw [if_pos hp]
      exact ⟨Int.le_refl _, h, fun i a b => by omega, fun _ => hp⟩
    · rw [if_neg hp]
      obtain ⟨a1, a2, a3, a4⟩ := ih h1 (by omega)
      refine ⟨by omega, a2, fun i h2 h3 => ?_, a4⟩
      by_cases e : i = lo
      · subst e; exact Bool.eq_false_iff.mpr hp
      · exact a3 i (by omega) h3
  · rw [fI_e (by omega)]
    exact ⟨Int.le_refl _, h, fun i a b => by omega, fun hh => by omega⟩
theorem fI_c {p q : Int → Bool} {hi : Int} : ∀ lo : Int, (∀ i, lo ≤ i → i < hi → p i = q i) → fI p lo hi = fI q lo hi := by
  refine stepUp hi (fun lo ih h => ?_)
  by_cases h1 : lo < hi
  · rw [fI_f h1, fI_f h1, h lo (by omega) h1, ih h1 (fun i a b => h i (by omega) b)]
  · rw [fI_e (by omega), fI_e (by omega)]
theorem mn_mn (x y z : Int) : mn (mn x y) z = mn x (mn y z) := by
  unfold mn
  repeat' split
  all_goals omega
theorem mI_mn {f : Int → Int} {hi : Int} : ∀ (lo x y : Int), mI f lo hi (mn x y) = mn x (mI f lo hi y) := by
  refine stepUp hi (fun lo ih x y => ?_)
  by_cases h : lo < hi
  · rw [mI_f h, mI_f h, mn_mn]
    exact ih h x _
  · rw [mI_e (by omega), mI_e (by omega)]
