/-! ===== what holds of the class's numbers between calls (j..), and how the reference's numbers stand to them (r..) ===== -/
def szI (t c : Int) : Int := if t = 3 then 12 else if t = 4 then 6 else if t = 5 then 8 else if t = 6 then 10 + c else if t = 7 then 8 else if t = 8 then 6 else 4
/-- contents of files: which exist, and their blocks -/
abbrev fF : Type := (Int → Int) × (Int → Int)
def fup (f : Int → Int) (i v : Int) : Int → Int := fun j => if j = i then v else f j
def fwr (x : fF) (f p v : Int) : fF := (fup x.1 f 1, fup (if x.1 f = 1 then x.2 else fun j => if 4 * f ≤ j ∧ j < 4 * f + 4 then 0 else x.2 j) (4 * f + p) v)
def fcp (x : fF) (f t : Int) : fF := (fup x.1 t (x.1 f), fun j => if 4 * t ≤ j ∧ j < 4 * t + 4 then x.2 (4 * f + (j - 4 * t)) else x.2 j)
/-- what a record does to the files -/
def fch (s : aS) (x : fF) (k : Int) : fF := if s 4 k = 3 then fwr x (s 8 k) (s 10 k) (s 12 k) else if s 4 k = 4 then (fup x.1 (s 8 k) 0, x.2) else if s 4 k = 5 then fcp x (s 8 k) (s 10 k) else x
def fEq (x y : fF) : Prop := ∀ f, 0 ≤ f → f < 8 → x.1 f = y.1 f ∧ (x.1 f = 1 → ∀ p, 0 ≤ p → p < 4 → x.2 (4 * f + p) = y.2 (4 * f + p))
/-- the records with effects from lo on, n numbers, in the order of effects -/
def el (s : aS) (lo : Int) : Nat → List Int
  | 0 => []
  | n + 1 => el s lo n ++ lI (fun k => decide (s 18 k = lo + n)) 0 (lo + n + 1)
def eL (s : aS) (lo hi : Int) : List Int := el s lo (hi - lo).toNat
theorem eL_e {s : aS} {lo hi : Int} (h : hi ≤ lo) : eL s lo hi = [] := by
  unfold eL
  rw [show (hi - lo).toNat = 0 by omega]
  rfl
theorem eL_l {s : aS} {lo hi : Int} (h : lo ≤ hi) : eL s lo (hi + 1) = eL s lo hi ++ lI (fun k => decide (s 18 k = hi)) 0 (hi + 1) := by
  unfold eL
  rw [show (hi + 1 - lo).toNat = (hi - lo).toNat + 1 by omega]
  show el s lo (hi - lo).toNat ++ lI (fun k => decide (s 18 k = lo + ((hi - lo).toNat : Nat))) 0 (lo + ((hi - lo).toNat : Nat) + 1) = _
  rw [show lo + (((hi - lo).toNat : Nat) : Int) = hi by omega]
/-- the first record in the log -/
def jB (s : aS) : Prop :=
  (0 ≤ s 21 2 ∧ s 21 2 ≤ s 21 3 ∧ s 21 6 = s 21 2 ∧ 40 ≤ s 21 4 ∧ s 21 4 ≤ 400) ∧
  (s 23 (s 21 2) ≤ s 2 10 ∧ s 2 10 ≤ s 2 9 ∧ s 2 9 ≤ 400) ∧
  (0 ≤ s 1 11 ∧ (s 1 11 = 0 ∨ s 1 11 < s 2 10)) ∧
  (40 ≤ s 1 12 ∧ s 1 12 ≤ 9999 ∧ 0 ≤ s 1 13 ∧ s 1 13 ≤ 100) ∧
  (0 ≤ s 26 6 ∧ s 26 6 ≤ 6) ∧ (0 ≤ s 1 10 ∧ s 1 10 ≤ 50)
/-- a record's numbers -/
def jR1 (s : aS) (k : Int) : Prop :=
  (0 ≤ s 4 k ∧ s 4 k ≤ 8) ∧ (0 ≤ s 8 k ∧ s 8 k ≤ 9999) ∧ (0 ≤ s 10 k ∧ s 10 k ≤ 9999) ∧ (0 ≤ s 12 k ∧ s 12 k ≤ 9999) ∧
  s 14 k = szI (s 4 k) (s 12 k) ∧
  (s 4 k = 3 → s 8 k < 8 ∧ s 10 k < 4) ∧ (s 4 k = 4 → s 8 k < 8) ∧ (s 4 k = 5 → s 8 k < 8 ∧ s 10 k < 8) ∧
  (s 4 k = 6 → s 8 k < 4 ∧ s 12 k ≤ 20) ∧ (s 4 k = 7 → s 8 k < 6 ∧ s 10 k ≤ 400)
/-- whose it is, and when it has its effect -/
def jR2 (s : aS) (k : Int) : Prop :=
  (-1 ≤ s 6 k ∧ s 6 k ≤ k) ∧ (s 4 k = 0 → s 6 k = k) ∧ (s 4 k ≠ 0 → s 6 k < k) ∧ (s 4 k = 7 ∨ s 4 k = 8 → s 6 k = -1) ∧
  (s 4 k = 1 ∨ s 4 k = 2 → 0 ≤ s 6 k) ∧
  (s 4 k ≤ 2 ∨ s 4 k = 8 → s 18 k = -1) ∧
  (3 ≤ s 4 k ∧ s 4 k ≤ 7 ∧ s 6 k = -1 → s 18 k = k) ∧
  (3 ≤ s 4 k ∧ s 4 k ≤ 6 ∧ 0 ≤ s 6 k → s 18 k = -1 ∨ (k < s 18 k ∧ s 18 k < s 2 9 ∧ s 4 (s 18 k) = 1 ∧ s 6 (s 18 k) = s 6 k)) ∧
  (s 4 k = 1 → ∀ j, s 6 k < j → j < k → s 6 j = s 6 k → 3 ≤ s 4 j ∧ s 18 j = k)
def jR (s : aS) : Prop := ∀ k, 0 ≤ k → k < s 2 9 → jR1 s k ∧ jR2 s k
def jD (s : aS) : Prop := ∀ k, 0 ≤ k → k < s 2 9 → (s 20 k = 0 ∨ s 20 k = 1) ∧ (k < s 2 10 → s 20 k = 0)
/-- transactions -/
def jT (s : aS) : Prop := ∀ t, 0 ≤ t → t < 4 → s 55 t = -1 ∨
  ((s 23 (s 21 2) ≤ s 55 t ∧ 0 ≤ s 55 t ∧ s 55 t < s 2 9) ∧ (∀ j, s 55 t < j → j < s 2 9 → s 6 j = s 55 t → 3 ≤ s 4 j ∧ s 4 j ≤ 6 ∧ s 18 j = -1) ∧
   s 57 t = sI (fun j => if s 6 j = s 55 t then 1 else 0) (s 55 t + 1) (s 2 9) ∧ (∀ u, 0 ≤ u → u < 4 → u ≠ t → s 55 u ≠ s 55 t))
/-- visible messages -/
def jV (s : aS) : Prop := ∀ t, 0 ≤ t → t < 4 → (0 ≤ s 30 t ∧ s 30 t ≤ 400) ∧
  (∀ i, 0 ≤ i → i < s 30 t → (0 ≤ s 28 (400 * t + i) ∧ s 28 (400 * t + i) < s 2 9) ∧ s 4 (s 28 (400 * t + i)) = 6 ∧ s 8 (s 28 (400 * t + i)) = t ∧ 0 ≤ s 18 (s 28 (400 * t + i))) ∧
  (∀ i j, 0 ≤ i → i < j → j < s 30 t → s 28 (400 * t + i) ≠ s 28 (400 * t + j) ∧ s 18 (s 28 (400 * t + i)) ≤ s 18 (s 28 (400 * t + j)))
/-- consumers -/
def jC (s : aS) : Prop := (∀ c, 0 ≤ c → c < s 26 6 → (0 ≤ s 32 c ∧ s 32 c < 4) ∧ (0 ≤ s 34 c ∧ s 34 c ≤ s 30 (s 32 c)) ∧ (0 ≤ s 36 c ∧ s 36 c ≤ s 30 (s 32 c)) ∧
    (∀ i, 0 ≤ i → i < s 34 c → s 18 (s 28 (400 * s 32 c + i)) < s 2 10)) ∧
  (∀ c, 0 ≤ c → c < 6 → (-1 ≤ s 38 c ∧ s 38 c ≤ 400) ∧ (s 26 6 ≤ c → s 38 c = -1))
/-- segments -/
def jS (s : aS) : Prop := (∀ i, s 21 2 ≤ i → i < s 21 3 → s 23 i < s 23 (i + 1) ∧ s 25 i = sI (s 14) (s 23 i) (s 23 (i + 1))) ∧
  s 21 2 ≤ s 23 (s 21 2) ∧ s 23 (s 21 3) ≤ s 2 9 ∧ s 25 (s 21 3) = sI (s 14) (s 23 (s 21 3)) (s 2 9) ∧ s 21 5 = sI (s 14) (s 23 (s 21 2)) (s 2 9)
/-- files: those of now are those that are recovered from the kept ones -/
def jN (s : aS) : Prop := (∀ f, 0 ≤ f → f < 8 → s 46 f = 0 ∨ s 46 f = 1) ∧ fEq (s 41, s 43) ((eL s (s 1 11) (s 2 9)).foldl (fch s) (s 46, s 48))
/-- what was trimmed is needed no more -/
def jH (s : aS) : Prop := ∀ k, 0 ≤ k → k < s 23 (s 21 2) → (3 ≤ s 4 k ∧ s 4 k ≤ 5) ∨ s 4 k = 7 → s 18 k < s 1 11
/-- messages taken; the text -/
def jY (s : aS) : Prop := (∀ i, 0 ≤ i → i < s 1 10 → 0 ≤ s 61 i ∧ s 61 i < s 2 10) ∧ (0 ≤ s 0 3 ∧ s 0 3 ≤ 900) ∧ (∀ i, 0 ≤ i → i < s 0 3 → -128 ≤ s 85 i ∧ s 85 i ≤ 127)
def jJ (s : aS) : Prop := jB s ∧ jR s ∧ jD s ∧ jT s ∧ jV s ∧ jC s ∧ jS s ∧ jN s ∧ jH s ∧ jY s
/-- the reference: its numbers -/
def rS (s a : aS) : Prop := a 86 3 = s 21 4 ∧ a 86 4 = s 1 12 ∧ a 86 5 = s 1 13 ∧ a 86 15 = s 2 9 ∧ a 86 16 = s 2 10 ∧ a 86 19 = s 21 3 - s 21 2 + 1 ∧ a 86 20 = s 21 2 ∧ a 86 27 = s 26 6 ∧ a 86 28 = s 1 11 ∧ a 86 34 = s 1 10
def rR (s a : aS) : Prop := ∀ k, 0 ≤ k → k < s 2 9 → a 88 k = s 4 k ∧ a 89 k = s 6 k ∧ a 90 k = s 8 k ∧ a 91 k = s 10 k ∧ a 92 k = s 12 k ∧ a 93 k = s 14 k ∧ a 94 k = s 18 k ∧ a 95 k = s 16 k ∧ a 96 k = s 20 k
def rG (s a : aS) : Prop := ∀ i, 0 ≤ i → i ≤ s 21 3 - s 21 2 → a 97 i = s 21 2 + i ∧ a 98 i = s 23 (s 21 2 + i)
def rT (s a : aS) : Prop := ∀ t, 0 ≤ t → t < 4 → a 99 t = s 55 t
def rV (s a : aS) : Prop := ∀ t, 0 ≤ t → t < 4 → a 101 t = s 30 t ∧ ∀ i, 0 ≤ i → i < s 30 t → a 100 (400 * t + i) = s 28 (400 * t + i)
def rC (s a : aS) : Prop := ∀ c, 0 ≤ c → c < s 26 6 → a 102 c = s 32 c ∧ a 103 c = s 34 c
def rP (s a : aS) : Prop := ∀ c k, 0 ≤ c → c < 6 → 0 ≤ k → k < 400 → a 104 (400 * c + k) = if c < s 26 6 ∧ s 34 c ≤ k ∧ k < s 36 c then 1 else 0
def rK (s a : aS) : Prop := (a 86 29 = 0 ∧ s 1 11 = 0 ∧ (∀ f, 0 ≤ f → f < 8 → s 46 f = 0) ∧ (∀ c, 0 ≤ c → c < 6 → s 38 c = -1)) ∨
  (a 86 29 = 1 ∧ (∀ f, 0 ≤ f → f < 8 → a 106 f = s 46 f ∧ (s 46 f = 1 → ∀ p, 0 ≤ p → p < 4 → a 105 (4 * f + p) = s 48 (4 * f + p))) ∧ (∀ c, 0 ≤ c → c < s 26 6 → a 107 c = s 38 c))
def rM (s a : aS) : Prop := ∀ i, 0 ≤ i → i < s 1 10 → a 108 (3 * i) = s 61 i ∧ a 108 (3 * i + 1) = s 10 (s 61 i) ∧ a 108 (3 * i + 2) = s 12 (s 61 i)
/-- the text, and what the last run said -/
def rX (s a : aS) : Prop := a 86 2 = s 0 3 ∧ (∀ i, 0 ≤ i → i < s 0 3 → a 87 i = s 85 i % 256) ∧ a 86 45 = s 63 10 ∧ a 86 46 = s 63 11 ∧ a 86 61 = s 62 2 ∧ a 86 62 = s 62 3
def rL (s a : aS) : Prop := rS s a ∧ rR s a ∧ rG s a ∧ rT s a ∧ rV s a ∧ rC s a ∧ rP s a ∧ rK s a ∧ rM s a
def rJ (s a : aS) : Prop := rL s a ∧ rX s a
def lR (σ : qS) : Prop := ∃ a : aS, σ = qi a ∧ jJ a ∧ rJ a a
/-- the numbers of the class alone, of the reference alone -/
def frC (a b : aS) : Prop := ∀ k, k < 86 → b k = a k
def frM (a b : aS) : Prop := ∀ k, 86 ≤ k → b k = a k
