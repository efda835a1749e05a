/-! ===== what a program does ===== -/
/-- the worth of an atom: kind, number, sign -/
def av (s : aS) (p : Int × Int × Int) : Int := if p.1 = 14 then s 2 9 else if p.1 = 15 then s 2 10 else if p.1 = 16 then s 21 5 else if p.1 = 17 then (if p.2.1 < 0 ∨ s 26 6 ≤ p.2.1 then 0 else s 30 (s 32 p.2.1) - s 34 p.2.1) else p.2.1
def sv (s : aS) : Int → List (Int × Int × Int) → Int
  | x, [] => x
  | x, p :: t => sv s (x + p.2.2 * av s p) t
/-- the token of the comparison -/
def pxT (C : Int → Int) (j : Int) : Int := match psum C 900 j with | .inl x => x | .inr x => x
def hb (C V : Int → Int) (s : aS) (j : Int) : Bool :=
  if C (pxT C (j + 1)) = 60 then !decide (iI (sv s 0 (psl C V 900 1 (pxT C (j + 1) + 1))) ≤ iI (sv s 0 (psl C V 900 1 (j + 1))))
  else if C (pxT C (j + 1)) = 61 then decide (iI (sv s 0 (psl C V 900 1 (j + 1))) = iI (sv s 0 (psl C V 900 1 (pxT C (j + 1) + 1))))
  else !decide (iI (sv s 0 (psl C V 900 1 (j + 1))) ≤ iI (sv s 0 (psl C V 900 1 (pxT C (j + 1) + 1))))
/-- how many rounds the block of the command j has -/
def rdS (C V : Int → Int) (s : aS) (j : Int) : Int := if C j = 267 then V (j + 1) else if hb C V s j then 1 else 0
/-- a number as the machine keeps it -/
def n32 (z : Int) : Int := (iI z).toInt
theorem n32_i (z : Int) : i32 (n32 z) := ⟨Int32.le_toInt _, Int32.toInt_lt _⟩
theorem n32_e (z : Int) : iI (n32 z) = iI z := by
  unfold n32
  exact Int32.ofInt_toInt _
abbrev rSt : Type := List (Int × Int)
def lv (E : Int → Int) (k : Int) : rSt → Int × rSt
  | [] => (k, [])
  | (o, r) :: t => if k = E o then (if 0 < r - 1 then (o + 1, (o, r - 1) :: t) else lv E k t) else (k, (o, r) :: t)
/-- one command more is begun -/
def bg1 (s : aS) : aS := aup s 62 1 (s 62 1 + 1)
section RP
variable (C V S J E : Int → Int) (K : Int)
def cI (s : aS) (k : Int) : Prop := bI s (C (J k)) (n32 (V (J k + 1))) (n32 (V (J k + 2))) (n32 (ptx C V (J k)))
def cA (k : Int) : Prop := bA (C (J k)) (n32 (V (J k + 1))) (n32 (V (J k + 2))) (n32 (V (J k + 3)))
def cS (s : aS) (k : Int) : Prop := bS s (C (J k)) (n32 (V (J k + 1))) (n32 (ptx C V (J k)))
def cO (s : aS) (k : Int) : aS := stS (opS s (C (J k)) (n32 (V (J k + 1))) (n32 (V (J k + 2))) (n32 (V (J k + 3))) (n32 (ptx C V (J k))))
def cF1 (s : aS) (k f : Int) : Prop := (cI C V J s k ∧ f = 1) ∨ (¬ cI C V J s k ∧ cA C V J k ∧ f = 2) ∨ (¬ cI C V J s k ∧ ¬ cA C V J k ∧ cS C V J s k ∧ f = 3)
def rEnd (X : Int × rSt) (s F : aS) : Prop :=
  (K ≤ X.1 ∧ F = s) ∨
  (X.1 < K ∧ 200 < s 62 1 + 1 ∧ F = aup (aup (bg1 s) 62 2 4) 62 3 (S (J X.1))) ∨
  (X.1 < K ∧ s 62 1 + 1 ≤ 200 ∧ C (J X.1) < 267 ∧ ∃ f, cF1 C V J (bg1 s) X.1 f ∧ F = aup (aup (bg1 s) 62 2 f) 62 3 (S (J X.1)))
def rNext (X : Int × rSt) (s : aS) (Y : Int × rSt) (t : aS) : Prop := X.1 < K ∧ s 62 1 + 1 ≤ 200 ∧
  ((267 ≤ C (J X.1) ∧ (rdS C V (bg1 s) (J X.1) = 0 ∨ E X.1 = X.1 + 1) ∧ Y = lv E (E X.1) X.2 ∧ t = bg1 s) ∨
   (267 ≤ C (J X.1) ∧ (1 ≤ rdS C V (bg1 s) (J X.1) ∧ rdS C V (bg1 s) (J X.1) ≤ 50) ∧ E X.1 ≠ X.1 + 1 ∧ X.2.length < 4 ∧ Y = (X.1 + 1, (X.1, rdS C V (bg1 s) (J X.1)) :: X.2) ∧ t = bg1 s) ∨
   (C (J X.1) < 267 ∧ (¬ cI C V J (bg1 s) X.1 ∧ ¬ cA C V J X.1 ∧ ¬ cS C V J (bg1 s) X.1) ∧ Y = lv E (E X.1) X.2 ∧ t = cO C V J (bg1 s) X.1))
def rr : Nat → (Int × rSt) → aS → aS → Prop
  | 0, _, _, _ => False
  | n + 1, X, s, F => rEnd C V S J K X s F ∨ ∃ Y t, rNext C V J E K X s Y t ∧ rr n Y t F
def rto (X : Int × rSt) (s : aS) (Y : Int × rSt) (t : aS) : Prop := ∀ n F, rr C V S J E K n Y t F → ∃ n', rr C V S J E K n' X s F
def rfi (X : Int × rSt) (s F : aS) : Prop := ∃ n, rr C V S J E K n X s F
end RP
section RQ
variable {C V S J E : Int → Int} {K : Int}
theorem rto_rf (X : Int × rSt) (s : aS) : rto C V S J E K X s X s := fun n _ h => ⟨n, h⟩
theorem rto_tr {X Y Z : Int × rSt} {s t u : aS} (h1 : rto C V S J E K X s Y t) (h2 : rto C V S J E K Y t Z u) : rto C V S J E K X s Z u := fun n F h => by
  obtain ⟨n', h'⟩ := h2 n F h
  exact h1 n' F h'
theorem rto_st {X Y : Int × rSt} {s t : aS} (h : rNext C V J E K X s Y t) : rto C V S J E K X s Y t := fun n F hr => ⟨n + 1, Or.inr ⟨Y, t, h, hr⟩⟩
theorem rfi_end {X : Int × rSt} {s F : aS} (h : rEnd C V S J K X s F) : rfi C V S J E K X s F := ⟨1, Or.inl h⟩
theorem rfi_to {X Y : Int × rSt} {s t F : aS} (h1 : rto C V S J E K X s Y t) (h2 : rfi C V S J E K Y t F) : rfi C V S J E K X s F := by
  obtain ⟨n, h⟩ := h2
  exact h1 n F h
theorem lv_ne {o r k : Int} {t : rSt} (h : k ≠ E o) : lv E k ((o, r) :: t) = (k, (o, r) :: t) := if_neg h
theorem lv_1 {o r : Int} {t : rSt} (h : 0 < r - 1) : lv E (E o) ((o, r) :: t) = (o + 1, (o, r - 1) :: t) := by
  show (if E o = E o then (if 0 < r - 1 then (o + 1, (o, r - 1) :: t) else lv E (E o) t) else _) = _
  rw [if_pos rfl, if_pos h]
theorem lv_0 {o r : Int} {t : rSt} (h : ¬ 0 < r - 1) : lv E (E o) ((o, r) :: t) = lv E (E o) t := by
  show (if E o = E o then (if 0 < r - 1 then (o + 1, (o, r - 1) :: t) else lv E (E o) t) else _) = _
  rw [if_pos rfl, if_neg h]
end RQ
/-- in a chain every end lies behind its beginning -/
theorem chn_E {J E C : Int → Int} : ∀ (n l : Nat) (a z : Int), chn J E C n l a z → ∀ x, a ≤ x → x < z → x < E x ∧ E x ≤ z ∧ (C (J x) < 267 → E x = x + 1) := by
  intro n
  induction n with
  | zero => intro l a z h x h1 h2; have : a = z := h; omega
  | succ n ih =>
    intro l a z h x h1 h2
    rcases h with h | ⟨g1, g2, g3, g4, g5, g6⟩
    · omega
    · by_cases e : x = a
      · rw [e]; exact ⟨g2, g3, g4⟩
      · by_cases e2 : x < E a
        · by_cases hc : 267 ≤ C (J a)
          · obtain ⟨l', -, h7⟩ := g5 hc
            have := ih _ _ _ h7 x (by omega) e2
            exact ⟨this.1, by omega, this.2.2⟩
          · have := g4 (by omega)
            omega
        · exact ih _ _ _ g6 x (by omega) h2
theorem ch_E {J E C : Int → Int} {l : Nat} {a z : Int} (h : ch J E C l a z) : ∀ x, a ≤ x → x < z → x < E x ∧ E x ≤ z ∧ (C (J x) < 267 → E x = x + 1) := by
  obtain ⟨n, hn⟩ := h
  exact chn_E n l a z hn
/-! the words take no other numbers -/
section RN
variable {s : aS} {wd a b c a' b' c' tx : Int}
theorem bI_n (h0 : 256 ≤ wd) (h1 : wd < 267) (ha : 1 ≤ nbs (wd - 256) → a' = a) (hb' : 2 ≤ nbs (wd - 256) → b' = b) : bI s wd a' b' tx ↔ bI s wd a b tx := by
  rcases wd_c ⟨h0, by omega⟩ with h | h | h | h | h | h | h | h | h | h | h <;> subst h
  · unfold bI; omega
  · rw [ha (by decide)]; unfold bI; omega
  · rw [ha (by decide)]; unfold bI; omega
  · rw [ha (by decide), hb' (by decide)]
  · rw [ha (by decide)]; unfold bI; omega
  · rw [ha (by decide), hb' (by decide)]
  · rw [ha (by decide), hb' (by decide)]
  · rw [ha (by decide)]; unfold bI; omega
  · rw [ha (by decide), hb' (by decide)]
  · unfold bI; omega
  · unfold bI; omega
theorem bA_n (h0 : 256 ≤ wd) (h1 : wd < 267) (ha : 1 ≤ nbs (wd - 256) → a' = a) (hb' : 2 ≤ nbs (wd - 256) → b' = b) (hc : 3 ≤ nbs (wd - 256) → c' = c) : bA wd a' b' c' ↔ bA wd a b c := by
  rcases wd_c ⟨h0, by omega⟩ with h | h | h | h | h | h | h | h | h | h | h <;> subst h
  · unfold bA; omega
  · unfold bA; omega
  · unfold bA; omega
  · rw [ha (by decide), hb' (by decide), hc (by decide)]
  · unfold bA; omega
  · rw [ha (by decide), hb' (by decide)]; unfold bA; omega
  · rw [ha (by decide), hb' (by decide), hc (by decide)]
  · unfold bA; omega
  · rw [ha (by decide), hb' (by decide)]; unfold bA; omega
  · unfold bA; omega
  · unfold bA; omega
theorem bS_N (h0 : 256 ≤ wd) (h1 : wd < 267) (ha : 1 ≤ nbs (wd - 256) → a' = a) : bS s wd a' tx ↔ bS s wd a tx := by
  rcases wd_c ⟨h0, by omega⟩ with h | h | h | h | h | h | h | h | h | h | h <;> subst h
  · unfold bS; omega
  · rw [ha (by decide)]
  · rw [ha (by decide)]
  · rw [ha (by decide)]
  · rw [ha (by decide)]
  · rw [ha (by decide)]
  · rw [ha (by decide)]
  · rw [ha (by decide)]
  · rw [ha (by decide)]
  · unfold bS; omega
  · unfold bS; omega
theorem op_n (h0 : 256 ≤ wd) (h1 : wd < 267) (ha : 1 ≤ nbs (wd - 256) → a' = a) (hb' : 2 ≤ nbs (wd - 256) → b' = b) (hc : 3 ≤ nbs (wd - 256) → c' = c) : opS s wd a' b' c' tx = opS s wd a b c tx := by
  rcases wd_c ⟨h0, by omega⟩ with h | h | h | h | h | h | h | h | h | h | h <;> subst h
  · rw [op_256, op_256]
  · rw [ha (by decide), op_257, op_257]
  · rw [ha (by decide), op_258, op_258]
  · rw [ha (by decide), hb' (by decide), hc (by decide)]
  · rw [ha (by decide)]
    by_cases ht : tx = -1
    · rw [ht, op_260n, op_260n]
    · rw [op_260t ht, op_260t ht]
  · rw [ha (by decide), hb' (by decide)]
    by_cases ht : tx = -1
    · rw [ht, op_261n, op_261n]
    · rw [op_261t ht, op_261t ht]
  · rw [ha (by decide), hb' (by decide), hc (by decide)]
  · rw [ha (by decide), op_263, op_263]
  · rw [ha (by decide), hb' (by decide)]
    by_cases ht : rdN s a b = 0
    · rw [op_264z ht, op_264z ht]
    · rw [op_264p ht, op_264p ht]
  · rw [op_265, op_265]
  · rw [op_266, op_266]
end RN
/-- cells of the runner and of the program are none of the invariant's -/
theorem jJ_w {a b : aS} (h : jJ a) (hf : ∀ k, k < 62 ∨ k = 85 → b k = a k) : jJ b := by
  have el0 : ∀ (lo : Int) (n : Nat), el b lo n = el a lo n := by
    intro lo n
    induction n with
    | zero => rfl
    | succ n ih => show el b lo n ++ lI (fun k => decide (b 18 k = lo + n)) 0 (lo + n + 1) = el a lo n ++ lI (fun k => decide (a 18 k = lo + n)) 0 (lo + n + 1); rw [ih, hf 18 (by decide)]
  have ec : fch b = fch a := by
    funext x k
    unfold fch
    rw [hf 4 (by decide), hf 8 (by decide), hf 10 (by decide), hf 12 (by decide)]
  unfold jJ jB jR jR1 jR2 jD jT jV jC jS jN jH jY eL at h ⊢
  rw [ec]
  simp only [el0]
  rw [hf 0 (by decide), hf 1 (by decide), hf 2 (by decide), hf 4 (by decide), hf 6 (by decide), hf 8 (by decide), hf 10 (by decide), hf 12 (by decide), hf 14 (by decide), hf 18 (by decide), hf 20 (by decide), hf 21 (by decide), hf 23 (by decide), hf 25 (by decide), hf 26 (by decide), hf 28 (by decide), hf 30 (by decide), hf 32 (by decide), hf 34 (by decide), hf 36 (by decide), hf 38 (by decide), hf 41 (by decide), hf 43 (by decide), hf 46 (by decide), hf 48 (by decide), hf 55 (by decide), hf 57 (by decide), hf 61 (by decide), hf 85 (by decide)]
  exact h
theorem rL_w {s t a : aS} (h : rL s a) (hf : ∀ k, k < 62 → t k = s k) : rL t a := by
  unfold rL rS rR rG rT rV rC rP rK rM at h ⊢
  rw [hf 1 (by decide), hf 2 (by decide), hf 4 (by decide), hf 6 (by decide), hf 8 (by decide), hf 10 (by decide), hf 12 (by decide), hf 14 (by decide), hf 16 (by decide), hf 18 (by decide), hf 20 (by decide), hf 21 (by decide), hf 23 (by decide), hf 26 (by decide), hf 28 (by decide), hf 30 (by decide), hf 32 (by decide), hf 34 (by decide), hf 36 (by decide), hf 38 (by decide), hf 46 (by decide), hf 48 (by decide), hf 55 (by decide), hf 61 (by decide)]
  exact h
theorem jJ_b {s : aS} (h : jJ s) : jJ (bg1 s) := jJ_w h (fun k hk => aup_o (by omega))
theorem rJ_b {s a : aS} (h : rJ s a) : rJ (bg1 s) a := by
  refine ⟨rL_w h.1 (fun k hk => aup_o (by omega)), ?_⟩
  have h2 := h.2
  unfold rX at h2 ⊢
  unfold bg1
  rw [aup_o (by decide), aup_o (by decide), aup_o (by decide), aup_i (by decide), aup_i (by decide)]
  exact h2
