/-! ===== pairs of calls, by outcomes: .inl r returns r, .inr j throws the j-th of the exceptions ===== -/
theorem z_leT {x y : Int} (h : x ≤ y) (h1 : -2147483648 ≤ x) (h4 : y < 2147483648) : (iI x ≤ iI y) = True := by
  rw [z_le h1 (by omega) (by omega) h4]
  exact eq_true h
theorem z_leF {x y : Int} (h : y < x) (h1 : x < 2147483648) (h4 : -2147483648 ≤ y) : (iI x ≤ iI y) = False := by
  rw [z_le (by omega) h1 h4 (by omega)]
  exact eq_false (by omega)
theorem z_ltT {x y : Int} (h : x < y) (h1 : -2147483648 ≤ x) (h4 : y < 2147483648) : (iI x < iI y) = True := by
  rw [z_lt h1 (by omega) (by omega) h4]
  exact eq_true h
theorem z_ltF {x y : Int} (h : y ≤ x) (h1 : x < 2147483648) (h4 : -2147483648 ≤ y) : (iI x < iI y) = False := by
  rw [z_lt (by omega) h1 h4 (by omega)]
  exact eq_false (by omega)
theorem z_eqT {x y : Int} (h : x = y) : (iI x = iI y) = True := by rw [h]; exact eq_true rfl
theorem z_eqF {x y : Int} (h : x < y ∨ y < x) (h1 : -2147483648 ≤ x) (h2 : x < 2147483648) (h3 : -2147483648 ≤ y) (h4 : y < 2147483648) : (iI x = iI y) = False := by
  rw [z_eq h1 h2 h3 h4]
  exact eq_false (by omega)
theorem z_wi1 {x l h : Int} (h1 : l ≤ x) (h2 : x ≤ h) (h3 : -2147483648 ≤ l) (h6 : h < 2147483648) : qwi (iI x) (iI l) (iI h) = iI 1 := by
  rw [z_wi (by omega) (by omega) (by omega) (by omega) (by omega) (by omega), if_pos ⟨h1, h2⟩]
theorem z_wi0 {x l h : Int} (h1 : x < l ∨ h < x) (h2 : -2147483648 ≤ x) (h3 : x < 2147483648) (h4 : -2147483648 ≤ l) (h5 : l < 2147483648) (h6 : -2147483648 ≤ h) (h7 : h < 2147483648) : qwi (iI x) (iI l) (iI h) = iI 0 := by
  rw [z_wi (by omega) (by omega) (by omega) (by omega) (by omega) (by omega), if_neg (by omega)]
theorem i_leT {x y : Int} (h : x ≤ y) : (x ≤ y) = True := eq_true h
theorem i_leF {x y : Int} (h : y < x) : (x ≤ y) = False := eq_false (by omega)
theorem i_ltT {x y : Int} (h : x < y) : (x < y) = True := eq_true h
theorem i_ltF {x y : Int} (h : y ≤ x) : (x < y) = False := eq_false (by omega)
theorem i_eqT {x y : Int} (h : x = y) : (x = y) = True := eq_true h
theorem i_eqF {x y : Int} (h : x < y ∨ y < x) : (x = y) = False := eq_false (by omega)
theorem z_fa000 : qfa (iI 0) (iI 0) (iI 0) = iI 0 := by decide +kernel
theorem z_fa001 : qfa (iI 0) (iI 0) (iI 1) = iI 3 := by decide +kernel
theorem z_fa010 : qfa (iI 0) (iI 1) (iI 0) = iI 2 := by decide +kernel
theorem z_fa011 : qfa (iI 0) (iI 1) (iI 1) = iI 2 := by decide +kernel
theorem z_fa100 : qfa (iI 1) (iI 0) (iI 0) = iI 1 := by decide +kernel
theorem z_fa101 : qfa (iI 1) (iI 0) (iI 1) = iI 1 := by decide +kernel
theorem z_fa110 : qfa (iI 1) (iI 1) (iI 0) = iI 1 := by decide +kernel
theorem z_fa111 : qfa (iI 1) (iI 1) (iI 1) = iI 1 := by decide +kernel
theorem z_of (x : Int32) : ∃ z : Int, (-2147483648 ≤ z ∧ z < 2147483648) ∧ x = iI z := ⟨x.toInt, ⟨by have := x.le_toInt; omega, by have := x.toInt_lt; omega⟩, (Int32.ofInt_toInt x).symm⟩
theorem rL_fr {s a b : aS} (h : rL s a) (hf : ∀ k, 86 ≤ k → k < 122 → (k ≠ 86 → b k = a k)) (h86 : ∀ i, i ≠ 0 → b 86 i = a 86 i) : rL s b := by
  unfold rL rS rR rG rT rV rC rP rK rM at h ⊢
  rw [h86 3 (by decide), h86 4 (by decide), h86 5 (by decide), h86 15 (by decide), h86 16 (by decide), h86 19 (by decide), h86 20 (by decide), h86 27 (by decide), h86 28 (by decide), h86 34 (by decide), h86 29 (by decide), hf 88 (by decide) (by decide) (by decide), hf 89 (by decide) (by decide) (by decide), hf 90 (by decide) (by decide) (by decide), hf 91 (by decide) (by decide) (by decide), hf 92 (by decide) (by decide) (by decide), hf 93 (by decide) (by decide) (by decide), hf 94 (by decide) (by decide) (by decide), hf 95 (by decide) (by decide) (by decide), hf 96 (by decide) (by decide) (by decide), hf 97 (by decide) (by decide) (by decide), hf 98 (by decide) (by decide) (by decide), hf 99 (by decide) (by decide) (by decide), hf 100 (by decide) (by decide) (by decide), hf 101 (by decide) (by decide) (by decide), hf 102 (by decide) (by decide) (by decide), hf 103 (by decide) (by decide) (by decide), hf 104 (by decide) (by decide) (by decide), hf 105 (by decide) (by decide) (by decide), hf 106 (by decide) (by decide) (by decide), hf 107 (by decide) (by decide) (by decide), hf 108 (by decide) (by decide) (by decide)]
  exact h
theorem rX_fr {s a b : aS} (h : rX s a) (h87 : b 87 = a 87) (h86 : ∀ i, i ≠ 0 → b 86 i = a 86 i) : rX s b := by
  unfold rX at h ⊢
  rw [h86 2 (by decide), h86 45 (by decide), h86 46 (by decide), h86 61 (by decide), h86 62 (by decide), h87]
  exact h
/-- the cell 'thrown' and those of the law are looked at nowhere -/
theorem rJ_fr {s a b : aS} (h : rJ s a) (hf : ∀ k, 87 ≤ k → k < 122 → b k = a k) (h86 : ∀ i, i ≠ 0 → b 86 i = a 86 i) : rJ s b :=
  ⟨rL_fr h.1 (fun k h1 h2 h3 => hf k (by omega) h2) h86, rX_fr h.2 (hf 87 (by decide) (by decide)) h86⟩
theorem jJ_fr {a b : aS} (h : jJ a) (hf : ∀ k, k < 86 → b k = a k) : jJ b := by
  have e : ∀ (k : Nat) (i : Int), k < 86 → b k i = a k i := fun k i hk => by rw [hf k hk]
  have el0 : ∀ (lo : Int) (n : Nat), el b lo n = el a lo n := by
    intro lo n
    induction n with
    | zero => rfl
    | succ n ih => show el b lo n ++ lI (fun k => decide (b 18 k = lo + n)) 0 (lo + n + 1) = el a lo n ++ lI (fun k => decide (a 18 k = lo + n)) 0 (lo + n + 1); rw [ih, hf 18 (by decide)]
  have ec : fch b = fch a := by
    funext x k
    unfold fch
    rw [hf 4 (by decide), hf 8 (by decide), hf 10 (by decide), hf 12 (by decide)]
  unfold jJ jB jR jR1 jR2 jD jT jV jC jS jN jH jY eL at h ⊢
  rw [ec]
  simp only [el0]
  rw [hf 0 (by decide), hf 1 (by decide), hf 2 (by decide), hf 4 (by decide), hf 6 (by decide), hf 8 (by decide), hf 10 (by decide), hf 12 (by decide), hf 14 (by decide), hf 18 (by decide), hf 20 (by decide), hf 21 (by decide), hf 23 (by decide), hf 25 (by decide), hf 26 (by decide), hf 28 (by decide), hf 30 (by decide), hf 32 (by decide), hf 34 (by decide), hf 36 (by decide), hf 38 (by decide), hf 41 (by decide), hf 43 (by decide), hf 46 (by decide), hf 48 (by decide), hf 55 (by decide), hf 57 (by decide), hf 61 (by decide), hf 85 (by decide)]
  exact h
theorem rJ_s {s t a : aS} (h : rJ s a) (hf : ∀ k, k < 86 → t k = s k) : rJ t a := by
  unfold rJ rL rS rR rG rT rV rC rP rK rM rX at h ⊢
  rw [hf 0 (by decide), hf 1 (by decide), hf 2 (by decide), hf 4 (by decide), hf 6 (by decide), hf 8 (by decide), hf 10 (by decide), hf 12 (by decide), hf 14 (by decide), hf 16 (by decide), hf 18 (by decide), hf 20 (by decide), hf 21 (by decide), hf 23 (by decide), hf 26 (by decide), hf 28 (by decide), hf 30 (by decide), hf 32 (by decide), hf 34 (by decide), hf 36 (by decide), hf 38 (by decide), hf 46 (by decide), hf 48 (by decide), hf 55 (by decide), hf 61 (by decide), hf 62 (by decide), hf 63 (by decide), hf 85 (by decide)]
  exact h
theorem lR_of {s b : aS} (hJ : jJ s) (hr : rJ s b) (hf : ∀ k, k < 86 → b k = s k) : lR (qi b) := ⟨b, rfl, jJ_fr hJ hf, rJ_s hr hf⟩
/-- what a call of the class does: from a to a', with outcome o -/
def kO (g : qG) (D : Nat) (M : qMd) (as : List qP) (es : List String) (a a' : aS) (o : Int ⊕ Nat) : Prop :=
  ∀ (Q : Int32 → qS → Prop) (T : String → qS → Prop), (∀ r, o = .inl r → Q (iI r) (qi a')) → (∀ j E, o = .inr j → es[j]? = some E → T E (qi a')) → qC g D M (.inr 0 :: as) (qi a) Q T
/-- .. and one of the reference, whose numbers stand to s, then to s' -/
def mO (g : qG) (D : Nat) (M : qMd) (as : List qP) (s s' : aS) (o : Int ⊕ Nat) : Prop :=
  ∀ (a : aS) (Q : Int32 → qS → Prop), rJ s a → (∀ (b : aS) (r : Int), rJ s' b → (∀ k, k < 86 ∨ 122 ≤ k → b k = a k) → (∀ v, o = .inl v → b 86 0 = 0 ∧ r = v) → (∀ j : Nat, o = .inr j → b 86 0 = j + 1) → Q (iI r) (qi b)) → qC g D M (.inr 86 :: as) (qi a) Q (fun _ _ => False)
theorem pair_of {g : qG} {D : Nat} {Mx Mm : qMd} {as : List qP} {es : List String} {a a' : aS} {o : Int ⊕ Nat} (hk : kO g D Mx as es a a' o) (hm : mO g D Mm as a a' o) (hr : rJ a a) (hJ : jJ a') (hf : ∀ k, 86 ≤ k → a' k = a k) (hn : ∀ (i j : Nat) (E : String), es[i]? = some E → es[j]? = some E → i = j) : lPair g D lR Mx Mm as es (qi a) := by
  unfold lPair
  refine hk _ _ (fun r ho => ?_) (fun j E ho hE => ⟨List.mem_of_getElem? hE, fun i hi => ?_⟩)
  · rw [z_up]
    refine hm _ _ (rJ_fr hr (fun k h1 h2 => ?_) (fun i hi => ?_)) (fun b r' h1 h2 h3 h4 => ⟨lR_of hJ h1 (fun k hk' => ?_), ?_, ?_⟩)
    · rw [aup_o (by omega), hf k (by omega)]
    · rw [aup_o (by omega), hf 86 (by omega)]
    · rw [h2 k (Or.inl hk'), aup_o (by omega)]
    · show iI (b 86 ((0 : Nat) : Int)) = 0
      rw [show b 86 ((0 : Nat) : Int) = 0 from (h3 r ho).1]
      rfl
    · rw [(h3 r ho).2]
      show iI r = iI (b 122 ((0 : Nat) : Int))
      rw [h2 122 (Or.inr (by decide))]
      exact congrArg iI (aup_s _ _ _ _).symm
  · have e : i = j := hn i j E hi hE
    subst e
    refine hm _ _ (rJ_fr hr (fun k h1 h2 => hf k (by omega)) (fun i hi => by rw [hf 86 (by omega)])) (fun b r' h1 h2 h3 h4 => ⟨lR_of hJ h1 (fun k hk' => h2 k (Or.inl hk')), ?_⟩)
    show iI (b 86 ((0 : Nat) : Int)) = nI (i + 1)
    rw [show b 86 ((0 : Nat) : Int) = i + 1 from h4 i ho, z_nI]
    rfl
theorem plain_of {g : qG} {D : Nat} {Mx Mm : qMd} {a a' : aS} {r : Int} (hk : kO g D Mx [] [] a a' (.inl r)) (hm : mO g D Mm [] a a' (.inl r)) (hr : rJ a a) (hJ : jJ a') (hf : ∀ k, 86 ≤ k → a' k = a k) : lPlain g D lR Mx Mm (qi a) := by
  unfold lPlain
  refine hk _ _ (fun r' ho => ?_) (fun j E ho _ => by cases ho)
  refine hm _ _ (rJ_fr hr (fun k h1 h2 => hf k (by omega)) (fun i hi => by rw [hf 86 (by omega)])) (fun b v h1 h2 h3 h4 => ⟨lR_of hJ h1 (fun k hk' => h2 k (Or.inl hk')), ?_⟩)
  cases ho
  rw [(h3 r rfl).2]
theorem es_n1 (E : String) : ∀ (i j : Nat) (F : String), [E][i]? = some F → [E][j]? = some F → i = j := by
  intro i j F hi hj
  have a := (List.getElem?_eq_some_iff.mp hi).1
  have b := (List.getElem?_eq_some_iff.mp hj).1
  simp only [List.length_cons, List.length_nil] at a b
  omega
theorem es_n2 {E F : String} (h : E ≠ F) : ∀ (i j : Nat) (G : String), [E, F][i]? = some G → [E, F][j]? = some G → i = j := by
  intro i j G hi hj
  have a := (List.getElem?_eq_some_iff.mp hi).1
  have b := (List.getElem?_eq_some_iff.mp hj).1
  simp only [List.length_cons, List.length_nil] at a b
  match i, j, a, b with
  | 0, 0, _, _ => rfl
  | 1, 1, _, _ => rfl
  | 0, 1, _, _ => cases hi; cases hj; exact (h rfl).elim
  | 1, 0, _, _ => cases hi; cases hj; exact (h rfl).elim
theorem es_n3 {E F G : String} (h1 : E ≠ F) (h2 : E ≠ G) (h3 : F ≠ G) : ∀ (i j : Nat) (H : String), [E, F, G][i]? = some H → [E, F, G][j]? = some H → i = j := by
  intro i j H hi hj
  have a := (List.getElem?_eq_some_iff.mp hi).1
  have b := (List.getElem?_eq_some_iff.mp hj).1
  simp only [List.length_cons, List.length_nil] at a b
  match i, j, a, b with
  | 0, 0, _, _ => rfl
  | 1, 1, _, _ => rfl
  | 2, 2, _, _ => rfl
  | 0, 1, _, _ => cases hi; cases hj; exact (h1 rfl).elim
  | 1, 0, _, _ => cases hi; cases hj; exact (h1 rfl).elim
  | 0, 2, _, _ => cases hi; cases hj; exact (h2 rfl).elim
  | 2, 0, _, _ => cases hi; cases hj; exact (h2 rfl).elim
  | 1, 2, _, _ => cases hi; cases hj; exact (h3 rfl).elim
  | 2, 1, _, _ => cases hi; cases hj; exact (h3 rfl).elim
