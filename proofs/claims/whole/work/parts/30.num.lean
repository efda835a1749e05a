/-! ===== states whose numbers are whole numbers; sums, lists and steps over ranges ===== -/
def iI (z : Int) : Int32 := Int32.ofInt z
abbrev aS : Type := Nat → Int → Int
def qi (a : aS) : qS := fun k j => iI (a k (j : Int))
def aup (a : aS) (k : Nat) (i v : Int) : aS := fun x y => if x = k then (if y = i then v else a x y) else a x y
def zz (σ : qS) : aS := fun k i => (σ k i.toNat).toInt
theorem qi_zz (σ : qS) : qi (zz σ) = σ := by
  funext k j
  show Int32.ofInt ((σ k (j : Int).toNat).toInt) = σ k j
  rw [Int.toNat_natCast, Int32.ofInt_toInt]
theorem z_toInt {x : Int} (h1 : -2147483648 ≤ x) (h2 : x < 2147483648) : (iI x).toInt = x := Int32.toInt_ofInt_of_le (by omega) (by omega)
theorem z_le {x y : Int} (h1 : -2147483648 ≤ x) (h2 : x < 2147483648) (h3 : -2147483648 ≤ y) (h4 : y < 2147483648) : (iI x ≤ iI y) = (x ≤ y) := by
  rw [Int32.le_iff_toInt_le, z_toInt h1 h2, z_toInt h3 h4]
theorem z_lt {x y : Int} (h1 : -2147483648 ≤ x) (h2 : x < 2147483648) (h3 : -2147483648 ≤ y) (h4 : y < 2147483648) : (iI x < iI y) = (x < y) := by
  rw [Int32.lt_iff_toInt_lt, z_toInt h1 h2, z_toInt h3 h4]
theorem z_eq {x y : Int} (h1 : -2147483648 ≤ x) (h2 : x < 2147483648) (h3 : -2147483648 ≤ y) (h4 : y < 2147483648) : (iI x = iI y) = (x = y) := by
  rw [← Int32.toInt_inj, z_toInt h1 h2, z_toInt h3 h4]
theorem z_add (x y : Int) : iI x + iI y = iI (x + y) := (Int32.ofInt_add x y).symm
theorem z_sub (x y : Int) : iI x - iI y = iI (x - y) := (Int32.ofInt_sub x y).symm
theorem z_mul (x y : Int) : iI x * iI y = iI (x * y) := (Int32.ofInt_mul x y).symm
theorem z_neg (x : Int) : -iI x = iI (-x) := (Int32.ofInt_neg x).symm
theorem z_nI (n : Nat) : nI n = iI n := Int32.ofInt_eq_ofNat.symm
theorem z_lit (n : Nat) : (OfNat.ofNat n : Int32) = iI (OfNat.ofNat n : Int) := z_nI n
theorem z_ite {c : Prop} {d : Decidable c} (x y : Int) : (@ite Int32 c d (iI x) (iI y)) = iI (@ite Int c d x y) := by
  split <;> rfl
theorem z_cl {z : Int} (h1 : 0 ≤ z) (h2 : z < 2147483648) : (((iI z).toNatClampNeg : Nat) : Int) = z := by
  show (((iI z).toInt.toNat : Nat) : Int) = z
  rw [z_toInt (by omega) h2]
  omega
theorem z_app (a : aS) (k j : Nat) : qi a k j = iI (a k (j : Int)) := rfl
theorem z_rd {a : aS} {k : Nat} {z : Int} (h1 : 0 ≤ z) (h2 : z < 2147483648) : qi a k (iI z).toNatClampNeg = iI (a k z) := by
  rw [z_app, z_cl h1 h2]
theorem z_up (a : aS) (k j : Nat) (v : Int) : qup (qi a) k j (iI v) = qi (aup a k (j : Int) v) := by
  funext x y
  simp only [qup, qi, aup]
  by_cases h : x = k
  · rw [if_pos h, if_pos h]
    by_cases hy : y = j
    · rw [if_pos hy, if_pos (by omega)]
    · rw [if_neg hy, if_neg (by omega)]
  · rw [if_neg h, if_neg h]
theorem z_wr {a : aS} {k : Nat} {z v : Int} (h1 : 0 ≤ z) (h2 : z < 2147483648) : qup (qi a) k (iI z).toNatClampNeg (iI v) = qi (aup a k z v) := by
  rw [z_up, z_cl h1 h2]
theorem z_in {z : Int} {n : Nat} (h1 : 0 ≤ z) (h2 : z < n) (h3 : (n : Int) < 2147483648) : vp_in (iI z) n := by
  unfold vp_in
  have e := z_cl h1 (by omega)
  have h0 : ¬ iI z < 0 := by
    rw [show (0 : Int32) = iI 0 from rfl, z_lt (by omega) (by omega) (by omega) (by omega)]
    omega
  intro h
  rcases h with h | h
  · exact h0 h
  · omega
theorem z_at {a : aS} {k n : Nat} {z : Int} (h1 : 0 ≤ z) (h2 : z < n) (h3 : (n : Int) < 2147483648) : qat (qi a k) n (iI z) = iI (a k z) := by
  unfold qat
  rw [if_neg]
  · exact z_rd h1 (by omega)
  · rw [show (0 : Int32) = iI 0 from rfl, z_nI, z_lt (by omega) (by omega) (by omega) (by omega), z_le (by omega) (by omega) (by omega) (by omega)]
    omega
theorem z_at0 {a : aS} {k n : Nat} {z : Int} (h1 : z < 0) (h2 : -2147483648 ≤ z) : qat (qi a k) n (iI z) = iI (-1) := by
  unfold qat
  rw [if_pos]
  · rfl
  · left
    rw [show (0 : Int32) = iI 0 from rfl, z_lt (by omega) (by omega) (by omega) (by omega)]
    omega
theorem z_at1 {a : aS} {k n : Nat} {z : Int} (h1 : (n : Int) ≤ z) (h2 : z < 2147483648) : qat (qi a k) n (iI z) = iI (-1) := by
  unfold qat
  rw [if_pos]
  · rfl
  · right
    rw [z_nI, z_le (by omega) (by omega) (by omega) (by omega)]
    omega
theorem z_pt {a : aS} {k n : Nat} {z v : Int} (h1 : 0 ≤ z) (h2 : z < n) (h3 : (n : Int) < 2147483648) : qpt (qi a) k n (iI z) (iI v) = qi (aup a k z v) := by
  unfold qpt
  rw [if_neg]
  · exact z_wr h1 (by omega)
  · rw [show (0 : Int32) = iI 0 from rfl, z_nI, z_lt (by omega) (by omega) (by omega) (by omega), z_le (by omega) (by omega) (by omega) (by omega)]
    omega
def afl (a : aS) (k : Nat) (n v : Int) : aS := fun x y => if x = k ∧ 0 ≤ y ∧ y < n then v else a x y
theorem z_fl (a : aS) (k n : Nat) (v : Int) : qfl (qi a) k n (iI v) = qi (afl a k n v) := by
  funext x y
  simp only [qfl, qi, afl]
  by_cases h : x = k ∧ y < n
  · rw [if_pos h, if_pos ⟨h.1, by omega, by omega⟩]
  · rw [if_neg h, if_neg (fun hh => h ⟨hh.1, by omega⟩)]
theorem z_wi {x l h : Int} (h1 : -2147483648 ≤ x) (h2 : x < 2147483648) (h3 : -2147483648 ≤ l) (h4 : l < 2147483648) (h5 : -2147483648 ≤ h) (h6 : h < 2147483648) : qwi (iI x) (iI l) (iI h) = iI (if l ≤ x ∧ x ≤ h then 1 else 0) := by
  have e : (iI l ≤ iI x ∧ iI x ≤ iI h) ↔ (l ≤ x ∧ x ≤ h) := by rw [z_le h3 h4 h1 h2, z_le h1 h2 h5 h6]
  unfold qwi
  by_cases c : l ≤ x ∧ x ≤ h
  · rw [if_pos (e.mpr c), if_pos c]; rfl
  · rw [if_neg (fun hh => c (e.mp hh)), if_neg c]; rfl
theorem z_nb0 : vp_nar .boolean (iI 0) = iI 0 := by decide +kernel
theorem z_nb1 : vp_nar .boolean (iI 1) = iI 1 := by decide +kernel
theorem aup_s (a : aS) (k : Nat) (i v : Int) : aup a k i v k i = v := by
  unfold aup
  rw [if_pos rfl, if_pos rfl]
theorem aup_o {a : aS} {k k' : Nat} {i v : Int} (h : k' ≠ k) : aup a k i v k' = a k' := by
  funext y
  unfold aup
  rw [if_neg h]
theorem aup_i {a : aS} {k : Nat} {i i' v : Int} (h : i' ≠ i) : aup a k i v k i' = a k i' := by
  unfold aup
  rw [if_pos rfl, if_neg h]
theorem aup_k (a : aS) (k : Nat) (i v i' : Int) : aup a k i v k i' = if i' = i then v else a k i' := by
  unfold aup
  rw [if_pos rfl]
theorem afl_o {a : aS} {k k' : Nat} {n v : Int} (h : k' ≠ k) : afl a k n v k' = a k' := by
  funext y
  unfold afl
  rw [if_neg (fun hh => h hh.1)]
theorem afl_k {a : aS} {k : Nat} {n v i : Int} (h0 : 0 ≤ i) (h : i < n) : afl a k n v k i = v := by
  unfold afl
  rw [if_pos ⟨rfl, h0, h⟩]
/-- up to hi, step by step -/
theorem stepUp {P : Int → Prop} (hi : Int) (h : ∀ i, (i < hi → P (i + 1)) → P i) (i : Int) : P i := by
  have key : ∀ (n : Nat) (j : Int), (hi - j).toNat ≤ n → P j := by
    intro n
    induction n with
    | zero => intro j hj; exact h j (fun hl => by omega)
    | succ n ih => intro j hj; exact h j (fun hl => ih (j + 1) (by omega))
  exact key _ i (Nat.le_refl _)
theorem stepDown {P : Int → Prop} (lo : Int) (h : ∀ i, (lo < i → P (i - 1)) → P i) (i : Int) : P i := by
  have key : ∀ (n : Nat) (j : Int), (j - lo).toNat ≤ n → P j := by
    intro n
    induction n with
    | zero => intro j hj; exact h j (fun hl => by omega)
    | succ n ih => intro j hj; exact h j (fun hl => ih (j - 1) (by omega))
  exact key _ i (Nat.le_refl _)
/-- sums -/
def sm (f : Int → Int) (lo : Int) : Nat → Int
  | 0 => 0
  | n + 1 => sm f lo n + f (lo + n)
def sI (f : Int → Int) (lo hi : Int) : Int := sm f lo (hi - lo).toNat
theorem sI_e {f : Int → Int} {lo hi : Int} (h : hi ≤ lo) : sI f lo hi = 0 := by
  unfold sI
  rw [show (hi - lo).toNat = 0 by omega]
  rfl
theorem sI_l {f : Int → Int} {lo hi : Int} (h : lo ≤ hi) : sI f lo (hi + 1) = sI f lo hi + f hi := by
  unfold sI
  rw [show (hi + 1 - lo).toNat = (hi - lo).toNat + 1 by omega]
  show sm f lo (hi - lo).toNat + f (lo + ((hi - lo).toNat : Nat)) = _
  rw [show lo + (((hi - lo).toNat : Nat) : Int) = hi by omega]
theorem sI_f {f : Int → Int} {lo : Int} : ∀ hi : Int, lo < hi → sI f lo hi = f lo + sI f (lo + 1) hi := by
  refine stepDown lo (fun hi ih h => ?_)
  have e : hi = (hi - 1) + 1 := by omega
  by_cases h1 : lo < hi - 1
  · rw [e, sI_l (by omega), ih h h1, sI_l (by omega)]
    omega
  · have e2 : lo = hi - 1 := by omega
    rw [e, sI_l (by omega), sI_e (by omega), sI_e (by omega), e2]
    omega
theorem sI_s {f : Int → Int} {lo mid : Int} (h1 : lo ≤ mid) : ∀ hi : Int, mid ≤ hi → sI f lo hi = sI f lo mid + sI f mid hi := by
  refine stepDown mid (fun hi ih h => ?_)
  by_cases h2 : mid < hi
  · have e : hi = (hi - 1) + 1 := by omega
    rw [e, sI_l (by omega), sI_l (by omega), ih h2 (by omega)]
    omega
  · rw [show hi = mid by omega, sI_e (f := f) (lo := mid) (by omega)]
    omega
theorem sI_c {f g : Int → Int} {lo : Int} : ∀ hi : Int, (∀ i, lo ≤ i → i < hi → f i = g i) → sI f lo hi = sI g lo hi := by
  refine stepDown lo (fun hi ih h => ?_)
  by_cases h1 : lo < hi
  · have e : hi = (hi - 1) + 1 := by omega
    rw [e, sI_l (by omega), sI_l (by omega), ih h1 (fun i a b => h i a (by omega)), h (hi - 1) (by omega) (by omega)]
  · rw [sI_e (by omega), sI_e (by omega)]
theorem sI_lb {f : Int → Int} {lo c : Int} : ∀ hi : Int, lo ≤ hi → (∀ i, lo ≤ i → i < hi → c ≤ f i) → c * (hi - lo) ≤ sI f lo hi := by
  refine stepDown lo (fun hi ih hl h => ?_)
  by_cases h1 : lo < hi
  · have e : hi = (hi - 1) + 1 := by omega
    have h2 := ih h1 (by omega) (fun i a b => h i a (by omega))
    have h3 := h (hi - 1) (by omega) (by omega)
    rw [e, sI_l (by omega)]
    have e3 : c * (hi - 1 + 1 - lo) = c * (hi - 1 - lo) + c := by
      rw [show hi - 1 + 1 - lo = (hi - 1 - lo) + 1 by omega, Int.mul_add, Int.mul_one]
    omega
  · rw [sI_e (by omega), show hi - lo = 0 by omega, Int.mul_zero]
    exact Int.le_refl 0
theorem sI_ub {f : Int → Int} {lo c : Int} : ∀ hi : Int, lo ≤ hi → (∀ i, lo ≤ i → i < hi → f i ≤ c) → sI f lo hi ≤ c * (hi - lo) := by
  refine stepDown lo (fun hi ih hl h => ?_)
  by_cases h1 : lo < hi
  · have e : hi = (hi - 1) + 1 := by omega
    have h2 := ih h1 (by omega) (fun i a b => h i a (by omega))
    have h3 := h (hi - 1) (by omega) (by omega)
    rw [e, sI_l (by omega)]
    have e3 : c * (hi - 1 + 1 - lo) = c * (hi - 1 - lo) + c := by
      rw [show hi - 1 + 1 - lo = (hi - 1 - lo) + 1 by omega, Int.mul_add, Int.mul_one]
    omega
  · rw [sI_e (by omega), show hi - lo = 0 by omega, Int.mul_zero]
    exact Int.le_refl 0
theorem sI_add {f g : Int → Int} {lo : Int} : ∀ hi : Int, sI (fun i => f i + g i) lo hi = sI f lo hi + sI g lo hi := by
  refine stepDown lo (fun hi ih => ?_)
  by_cases h1 : lo < hi
  · have e : hi = (hi - 1) + 1 := by omega
    rw [e, sI_l (by omega), sI_l (by omega), sI_l (by omega), ih h1]
    omega
  · rw [sI_e (by omega), sI_e (by omega), sI_e (by omega)]
    rfl
/-- the least of some numbers, from a first one on -/
def mn (x y : Int) : Int := if x < y then x else y
theorem mn_l (x y : Int) : mn x y ≤ x := by unfold mn; split <;> omega
theorem mn_r (x y : Int) : mn x y ≤ y := by unfold mn; split <;> omega
theorem mn_or (x y : Int) : mn x y = x ∨ mn x y = y := by unfold mn; split <;> simp
/-- lists of a range -/
def lr (p : Int → Bool) (lo : Int) : Nat → List Int
  | 0 => []
  | n + 1 => lr p lo n ++ (if p (lo + n) then [lo + n] else [])
def lI (p : Int → Bool) (lo hi : Int) : List Int := lr p lo (hi - lo).toNat
theorem lI_e {p : Int → Bool} {lo hi : Int} (h : hi ≤ lo) : lI p lo hi = [] := by
  unfold lI
  rw [show (hi - lo).toNat = 0 by omega]
  rfl
theorem lI_l {p : Int → Bool} {lo hi : Int} (h : lo ≤ hi) : lI p lo (hi + 1) = lI p lo hi ++ (if p hi then [hi] else []) := by
  unfold lI
  rw [show (hi + 1 - lo).toNat = (hi - lo).toNat + 1 by omega]
  show lr p lo (hi - lo).toNat ++ (if p (lo + ((hi - lo).toNat : Nat)) then [lo + ((hi - lo).toNat : Nat)] else []) = _
  rw [show lo + (((hi - lo).toNat : Nat) : Int) = hi by omega]
theorem lI_f {p : Int → Bool} {lo : Int} : ∀ hi : Int, lo < hi → lI p lo hi = (if p lo then [lo] else []) ++ lI p (lo + 1) hi := by
  refine stepDown lo (fun hi ih h => ?_)
  have e : hi = (hi - 1) + 1 := by omega
  by_cases h1 : lo < hi - 1
  · rw [e, lI_l (by omega), ih h h1, lI_l (by omega), List.append_assoc]
  · have e2 : lo = hi - 1 := by omega
    rw [e, lI_l (by omega), lI_e (by omega), lI_e (by omega), e2, List.nil_append, List.append_nil]
theorem lI_s {p : Int → Bool} {lo mid : Int} (h1 : lo ≤ mid) : ∀ hi : Int, mid ≤ hi → lI p lo hi = lI p lo mid ++ lI p mid hi := by
  refine stepDown mid (fun hi ih h => ?_)
  by_cases h2 : mid < hi
  · have e : hi = (hi - 1) + 1 := by omega
    rw [e, lI_l (by omega), lI_l (by omega), ih h2 (by omega), List.append_assoc]
  · rw [show hi = mid by omega, lI_e (p := p) (lo := mid) (by omega), List.append_nil]
theorem lI_c {p q : Int → Bool} {lo : Int} : ∀ hi : Int, (∀ i, lo ≤ i → i < hi → p i = q i) → lI p lo hi = lI q lo hi := by
  refine stepDown lo (fun hi ih h => ?_)
  by_cases h1 : lo < hi
  · have e : hi = (hi - 1) + 1 := by omega
    rw [e, lI_l (by omega), lI_l (by omega), ih h1 (fun i a b => h i a (by omega)), h (hi - 1) (by omega) (by omega)]
  · rw [lI_e (by omega), lI_e (by omega)]
theorem lI_n {p : Int → Bool} {lo : Int} : ∀ hi : Int, (∀ i, lo ≤ i → i < hi → p i = false) → lI p lo hi = [] := by
  refine stepDown lo (fun hi ih h => ?_)
  by_cases h1 : lo < hi
  · have e : hi = (hi - 1) + 1 := by omega
    rw [e, lI_l (by omega), ih h1 (fun i a b => h i a (by omega)), h (hi - 1) (by omega) (by omega)]
    rfl
  · rw [lI_e (by omega)]
theorem lI_m {p : Int → Bool} {lo x : Int} : ∀ hi : Int, x ∈ lI p lo hi ↔ lo ≤ x ∧ x < hi ∧ p x = true := by
  refine stepDown lo (fun hi ih => ?_)
  by_cases h1 : lo < hi
  · have e : hi = (hi - 1) + 1 := by omega
    rw [e, lI_l (by omega), List.mem_append, ih h1]
    constructor
    · intro h
      rcases h with h | h
      · exact ⟨h.1, by omega, h.2.2⟩
      · split at h
        · rename_i hp
          rw [List.mem_singleton] at h
          subst h
          exact ⟨by omega, by omega, hp⟩
        · cases h
    · intro h
      by_cases hx : x = hi - 1
      · right
        subst hx
        rw [if_pos h.2.2]
        exact List.mem_singleton.mpr rfl
      · left
        exact ⟨h.1, by omega, h.2.2⟩
  · rw [lI_e (by omega)]
    constructor
    · intro h; cases h
    · intro h; omega
theorem lI_len {p : Int → Bool} {lo : Int} : ∀ hi : Int, ((lI p lo hi).length : Int) = sI (fun i => if p i then 1 else 0) lo hi := by
  refine stepDown lo (fun hi ih => ?_)
  by_cases h1 : lo < hi
  · have e : hi = (hi - 1) + 1 := by omega
    rw [e, lI_l (by omega), sI_l (by omega), List.length_append, Int.natCast_add, ih h1]
    split <;> rfl
  · rw [lI_e (by omega), sI_e (by omega)]
    rfl
/-- a list written into a row -/
def awl (a : aS) (k : Nat) (i : Int) : List Int → aS
  | [] => a
  | x :: t => awl (aup a k i x) k (i + 1) t
theorem awl_app (k : Nat) : ∀ (l m : List Int) (a : aS) (i : Int), awl a k i (l ++ m) = awl (awl a k i l) k (i + l.length) m := by
  intro l
  induction l with
  | nil => intro m a i; show awl a k i m = awl a k (i + 0) m; rw [Int.add_zero]
  | cons x t ih =>
    intro m a i
    show awl (aup a k i x) k (i + 1) (t ++ m) = awl (awl (aup a k i x) k (i + 1) t) k (i + (t.length + 1 : Nat)) m
    rw [ih, show i + 1 + (t.length : Int) = i + ((t.length + 1 : Nat) : Int) by omega]
theorem awl_o {k k' : Nat} (h : k' ≠ k) : ∀ (l : List Int) (a : aS) (i : Int), awl a k i l k' = a k' := by
  intro l
  induction l with
  | nil => intro a i; rfl
  | cons x t ih => intro a i; show awl (aup a k i x) k (i + 1) t k' = _; rw [ih, aup_o h]
theorem awl_lo {k : Nat} : ∀ (l : List Int) (a : aS) (i j : Int), j < i → awl a k i l k j = a k j := by
  intro l
  induction l with
  | nil => intro a i j h; rfl
  | cons x t ih => intro a i j h; show awl (aup a k i x) k (i + 1) t k j = _; rw [ih _ _ _ (by omega), aup_i (by omega)]
theorem awl_at {k : Nat} : ∀ (l : List Int) (a : aS) (i : Int) (n : Nat) (x : Int), l[n]? = some x → awl a k i l k (i + n) = x := by
  intro l
  induction l with
  | nil => intro a i n x h; cases h
  | cons y t ih =>
    intro a i n x h
    show awl (aup a k i y) k (i + 1) t k (i + n) = x
    cases n with
    | zero =>
      cases h
      rw [show i + ((0 : Nat) : Int) = i by omega, awl_lo _ _ _ _ (by omega), aup_s]
    | succ n =>
      rw [show i + ((n + 1 : Nat) : Int) = i + 1 + (n : Int) by omega]
      exact ih _ _ n x h
/-- so many different numbers below n: no more than n -/
theorem pigeon : ∀ (n c : Nat) (f : Nat → Int), (∀ i, i < c → 0 ≤ f i ∧ f i < n) → (∀ i j, i < j → j < c → f i ≠ f j) → c ≤ n := by
  intro n
  induction n with
  | zero =>
    intro c f h1 _
    cases c with
    | zero => omega
    | succ c => have := h1 0 (by omega); omega
  | succ n ih =>
    intro c f h1 h2
    by_cases hx : ∃ i, i < c ∧ f i = n
    · obtain ⟨i, hi, he⟩ := hx
      have := ih (c - 1) (fun j => if j < i then f j else f (j + 1)) (fun j hj => ?_) (fun j k hjk hk => ?_)
      · omega
      · split
        · have a := h1 j (by omega)
          have b := h2 j i (by omega) hi
          omega
        · have a := h1 (j + 1) (by omega)
          have b := h2 i (j + 1) (by omega) (by omega)
          omega
      · split
        · split
          · exact h2 j k hjk (by omega)
          · exact h2 j (k + 1) (by omega) (by omega)
        · rw [if_neg (by omega)]
          exact h2 (j + 1) (k + 1) (by omega) (by omega)
    · have := ih c f (fun i hi => ?_) h2
      · omega
      · have a := h1 i hi
        have b : f i ≠ n := fun e => hx ⟨i, hi, e⟩
        omega
