/-! ===== a parser over tokens: codes C, values V ===== -/
def tB (C V : Int → Int) (c : Int) : Prop := (0 ≤ c ∧ c ≤ 900) ∧ ∀ j, 0 ≤ j → j ≤ c → (0 ≤ C j ∧ C j ≤ 303) ∧ (C j = 303 → j = c) ∧ (j = c → C j = 303) ∧ (C j = 301 → 0 ≤ V j ∧ V j ≤ 99999)
theorem tk_tB {w : aS} {b : Int → Int} {n c : Int} {e : Int → Int} (h : tkF w b n c e) (hb : ∀ i, 0 ≤ i → i < n → 0 ≤ b i ∧ b i < 256) : tB (w 80) (w 84) c := by
  obtain ⟨⟨F1, F2, F3, F4, F5⟩, F6, F7⟩ := h
  refine ⟨⟨F1, by omega⟩, fun j j0 j1 => ?_⟩
  by_cases jc : j = c
  · rw [jc, F4]; exact ⟨by omega, fun _ => rfl, fun _ => rfl, fun h => by omega⟩
  · obtain ⟨⟨H1, H2⟩, ⟨H3, H4⟩, H5, H6, H7, H8⟩ := F7 j j0 (by omega)
    have G := F6 j j0 j1
    have bb := hb (w 82 j) (by omega) (by omega)
    have K := kd_b (b (w 82 j))
    rw [H3, H4]
    unfold fc fv
    by_cases k3 : kd (b (w 82 j)) = 3
    · rw [if_pos k3]; exact ⟨by omega, fun h => by omega, fun h => (jc h).elim, fun h => by omega⟩
    rw [if_neg k3]
    by_cases k1 : kd (b (w 82 j)) = 1
    · rw [if_pos k1]
      have kb := kw_b (lt b (w 82 j) (e j - w 82 j).toNat)
      by_cases h8 : (e j - w 82 j).toNat ≤ 8
      · rw [if_pos h8]
        by_cases hk : kw (lt b (w 82 j) (e j - w 82 j).toNat) = -1
        · rw [if_pos hk]; exact ⟨by omega, fun h => by omega, fun h => (jc h).elim, fun h => by omega⟩
        · rw [if_neg hk]; exact ⟨by omega, fun h => by omega, fun h => (jc h).elim, fun h => by omega⟩
      · rw [if_neg h8]; exact ⟨by omega, fun h => by omega, fun h => (jc h).elim, fun h => by omega⟩
    rw [if_neg k1]
    have k2 : kd (b (w 82 j)) = 2 := by omega
    by_cases h5 : e j - w 82 j ≤ 5
    · rw [if_pos h5, if_pos ⟨k2, h5⟩]
      have nb := nv_b (f := b) (a := w 82 j) (e := w 82 j + (e j - w 82 j)) (by omega) (by omega) (fun y y0 y1 => kd2 ((H7 y y0 (by omega)).trans k2))
      exact ⟨by omega, fun h => by omega, fun h => (jc h).elim, fun _ => nb⟩
    · rw [if_neg h5]; exact ⟨by omega, fun h => by omega, fun h => (jc h).elim, fun h => by omega⟩
section PU
variable (C V : Int → Int)
def patom (j : Int) : Int ⊕ Int := if C j = 273 then (if C (j + 1) = 301 then .inl (j + 2) else .inr (j + 1)) else if C j = 301 ∨ (270 ≤ C j ∧ C j ≤ 272) then .inl (j + 1) else .inr j
def psum : Nat → Int → Int ⊕ Int
  | 0, j => .inr j
  | f + 1, j => match patom C j with
    | .inr x => .inr x
    | .inl x => if C x = 43 ∨ C x = 45 then psum f (x + 1) else .inl x
/-- the atoms of a sum: kind, number, sign -/
def psl : Nat → Int → Int → List (Int × Int × Int)
  | 0, _, _ => []
  | f + 1, sg, j => match patom C j with
    | .inr _ => []
    | .inl x => (if C j = 301 then (-1, V j, sg) else if C j = 273 then (17, V (j + 1), sg) else (C j - 256, 0, sg)) :: (if C x = 43 ∨ C x = 45 then psl f (if C x = 43 then 1 else -1) (x + 1) else [])
def pnums : Nat → Int → Int ⊕ Int
  | 0, j => .inl j
  | k + 1, j => if C j = 301 then pnums k (j + 1) else .inr j
/-- how many numbers a command takes -/
def nbs (w : Int) : Nat := if w = 0 ∨ w = 9 ∨ w = 10 ∨ w = 12 then 0 else if w = 3 ∨ w = 6 then 3 else if w = 5 ∨ w = 8 then 2 else 1
def ptxe (w j : Int) : Int ⊕ Int := if 3 ≤ w ∧ w ≤ 6 ∧ C j = 269 then (if C (j + 1) = 301 then .inl (j + 2) else .inr (j + 1)) else .inl j
/-- the transaction of the plain command at j -/
def ptx (j : Int) : Int := if 3 ≤ C j - 256 ∧ C j - 256 ≤ 6 ∧ C (j + 1 + nbs (C j - 256)) = 269 then V (j + 2 + nbs (C j - 256)) else -1
def pcmp (j : Int) : Int ⊕ (Int × Int) := match psum C 900 j with
  | .inr x => .inr (1, x)
  | .inl x => if C x = 60 ∨ C x = 61 ∨ C x = 62 then (match psum C 900 (x + 1) with
      | .inr y => .inr (1, y)
      | .inl y => .inl y) else .inr (1, x)
def pbody (j : Int) : Int ⊕ (Int × Int) :=
  if C j = 268 then pcmp C (j + 1)
  else if C j = 267 then (if C (j + 1) = 301 then (if 50 < V (j + 1) then .inr (2, j + 1) else .inl (j + 2)) else .inr (1, j + 1))
  else match pnums C (nbs (C j - 256)) (j + 1) with
    | .inr x => .inr (1, x)
    | .inl x => match ptxe C (C j - 256) x with
      | .inr y => .inr (1, y)
      | .inl y => .inl y
end PU
abbrev pX : Type := Int × Int × List Int × (Int → Int) × (Int → Int)
abbrev pR : Type := (Int × (Int → Int) × (Int → Int)) ⊕ (Int × Int)
section PV
variable (C V : Int → Int)
def pcmd (j k : Int) (st : List Int) (J E : Int → Int) : pX ⊕ pR :=
  if 256 ≤ C j ∧ C j ≤ 268 then
    if k = 60 then .inr (.inr (3, j)) else
    match pbody C V j with
    | .inr f => .inr (.inr f)
    | .inl x => if 267 ≤ C j then (if C x = 40 then (if st.length = 4 then .inr (.inr (3, x)) else .inl (x + 1, k + 1, k :: st, fup J k j, fup E k (k + 1))) else .inr (.inr (1, x)))
      else (if C x = 59 then .inl (x + 1, k + 1, st, fup J k j, fup E k (k + 1)) else .inr (.inr (1, x)))
  else .inr (.inr (1, j))
def pstep : pX → pX ⊕ pR
  | (j, k, [], J, E) => if C j = 303 then .inr (.inl (k, J, E)) else pcmd C V j k [] J E
  | (j, k, o :: r, J, E) => if C j = 41 then (if C (j + 1) = 59 then .inl (j + 2, k, r, J, fup E o k) else .inr (.inr (1, j + 1))) else pcmd C V j k (o :: r) J E
def prun : Nat → pX → Option pR
  | 0, _ => none
  | n + 1, X => match pstep C V X with
    | .inl Y => prun n Y
    | .inr r => some r
def pto (X Y : pX) : Prop := ∀ n r, prun C V n Y = some r → ∃ n', prun C V n' X = some r
def pfin (X : pX) (r : pR) : Prop := ∃ n, prun C V n X = some r
end PV
section PW2
variable {C V : Int → Int}
theorem pto_rf (X : pX) : pto C V X X := fun n _ h => ⟨n, h⟩
theorem pto_tr {X Y Z : pX} (h1 : pto C V X Y) (h2 : pto C V Y Z) : pto C V X Z := fun n r h => by
  obtain ⟨n', h'⟩ := h2 n r h
  exact h1 n' r h'
theorem pto_st {X Y : pX} (h : pstep C V X = .inl Y) : pto C V X Y := fun n r hr => ⟨n + 1, by
  show (match pstep C V X with | .inl Y => prun C V n Y | .inr r => some r) = some r
  rw [h]
  exact hr⟩
theorem pfin_st {X : pX} {r : pR} (h : pstep C V X = .inr r) : pfin C V X r := ⟨1, by
  show (match pstep C V X with | .inl Y => prun C V 0 Y | .inr r => some r) = some r
  rw [h]⟩
theorem pfin_to {X Y : pX} {r : pR} (h1 : pto C V X Y) (h2 : pfin C V Y r) : pfin C V X r := by
  obtain ⟨n, h⟩ := h2
  exact h1 n r h
theorem patom_b {c j : Int} (hB : tB C V c) (j0 : 0 ≤ j) (j1 : j ≤ c) : (∀ x, patom C j = .inl x → j < x ∧ x ≤ c) ∧ (∀ x, patom C j = .inr x → j ≤ x ∧ x ≤ c) := by
  have h0 := hB.2 j j0 j1
  have n0 : C j ≠ 303 → j < c := fun h => by
    by_cases e : j = c
    · exact (h (h0.2.2.1 e)).elim
    · omega
  unfold patom
  by_cases h1 : C j = 273
  · have := n0 (by omega)
    have h2 := hB.2 (j + 1) (by omega) (by omega)
    rw [if_pos h1]
    by_cases h3 : C (j + 1) = 301
    · rw [if_pos h3]
      have : j + 1 ≠ c := fun e => by have := h2.2.2.1 e; omega
      exact ⟨fun x e => by cases e; omega, fun x e => by cases e⟩
    · rw [if_neg h3]
      exact ⟨fun x e => (by cases e), fun x e => by cases e; omega⟩
  · rw [if_neg h1]
    by_cases h3 : C j = 301 ∨ (270 ≤ C j ∧ C j ≤ 272)
    · have := n0 (by omega)
      rw [if_pos h3]
      exact ⟨fun x e => by cases e; omega, fun x e => by cases e⟩
    · rw [if_neg h3]
      exact ⟨fun x e => (by cases e), fun x e => by cases e; omega⟩
theorem psum_s (f : Nat) (j : Int) : psum C (f + 1) j = match patom C j with | .inr x => .inr x | .inl x => if C x = 43 ∨ C x = 45 then psum C f (x + 1) else .inl x := rfl
theorem tB_lt {c j : Int} (hB : tB C V c) (j0 : 0 ≤ j) (j1 : j ≤ c) (h : C j ≠ 303) : j < c := by
  by_cases e : j = c
  · exact (h ((hB.2 j j0 j1).2.2.1 e)).elim
  · omega
theorem psum_b {c : Int} (hB : tB C V c) : ∀ (f : Nat) (j : Int), 0 ≤ j → j ≤ c → (∀ x, psum C f j = .inl x → j < x ∧ x ≤ c) ∧ (∀ x, psum C f j = .inr x → j ≤ x ∧ x ≤ c) := by
  intro f
  induction f with
  | zero => intro j j0 j1; exact ⟨fun x e => (by cases e), fun x e => by cases e; omega⟩
  | succ f ih =>
    intro j j0 j1
    have pa := patom_b hB j0 j1
    rw [psum_s]
    cases hp : patom C j with
    | inr x => exact ⟨fun y e => (by cases e), fun y e => by cases e; exact pa.2 x hp⟩
    | inl x =>
      have hx := pa.1 x hp
      show (∀ y, (if C x = 43 ∨ C x = 45 then psum C f (x + 1) else .inl x) = .inl y → _) ∧ (∀ y, (if C x = 43 ∨ C x = 45 then psum C f (x + 1) else .inl x) = .inr y → _)
      by_cases h : C x = 43 ∨ C x = 45
      · rw [if_pos h]
        have hc := tB_lt hB (j := x) (by omega) hx.2 (by omega)
        obtain ⟨a1, a2⟩ := ih (x + 1) (by omega) (by omega)
        exact ⟨fun y e => by have := a1 y e; omega, fun y e => by have := a2 y e; omega⟩
      · rw [if_neg h]
        exact ⟨fun y e => by cases e; exact hx, fun y e => by cases e⟩
theorem pnums_b {c : Int} (hB : tB C V c) : ∀ (f : Nat) (j : Int), 0 ≤ j → j ≤ c → (∀ x, pnums C f j = .inl x → x = j + f ∧ x ≤ c ∧ ∀ i : Nat, i < f → C (j + i) = 301) ∧ (∀ x, pnums C f j = .inr x → j ≤ x ∧ x ≤ c) := by
  intro f
  induction f with
  | zero => intro j j0 j1; exact ⟨fun x e => by cases e; exact ⟨by omega, j1, fun i hi => by omega⟩, fun x e => by cases e⟩
  | succ f ih =>
    intro j j0 j1
    show (∀ x, (if C j = 301 then pnums C f (j + 1) else .inr j) = .inl x → _) ∧ (∀ x, (if C j = 301 then pnums C f (j + 1) else .inr j) = .inr x → _)
    by_cases h : C j = 301
    · rw [if_pos h]
      have hc := tB_lt hB (j := j) (by omega) j1 (by omega)
      obtain ⟨a1, a2⟩ := ih (j + 1) (by omega) (by omega)
      refine ⟨fun y e => ?_, fun y e => by have := a2 y e; omega⟩
      obtain ⟨b1, b2, b3⟩ := a1 y e
      refine ⟨by omega, b2, fun i hi => ?_⟩
      cases i with
      | zero => rw [show j + ((0 : Nat) : Int) = j by omega]; exact h
      | succ i => rw [show j + ((i + 1 : Nat) : Int) = j + 1 + i by omega]; exact b3 i (by omega)
    · rw [if_neg h]
      exact ⟨fun y e => (by cases e), fun y e => by cases e; omega⟩
theorem ptxe_b {c w j : Int} (hB : tB C V c) (j0 : 0 ≤ j) (j1 : j ≤ c) : (∀ x, ptxe C w j = .inl x → j ≤ x ∧ x ≤ c) ∧ (∀ x, ptxe C w j = .inr x → j ≤ x ∧ x ≤ c) := by
  unfold ptxe
  by_cases h : 3 ≤ w ∧ w ≤ 6 ∧ C j = 269
  · rw [if_pos h]
    have hc := tB_lt hB j0 j1 (by omega)
    by_cases h3 : C (j + 1) = 301
    · rw [if_pos h3]
      have := tB_lt hB (j := j + 1) (by omega) (by omega) (by omega)
      exact ⟨fun x e => by cases e; omega, fun x e => by cases e⟩
    · rw [if_neg h3]
      exact ⟨fun x e => (by cases e), fun x e => by cases e; omega⟩
  · rw [if_neg h]
    exact ⟨fun x e => by cases e; omega, fun x e => by cases e⟩
theorem pcmp_b {c j : Int} (hB : tB C V c) (j0 : 0 ≤ j) (j1 : j ≤ c) : (∀ x, pcmp C j = .inl x → j < x ∧ x ≤ c) := by
  intro z e
  unfold pcmp at e
  obtain ⟨s1, -⟩ := psum_b hB 900 j j0 j1
  cases hp : psum C 900 j with
  | inr x => rw [hp] at e; cases e
  | inl x =>
    rw [hp] at e
    have hx := s1 x hp
    by_cases h : C x = 60 ∨ C x = 61 ∨ C x = 62
    · simp only [if_pos h] at e
      have hc := tB_lt hB (j := x) (by omega) hx.2 (by omega)
      obtain ⟨s2, -⟩ := psum_b hB 900 (x + 1) (by omega) (by omega)
      cases hq : psum C 900 (x + 1) with
      | inr y => rw [hq] at e; cases e
      | inl y =>
        rw [hq] at e
        cases e
        have := s2 _ hq
        omega
    · simp only [if_neg h] at e
      cases e
theorem pbody_b {c j : Int} (hB : tB C V c) (j0 : 0 ≤ j) (j1 : j < c) : ∀ x, pbody C V j = .inl x → j < x ∧ x ≤ c := by
  intro z e
  unfold pbody at e
  by_cases h1 : C j = 268
  · rw [if_pos h1] at e
    have := pcmp_b hB (j := j + 1) (by omega) (by omega) z e
    omega
  rw [if_neg h1] at e
  by_cases h2 : C j = 267
  · rw [if_pos h2] at e
    by_cases h3 : C (j + 1) = 301
    · rw [if_pos h3] at e
      have := tB_lt hB (j := j + 1) (by omega) (by omega) (by omega)
      by_cases h4 : 50 < V (j + 1)
      · rw [if_pos h4] at e; cases e
      · rw [if_neg h4] at e; cases e; omega
    · rw [if_neg h3] at e; cases e
  rw [if_neg h2] at e
  obtain ⟨a1, -⟩ := pnums_b hB (nbs (C j - 256)) (j + 1) (by omega) (by omega)
  cases hp : pnums C (nbs (C j - 256)) (j + 1) with
  | inr x => rw [hp] at e; cases e
  | inl x =>
    rw [hp] at e
    obtain ⟨b1, b2, -⟩ := a1 x hp
    obtain ⟨c1, -⟩ := ptxe_b (w := C j - 256) hB (j := x) (by omega) b2
    cases hq : ptxe C (C j - 256) x with
    | inr y => simp only [hq] at e; cases e
    | inl y =>
      simp only [hq] at e
      cases e
      have := c1 _ hq
      omega
/-- commands in blocks: at most n levels deep -/
def chn (J E : Int → Int) (C : Int → Int) : Nat → Nat → Int → Int → Prop
  | 0, _, a, z => a = z
  | n + 1, l, a, z => a = z ∨ (a < z ∧ a < E a ∧ E a ≤ z ∧ (C (J a) < 267 → E a = a + 1) ∧ (267 ≤ C (J a) → ∃ l', l = l' + 1 ∧ chn J E C n l' (a + 1) (E a)) ∧ chn J E C n l (E a) z)
theorem chn_s {J E : Int → Int} : ∀ (n l : Nat) (a z : Int), chn J E C n l a z → chn J E C (n + 1) l a z := by
  intro n
  induction n with
  | zero => intro l a z h; exact Or.inl h
  | succ n ih =>
    intro l a z h
    rcases h with h | ⟨h1, h2, h3, h4, h5, h6⟩
    · exact Or.inl h
    · refine Or.inr ⟨h1, h2, h3, h4, fun hc => ?_, ih _ _ _ h6⟩
      obtain ⟨l', e, hh⟩ := h5 hc
      exact ⟨l', e, ih _ _ _ hh⟩
theorem chn_le {J E : Int → Int} {n m l : Nat} {a z : Int} (hm : n ≤ m) (h : chn J E C n l a z) : chn J E C m l a z := by
  induction m with
  | zero => rw [show n = 0 by omega] at h; exact h
  | succ m ih =>
    by_cases e : n = m + 1
    · rw [e] at h; exact h
    · exact chn_s _ _ _ _ (ih (by omega))
theorem chn_c {J E J' E' : Int → Int} : ∀ (n l : Nat) (a z : Int), (∀ i, a ≤ i → i < z → J' i = J i ∧ E' i = E i) → chn J E C n l a z → chn J' E' C n l a z := by
  intro n
  induction n with
  | zero => intro l a z _ h; exact h
  | succ n ih =>
    intro l a z hh h
    rcases h with h | ⟨h1, h2, h3, h4, h5, h6⟩
    · exact Or.inl h
    · obtain ⟨e1, e2⟩ := hh a (Int.le_refl _) h1
      refine Or.inr ⟨h1, by rw [e2]; exact h2, by rw [e2]; exact h3, by rw [e1, e2]; exact h4, fun hc => ?_, ?_⟩
      · rw [e1] at hc
        obtain ⟨l', e, h7⟩ := h5 hc
        refine ⟨l', e, ?_⟩
        rw [e2]
        exact ih _ _ _ (fun i i0 i1 => hh i (by omega) (by omega)) h7
      · rw [e2]
        exact ih _ _ _ (fun i i0 i1 => hh i (by omega) i1) h6
def ch (J E : Int → Int) (C : Int → Int) (l : Nat) (a z : Int) : Prop := ∃ n, chn J E C n l a z
theorem ch_nil {J E : Int → Int} {l : Nat} {a : Int} : ch J E C l a a := ⟨0, rfl⟩
theorem ch_cons {J E : Int → Int} {l : Nat} {a z : Int} (h1 : a < E a) (h2 : E a ≤ z) (h3 : C (J a) < 267 → E a = a + 1) (h4 : 267 ≤ C (J a) → ∃ l', l = l' + 1 ∧ ch J E C l' (a + 1) (E a)) (h5 : ch J E C l (E a) z) : ch J E C l a z := by
  obtain ⟨n, hn⟩ := h5
  by_cases hc : 267 ≤ C (J a)
  · obtain ⟨l', e, m, hm⟩ := h4 hc
    exact ⟨max n m + 1, Or.inr ⟨by omega, h1, h2, h3, fun _ => ⟨l', e, chn_le (Nat.le_max_right n m) hm⟩, chn_le (Nat.le_max_left n m) hn⟩⟩
  · exact ⟨n + 1, Or.inr ⟨by omega, h1, h2, h3, fun hh => (hc hh).elim, hn⟩⟩
theorem ch_c {J E J' E' : Int → Int} {l : Nat} {a z : Int} (hh : ∀ i, a ≤ i → i < z → J' i = J i ∧ E' i = E i) (h : ch J E C l a z) : ch J' E' C l a z := by
  obtain ⟨n, hn⟩ := h
  exact ⟨n, chn_c n l a z hh hn⟩
theorem ch_inv {J E : Int → Int} {l : Nat} {a z : Int} (h : ch J E C l a z) (hz : a < z) : a < E a ∧ E a ≤ z ∧ (C (J a) < 267 → E a = a + 1) ∧ (267 ≤ C (J a) → ∃ l', l = l' + 1 ∧ ch J E C l' (a + 1) (E a)) ∧ ch J E C l (E a) z := by
  obtain ⟨n, hn⟩ := h
  cases n with
  | zero => have : a = z := hn; omega
  | succ n =>
    rcases hn with hn | ⟨h1, h2, h3, h4, h5, h6⟩
    · omega
    · refine ⟨h2, h3, h4, fun hc => ?_, n, h6⟩
      obtain ⟨l', e, hh⟩ := h5 hc
      exact ⟨l', e, n, hh⟩
end PW2
