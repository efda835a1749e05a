/-! ===== floats: quotients of small numbers are numbers ===== -/
def dOk (f : FP.Core.Fmt) : FP.Core.Datum → Prop
  | .nan => False
  | .inf _ => True
  | .fin _ c q => c < 2 ^ f.p ∧ q ≤ f.qmax
theorem rr_ok (f : FP.Core.Fmt) (h1 : f.qmin ≤ f.qmax) (h2 : f.tails < 2 ^ f.p) (s : Bool) (num den : Nat) (e : Int) : dOk f (FP.Core.roundRatio f s num den e) := by
  have bd : ∀ (c : Nat) (q : Int), c < 2 ^ f.p → dOk f (FP.Core.bound f s c q) := fun c q hc => by
    unfold FP.Core.bound
    by_cases h : q ≤ f.qmax
    · rw [if_pos h]; exact ⟨hc, h⟩
    · rw [if_neg h]; exact trivial
  unfold FP.Core.roundRatio
  by_cases h : num = 0
  · rw [if_pos h]; exact ⟨Nat.lt_of_le_of_lt (Nat.zero_le _) h2, h1⟩
  · rw [if_neg h]
    unfold FP.Core.roundAt FP.Core.settle
    by_cases h3 : FP.Core.nearest (FP.Core.unitsNum num e (FP.Core.quantum f num den e)) (FP.Core.unitsDen den e (FP.Core.quantum f num den e)) < 2 ^ f.p
    · rw [if_pos h3]; exact bd _ _ h3
    · rw [if_neg h3]; exact bd _ _ h2
theorem enc32 {d : FP.Core.Datum} (h : dOk FP.Core.b32 d) : FP.Core.encode FP.Core.b32 d % 2147483648 ≤ 2139095040 := by
  have e1 : FP.Core.b32.exps = 256 := rfl
  have e2 : FP.Core.b32.tails = 8388608 := rfl
  have e3 : FP.Core.b32.qmin = -149 := rfl
  have e4 : FP.Core.b32.qmax = 104 := rfl
  have e5 : 2 ^ FP.Core.b32.p = 16777216 := rfl
  cases d with
  | nan => exact h.elim
  | inf s =>
    show FP.Core.assemble FP.Core.b32 s (FP.Core.b32.exps - 1) 0 % 2147483648 ≤ 2139095040
    unfold FP.Core.assemble
    rw [e1, e2]
    cases s with
    | false => decide
    | true => decide
  | fin s c q =>
    obtain ⟨hc, hq⟩ := h
    rw [e5] at hc
    rw [e4] at hq
    show (if c < FP.Core.b32.tails then FP.Core.assemble FP.Core.b32 s 0 c else FP.Core.assemble FP.Core.b32 s ((q - FP.Core.b32.qmin).toNat + 1) (c - FP.Core.b32.tails)) % 2147483648 ≤ 2139095040
    unfold FP.Core.assemble
    rw [e1, e2, e3]
    have hs : s.toNat = 0 ∨ s.toNat = 1 := by cases s <;> simp
    by_cases h1 : c < 8388608
    · rw [if_pos h1]; omega
    · rw [if_neg h1]; omega
theorem enc64 {d : FP.Core.Datum} (h : dOk FP.Core.b64 d) : FP.Core.encode FP.Core.b64 d % 9223372036854775808 ≤ 9218868437227405312 := by
  have e1 : FP.Core.b64.exps = 2048 := rfl
  have e2 : FP.Core.b64.tails = 4503599627370496 := rfl
  have e3 : FP.Core.b64.qmin = -1074 := rfl
  have e4 : FP.Core.b64.qmax = 971 := rfl
  have e5 : 2 ^ FP.Core.b64.p = 9007199254740992 := rfl
  cases d with
  | nan => exact h.elim
  | inf s =>
    show FP.Core.assemble FP.Core.b64 s (FP.Core.b64.exps - 1) 0 % 9223372036854775808 ≤ 9218868437227405312
    unfold FP.Core.assemble
    rw [e1, e2]
    cases s with
    | false => decide
    | true => decide
  | fin s c q =>
    obtain ⟨hc, hq⟩ := h
    rw [e5] at hc
    rw [e4] at hq
    show (if c < FP.Core.b64.tails then FP.Core.assemble FP.Core.b64 s 0 c else FP.Core.assemble FP.Core.b64 s ((q - FP.Core.b64.qmin).toNat + 1) (c - FP.Core.b64.tails)) % 9223372036854775808 ≤ 9218868437227405312
    unfold FP.Core.assemble
    rw [e1, e2, e3]
    have hs : s.toNat = 0 ∨ s.toNat = 1 := by cases s <;> simp
    by_cases h1 : c < 4503599627370496
    · rw [if_pos h1]; omega
    · rw [if_neg h1]; omega
theorem dec32 {n : Nat} (h : n % 2147483648 ≤ 2139095040) : FP.Core.decode FP.Core.b32 n ≠ .nan := by
  have e1 : FP.Core.b32.exps = 256 := rfl
  have e2 : FP.Core.b32.tails = 8388608 := rfl
  unfold FP.Core.decode FP.Core.fieldE FP.Core.fieldT
  rw [e1, e2]
  by_cases h1 : n / 8388608 % 256 = 256 - 1
  · rw [if_pos h1, if_pos (by omega)]
    exact fun e => by cases e
  · rw [if_neg h1]
    by_cases h2 : n / 8388608 % 256 = 0
    · rw [if_pos h2]; exact fun e => by cases e
    · rw [if_neg h2]; exact fun e => by cases e
theorem dec64 {n : Nat} (h : n % 9223372036854775808 ≤ 9218868437227405312) : FP.Core.decode FP.Core.b64 n ≠ .nan := by
  have e1 : FP.Core.b64.exps = 2048 := rfl
  have e2 : FP.Core.b64.tails = 4503599627370496 := rfl
  unfold FP.Core.decode FP.Core.fieldE FP.Core.fieldT
  rw [e1, e2]
  by_cases h1 : n / 4503599627370496 % 2048 = 2048 - 1
  · rw [if_pos h1, if_pos (by omega)]
    exact fun e => by cases e
  · rw [if_neg h1]
    by_cases h2 : n / 4503599627370496 % 2048 = 0
    · rw [if_pos h2]; exact fun e => by cases e
    · rw [if_neg h2]; exact fun e => by cases e
/-- a float that is a number, or an infinity -/
def fOk (r : UInt32) : Prop := r.toNat % 2147483648 ≤ 2139095040
theorem of32_ok {d : FP.Core.Datum} (h : dOk FP.Core.b32 d) : fOk (UInt32.ofNat (FP.Core.encode FP.Core.b32 d)) := by
  have e := enc32 h
  show (BitVec.ofNat 32 (FP.Core.encode FP.Core.b32 d)).toNat % 2147483648 ≤ 2139095040
  rw [BitVec.toNat_ofNat]
  omega
theorem fOk_n {r : UInt32} (h : fOk r) : vf_n32 r := by
  show (r.toBitVec &&& (0x7fffffff : UInt32).toBitVec).toNat ≤ 2139095040
  rw [BitVec.toNat_and]
  show r.toNat &&& 2147483647 ≤ 2139095040
  rw [show r.toNat &&& 2147483647 = r.toNat % 2147483648 from Nat.and_two_pow_sub_one_eq_mod r.toNat 31]
  exact h
theorem f2d_ok {r : UInt32} (h : fOk r) : (FP.f2d r).toNat % 9223372036854775808 ≤ 9218868437227405312 := by
  have hd := dec32 h
  have hn : FP.Core.fIsNaN r = false := decide_eq_false hd
  unfold FP.f2d
  rw [hn]
  show (BitVec.ofNat 64 (FP.Core.encode FP.Core.b64 (FP.Core.round FP.Core.b64 (FP.Core.decode FP.Core.b32 r.toNat)))).toNat % 9223372036854775808 ≤ 9218868437227405312
  have ok : dOk FP.Core.b64 (FP.Core.round FP.Core.b64 (FP.Core.decode FP.Core.b32 r.toNat)) := by
    cases hx : FP.Core.decode FP.Core.b32 r.toNat with
    | nan => exact (hd hx).elim
    | inf s => exact trivial
    | fin s c q => exact rr_ok FP.Core.b64 (by decide) (by decide) _ _ _ _
  have e := enc64 ok
  rw [BitVec.toNat_ofNat]
  omega
theorem f2d_n {r : UInt32} (h : fOk r) : vf_n64 (FP.f2d r) := by
  have h9 := f2d_ok h
  show ((FP.f2d r).toBitVec &&& (0x7fffffffffffffff : UInt64).toBitVec).toNat ≤ 9218868437227405312
  rw [BitVec.toNat_and]
  show (FP.f2d r).toNat &&& 9223372036854775807 ≤ 9218868437227405312
  rw [show (FP.f2d r).toNat &&& 9223372036854775807 = (FP.f2d r).toNat % 9223372036854775808 from Nat.and_two_pow_sub_one_eq_mod _ 63]
  exact h9
theorem cmp_s (z : Int) : compare z z = Ordering.eq := by
  show compareOfLessAndEq z z = _
  unfold compareOfLessAndEq
  rw [if_neg (Int.lt_irrefl z), if_pos rfl]
theorem dcmp_s {r : UInt32} (h : fOk r) : FP.dcmp (FP.f2d r) (FP.f2d r) = some .eq := by
  have hd := dec64 (f2d_ok h)
  show FP.Core.order (FP.Core.decode FP.Core.b64 (FP.f2d r).toNat) (FP.Core.decode FP.Core.b64 (FP.f2d r).toNat) = some .eq
  cases hx : FP.Core.decode FP.Core.b64 (FP.f2d r).toNat with
  | nan => exact (hd hx).elim
  | inf s => exact congrArg some (cmp_s _)
  | fin s c q => exact congrArg some (cmp_s _)
def isNZ : FP.Core.Datum → Bool
  | .fin _ c _ => c != 0
  | _ => false
theorem i2f_nz' : ∀ y : Fin 401, y.val = 0 ∨ isNZ (FP.Core.decode FP.Core.b32 (FP.i2f (Int32.ofInt ((y.val : Nat) : Int))).toNat) = true := by decide +kernel
theorem i2f_ok (x : Int32) : fOk (FP.i2f x) := by
  show fOk (UInt32.ofNat (FP.Core.encode FP.Core.b32 (FP.Core.round FP.Core.b32 (FP.Core.ofInt x.toInt))))
  exact of32_ok (rr_ok FP.Core.b32 (by decide) (by decide) _ _ _ _)
theorem fdiv_ok {x : Int32} {y : Int} (h0 : 1 ≤ y) (h1 : y ≤ 400) : fOk (FP.fdiv (FP.i2f x) (FP.i2f (iI y))) := by
  have hz := i2f_nz' ⟨y.toNat, by omega⟩
  have hz : y.toNat = 0 ∨ isNZ (FP.Core.decode FP.Core.b32 (FP.i2f (Int32.ofInt ((y.toNat : Nat) : Int))).toNat) = true := hz
  rw [show ((y.toNat : Nat) : Int) = y by omega] at hz
  have hy : isNZ (FP.Core.decode FP.Core.b32 (FP.i2f (iI y)).toNat) = true := by
    rcases hz with hz | hz
    · omega
    · exact hz
  have hx := dec32 (i2f_ok x)
  show fOk (UInt32.ofNat (FP.Core.encode FP.Core.b32 (FP.Core.quotient FP.Core.b32 (FP.Core.decode FP.Core.b32 (FP.i2f x).toNat) (FP.Core.decode FP.Core.b32 (FP.i2f (iI y)).toNat))))
  refine of32_ok ?_
  cases ha : FP.Core.decode FP.Core.b32 (FP.i2f x).toNat with
  | nan => exact (hx ha).elim
  | inf s =>
    cases hb : FP.Core.decode FP.Core.b32 (FP.i2f (iI y)).toNat with
    | nan => rw [hb] at hy; cases hy
    | inf t => rw [hb] at hy; cases hy
    | fin t c q => exact trivial
  | fin s c q =>
    cases hb : FP.Core.decode FP.Core.b32 (FP.i2f (iI y)).toNat with
    | nan => rw [hb] at hy; cases hy
    | inf t => rw [hb] at hy; cases hy
    | fin t c2 q2 =>
      rw [hb] at hy
      have hc : c2 ≠ 0 := by
        intro e
        rw [e] at hy
        cases hy
      show dOk FP.Core.b32 (if c2 = 0 then (if c = 0 then .nan else .inf (s != t)) else FP.Core.roundRatio FP.Core.b32 (s != t) c c2 (q - q2))
      rw [if_neg hc]
      exact rr_ok FP.Core.b32 (by decide) (by decide) _ _ _ _
theorem f0_ok : fOk FP.fconst0 := by unfold fOk; decide
theorem bits_r (r : UInt32) : r.toInt32.toUInt32 = r := rfl
