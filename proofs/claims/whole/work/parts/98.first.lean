/-! ===== the first state ===== -/
def a0 : aS := fun k i => if 0 ≤ i then (q0 k i.toNat).toInt else 0
theorem a0_q : q0 = qi a0 := by
  funext k j
  show q0 k j = iI (a0 k ((j : Nat) : Int))
  unfold a0
  rw [if_pos (by omega), show ((j : Nat) : Int).toNat = j by omega]
  exact (Int32.ofInt_toInt _).symm
theorem a0_0 {k : Nat} (h : q0 k = fun _ => 0) {i : Int} (h0 : 0 ≤ i) : a0 k i = 0 := by
  unfold a0
  rw [if_pos h0, h]
  rfl
theorem j_0 : jZ a0 := by
  have e03 : a0 0 3 = 0 := by decide +kernel
  refine ⟨⟨by decide +kernel, by decide +kernel, by decide +kernel, by decide +kernel, by decide +kernel, by decide +kernel, by decide +kernel, by decide +kernel, by decide +kernel, by decide +kernel, by decide +kernel⟩, ⟨by decide +kernel, by decide +kernel, by decide +kernel, by decide +kernel, by decide +kernel, by decide +kernel⟩, fun t t0 t1 => ?_, fun c c0 c1 => ?_, fun f f0 f1 => ?_, ⟨by decide +kernel, by decide +kernel⟩, fun i i0 i1 => by omega⟩
  · rcases (show t = 0 ∨ t = 1 ∨ t = 2 ∨ t = 3 by omega) with e | e | e | e <;> rw [e] <;> exact ⟨by decide +kernel, by decide +kernel⟩
  · rcases (show c = 0 ∨ c = 1 ∨ c = 2 ∨ c = 3 ∨ c = 4 ∨ c = 5 by omega) with e | e | e | e | e | e <;> rw [e] <;> decide +kernel
  · rcases (show f = 0 ∨ f = 1 ∨ f = 2 ∨ f = 3 ∨ f = 4 ∨ f = 5 ∨ f = 6 ∨ f = 7 by omega) with e | e | e | e | e | e | e | e <;> rw [e] <;> exact ⟨by decide +kernel, by decide +kernel⟩
theorem r_0 : rZ a0 a0 := by
  refine ⟨⟨by decide +kernel, by decide +kernel, by decide +kernel, by decide +kernel, by decide +kernel, by decide +kernel, by decide +kernel, by decide +kernel, by decide +kernel, by decide +kernel, by decide +kernel, by decide +kernel, by decide +kernel⟩, fun t t0 t1 => ?_, fun k k0 _ => a0_0 rfl k0⟩
  rcases (show t = 0 ∨ t = 1 ∨ t = 2 ∨ t = 3 by omega) with e | e | e | e <;> rw [e] <;> exact ⟨by decide +kernel, by decide +kernel⟩
theorem lR_0 : lR q0 := by
  have e03 : a0 0 3 = 0 := by decide +kernel
  exact ⟨a0, a0_q, j_z j_0, r_z j_0 r_0, by decide +kernel, fun i i0 i1 => by omega, by decide +kernel, by decide +kernel, by decide +kernel, by decide +kernel⟩
