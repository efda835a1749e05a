/-! ===== what the law needs of a pair of calls ===== -/
/-- what the law needs of a pair of calls whose exceptions are caught -/
def lPair (g : qG) (D : Nat) (R : qS → Prop) (Mx Mm : qMd) (as : List qP) (es : List String) (σ : qS) : Prop :=
  qC g D Mx (.inr 0 :: as) σ (fun r σ1 => qC g D Mm (.inr 86 :: as) (qup σ1 122 0 r) (fun bv σ2 => R σ2 ∧ σ2 86 0 = 0 ∧ bv = σ2 122 0) (fun _ _ => False))
    (fun E σ1 => E ∈ es ∧ ∀ j, es[j]? = some E → qC g D Mm (.inr 86 :: as) σ1 (fun _ σ2 => R σ2 ∧ σ2 86 0 = nI (j + 1)) (fun _ _ => False))
/-- .. and of one that throws nothing -/
def lPlain (g : qG) (D : Nat) (R : qS → Prop) (Mx Mm : qMd) (σ : qS) : Prop :=
  qC g D Mx [.inr 0] σ (fun r σ1 => qC g D Mm [.inr 86] σ1 (fun bv σ2 => R σ2 ∧ bv = r) (fun _ _ => False)) (fun _ _ => False)
