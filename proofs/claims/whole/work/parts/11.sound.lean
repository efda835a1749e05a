/-! ===== the evaluator is sound ===== -/
def qFwd (own : String) (q : Nat × qFd) : Jvm.Cond := match vwCl[q.2.1]? with
  | some c => bif q.2.2.2.1 then .fieldLinkNest own q.1 c.1 (c.2.1 q.2.2.1).2.1 (c.2.1 q.2.2.1).2.2.1 "SharedLog" else .fieldLink own q.1 c.1 (c.2.1 q.2.2.1).2.1 (c.2.1 q.2.2.1).2.2.1
  | none => .count 0
def qFB (own : String) (q : Nat × qFd) : Bool := match vwCl[q.2.1]? with
  | some c => Nat.blt q.2.2.1 c.2.2 && decide ((c.2.1 q.2.2.1).1 = c.1) && (q.2.2.2.1 || goodWord (qFwd own q)) && (match q.2.2.2.2 with
    | 1 => decide ((c.2.1 q.2.2.1).2.2.1 = "I") && !(c.2.1 q.2.2.1).2.2.2
    | 2 => decide ((c.2.1 q.2.2.1).2.2.1 = "Z") && !(c.2.1 q.2.2.1).2.2.2
    | _ => true)
  | none => false
def qCwd (own : String) (q : Nat × qCl) : List Jvm.Cond := (match q.2.2.1 with
  | 0 => [.methodLink own q.1 q.2.1.1, .instanceMethod q.2.1.1, .selects q.2.1.1.cls q.2.1.1 q.2.1.1]
  | 1 => [.methodLink own q.1 q.2.1.1, .static q.2.1.1]
  | _ => [.methodLinkNest own q.1 q.2.1.1 "SharedLog", .static q.2.1.1]) ++ qcw q.2.1
def qMB (M : qMd) : Bool := decide (M.1.cls ≠ "java/lang/invoke/MethodHandle") && decide (M.1.cls ≠ "java/lang/invoke/VarHandle") && decide ((parseMethodDescriptor M.1.desc).map (fun d => d.parameters.length) = some M.2.2.2.2.1) && Nat.ble M.2.2.1 40 && decide (M.2.2.2.1 ≠ some .float)
def qCB (own : String) (q : Nat × qCl) : Bool := qMB q.2.1 && (qCwd own q).all (fun w => goodWord w || qnest w) && (match q.2.2.1 with
  | 0 => (match vwCl[q.2.1.2.2.2.2.2.1]? with
    | some c => decide (c.1 = q.2.1.1.cls)
    | none => false) && (qCwd own q).all goodWord
  | 1 => (qCwd own q).all goodWord
  | _ => ((qCwd own q).drop 1).all goodWord)
def qFnOk (g : qG) (M : qMd) (f : qFn) : Prop := ∀ (d : Nat) (as : List qP) (σ : qS) (r : Int32) (σ' : qS) (Q : Int32 → qS → Prop) (T : String → qS → Prop), f as σ = some (r, σ') → Q r σ' → qC g d M as σ Q T
def qPlOk (g : qG) (own : String) (pl : qPl) : Prop := (∀ q ∈ pl.1, qFwd own q ∈ lw_tbl ∧ qFB own q = true) ∧ (∀ q ∈ pl.2.1, (∀ w ∈ qCwd own q, w ∈ lw_tbl) ∧ qCB own q = true ∧ ∀ f, q.2.2.2 = some f → qFnOk g q.2.1 f) ∧ (∀ i ∈ pl.2.2, Jvm.Cond.methodLink own i Lib.Math.min.name ∈ qgw ∧ ∀ w ∈ qminw, w ∈ qgw)
theorem qgw_in {w : Jvm.Cond} (h : w ∈ lw_tbl) (hg : goodWord w = true) : w ∈ qgw := List.mem_filter.mpr ⟨h, hg⟩
theorem qF_spec {own : String} {idx ci j kd : Nat} {nest : Bool} (h : qFwd own (idx, ci, j, nest, kd) ∈ lw_tbl ∧ qFB own (idx, ci, j, nest, kd) = true) :
    ∃ q : vw_C, vwCl[ci]? = some q ∧ j < q.2.2 ∧ (q.2.1 j).1 = q.1 ∧ ((nest = true ∧ Jvm.Cond.fieldLinkNest own idx q.1 (q.2.1 j).2.1 (q.2.1 j).2.2.1 "SharedLog" ∈ lw_tbl) ∨ (nest = false ∧ Jvm.Cond.fieldLink own idx q.1 (q.2.1 j).2.1 (q.2.1 j).2.2.1 ∈ qgw)) ∧
      (kd = 1 → (q.2.1 j).2.2.1 = "I" ∧ (q.2.1 j).2.2.2 = false) ∧ (kd = 2 → (q.2.1 j).2.2.1 = "Z" ∧ (q.2.1 j).2.2.2 = false) := by
  obtain ⟨h1, h2⟩ := h
  unfold qFB at h2
  unfold qFwd at h1
  cases hc : vwCl[ci]? with
  | none => simp only [hc] at h2; cases h2
  | some q =>
    simp only [hc] at h1 h2
    simp only [Bool.and_eq_true] at h2
    obtain ⟨⟨⟨h3, h4⟩, h5⟩, h6⟩ := h2
    refine ⟨q, rfl, Nat.le_of_ble_eq_true h3, of_decide_eq_true h4, ?_, ?_, ?_⟩
    · cases nest with
      | true => exact Or.inl ⟨rfl, h1⟩
      | false =>
        refine Or.inr ⟨rfl, qgw_in h1 ?_⟩
        unfold qFwd at h5
        simp only [hc] at h5
        simpa using h5
    · intro e
      subst e
      simp only [Bool.and_eq_true] at h6
      exact ⟨of_decide_eq_true h6.1, by simpa using h6.2⟩
    · intro e
      subst e
      simp only [Bool.and_eq_true] at h6
      exact ⟨of_decide_eq_true h6.1, by simpa using h6.2⟩
theorem qM_spec {M : qMd} (h : qMB M = true) : qMok M := by
  unfold qMB at h
  simp only [Bool.and_eq_true] at h
  obtain ⟨⟨⟨⟨h1, h2⟩, h3⟩, h4⟩, h5⟩ := h
  exact ⟨⟨of_decide_eq_true h1, of_decide_eq_true h2⟩, of_decide_eq_true h3, Nat.le_of_ble_eq_true h4, of_decide_eq_true h5⟩
theorem qcall_ok {g : qG} {M M' : qMd} {d bu pc : Nat} {nx : qNx} {ls : List (Option qP)} {σ : qS} {Q : Int32 → qS → Prop} {T : String → qS → Prop} {fn : Option qFn} {as rest : List qP} (hf : ∀ f, fn = some f → qFnOk g M' f)
    (hnx : ∀ bu pc ls st σ, nx bu pc ls st σ → qV g M (d + 1) bu pc ls st σ Q T) (h : qcall g d bu pc nx T ls σ M' fn as rest) :
    rest.length ≤ 8 ∧ qMd_b M' ≤ bu ∧ qC g d M' as σ (fun r σ' => qV g M (d + 1) (bu - qMd_b M') (pc + 3) ls (qpush M' r rest) σ' Q T) T ∧ (fn ≠ none → qC g d M' as σ (fun r σ' => qV g M (d + 1) (bu - qMd_b M') (pc + 3) ls (qpush M' r rest) σ' Q T) (fun _ _ => False)) := by
  unfold qcall at h
  cases hb : (Nat.ble rest.length 8 && Nat.ble (qMd_b M') bu) with
  | false => rw [hb] at h; exact h.elim
  | true =>
    rw [hb] at h
    simp only [Bool.and_eq_true] at hb
    refine ⟨Nat.le_of_ble_eq_true hb.1, Nat.le_of_ble_eq_true hb.2, ?_⟩
    cases fn with
    | none => exact ⟨qC_mono h (fun r u hr => hnx _ _ _ _ _ hr) (fun _ _ ht => ht), fun hc => (hc rfl).elim⟩
    | some f =>
      cases hfa : f as σ with
      | none => simp only [hfa, cond_true] at h
      | some x =>
        obtain ⟨r, σ'⟩ := x
        simp only [hfa, cond_true] at h
        exact ⟨hf f rfl d as σ r σ' _ _ hfa (hnx _ _ _ _ _ h), fun _ => hf f rfl d as σ r σ' _ _ hfa (hnx _ _ _ _ _ h)⟩
set_option maxHeartbeats 4000000 in
theorem qstep_ok {g : qG} {M : qMd} {pl : qPl} {D d bu pc len : Nat} {i : Instr} {nx : qNx} {ls : List (Option qP)} {st : List qP} {σ : qS} {Q : Int32 → qS → Prop} {T : String → qS → Prop} (hD : D = d + 1 ∨ pl.2.1 = []) (hp : qPlOk g M.1.cls pl) (hd : decode M.2.1 pc = .ok (i, len)) (hlen : qilen i ≠ 0 → len = qilen i)
    (hnx : ∀ bu pc ls st σ, nx bu pc ls st σ → qV g M D bu pc ls st σ Q T) (h : qstep pl M g d bu nx Q T pc i ls st σ) : qV g M D bu pc ls st σ Q T := by
  cases i <;> try exact h.elim
  case iconst n => cases hlen (Nat.succ_ne_zero _); exact qV_iconst hd (hnx _ _ _ _ _ h)
  case bipush n => cases hlen (Nat.succ_ne_zero _); exact qV_bipush hd (hnx _ _ _ _ _ h)
  case sipush n => cases hlen (Nat.succ_ne_zero _); exact qV_sipush hd (hnx _ _ _ _ _ h)
  case iload_n k =>
    cases hlen (Nat.succ_ne_zero _)
    dsimp only [qstep] at h
    split at h
    · rename_i v hv; exact qV_iload_n hd hv (hnx _ _ _ _ _ h)
    · exact h.elim
  case iload k =>
    cases hlen (Nat.succ_ne_zero _)
    dsimp only [qstep] at h
    split at h
    · rename_i v hv; exact qV_iload hd hv (hnx _ _ _ _ _ h)
    · exact h.elim
  case aload_n k =>
    cases hlen (Nat.succ_ne_zero _)
    dsimp only [qstep] at h
    split at h
    · rename_i v hv; exact qV_aload_n hd hv (hnx _ _ _ _ _ h)
    · exact h.elim
  case aload k =>
    cases hlen (Nat.succ_ne_zero _)
    dsimp only [qstep] at h
    split at h
    · rename_i v hv; exact qV_aload hd hv (hnx _ _ _ _ _ h)
    · exact h.elim
  case istore_n k =>
    cases hlen (Nat.succ_ne_zero _)
    dsimp only [qstep] at h
    split at h
    · cases hb : Nat.blt k.val M.2.2.1 with
      | true => rw [hb] at h; exact qV_istore_n hd (Nat.le_of_ble_eq_true hb) (hnx _ _ _ _ _ h)
      | false => rw [hb] at h; exact h.elim
    · exact h.elim
  case istore k =>
    cases hlen (Nat.succ_ne_zero _)
    dsimp only [qstep] at h
    split at h
    · cases hb : Nat.blt k M.2.2.1 with
      | true => rw [hb] at h; exact qV_istore hd (Nat.le_of_ble_eq_true hb) (hnx _ _ _ _ _ h)
      | false => rw [hb] at h; exact h.elim
    · exact h.elim
  case iinc k n =>
    cases hlen (Nat.succ_ne_zero _)
    dsimp only [qstep] at h
    split at h
    · rename_i v hv
      cases hb : Nat.blt k M.2.2.1 with
      | true => rw [hb] at h; exact qV_iinc hd hv (Nat.le_of_ble_eq_true hb) (hnx _ _ _ _ _ h)
      | false => rw [hb] at h; exact h.elim
    · exact h.elim
  case iadd =>
    cases hlen (Nat.succ_ne_zero _)
    dsimp only [qstep] at h
    split at h
    · exact qV_iadd hd (hnx _ _ _ _ _ h)
    · exact h.elim
  case isub =>
    cases hlen (Nat.succ_ne_zero _)
    dsimp only [qstep] at h
    split at h
    · exact qV_isub hd (hnx _ _ _ _ _ h)
    · exact h.elim
  case imul =>
    cases hlen (Nat.succ_ne_zero _)
    dsimp only [qstep] at h
    split at h
    · exact qV_imul hd (hnx _ _ _ _ _ h)
    · exact h.elim
  case iand =>
    cases hlen (Nat.succ_ne_zero _)
    dsimp only [qstep] at h
    split at h
    · exact qV_iand hd (hnx _ _ _ _ _ h)
    · exact h.elim
  case ixor =>
    cases hlen (Nat.succ_ne_zero _)
    dsimp only [qstep] at h
    split at h
    · exact qV_ixor hd (hnx _ _ _ _ _ h)
    · exact h.elim
  case ishr =>
    cases hlen (Nat.succ_ne_zero _)
    dsimp only [qstep] at h
    split at h
    · exact qV_ishr hd (hnx _ _ _ _ _ h)
    · exact h.elim
  case idiv =>
    cases hlen (Nat.succ_ne_zero _)
    dsimp only [qstep] at h
    split at h
    · exact qV_idiv hd h.1 (hnx _ _ _ _ _ h.2)
    · exact h.elim
  case i2b =>
    cases hlen (Nat.succ_ne_zero _)
    dsimp only [qstep] at h
    split at h
    · exact qV_i2b hd (hnx _ _ _ _ _ h)
    · exact h.elim
  case i2s =>
    cases hlen (Nat.succ_ne_zero _)
    dsimp only [qstep] at h
    split at h
    · exact qV_i2s hd (hnx _ _ _ _ _ h)
    · exact h.elim
  case pop =>
    cases hlen (Nat.succ_ne_zero _)
    dsimp only [qstep] at h
    split at h
    · exact qV_pop hd (hnx _ _ _ _ _ h)
    · exact h.elim
  case dup =>
    cases hlen (Nat.succ_ne_zero _)
    dsimp only [qstep] at h
    split at h
    · exact qV_dup hd (hnx _ _ _ _ _ h)
    · exact h.elim
  case dup2 =>
    cases hlen (Nat.succ_ne_zero _)
    dsimp only [qstep] at h
    split at h
    · exact qV_dup2 hd (hnx _ _ _ _ _ h)
    · exact h.elim
  case goto off =>
    cases hlen (Nat.succ_ne_zero _)
    obtain ⟨t, ht, hk⟩ := qjmp_ok h
    exact qV_goto hd ht (hnx _ _ _ _ _ hk)
  case if_icmp c off =>
    cases hlen (Nat.succ_ne_zero _)
    dsimp only [qstep] at h
    split at h
    · obtain ⟨t, ht, hk⟩ := qjmp_ok h
      exact qV_icmp hd ht (fun hc => hnx _ _ _ _ _ (hk.1 hc)) (fun hc => hnx _ _ _ _ _ (hk.2 hc))
    · exact h.elim
  case ifCond c off =>
    cases hlen (Nat.succ_ne_zero _)
    dsimp only [qstep] at h
    split at h
    · obtain ⟨t, ht, hk⟩ := qjmp_ok h
      exact qV_if hd ht (fun hc => hnx _ _ _ _ _ (hk.1 hc)) (fun hc => hnx _ _ _ _ _ (hk.2 hc))
    · exact h.elim
  case tableswitch df lo hi offs =>
    dsimp only [qstep] at h
    split at h
    · rename_i x st
      obtain ⟨hsz, h⟩ := h
      rcases qswt_ok offs.toList lo (by omega) h with ⟨o, h1, h2, h3⟩ | ⟨h1, h2⟩
      · obtain ⟨t, ht, hk⟩ := qjmp_ok h3
        have hlt := (List.getElem?_eq_some_iff.mp h2).1
        exact qV_tableIn hd (by omega) (by omega) (by rw [← Array.getElem?_toList]; exact h2) ht (hnx _ _ _ _ _ hk)
      · obtain ⟨t, ht, hk⟩ := qjmp_ok h2
        exact qV_tableOut hd (by omega) ht (hnx _ _ _ _ _ hk)
    · exact h.elim
  case getfield idx =>
    cases hlen (Nat.succ_ne_zero _)
    dsimp only [qstep] at h
    split at h
    · rename_i k st
      split at h
      · rename_i ci j nest kd hf
        split at h
        · rename_i ci' n rs hk
          cases hb : (Nat.beq ci ci' && Nat.blt j n) with
          | false => rw [hb] at h; exact h.elim
          | true =>
            rw [hb] at h
            simp only [Bool.and_eq_true] at hb
            cases Nat.eq_of_beq_eq_true hb.1
            obtain ⟨q, hc, hj, hcl, hw, -, -⟩ := qF_spec (hp.1 _ (qlk_mem hf))
            rcases hw with ⟨-, hw⟩ | ⟨-, hw⟩
            · exact qV_getN hk (Nat.le_of_ble_eq_true hb.2) hc hj hcl hw hd (hnx _ _ _ _ _ h)
            · exact qV_get hk (Nat.le_of_ble_eq_true hb.2) hc hj hcl hw hd (hnx _ _ _ _ _ h)
        · exact h.elim
      · exact h.elim
    · exact h.elim
  case putfield idx =>
    cases hlen (Nat.succ_ne_zero _)
    dsimp only [qstep] at h
    split at h
    · rename_i x k st
      split at h
      · rename_i ci j nest kd hf
        split at h
        · rename_i ci' n rs hk
          cases hb : (Nat.beq ci ci' && Nat.blt j n && (rs.lookup j).isNone) with
          | false => rw [hb] at h; exact h.elim
          | true =>
            rw [hb] at h
            simp only [Bool.and_eq_true] at hb
            cases Nat.eq_of_beq_eq_true hb.1.1
            have hj9 := Nat.le_of_ble_eq_true hb.1.2
            have hr9 : rs.lookup j = none := Option.isNone_iff_eq_none.mp hb.2
            obtain ⟨q, hc, hj, hcl, hw, h1, h2⟩ := qF_spec (hp.1 _ (qlk_mem hf))
            dsimp only [cond_true] at h
            split at h
            · obtain ⟨e1, e2⟩ := h1 rfl
              rcases hw with ⟨-, hw⟩ | ⟨-, hw⟩
              · exact qV_putN (ty := .int) hk hj9 hr9 hc hj hcl e2 (by rw [e1]; rfl) rfl rfl hw hd (hnx _ _ _ _ _ h)
              · exact qV_put (ty := .int) hk hj9 hr9 hc hj hcl e2 (by rw [e1]; rfl) rfl rfl hw hd (hnx _ _ _ _ _ h)
            · obtain ⟨e1, e2⟩ := h2 rfl
              obtain ⟨hx, h⟩ := h
              have hn : narrow .boolean (.int x) = .int x := by rcases hx with rfl | rfl <;> rfl
              have hfit : fits .boolean (.int x) = true := by rcases hx with rfl | rfl <;> rfl
              rcases hw with ⟨-, hw⟩ | ⟨-, hw⟩
              · exact qV_putN (ty := .boolean) hk hj9 hr9 hc hj hcl e2 (by rw [e1]; rfl) hn hfit hw hd (hnx _ _ _ _ _ h)
              · exact qV_put (ty := .boolean) hk hj9 hr9 hc hj hcl e2 (by rw [e1]; rfl) hn hfit hw hd (hnx _ _ _ _ _ h)
            · exact h.elim
        · exact h.elim
      · exact h.elim
    · exact h.elim
  case iaload =>
    cases hlen (Nat.succ_ne_zero _)
    dsimp only [qstep] at h
    split at h
    · split at h
      · rename_i hk; exact qV_iald hk h.1 hd (hnx _ _ _ _ _ h.2)
      · exact h.elim
    · exact h.elim
  case baload =>
    cases hlen (Nat.succ_ne_zero _)
    dsimp only [qstep] at h
    split at h
    · split at h
      · rename_i hk; exact qV_bald hk h.1 hd (hnx _ _ _ _ _ h.2)
      · rename_i hk; exact qV_zald hk h.1 hd (hnx _ _ _ _ _ h.2)
      · exact h.elim
    · exact h.elim
  case iastore =>
    cases hlen (Nat.succ_ne_zero _)
    dsimp only [qstep] at h
    split at h
    · split at h
      · rename_i hk; exact qV_iast hk h.1 hd (hnx _ _ _ _ _ h.2)
      · exact h.elim
    · exact h.elim
  case bastore =>
    cases hlen (Nat.succ_ne_zero _)
    dsimp only [qstep] at h
    split at h
    · split at h
      · rename_i hk; exact qV_bast hk h.1 hd (hnx _ _ _ _ _ h.2)
      · rename_i hk; exact qV_zast hk h.1 hd (hnx _ _ _ _ _ h.2)
      · exact h.elim
    · exact h.elim
  case arraylength =>
    cases hlen (Nat.succ_ne_zero _)
    dsimp only [qstep] at h
    split at h
    · split at h
      · rename_i ty n rs hk
        cases hb : Nat.blt ty 3 with
        | false => rw [hb] at h; exact h.elim
        | true => rw [hb] at h; exact qV_alen (Nat.le_of_ble_eq_true hb) hk hd (hnx _ _ _ _ _ h)
      · exact h.elim
    · exact h.elim
  case ireturn =>
    cases hlen (Nat.succ_ne_zero _)
    dsimp only [qstep] at h
    split at h
    · split at h
      · rename_i hr; exact qV_ret hr (by decide) rfl hd h
      · rename_i hr; exact qV_ret hr (by decide) (by rcases h.1 with rfl | rfl <;> rfl) hd h.2
      · rename_i hr; exact qV_ret hr (by decide) h.1 hd h.2
      · exact h.elim
    · exact h.elim
  case return_ =>
    cases hlen (Nat.succ_ne_zero _)
    dsimp only [qstep] at h
    split at h
    · split at h
      · rename_i hr; exact qV_retv hr hd h
      · exact h.elim
    · exact h.elim
  case invokevirtual idx =>
    cases hlen (Nat.succ_ne_zero _)
    dsimp only [qstep] at h
    split at h
    · rename_i M' fn hf
      rcases hD with rfl | hD
      case inr => rw [hD] at hf; cases hf
      split at h
      · rename_i as k rest ht
        split at h
        · rename_i ci' n rs hk
          cases hb : Nat.beq ci' M'.2.2.2.2.2.1 with
          | false => rw [hb] at h; exact h.elim
          | true =>
            rw [hb] at h
            cases Nat.eq_of_beq_eq_true hb
            obtain ⟨a1, a2, a3⟩ := hp.2.1 _ (qlk_mem hf)
            obtain ⟨b1, b2, b3, -⟩ := qcall_ok a3 hnx h
            obtain ⟨t1, t2⟩ := qtake_ok _ _ _ _ _ ht
            have hst : st = as.reverse ++ .inr k :: rest := by rw [t1]; rfl
            subst hst
            unfold qCB at a2
            simp only [Bool.and_eq_true] at a2
            obtain ⟨⟨c1, c2⟩, c3, c4⟩ := a2
            have hin : ∀ w ∈ qCwd M.1.cls (idx, M', 0, fn), w ∈ qgw := fun w hw => qgw_in (a1 w hw) (List.all_eq_true.mp c4 w hw)
            split at c3
            · rename_i q hq
              exact qV_callV hk hq (of_decide_eq_true c3) (qM_spec c1) (fun w hw => hin w (List.mem_append_right _ hw)) (hin _ List.mem_cons_self) (hin _ (List.mem_cons_of_mem _ List.mem_cons_self)) (hin _ (List.mem_cons_of_mem _ (List.mem_cons_of_mem _ List.mem_cons_self))) (by simpa using t2) b1 b2 hd b3
            · cases c3
        · exact h.elim
      · exact h.elim
    · exact h.elim
  case invokestatic idx =>
    cases hlen (Nat.succ_ne_zero _)
    dsimp only [qstep] at h
    cases hm : qmem pl.2.2 idx with
    | true =>
      rw [hm] at h
      dsimp only [cond_true] at h
      split at h
      · rename_i y x st
        cases hb : Nat.ble st.length 8 with
        | false => rw [hb] at h; exact h.elim
        | true =>
          rw [hb] at h
          obtain ⟨m1, m2⟩ := hp.2.2 _ (qmem_mem hm)
          exact qV_min m2 m1 (Nat.le_of_ble_eq_true hb) hd (hnx _ _ _ _ _ h)
      · exact h.elim
    | false =>
      rw [hm] at h
      dsimp only [cond_false] at h
      split at h
      · rename_i M' fn hf
        rcases hD with rfl | hD
        case inr => rw [hD] at hf; cases hf
        split at h
        · rename_i as rest ht
          obtain ⟨a1, a2, a3⟩ := hp.2.1 _ (qlk_mem hf)
          obtain ⟨b1, b2, b3, -⟩ := qcall_ok a3 hnx h
          obtain ⟨t1, t2⟩ := qtake_ok _ _ _ _ _ ht
          have hst : st = as.reverse ++ rest := by rw [t1]; rfl
          subst hst
          unfold qCB at a2
          simp only [Bool.and_eq_true] at a2
          obtain ⟨⟨c1, c2⟩, c4⟩ := a2
          have hin : ∀ w ∈ qCwd M.1.cls (idx, M', 1, fn), w ∈ qgw := fun w hw => qgw_in (a1 w hw) (List.all_eq_true.mp c4 w hw)
          exact qV_callS (qM_spec c1) (fun w hw => hin w (List.mem_append_right _ hw)) (hin _ List.mem_cons_self) (hin _ (List.mem_cons_of_mem _ List.mem_cons_self)) (by simpa using t2) b1 b2 hd b3
        · exact h.elim
      · rename_i M' f hf
        rcases hD with rfl | hD
        case inr => rw [hD] at hf; cases hf
        split at h
        · rename_i as rest ht
          obtain ⟨a1, a2, a3⟩ := hp.2.1 _ (qlk_mem hf)
          obtain ⟨b1, b2, -, b3⟩ := qcall_ok a3 hnx h
          obtain ⟨t1, t2⟩ := qtake_ok _ _ _ _ _ ht
          have hst : st = as.reverse ++ rest := by rw [t1]; rfl
          subst hst
          unfold qCB at a2
          simp only [Bool.and_eq_true] at a2
          obtain ⟨⟨c1, c2⟩, c4⟩ := a2
          have hin : ∀ w ∈ (qCwd M.1.cls (idx, M', 2, some f)).drop 1, w ∈ qgw := fun w hw => qgw_in (a1 w (List.mem_of_mem_drop hw)) (List.all_eq_true.mp c4 w hw)
          exact qV_callSN (qM_spec c1) (fun w hw => hin w (List.mem_cons_of_mem _ hw)) (a1 _ List.mem_cons_self) (hin _ List.mem_cons_self) (by simpa using t2) b1 b2 hd (b3 (by simp))
        · exact h.elim
      · exact h.elim
/-- a method's code, row by row -/
abbrev qCode : Type := List (Nat × Instr × Nat)
def qCodeOk (M : qMd) (code : qCode) : Prop := ∀ q ∈ code, decode M.2.1 q.1 = .ok q.2 ∧ (qilen q.2.1 ≠ 0 → q.2.2 = qilen q.2.1)
abbrev qK9 : Type := Nat → List (Option qP) → List qP → qS → Prop
noncomputable def qrun (code : qCode) (pl : qPl) (M : qMd) (g : qG) (d : Nat) (cuts : List Nat) (K : qK9) (Q : Int32 → qS → Prop) (T : String → qS → Prop) (n : Nat) : qNx :=
  Nat.rec (motive := fun _ => qNx) (fun _ _ _ _ _ => False) (fun _ ih bu pc ls st σ => match qlk code pc with
    | some (i, _) => qstep pl M g d bu (fun bu' pc' ls' st' σ' => bif qmem cuts pc' then (bu' = 0 ∧ K pc' ls' st' σ') else ih bu' pc' ls' st' σ') Q T pc i ls st σ
    | none => False) n
theorem qrun_okD {code : qCode} {pl : qPl} {M : qMd} {g : qG} {D d : Nat} {cuts : List Nat} {K : qK9} {Q : Int32 → qS → Prop} {T : String → qS → Prop} (hD : D = d + 1 ∨ pl.2.1 = []) (hc : qCodeOk M code) (hp : qPlOk g M.1.cls pl)
    (hK : ∀ pc ls st σ, pc ∈ cuts → K pc ls st σ → qV g M D 0 pc ls st σ Q T) : ∀ (n bu pc : Nat) (ls : List (Option qP)) (st : List qP) (σ : qS), qrun code pl M g d cuts K Q T n bu pc ls st σ → qV g M D bu pc ls st σ Q T
  | 0, _, _, _, _, _, h => h.elim
  | n + 1, bu, pc, ls, st, σ, h => by
    have h : (match qlk code pc with
      | some (i, _) => qstep pl M g d bu (fun bu' pc' ls' st' σ' => bif qmem cuts pc' then (bu' = 0 ∧ K pc' ls' st' σ') else qrun code pl M g d cuts K Q T n bu' pc' ls' st' σ') Q T pc i ls st σ
      | none => False) := h
    split at h
    · rename_i i len hl
      obtain ⟨h1, h2⟩ := hc _ (qlk_mem hl)
      refine qstep_ok hD hp h1 h2 (fun bu pc ls st σ hx => ?_) h
      cases hm : qmem cuts pc with
      | true =>
        rw [hm] at hx
        obtain ⟨rfl, hx⟩ := hx
        exact hK _ _ _ _ (qmem_mem hm) hx
      | false =>
        rw [hm] at hx
        exact qrun_okD hD hc hp hK n _ _ _ _ _ hx
    · exact h.elim
theorem qrun_ok {code : qCode} {pl : qPl} {M : qMd} {g : qG} {d : Nat} {cuts : List Nat} {K : qK9} {Q : Int32 → qS → Prop} {T : String → qS → Prop} (hc : qCodeOk M code) (hp : qPlOk g M.1.cls pl)
    (hK : ∀ pc ls st σ, pc ∈ cuts → K pc ls st σ → qV g M (d + 1) 0 pc ls st σ Q T) (n bu pc : Nat) (ls : List (Option qP)) (st : List qP) (σ : qS) (h : qrun code pl M g d cuts K Q T n bu pc ls st σ) : qV g M (d + 1) bu pc ls st σ Q T := qrun_okD (Or.inl rfl) hc hp hK n bu pc ls st σ h
/-- a leaf: no calls, any depth -/
theorem qleaf {code : qCode} {pl : qPl} {M : qMd} {g : qG} {d : Nat} {Q : Int32 → qS → Prop} {T : String → qS → Prop} (h0 : pl.2.1 = []) (hc : qCodeOk M code) (hp : qPlOk g M.1.cls pl) (n bu pc : Nat) (ls : List (Option qP)) (st : List qP) (σ : qS)
    (h : qrun code pl M g 0 [] (fun _ _ _ _ => False) Q T n bu pc ls st σ) : qV g M d bu pc ls st σ Q T := qrun_okD (Or.inr h0) hc hp (fun _ _ _ _ hm => absurd hm List.not_mem_nil) n bu pc ls st σ h
