/-! ===== rules of single places: throws, constant arrays, a lookupswitch; an evaluator with such places ===== -/
section QSP
variable {g : qG} {M : qMd} {d bu pc : Nat} {ls : List (Option qP)} {st : List qP} {σ : qS} {Q : Int32 → qS → Prop} {T : String → qS → Prop}
def qnames : List String := ["java/lang/RuntimeException", "java/lang/Exception"]
/-- 'throw new cls("text")' -/
theorem qV_throw {ik is ic : Nat} {cls text : String} {names : List String} (hn9 : names.length ≤ 4) (hM : M.1.cls = "SharedLog") (hcls : Bundle.fit cls = true) (hnames : ∀ n ∈ names, Bundle.fit n = true) (hk : Jvm.Cond.classLink M.1.cls ik cls ∈ qgw) (hini : Jvm.Cond.initialized cls ∈ qgw) (hm : (is, text) ∈ qmsgs)
    (hat : ∀ w ∈ vx_atS M.1.cls ic cls names, w ∈ lw_tbl ∧ (goodWord w || (qnest w && w.onTables)) = true) (hgood : ∀ w ∈ Jvm.Cond.classLink M.1.cls ik cls :: Jvm.Cond.initialized cls :: vx_atS M.1.cls ic cls names, vx_ot w = true)
    (d0 : decode M.2.1 pc = .ok (.new ik, 3)) (d3 : decode M.2.1 (pc + 3) = .ok (.dup, 1)) (d4 : decode M.2.1 (pc + 4) = .ok (.ldc is, 2)) (d6 : decode M.2.1 (pc + 6) = .ok (.invokespecial ic, 3)) (d9 : decode M.2.1 (pc + 9) = .ok (.athrow, 1))
    (hb : 1 ≤ bu) (h8 : st.length ≤ 8) (h : T cls σ) : qV g M d bu pc ls st σ Q T := by
  intro p e s m args below meth c H locs cells slots la F N L
  obtain ⟨F1, F2, F3, F4, F5, F6, F7, F8, F9, F10, F11, F12⟩ := id F
  obtain ⟨K1, ⟨K2, K3⟩, K4, K5, K6, K7, K8, -, -⟩ := F10
  obtain ⟨N1, N2, N3, N4⟩ := id N
  obtain ⟨sa, hsa⟩ := K6 _ hm
  refine vx_throwS (own := M.1.cls) (cls := cls) (text := text) (names := names) (sa := sa) (A := g.2.1) F1 F2 K8 F5 hcls hnames (F6 _ hk) (F6 _ hini) (by rw [hM]; exact hsa) (fun w hw => ?_) hgood K2 K3 N2 (L.1.trans F4.symm) d0 d3 d4 d6 d9 (fun x hx => (F8 x hx).elim) ?_ ?_ ?_ ?_ F7 (fun t hv hz hq => ?_) N2.2.2 (by omega) (by omega)
  · obtain ⟨w1, w2⟩ := hat w hw
    rw [Bool.or_eq_true, Bool.and_eq_true] at w2
    rcases w2 with w2 | ⟨w2, w3⟩
    · exact F6 _ (qgw_in w1 w2)
    · exact va_Nw.use w3 (K1 w w1 w2)
  · show names.length + 3 < d + 12
    omega
  · show ((st.map (qv g.2.2.2.1)).map fun v => v.category).sum + (13 * (names.length + 1) + 43) ≤ 60 * d + 300
    rw [qsum]
    omega
  · show cells + 1 ≤ qMd_b M
    omega
  · show slots + 6 ≤ 6 * qMd_b M
    omega
  · refine ⟨σ, trivial, ⟨h, ?_⟩, Nat.le_trans N2.1 hz, fun q h1 h2 => ?_⟩
    · exact N1.kept (fun k q hk => hq _ (N1 k q hk).lt)
    · rw [hq q (Nat.lt_of_lt_of_le h1 N2.1)]
      exact N2.2.1 q h1 h2
/-- the length of a constant array of the class -/
theorem qV_gslen {idx n : Nat} {nm : String} {f : Nat → Int32} (hz : ∀ U, qK g U → ∃ a : Nat, va_Z "SharedLog" nm "[I" (.ref a) g.2.1 U U.heap ∧ va_T .int a n (fun j => .int (f j)) g.2.1 U U.heap) (hw : Jvm.Cond.fieldLinkNest M.1.cls idx "SharedLog" nm "[I" "SharedLog" ∈ lw_tbl)
    (d0 : decode M.2.1 pc = .ok (.getstatic idx, 3)) (d3 : decode M.2.1 (pc + 3) = .ok (.arraylength, 1)) (h : qV g M d bu (pc + 4) ls (.inl (nI n) :: st) σ Q T) : qV g M d bu pc ls st σ Q T := by
  intro p e s m args below meth c H locs cells slots la F N L
  obtain ⟨F1, F2, F3, F4, F5, F6, F7, F8, F9, F10, F11, F12⟩ := id F
  obtain ⟨a, hZ, hT⟩ := hz s F10
  refine va_getsN F1 F2 hZ N.2.1 F5 (va_Nw.use rfl (F10.1 _ hw rfl)) (fun _ h9 => h9) d0 ?_
  exact va_tlen F1 F2 hT N.2.1 rfl d3 (h p e s m args below meth c H locs cells slots la F N L)
/-- an element of a constant array of the class -/
theorem qV_gsld {idx n : Nat} {k : Fin 4} {v : Int32} {nm : String} {f : Nat → Int32} (hz : ∀ U, qK g U → ∃ a : Nat, va_Z "SharedLog" nm "[I" (.ref a) g.2.1 U U.heap ∧ va_T .int a n (fun j => .int (f j)) g.2.1 U U.heap) (hw : Jvm.Cond.fieldLinkNest M.1.cls idx "SharedLog" nm "[I" "SharedLog" ∈ lw_tbl)
    (d0 : decode M.2.1 pc = .ok (.getstatic idx, 3)) (d3 : decode M.2.1 (pc + 3) = .ok (.iload_n k, 1)) (d4 : decode M.2.1 (pc + 4) = .ok (.iaload, 1)) (hl : ls[k.val]? = some (some (.inl v))) (hv : vp_in v n) (h : qV g M d bu (pc + 5) ls (.inl (f v.toNatClampNeg) :: st) σ Q T) : qV g M d bu pc ls st σ Q T := by
  intro p e s m args below meth c H locs cells slots la F N L
  obtain ⟨F1, F2, F3, F4, F5, F6, F7, F8, F9, F10, F11, F12⟩ := id F
  obtain ⟨a, hZ, hT⟩ := hz s F10
  refine va_getsN F1 F2 hZ N.2.1 F5 (va_Nw.use rfl (F10.1 _ hw rfl)) (fun _ h9 => h9) d0 ?_
  refine lv_iload_n F1 F2 d3 rfl (L.2.2 _ _ hl) ?_
  exact va_ti F1 F2 hT N.2.1 hv rfl d4 (h p e s m args below meth c H locs cells slots la F N L)
theorem qV_look {dflt : Int} {ps : Array (Int × Int)} {len : Nat} {x : Int32} {off : Int} {tgt : Nat} (hd : decode M.2.1 pc = .ok (.lookupswitch dflt ps, len)) (hp : (ps.toList.zip (ps.toList.drop 1)).all (fun (a, next) => a.1 < next.1) = true) (ho : Op.lookupswitch.offset ps.toList dflt x.toInt = off) (ht : (pc : Int) + off = (tgt : Int))
    (h : qV g M d bu tgt ls st σ Q T) : qV g M d bu pc ls (.inl x :: st) σ Q T :=
  fun p e s m args below meth c H locs cells slots la F N L => lv_lookup F.1 F.2.1 hd hp ho ht (h p e s m args below meth c H locs cells slots la F N L)
end QSP
abbrev qSp : Type := List (Nat × (Nat → List (Option qP) → List qP → qS → qNx → Prop))
def qSpOk (g : qG) (M : qMd) (d : Nat) (Q : Int32 → qS → Prop) (T : String → qS → Prop) (sp : qSp) : Prop := ∀ q ∈ sp, ∀ (bu : Nat) (ls : List (Option qP)) (st : List qP) (σ : qS) (nx : qNx), (∀ bu pc ls st σ, nx bu pc ls st σ → qV g M (d + 1) bu pc ls st σ Q T) → q.2 bu ls st σ nx → qV g M (d + 1) bu q.1 ls st σ Q T
noncomputable def qrunS (sp : qSp) (code : qCode) (pl : qPl) (M : qMd) (g : qG) (d : Nat) (cuts : List Nat) (K : qK9) (Q : Int32 → qS → Prop) (T : String → qS → Prop) (n : Nat) : qNx :=
  Nat.rec (motive := fun _ => qNx) (fun _ _ _ _ _ => False) (fun _ ih bu pc ls st σ => match qlk sp pc with
    | some f => f bu ls st σ (fun bu' pc' ls' st' σ' => bif qmem cuts pc' then (bu' = 0 ∧ K pc' ls' st' σ') else ih bu' pc' ls' st' σ')
    | none => match qlk code pc with
      | some (i, _) => qstep pl M g d bu (fun bu' pc' ls' st' σ' => bif qmem cuts pc' then (bu' = 0 ∧ K pc' ls' st' σ') else ih bu' pc' ls' st' σ') Q T pc i ls st σ
      | none => False) n
theorem qrunS_ok {sp : qSp} {code : qCode} {pl : qPl} {M : qMd} {g : qG} {d : Nat} {cuts : List Nat} {K : qK9} {Q : Int32 → qS → Prop} {T : String → qS → Prop} (hs : qSpOk g M d Q T sp) (hc : qCodeOk M code) (hp : qPlOk g M.1.cls pl)
    (hK : ∀ pc ls st σ, pc ∈ cuts → K pc ls st σ → qV g M (d + 1) 0 pc ls st σ Q T) : ∀ (n bu pc : Nat) (ls : List (Option qP)) (st : List qP) (σ : qS), qrunS sp code pl M g d cuts K Q T n bu pc ls st σ → qV g M (d + 1) bu pc ls st σ Q T
  | 0, _, _, _, _, _, h => h.elim
  | n + 1, bu, pc, ls, st, σ, h => by
    have hnx : ∀ bu pc ls st σ, (bif qmem cuts pc then (bu = 0 ∧ K pc ls st σ) else qrunS sp code pl M g d cuts K Q T n bu pc ls st σ) → qV g M (d + 1) bu pc ls st σ Q T := by
      intro bu pc ls st σ hx
      cases hm : qmem cuts pc with
      | true =>
        rw [hm] at hx
        obtain ⟨rfl, hx⟩ := hx
        exact hK _ _ _ _ (qmem_mem hm) hx
      | false =>
        rw [hm] at hx
        exact qrunS_ok hs hc hp hK n _ _ _ _ _ hx
    have h : (match qlk sp pc with
      | some f => f bu ls st σ (fun bu' pc' ls' st' σ' => bif qmem cuts pc' then (bu' = 0 ∧ K pc' ls' st' σ') else qrunS sp code pl M g d cuts K Q T n bu' pc' ls' st' σ')
      | none => match qlk code pc with
        | some (i, _) => qstep pl M g d bu (fun bu' pc' ls' st' σ' => bif qmem cuts pc' then (bu' = 0 ∧ K pc' ls' st' σ') else qrunS sp code pl M g d cuts K Q T n bu' pc' ls' st' σ') Q T pc i ls st σ
        | none => False) := h
    split at h
    · rename_i f hf
      exact hs _ (qlk_mem hf) bu ls st σ _ hnx h
    · split at h
      · rename_i i len hl
        obtain ⟨h1, h2⟩ := hc _ (qlk_mem hl)
        exact qstep_ok (Or.inl rfl) hp h1 h2 hnx h
      · exact h.elim
