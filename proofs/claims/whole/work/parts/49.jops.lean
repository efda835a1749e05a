/-! ===== each operation keeps what holds ===== -/
def flS (s : aS) : aS := fun x i => if x = 20 ∧ s 2 10 ≤ i ∧ i < s 2 9 then 0 else if x = 2 ∧ i = 10 then s 2 9 else s x i
theorem fl_o {s : aS} {x : Nat} (h1 : x ≠ 20) (h2 : x ≠ 2) : flS s x = s x := by
  funext i
  unfold flS
  rw [if_neg (fun y => h1 y.1), if_neg (fun y => h2 y.1)]
theorem fl_9 (s : aS) : flS s 2 9 = s 2 9 := rfl
theorem fl_10 (s : aS) : flS s 2 10 = s 2 9 := rfl
theorem fl_20 (s : aS) (j : Int) : flS s 20 j = if s 2 10 ≤ j ∧ j < s 2 9 then 0 else s 20 j := by
  unfold flS
  by_cases h : s 2 10 ≤ j ∧ j < s 2 9
  · rw [if_pos ⟨rfl, h⟩, if_pos h]
  · rw [if_neg (fun y => h y.2), if_neg h, if_neg (by simp)]
/-- states that agree where records, segments, visible messages and files of now lie -/
def agR (s t : aS) : Prop := t 2 9 = s 2 9 ∧ (∀ c : Nat, c = 4 ∨ c = 6 ∨ c = 8 ∨ c = 10 ∨ c = 12 ∨ c = 14 ∨ c = 16 ∨ c = 18 ∨ c = 21 ∨ c = 23 ∨ c = 25 ∨ c = 28 ∨ c = 30 ∨ c = 41 ∨ c = 43 → t c = s c)
theorem agR_rf (s : aS) : agR s s := ⟨rfl, fun _ _ => rfl⟩
theorem agR_up {s t : aS} {c : Nat} {i v : Int} (h : agR s t) (h1 : c ≠ 2 ∨ i ≠ 9) (h2 : ¬ (c = 4 ∨ c = 6 ∨ c = 8 ∨ c = 10 ∨ c = 12 ∨ c = 14 ∨ c = 16 ∨ c = 18 ∨ c = 21 ∨ c = 23 ∨ c = 25 ∨ c = 28 ∨ c = 30 ∨ c = 41 ∨ c = 43)) : agR s (aup t c i v) := by
  refine ⟨?_, fun x hx => ?_⟩
  · rw [← h.1]
    by_cases hc : c = 2
    · subst hc
      rw [aup_k, if_neg (by rcases h1 with h1 | h1; exact (h1 rfl).elim; exact fun y => h1 y.symm)]
    · rw [aup_o (fun y => hc y.symm)]
  · rw [aup_o (fun y => h2 (by rw [← y]; exact hx)), h.2 x hx]
theorem bs_ag {s b t : aS} {k ow x y w : Int} (hb : bsR s b k ow x y w) (h : agR b t) : bsR s t k ow x y w := by
  obtain ⟨c2, c4, c6, c8, c10, c12, c14, c16, c18, c21, c23, c25, c28, c30, c41, c43⟩ := hb
  exact ⟨h.1.trans c2, (h.2 4 (by decide)).trans c4, (h.2 6 (by decide)).trans c6, (h.2 8 (by decide)).trans c8, (h.2 10 (by decide)).trans c10, (h.2 12 (by decide)).trans c12, (h.2 14 (by decide)).trans c14, (h.2 16 (by decide)).trans c16, (h.2 18 (by decide)).trans c18, (h.2 21 (by decide)).trans c21, (h.2 23 (by decide)).trans c23, (h.2 25 (by decide)).trans c25, (h.2 28 (by decide)).trans c28, (h.2 30 (by decide)).trans c30, (h.2 41 (by decide)).trans c41, (h.2 43 (by decide)).trans c43⟩
theorem agR_fl (b : aS) : agR b (flS b) := ⟨rfl, fun c hc => fl_o (by omega) (by omega)⟩
theorem bs_ad {s t : aS} {k ow x y w : Int} (h : agR s t) : bsR s (adS t k ow x y w) k ow x y w := by
  obtain ⟨h9, hc⟩ := h
  have e21 := hc 21 (by decide)
  have e25 := hc 25 (by decide)
  refine ⟨by rw [ad_n, h9], ?_, ?_, ?_, ?_, ?_, ?_, ?_, ?_, ?_, ?_, ?_, ?_, ?_, ?_, ?_⟩
  · funext j; rw [ad_4, ad_4, h9, hc 4 (by decide)]
  · funext j; rw [ad_6, ad_6, h9, hc 6 (by decide)]
  · funext j; rw [ad_8, ad_8, h9, hc 8 (by decide)]
  · funext j; rw [ad_10, ad_10, h9, hc 10 (by decide)]
  · funext j; rw [ad_12, ad_12, h9, hc 12 (by decide)]
  · funext j; rw [ad_14, ad_14, h9, hc 14 (by decide)]
  · funext j; rw [ad_16, ad_16, h9, hc 16 (by decide)]; unfold tlS; rw [e21, e25]
  · funext j; rw [ad_18, ad_18, h9, hc 18 (by decide)]
  · funext j; rw [ad_21, ad_21]; unfold tlS; rw [e21, e25]
  · funext j; rw [ad_23, ad_23, h9, e21, e25, hc 23 (by decide)]
  · funext j; rw [ad_25, ad_25, e21, e25]
  · rw [ad_o _ _ _ _ _ _ (by decide), hc 28 (by decide)]
  · rw [ad_o _ _ _ _ _ _ (by decide), hc 30 (by decide)]
  · rw [ad_o _ _ _ _ _ _ (by decide), hc 41 (by decide)]
  · rw [ad_o _ _ _ _ _ _ (by decide), hc 43 (by decide)]
section JO
variable {s b : aS} {k ow x y w : Int}
theorem h20_ad (hJ : jJ s) (h : b 20 = adS s k ow x y w 20) : ∀ j, 0 ≤ j → j < s 2 9 + 1 → (b 20 j = 0 ∨ b 20 j = 1) ∧ (j < s 2 10 → b 20 j = 0) := by
  have B := jb hJ
  intro j j0 j1
  rw [h, ad_20]
  by_cases hj : j = s 2 9
  · rw [if_pos hj]; exact ⟨Or.inl rfl, fun _ => rfl⟩
  · rw [if_neg hj]; exact jd hJ j0 (by omega)
theorem h20_fl (hJ : jJ s) {u : aS} (h9 : u 2 9 = s 2 9 + 1) (h10 : u 2 10 = s 2 10) (h : u 20 = adS s k ow x y w 20) : ∀ j, 0 ≤ j → j < s 2 9 + 1 → (flS u 20 j = 0 ∨ flS u 20 j = 1) ∧ (j < s 2 9 + 1 → flS u 20 j = 0) := by
  have B := jb hJ
  intro j j0 j1
  have e : flS u 20 j = 0 := by
    rw [fl_20, h9, h10]
    by_cases hj : s 2 10 ≤ j
    · rw [if_pos ⟨hj, j1⟩]
    · rw [if_neg (fun y => hj y.1), h, ad_20]
      split
      · rfl
      · exact (jd hJ j0 (by omega)).2 (by omega)
  exact ⟨Or.inl e, fun _ => e⟩
/-- transactions, where none begins or ends, and the record is of none -/
theorem jT_keep (hJ : jJ s) (n1 : s 2 9 < 400) (ho : okR s k ow x y w) (hb : bsR s b k ow x y w) (hw : ow = -1) (c55 : b 55 = s 55) (c57 : b 57 = s 57) : jT (fiS b (s 2 9) (lnk s k ow)) := by
  have F := fi_fst hJ hb
  have f2 : fiS b (s 2 9) (lnk s k ow) 2 9 = s 2 9 + 1 := by rw [fi_o _ _ _ (by decide), hb.1]
  have f55 : fiS b (s 2 9) (lnk s k ow) 55 = s 55 := by rw [fi_o _ _ _ (by decide), c55]
  have f57 : fiS b (s 2 9) (lnk s k ow) 57 = s 57 := by rw [fi_o _ _ _ (by decide), c57]
  intro t t0 t1
  rw [F, f2, f55, f57]
  by_cases h : s 55 t = -1
  · exact Or.inl h
  · right
    obtain ⟨a1, a2, a3⟩ := jT_core hJ n1 ho hb t0 t1 h (by omega)
    refine ⟨a1, a2, a3, ?_⟩
    rcases hJ.2.2.2.1 t t0 t1 with h' | h'
    · exact (h h').elim
    · exact h'.2.2.2
theorem jY_keep (hJ : jJ s) (hb : bsR s b k ow x y w) (cd : s 2 10 ≤ b 2 10) (c0 : b 0 = s 0) (c1 : b 1 10 = s 1 10) (c61 : b 61 = s 61) (c85 : b 85 = s 85) : jY (fiS b (s 2 9) (lnk s k ow)) := by
  obtain ⟨y1, y2, y3⟩ := hJ.2.2.2.2.2.2.2.2.2
  unfold jY
  rw [fi_o _ _ _ (x := 0) (by decide), fi_o _ _ _ (x := 1) (by decide), fi_o _ _ _ (x := 2) (by decide), fi_o _ _ _ (x := 61) (by decide), fi_o _ _ _ (x := 85) (by decide), c0, c1, c61, c85]
  exact ⟨fun i i0 i1 => by have := y1 i i0 i1; omega, y2, y3⟩
theorem okR_0 (hJ : jJ s) {t : Int} (t0 : 0 ≤ t) (t1 : t < 4) : okR s 0 (-1) t 0 0 := by
  have B := jb hJ
  refine ⟨by omega, by omega, by omega, by omega, by omega, by omega, by omega, by omega, by omega, by omega, by omega, by omega, fun h => by omega⟩
theorem j_lt (hJ : jJ s) {t : Int} (t0 : 0 ≤ t) (t1 : t < 4) (hb : s 55 t ≠ -1) : s 23 (s 21 2) ≤ s 55 t ∧ 0 ≤ s 55 t ∧ s 55 t < s 2 9 := by
  rcases hJ.2.2.2.1 t t0 t1 with h | h
  · exact (hb h).elim
  · exact h.1
theorem okR_t (hJ : jJ s) {t : Int} (t0 : 0 ≤ t) (t1 : t < 4) (hb : s 55 t ≠ -1) : 0 ≤ s 55 t → ∀ j, s 55 t < j → j < s 2 9 → s 6 j = s 55 t → 3 ≤ s 4 j ∧ s 4 j ≤ 6 ∧ s 18 j = -1 := by
  intro _
  rcases hJ.2.2.2.1 t t0 t1 with h | h
  · exact (hb h).elim
  · exact h.2.1
/-- begin -/
def bgS (s : aS) (t : Int) : aS := aup (aup (adS s 0 (-1) t 0 0) 55 t (s 2 9)) 57 t 0
theorem bs_bg {t : Int} : bsR s (bgS s t) 0 (-1) t 0 0 := bs_ag (bs_ad (agR_rf s)) (agR_up (agR_up (agR_rf _) (Or.inl (by decide)) (by decide)) (Or.inl (by decide)) (by decide))
theorem j_bg (hJ : jJ s) (n1 : s 2 9 < 400) {t : Int} (t0 : 0 ≤ t) (t1 : t < 4) (hf : s 55 t = -1) : jJ (fiS (bgS s t) (s 2 9) (lnk s 0 (-1))) := by
  have B := jb hJ
  have ho := okR_0 hJ t0 t1
  have hb : bsR s (bgS s t) 0 (-1) t 0 0 := bs_bg
  have o : ∀ c : Nat, c ≠ 55 → c ≠ 57 → bgS s t c = adS s 0 (-1) t 0 0 c := fun c h1 h2 => by unfold bgS; rw [aup_o h2, aup_o h1]
  have e1 : bgS s t 1 = s 1 := by rw [o 1 (by decide) (by decide), ad_o _ _ _ _ _ _ (by decide)]
  have e26 : bgS s t 26 = s 26 := by rw [o 26 (by decide) (by decide), ad_o _ _ _ _ _ _ (by decide)]
  have e10 : bgS s t 2 10 = s 2 10 := by rw [o 2 (by decide) (by decide), ad_2 _ _ _ _ _ _ (by decide)]
  have e : ∀ c : Nat, c = 32 ∨ c = 34 ∨ c = 36 ∨ c = 38 ∨ c = 46 ∨ c = 48 ∨ c = 0 ∨ c = 61 ∨ c = 85 → bgS s t c = s c := fun c hc => by rw [o c (by omega) (by omega), ad_o _ _ _ _ _ _ (by omega)]
  refine j_fin hJ n1 ho (fun h => by omega) hb e10 (Or.inl rfl) (h20_ad hJ (o 20 (by decide) (by decide))) (congrFun e1 11) (Or.inl rfl) (congrFun e1 12) (congrFun e1 13) (by rw [e26]; omega) (by rw [e1]; omega) ?_ (jC_fin hJ n1 ho hb (by omega) (congrFun e26 6) (e 32 (by decide)) (e 34 (by decide)) (e 36 (by decide)) (e 38 (by decide))) (jN_fin hJ n1 ho hb (congrFun e1 11) (e 46 (by decide)) (e 48 (by decide))) (jY_keep hJ hb (by omega) (e 0 (by decide)) (congrFun e1 10) (e 61 (by decide)) (e 85 (by decide)))
  have F := fi_fst hJ hb
  have f2 : fiS (bgS s t) (s 2 9) (lnk s 0 (-1)) 2 9 = s 2 9 + 1 := by rw [fi_o _ _ _ (by decide), hb.1]
  have f55 : ∀ u, fiS (bgS s t) (s 2 9) (lnk s 0 (-1)) 55 u = if u = t then s 2 9 else s 55 u := by
    intro u
    rw [fi_o _ _ _ (by decide)]
    unfold bgS
    rw [aup_o (by decide), aup_k, ad_o _ _ _ _ _ _ (by decide)]
  have f57 : ∀ u, fiS (bgS s t) (s 2 9) (lnk s 0 (-1)) 57 u = if u = t then 0 else s 57 u := by
    intro u
    rw [fi_o _ _ _ (by decide)]
    unfold bgS
    rw [aup_k, aup_o (by decide), ad_o _ _ _ _ _ _ (by decide)]
  intro u u0 u1
  rw [F, f2]
  by_cases hu : u = t
  · right
    rw [f55, f57, if_pos hu, if_pos hu]
    refine ⟨⟨by omega, by omega, by omega⟩, fun j j0 j1 _ => by omega, (sI_e (Int.le_refl _)).symm, fun v v0 v1 hv => ?_⟩
    rw [f55, if_neg (by omega)]
    rcases hJ.2.2.2.1 v v0 v1 with h | h <;> omega
  · rw [f55, f57, if_neg hu, if_neg hu]
    by_cases h : s 55 u = -1
    · exact Or.inl h
    · right
      obtain ⟨a1, a2, a3⟩ := jT_core hJ n1 ho hb u0 u1 h (by omega)
      refine ⟨a1, a2, a3, fun v v0 v1 hv => ?_⟩
      have q := j_lt hJ u0 u1 h
      rw [f55]
      split
      · omega
      · rcases hJ.2.2.2.1 u u0 u1 with h' | h'
        · exact (h h').elim
        · exact h'.2.2.2 v v0 v1 hv
/-- commit and abort -/
def clS (s : aS) (t kd : Int) : aS := aup (adS s kd (s 55 t) t 0 0) 55 t (-1)
theorem bs_cl {t kd : Int} : bsR s (clS s t kd) kd (s 55 t) t 0 0 := bs_ag (bs_ad (agR_rf s)) (agR_up (agR_rf _) (Or.inl (by decide)) (by decide))
theorem okR_cl (hJ : jJ s) {t kd : Int} (t0 : 0 ≤ t) (t1 : t < 4) (hf : s 55 t ≠ -1) (hk : kd = 1 ∨ kd = 2) : okR s kd (s 55 t) t 0 0 := by
  have q := j_lt hJ t0 t1 hf
  exact ⟨by omega, by omega, by omega, by omega, by omega, by omega, by omega, by omega, by omega, by omega, by omega, by omega, okR_t hJ t0 t1 hf⟩
theorem j_cl (hJ : jJ s) (n1 : s 2 9 < 400) {t kd : Int} (t0 : 0 ≤ t) (t1 : t < 4) (hf : s 55 t ≠ -1) (hk : kd = 1 ∨ kd = 2) : jJ (fiS (clS s t kd) (s 2 9) (lnk s kd (s 55 t))) := by
  have B := jb hJ
  have ho := okR_cl hJ t0 t1 hf hk
  have q := j_lt hJ t0 t1 hf
  have hb : bsR s (clS s t kd) kd (s 55 t) t 0 0 := bs_cl
  have o : ∀ c : Nat, c ≠ 55 → clS s t kd c = adS s kd (s 55 t) t 0 0 c := fun c h1 => by unfold clS; rw [aup_o h1]
  have e1 : clS s t kd 1 = s 1 := by rw [o 1 (by decide), ad_o _ _ _ _ _ _ (by decide)]
  have e26 : clS s t kd 26 = s 26 := by rw [o 26 (by decide), ad_o _ _ _ _ _ _ (by decide)]
  have e10 : clS s t kd 2 10 = s 2 10 := by rw [o 2 (by decide), ad_2 _ _ _ _ _ _ (by decide)]
  have e : ∀ c : Nat, c = 32 ∨ c = 34 ∨ c = 36 ∨ c = 38 ∨ c = 46 ∨ c = 48 ∨ c = 0 ∨ c = 61 ∨ c = 85 ∨ c = 57 → clS s t kd c = s c := fun c hc => by rw [o c (by omega), ad_o _ _ _ _ _ _ (by omega)]
  refine j_fin hJ n1 ho (fun h => q.1) hb e10 (Or.inl rfl) (h20_ad hJ (o 20 (by decide))) (congrFun e1 11) (Or.inl rfl) (congrFun e1 12) (congrFun e1 13) (by rw [e26]; omega) (by rw [e1]; omega) ?_ (jC_fin hJ n1 ho hb (by omega) (congrFun e26 6) (e 32 (by decide)) (e 34 (by decide)) (e 36 (by decide)) (e 38 (by decide))) (jN_fin hJ n1 ho hb (congrFun e1 11) (e 46 (by decide)) (e 48 (by decide))) (jY_keep hJ hb (by omega) (e 0 (by decide)) (congrFun e1 10) (e 61 (by decide)) (e 85 (by decide)))
  have F := fi_fst hJ hb
  have f2 : fiS (clS s t kd) (s 2 9) (lnk s kd (s 55 t)) 2 9 = s 2 9 + 1 := by rw [fi_o _ _ _ (by decide), hb.1]
  have f55 : ∀ u, fiS (clS s t kd) (s 2 9) (lnk s kd (s 55 t)) 55 u = if u = t then -1 else s 55 u := by
    intro u
    rw [fi_o _ _ _ (by decide)]
    unfold clS
    rw [aup_k, ad_o _ _ _ _ _ _ (by decide)]
  have f57 : fiS (clS s t kd) (s 2 9) (lnk s kd (s 55 t)) 57 = s 57 := by rw [fi_o _ _ _ (by decide), e 57 (by decide)]
  intro u u0 u1
  rw [F, f2, f57]
  by_cases hu : u = t
  · left
    rw [f55, if_pos hu]
  · rw [f55, if_neg hu]
    by_cases h : s 55 u = -1
    · exact Or.inl h
    · right
      have dis : ∀ v, 0 ≤ v → v < 4 → v ≠ u → s 55 v ≠ s 55 u := by
        rcases hJ.2.2.2.1 u u0 u1 with h' | h'
        · exact (h h').elim
        · exact h'.2.2.2
      obtain ⟨a1, a2, a3⟩ := jT_core hJ n1 ho hb u0 u1 h (dis t t0 t1 (fun z => hu z.symm))
      refine ⟨a1, a2, a3, fun v v0 v1 hv => ?_⟩
      rw [f55]
      split
      · omega
      · exact dis v v0 v1 hv
/-- changes -/
theorem j_ch (hJ : jJ s) (n1 : s 2 9 < 400) (ho : okR s k (-1) x y w) : jJ (fiS (adS s k (-1) x y w) (s 2 9) (lnk s k (-1))) := by
  have B := jb hJ
  have hb : bsR s (adS s k (-1) x y w) k (-1) x y w := bs_ad (agR_rf s)
  have e1 : adS s k (-1) x y w 1 = s 1 := ad_o _ _ _ _ _ _ (by decide)
  have e26 : adS s k (-1) x y w 26 = s 26 := ad_o _ _ _ _ _ _ (by decide)
  have e10 : adS s k (-1) x y w 2 10 = s 2 10 := ad_2 _ _ _ _ _ _ (by decide)
  have e : ∀ c : Nat, c = 32 ∨ c = 34 ∨ c = 36 ∨ c = 38 ∨ c = 46 ∨ c = 48 ∨ c = 0 ∨ c = 61 ∨ c = 85 ∨ c = 57 ∨ c = 55 → adS s k (-1) x y w c = s c := fun c hc => ad_o _ _ _ _ _ _ (by omega)
  exact j_fin hJ n1 ho (fun h => by omega) hb e10 (Or.inl rfl) (h20_ad hJ rfl) (congrFun e1 11) (Or.inl rfl) (congrFun e1 12) (congrFun e1 13) (by rw [e26]; omega) (by rw [e1]; omega) (jT_keep hJ n1 ho hb rfl (e 55 (by decide)) (e 57 (by decide))) (jC_fin hJ n1 ho hb (by omega) (congrFun e26 6) (e 32 (by decide)) (e 34 (by decide)) (e 36 (by decide)) (e 38 (by decide))) (jN_fin hJ n1 ho hb (congrFun e1 11) (e 46 (by decide)) (e 48 (by decide))) (jY_keep hJ hb (by omega) (e 0 (by decide)) (congrFun e1 10) (e 61 (by decide)) (e 85 (by decide)))
def ctS (s : aS) (t k x y w : Int) : aS := adS (aup s 57 t (s 57 t + 1)) k (s 55 t) x y w
theorem bs_ct {t : Int} : bsR s (ctS s t k x y w) k (s 55 t) x y w := bs_ad (agR_up (agR_rf s) (Or.inl (by decide)) (by decide))
theorem j_ct (hJ : jJ s) (n1 : s 2 9 < 400) {t : Int} (t0 : 0 ≤ t) (t1 : t < 4) (hf : s 55 t ≠ -1) (hk : 3 ≤ k ∧ k ≤ 6) (ho : okR s k (s 55 t) x y w) : jJ (fiS (ctS s t k x y w) (s 2 9) (lnk s k (s 55 t))) := by
  have B := jb hJ
  have q := j_lt hJ t0 t1 hf
  have hb : bsR s (ctS s t k x y w) k (s 55 t) x y w := bs_ct
  have o : ∀ c : Nat, c ≠ 57 → (c ≠ 2 ∧ c ≠ 4 ∧ c ≠ 6 ∧ c ≠ 8 ∧ c ≠ 10 ∧ c ≠ 12 ∧ c ≠ 14 ∧ c ≠ 16 ∧ c ≠ 18 ∧ c ≠ 20 ∧ c ≠ 21 ∧ c ≠ 23 ∧ c ≠ 25) → ctS s t k x y w c = s c := fun c h1 h2 => by unfold ctS; rw [ad_o _ _ _ _ _ _ h2, aup_o h1]
  have e1 : ctS s t k x y w 1 = s 1 := o 1 (by decide) (by decide)
  have e26 : ctS s t k x y w 26 = s 26 := o 26 (by decide) (by decide)
  have e10 : ctS s t k x y w 2 10 = s 2 10 := by unfold ctS; rw [ad_2 _ _ _ _ _ _ (by decide), aup_o (by decide)]
  have e20 : ctS s t k x y w 20 = adS s k (s 55 t) x y w 20 := by
    funext j
    unfold ctS
    rw [ad_20, ad_20, aup_o (by decide), aup_o (by decide)]
  have e : ∀ c : Nat, c = 32 ∨ c = 34 ∨ c = 36 ∨ c = 38 ∨ c = 46 ∨ c = 48 ∨ c = 0 ∨ c = 61 ∨ c = 85 ∨ c = 55 → ctS s t k x y w c = s c := fun c hc => o c (by omega) (by omega)
  have hnl : lnk s k (s 55 t) = [] := by
    unfold lnk
    rw [if_neg (by omega), if_neg (by omega)]
  refine j_fin hJ n1 ho (fun h => q.1) hb e10 (Or.inl rfl) (h20_ad hJ e20) (congrFun e1 11) (Or.inl rfl) (congrFun e1 12) (congrFun e1 13) (by rw [e26]; omega) (by rw [e1]; omega) ?_ (jC_fin hJ n1 ho hb (by omega) (congrFun e26 6) (e 32 (by decide)) (e 34 (by decide)) (e 36 (by decide)) (e 38 (by decide))) (jN_fin hJ n1 ho hb (congrFun e1 11) (e 46 (by decide)) (e 48 (by decide))) (jY_keep hJ hb (by omega) (e 0 (by decide)) (congrFun e1 10) (e 61 (by decide)) (e 85 (by decide)))
  have F := fi_fst hJ hb
  have f2 : fiS (ctS s t k x y w) (s 2 9) (lnk s k (s 55 t)) 2 9 = s 2 9 + 1 := by rw [fi_o _ _ _ (by decide), hb.1]
  have f55 : fiS (ctS s t k x y w) (s 2 9) (lnk s k (s 55 t)) 55 = s 55 := by rw [fi_o _ _ _ (by decide), e 55 (by decide)]
  have f57 : ∀ u, fiS (ctS s t k x y w) (s 2 9) (lnk s k (s 55 t)) 57 u = if u = t then s 57 t + 1 else s 57 u := by
    intro u
    rw [fi_o _ _ _ (by decide)]
    unfold ctS
    rw [ad_o _ _ _ _ _ _ (by decide), aup_k]
  intro u u0 u1
  rw [F, f2, f55, f57]
  by_cases h : s 55 u = -1
  · exact Or.inl h
  · right
    have dis : ∀ v, 0 ≤ v → v < 4 → v ≠ u → s 55 v ≠ s 55 u := by
      rcases hJ.2.2.2.1 u u0 u1 with h' | h'
      · exact (h h').elim
      · exact h'.2.2.2
    by_cases hu : u = t
    · subst hu
      rw [if_pos rfl]
      have f6 : ∀ j, fiS (ctS s u k x y w) (s 2 9) (lnk s k (s 55 u)) 6 j = if j = s 2 9 then s 55 u else s 6 j := fun j => by rw [fi_o _ _ _ (by decide), hb.2.2.1, ad_6, if_neg (c := k = 0) (by omega)]
      have f4 : ∀ j, fiS (ctS s u k x y w) (s 2 9) (lnk s k (s 55 u)) 4 j = if j = s 2 9 then k else s 4 j := fun j => by rw [fi_o _ _ _ (by decide), hb.2.1, ad_4]
      have f18 : ∀ j, fiS (ctS s u k x y w) (s 2 9) (lnk s k (s 55 u)) 18 j = if j = s 2 9 then -1 else s 18 j := fun j => by rw [fi_18' hb, hnl, if_neg (by simp)]
      rcases hJ.2.2.2.1 u u0 u1 with h' | ⟨⟨a1, a2, a3⟩, a4, a5, a6⟩
      · exact (h h').elim
      · refine ⟨⟨a1, a2, by omega⟩, fun j j0 j1 j2 => ?_, ?_, dis⟩
        · rw [f4, f18]
          by_cases hj : j = s 2 9
          · rw [if_pos hj, if_pos hj]; omega
          · rw [if_neg hj, if_neg hj]
            rw [f6, if_neg hj] at j2
            exact a4 j j0 (by omega) j2
        · rw [sI_l (by omega), f6, if_pos rfl, if_pos rfl, a5]
          congr 1
          refine sI_c _ (fun i p q => ?_)
          have e6 : fiS (ctS s u k x y w) (s 2 9) (lnk s k (s 55 u)) 6 i = s 6 i := by
            rw [f6]
            exact if_neg (by omega)
          rw [e6]
    · rw [if_neg hu]
      obtain ⟨a1, a2, a3⟩ := jT_core hJ n1 ho hb u0 u1 h (dis t t0 t1 (fun z => hu z.symm))
      exact ⟨a1, a2, a3, dis⟩
end JO
