/-! The world of the small machine: handles, addresses, cells -/
def am_ad (ra : Nat → Nat) (ws : va_W) (k : Nat) : Nat := match ws[k]? with
  | some q => q.1
  | none => ra k
def am_tv (ra : Nat → Nat) (ws : va_W) (v : Value) : Value := match v with
  | .ref k => .ref (am_ad ra ws k)
  | w => w
def am_ok (n : Nat) (v : Value) : Prop := match v with
  | .int _ => True
  | .null => True
  | .ref k => k < n ∨ 1048576 ≤ k
  | _ => False
theorem am_ok.mono {n n' : Nat} (h : n ≤ n') {v : Value} (hv : am_ok n v) : am_ok n' v := by
  cases v with
  | ref k => exact hv.elim (fun q => Or.inl (Nat.lt_of_lt_of_le q h)) Or.inr
  | _ => exact hv
theorem am_ok.cat {n : Nat} {v : Value} (hv : am_ok n v) : v.category = 1 := by
  cases v <;> simp only [am_ok] at hv <;> rfl
theorem am_tv_cat {ra : Nat → Nat} {ws : va_W} {v : Value} : (am_tv ra ws v).category = v.category := by
  cases v <;> rfl
def am_ex (ra : Nat → Nat) (ws ws' : va_W) : Prop := ws.length ≤ ws'.length ∧ ws'.length ≤ 1048576 ∧ ∀ k, k < ws.length → am_ad ra ws' k = am_ad ra ws k
theorem am_ex.rf {ra : Nat → Nat} {ws : va_W} (h : ws.length ≤ 1048576) : am_ex ra ws ws := ⟨Nat.le_refl _, h, fun _ _ => rfl⟩
theorem am_ex.tr {ra : Nat → Nat} {w1 w2 w3 : va_W} (h : am_ex ra w1 w2) (h' : am_ex ra w2 w3) : am_ex ra w1 w3 :=
  ⟨Nat.le_trans h.1 h'.1, h'.2.1, fun k hk => (h'.2.2 k (Nat.lt_of_lt_of_le hk h.1)).trans (h.2.2 k hk)⟩
theorem am_ad_big {ra : Nat → Nat} {ws : va_W} {k : Nat} (h : ws.length ≤ k) : am_ad ra ws k = ra k := by
  unfold am_ad
  rw [List.getElem?_eq_none h]
theorem am_ad_at {ra : Nat → Nat} {ws : va_W} {k a : Nat} {e : va_E} (h : ws[k]? = some (a, e)) : am_ad ra ws k = a := by
  unfold am_ad
  rw [h]
theorem am_ex.tv {ra : Nat → Nat} {ws ws' : va_W} (h : am_ex ra ws ws') {v : Value} (hv : am_ok ws.length v) : am_tv ra ws' v = am_tv ra ws v := by
  cases v with
  | ref k =>
    simp only [am_tv]
    rcases hv with hk | hk
    · rw [h.2.2 k hk]
    · rw [am_ad_big (Nat.le_trans h.2.1 hk), am_ad_big (Nat.le_trans h.1 (Nat.le_trans h.2.1 hk))]
  | _ => rfl
theorem am_ex.tvs {ra : Nat → Nat} {ws ws' : va_W} (h : am_ex ra ws ws') : ∀ {st : List Value}, (∀ v ∈ st, am_ok ws.length v) → st.map (am_tv ra ws') = st.map (am_tv ra ws)
  | [], _ => rfl
  | v :: r, hv => by
    rw [List.map_cons, List.map_cons, h.tv (hv v List.mem_cons_self), h.tvs (fun w hw => hv w (List.mem_cons_of_mem _ hw))]
theorem am_ad_set {ra : Nat → Nat} {ws : va_W} {q a : Nat} {e0 e : va_E} (h : ws[q]? = some (a, e0)) (k : Nat) : am_ad ra (ws.set q (a, e)) k = am_ad ra ws k := by
  unfold am_ad
  by_cases hk : q = k
  · subst hk
    rw [List.getElem?_set_self (List.getElem?_eq_some_iff.mp h).1, h]
  · rw [List.getElem?_set_ne hk]
theorem am_ad_push {ra : Nat → Nat} {ws : va_W} {x : Nat × va_E} {k : Nat} (h : k < ws.length) : am_ad ra (ws ++ [x]) k = am_ad ra ws k := by
  unfold am_ad
  rw [List.getElem?_append_left h]
theorem am_ad_new {ra : Nat → Nat} {ws : va_W} {x : Nat × va_E} : am_ad ra (ws ++ [x]) ws.length = x.1 := by
  unfold am_ad
  rw [List.getElem?_append_right (Nat.le_refl _), Nat.sub_self]
  rfl
/-- a cell of the small machine, whose ints are f, and a cell of the kit's world -/
def am_ce (cl : List vw_C) (ra : Nat → Nat) (ws : va_W) (tys : List (ClassId × FieldType)) (f : Nat → Int32) (c : am_C) (e : va_E) : Prop := match c with
  | .inl o => ∃ vs : List Value, e = .inr (o.1, vs) ∧ vs.length = o.2.length ∧ (∀ j : Nat, o.2[j]? = some none → vs[j]? = some (.int (f j))) ∧ ∀ (j : Nat) (v : Value), o.2[j]? = some (some v) → vs[j]? = some (am_tv ra ws v) ∧ am_ok ws.length v
  | .inr a => ∃ (cA : ClassId) (t0 : Nat), (a.1 = 0 ∧ tys[t0]? = some (cA, FieldType.int) ∧ e = .inl (cA, a.2.1, .inl f)) ∨ (a.1 = 1 ∧ tys[t0]? = some (cA, FieldType.boolean) ∧ e = .inl (cA, a.2.1, .inl f)) ∨
    ∃ (ci : Nat) (r : vw_C), a.1 = ci + 2 ∧ cl[ci]? = some r ∧ tys[t0]? = some (cA, FieldType.object r.1) ∧ e = .inl (cA, a.2.1, .inr (.inr (.inr (.inr (fun j => (a.2.2 j).map (am_ad ra ws)))))) ∧ ∀ (j b : Nat), a.2.2 j = some b → b < ws.length
theorem am_ce.ex {cl : List vw_C} {ra : Nat → Nat} {ws ws' : va_W} {tys tys' : List (ClassId × FieldType)} {f : Nat → Int32} {c : am_C} {e : va_E} (h : am_ce cl ra ws tys f c e) (hx : am_ex ra ws ws') (ht : ∀ (k : Nat) (x : ClassId × FieldType), tys[k]? = some x → tys'[k]? = some x) : am_ce cl ra ws' tys' f c e := by
  cases c with
  | inl o =>
    obtain ⟨vs, h1, h2, h3, h4⟩ := h
    refine ⟨vs, h1, h2, h3, fun j v hj => ?_⟩
    obtain ⟨h5, h6⟩ := h4 j v hj
    exact ⟨by rw [hx.tv h6]; exact h5, h6.mono hx.1⟩
  | inr a =>
    obtain ⟨cA, t0, h⟩ := h
    refine ⟨cA, t0, ?_⟩
    rcases h with ⟨h1, h2, h3⟩ | ⟨h1, h2, h3⟩ | ⟨ci, r, h1, h2, h3, h4, h5⟩
    · exact Or.inl ⟨h1, ht _ _ h2, h3⟩
    · exact Or.inr (Or.inl ⟨h1, ht _ _ h2, h3⟩)
    · refine Or.inr (Or.inr ⟨ci, r, h1, h2, ht _ _ h3, ?_, fun j b hb => Nat.lt_of_lt_of_le (h5 j b hb) hx.1⟩)
      rw [h4]
      congr 7
      funext j
      cases hj : a.2.2 j with
      | none => rfl
      | some b =>
        show some (am_ad ra ws b) = some (am_ad ra ws' b)
        rw [hx.2.2 b (h5 j b hj)]
def am_W (cl : List vw_C) (ra : Nat → Nat) (ws : va_W) (tys : List (ClassId × FieldType)) (sh : List am_C) (M : am_M) : Prop :=
  ws.length = sh.length ∧ sh.length ≤ 1048576 ∧ ∀ (k : Nat) (c : am_C), sh[k]? = some c → ∃ (a : Nat) (e : va_E), ws[k]? = some (a, e) ∧ am_ce cl ra ws tys (M k) c e
theorem am_W.set {cl : List vw_C} {ra : Nat → Nat} {ws : va_W} {tys : List (ClassId × FieldType)} {sh : List am_C} {M M' : am_M} {q a : Nat} {e0 e : va_E} {c : am_C} (h : am_W cl ra ws tys sh M) (hq : ws[q]? = some (a, e0)) (hce : am_ce cl ra ws tys (M' q) c e) (hM : ∀ k, k ≠ q → M' k = M k) :
    am_W cl ra (ws.set q (a, e)) tys (sh.set q c) M' ∧ am_ex ra ws (ws.set q (a, e)) := by
  have hx : am_ex ra ws (ws.set q (a, e)) := ⟨by rw [List.length_set]; exact Nat.le_refl _, by rw [List.length_set, h.1]; exact h.2.1, fun k _ => am_ad_set hq k⟩
  refine ⟨⟨by rw [List.length_set, List.length_set]; exact h.1, by rw [List.length_set]; exact h.2.1, fun k c' hk => ?_⟩, hx⟩
  have hl := (List.getElem?_eq_some_iff.mp hq).1
  by_cases hkq : q = k
  · subst hkq
    rw [List.getElem?_set_self (by rw [← h.1]; exact hl)] at hk
    cases hk
    exact ⟨a, e, List.getElem?_set_self hl, hce.ex hx (fun _ _ z => z)⟩
  · rw [List.getElem?_set_ne hkq] at hk
    obtain ⟨a', e', h1, h2⟩ := h.2.2 k c' hk
    exact ⟨a', e', by rw [List.getElem?_set_ne hkq]; exact h1, by rw [hM k (Ne.symm hkq)]; exact h2.ex hx (fun _ _ z => z)⟩
theorem am_set_same {α : Type} {l : List α} {q : Nat} {c : α} (h : l[q]? = some c) : l.set q c = l := by
  apply List.ext_getElem?
  intro k
  by_cases hk : q = k
  · subst hk
    rw [List.getElem?_set_self (List.getElem?_eq_some_iff.mp h).1, h]
  · rw [List.getElem?_set_ne hk]
theorem am_W.put {cl : List vw_C} {ra : Nat → Nat} {ws : va_W} {tys : List (ClassId × FieldType)} {sh : List am_C} {M M' : am_M} {q a : Nat} {e0 e : va_E} {c : am_C} (h : am_W cl ra ws tys sh M) (hc : sh[q]? = some c) (hq : ws[q]? = some (a, e0)) (hce : am_ce cl ra ws tys (M' q) c e) (hM : ∀ k, k ≠ q → M' k = M k) :
    am_W cl ra (ws.set q (a, e)) tys sh M' ∧ am_ex ra ws (ws.set q (a, e)) := by
  have := am_W.set h hq hce hM
  rwa [am_set_same hc] at this
theorem am_W.push {cl : List vw_C} {ra : Nat → Nat} {ws : va_W} {tys tl : List (ClassId × FieldType)} {sh : List am_C} {M M' : am_M} {a : Nat} {e : va_E} {c : am_C} (h : am_W cl ra ws tys sh M) (hlen : ¬ 1048576 ≤ sh.length + 1) (hM : ∀ k, k ≠ sh.length → M' k = M k)
    (hce : am_ex ra ws (ws ++ [(a, e)]) → am_ce cl ra (ws ++ [(a, e)]) (tys ++ tl) (M' sh.length) c e) :
    am_W cl ra (ws ++ [(a, e)]) (tys ++ tl) (sh ++ [c]) M' ∧ am_ex ra ws (ws ++ [(a, e)]) := by
  have hx : am_ex ra ws (ws ++ [(a, e)]) := ⟨by rw [List.length_append]; omega, by rw [List.length_append, h.1]; show sh.length + 1 ≤ _; omega, fun k hk => am_ad_push hk⟩
  refine ⟨⟨by rw [List.length_append, List.length_append, h.1]; rfl, by rw [List.length_append]; show sh.length + 1 ≤ _; omega, fun k c' hk => ?_⟩, hx⟩
  by_cases hkl : k < sh.length
  · rw [List.getElem?_append_left hkl] at hk
    obtain ⟨a', e', h1, h2⟩ := h.2.2 k c' hk
    refine ⟨a', e', by rw [List.getElem?_append_left (by rw [h.1]; exact hkl)]; exact h1, ?_⟩
    rw [hM k (by omega)]
    refine h2.ex hx (fun t x ht => ?_)
    rw [List.getElem?_append_left (List.getElem?_eq_some_iff.mp ht).1]
    exact ht
  · rw [List.getElem?_append_right (by omega)] at hk
    have hz : k - sh.length < 1 := (List.getElem?_eq_some_iff.mp hk).1
    have hk0 : k = sh.length := by omega
    subst hk0
    rw [Nat.sub_self] at hk
    cases hk
    refine ⟨a, e, ?_, hce hx⟩
    rw [List.getElem?_append_right (by rw [h.1]; exact Nat.le_refl _), h.1, Nat.sub_self]
    rfl
def am_sc (c : am_C) : Nat := match c with
  | .inl o => o.2.length
  | .inr a => a.2.1
def am_sz : List am_C → Nat
  | [] => 0
  | c :: r => am_sc c + am_sz r
theorem am_sz_push : ∀ (sh : List am_C) (c : am_C), am_sz (sh ++ [c]) = am_sz sh + am_sc c
  | [], c => by simp [am_sz]
  | a :: r, c => by
    show am_sc a + am_sz (r ++ [c]) = am_sc a + am_sz r + am_sc c
    rw [am_sz_push r c]
    omega
theorem am_sz_set : ∀ (sh : List am_C) (k : Nat) (c c' : am_C), sh[k]? = some c → am_sc c' = am_sc c → am_sz (sh.set k c') = am_sz sh
  | [], k, c, c', h, _ => by simp at h
  | a :: r, 0, c, c', h, hs => by
    simp at h
    subst h
    show am_sc c' + am_sz r = am_sc a + am_sz r
    rw [hs]
  | a :: r, k + 1, c, c', h, hs => by
    show am_sc a + am_sz (r.set k c') = am_sc a + am_sz r
    rw [am_sz_set r k c c' (by simpa using h) hs]
/-- the locals -/
def am_L (ra : Nat → Nat) (ws : va_W) (nL : Nat) (L : List (Option Value)) (ls : Array Slot) : Prop :=
  ls.size = nL ∧ lv_wf ls ∧ L.length = nL ∧ ∀ (j : Nat) (v : Value), L[j]? = some (some v) → ls[j]? = some (.val (am_tv ra ws v)) ∧ am_ok ws.length v
theorem am_L.ex {ra : Nat → Nat} {ws ws' : va_W} {nL : Nat} {L : List (Option Value)} {ls : Array Slot} (h : am_L ra ws nL L ls) (hx : am_ex ra ws ws') : am_L ra ws' nL L ls :=
  ⟨h.1, h.2.1, h.2.2.1, fun j v hj => ⟨by rw [hx.tv (h.2.2.2 j v hj).2]; exact (h.2.2.2 j v hj).1, (h.2.2.2 j v hj).2.mono hx.1⟩⟩
def am_pr (ra : Nat → Nat) (ws : va_W) : Nat → List (Option Value) → List (Nat × Value)
  | _, [] => []
  | i, none :: r => am_pr ra ws (i + 1) r
  | i, some v :: r => (i, am_tv ra ws v) :: am_pr ra ws (i + 1) r
theorem am_pr_mem {ra : Nat → Nat} {ws : va_W} : ∀ (L : List (Option Value)) (i : Nat) (q : Nat × Value), q ∈ am_pr ra ws i L ↔ ∃ (j : Nat) (v : Value), L[j]? = some (some v) ∧ q = (i + j, am_tv ra ws v)
  | [], i, q => by simp [am_pr]
  | none :: r, i, q => by
    rw [am_pr, am_pr_mem r (i + 1) q]
    constructor
    · rintro ⟨j, v, h1, h2⟩
      exact ⟨j + 1, v, by simpa using h1, by rw [h2]; congr 1; omega⟩
    · rintro ⟨j, v, h1, h2⟩
      cases j with
      | zero => simp at h1
      | succ j => exact ⟨j, v, by simpa using h1, by rw [h2]; congr 1; omega⟩
  | some w :: r, i, q => by
    rw [am_pr, List.mem_cons, am_pr_mem r (i + 1) q]
    constructor
    · rintro (h | ⟨j, v, h1, h2⟩)
      · exact ⟨0, w, by simp, by rw [h]; rfl⟩
      · exact ⟨j + 1, v, by simpa using h1, by rw [h2]; congr 1; omega⟩
    · rintro ⟨j, v, h1, h2⟩
      cases j with
      | zero =>
        simp at h1
        subst h1
        exact Or.inl h2
      | succ j => exact Or.inr ⟨j, v, by simpa using h1, by rw [h2]; congr 1; omega⟩
theorem am_L.has {ra : Nat → Nat} {ws : va_W} {nL : Nat} {L : List (Option Value)} {ls : Array Slot} (h : am_L ra ws nL L ls) : lv_has ls nL (am_pr ra ws 0 L) := by
  refine ⟨h.1, h.2.1, fun q hq => ?_⟩
  obtain ⟨j, v, h1, rfl⟩ := (am_pr_mem L 0 q).mp hq
  show ls[0 + j]? = _
  rw [Nat.zero_add]
  exact (h.2.2.2 j v h1).1
theorem am_L.store {ra : Nat → Nat} {ws : va_W} {nL i : Nat} {L : List (Option Value)} {ls ls' : Array Slot} {x : Value} (h : am_L ra ws nL L ls) (hx : am_ok ws.length x)
    (hh : lv_has ls' nL ((i, am_tv ra ws x) :: (am_pr ra ws 0 L).filter (fun q => !(q.1 == i) && !(q.1 + 1 == i && q.2.category == 2)))) : am_L ra ws nL (L.set i (some x)) ls' := by
  refine ⟨hh.1, hh.2.1, by rw [List.length_set]; exact h.2.2.1, fun j v hj => ?_⟩
  by_cases hij : i = j
  · subst hij
    have hl : i < L.length := by
      have := (List.getElem?_eq_some_iff.mp hj).1
      rwa [List.length_set] at this
    rw [List.getElem?_set_self hl] at hj
    cases hj
    exact ⟨hh.2.2 (i, am_tv ra ws x) List.mem_cons_self, hx⟩
  · rw [List.getElem?_set_ne hij] at hj
    have hv := (h.2.2.2 j v hj).2
    refine ⟨hh.2.2 (j, am_tv ra ws v) (List.mem_cons_of_mem _ (List.mem_filter.mpr ⟨(am_pr_mem L 0 _).mpr ⟨j, v, hj, by rw [Nat.zero_add]⟩, ?_⟩)), hv⟩
    have hc : (am_tv ra ws v).category = 1 := by rw [am_tv_cat]; exact hv.cat
    simp [hc, Ne.symm hij]
theorem am_L.get {ra : Nat → Nat} {ws : va_W} {nL j : Nat} {L : List (Option Value)} {ls : Array Slot} {v : Value} (h : am_L ra ws nL L ls) (hg : am_get L j = some v) : ls[j]? = some (.val (am_tv ra ws v)) ∧ am_ok ws.length v := by
  refine h.2.2.2 j v ?_
  unfold am_get at hg
  rw [am_nth_eq] at hg
  cases hj : L[j]? with
  | none => rw [hj] at hg; cases hg
  | some o => rw [hj] at hg; cases hg; rfl
theorem am_sl_len : ∀ (vs : List Value), (∀ v ∈ vs, v.category = 1) → (lg_sl vs).length = vs.length
  | [], _ => rfl
  | v :: r, h => by
    have h1 := h v List.mem_cons_self
    have h2 := am_sl_len r (fun w hw => h w (List.mem_cons_of_mem _ hw))
    simp only [lg_sl, List.flatMap_cons, h1] at h2 ⊢
    simp at h2 ⊢
    omega
theorem am_args_mem : ∀ (vs : List Value) (i j : Nat) (v : Value), (∀ v ∈ vs, v.category = 1) → vs[j]? = some v → (i + j, v) ∈ lv_args i vs
  | [], i, j, v, _, h => by simp at h
  | w :: r, i, 0, v, hc, h => by
    simp at h
    subst h
    exact List.mem_cons_self
  | w :: r, i, j + 1, v, hc, h => by
    rw [lv_args]
    refine List.mem_cons_of_mem _ ?_
    have h1 : ¬ w.category = 2 := by rw [hc w List.mem_cons_self]; decide
    rw [if_neg h1]
    have := am_args_mem r (i + 1) j v (fun u hu => hc u (List.mem_cons_of_mem _ hu)) (by simpa using h)
    rwa [show i + 1 + j = i + (j + 1) by omega] at this
theorem am_L.entry {ra : Nat → Nat} {ws : va_W} {n : Nat} {as : List Value} {ls : Array Slot} (hn : ¬ n < as.length) (ho : ∀ v ∈ as, am_ok ws.length v) (h : lv_has ls n (lv_args 0 (as.map (am_tv ra ws)))) : am_L ra ws n (am_ent n as) ls := by
  refine ⟨h.1, h.2.1, by simp [am_ent]; omega, fun j v hj => ?_⟩
  unfold am_ent at hj
  by_cases hjl : j < as.length
  · rw [List.getElem?_append_left (by simpa using hjl), List.getElem?_map] at hj
    cases hv : as[j]? with
    | none => rw [hv] at hj; cases hj
    | some w =>
      rw [hv] at hj
      cases hj
      refine ⟨?_, ho v (List.mem_of_getElem? hv)⟩
      have := h.2.2 (0 + j, am_tv ra ws v) (am_args_mem _ 0 j _ (fun u hu => ?_) (by rw [List.getElem?_map, hv]; rfl))
      · rwa [Nat.zero_add] at this
      · obtain ⟨u', hu', rfl⟩ := List.mem_map.mp hu
        rw [am_tv_cat]
        exact (ho u' hu').cat
  · rw [List.getElem?_append_right (by simpa using hjl)] at hj
    have := List.mem_of_getElem? hj
    simp at this
