/-! The small machine is sound: calls, returns, whole runs -/
section AMU
variable {P : am_T} {X : am_X} {D : va_G} {cl : List vw_C} {ra : Nat → Nat} {A : Nat → Prop} {l : Launch}
/-- the ways in which a method of the small machine returns -/
def am_Rt (X : am_X) (mi : Nat) (meth : Method) (r : Option Value) (pc : Nat) : Prop :=
  (r = none ∧ meth.sig.returnType = none ∧ decode (X.2.2.1 mi) pc = .ok (.return_, 1)) ∨ (∃ (x : Int32) (ty : FieldType), r = some (.int x) ∧ meth.sig.returnType = some ty ∧ am_fit ty x = true ∧ decode (X.2.2.1 mi) pc = .ok (.ireturn, 1)) ∨ (∃ (a : Nat) (nm : String), r = some (.ref a) ∧ meth.sig.returnType = some (.object nm) ∧ decode (X.2.2.1 mi) pc = .ok (.areturn, 1))
/-- from a state of the small machine the real one comes to the method's return, with the answer r, the cells sh' and the memory M' -/
def am_Go (P : am_T) (X : am_X) (D : va_G) (cl : List vw_C) (ra : Nat → Nat) (A : Nat → Prop) (l : Launch) (mi pc : Nat) (L : List (Option Value)) (st : List Value) (sh : List am_C) (M : am_M) (r : Option Value) (sh' : List am_C) (M' : am_M) : Prop :=
  (sh.length ≤ sh'.length ∧ am_sz sh ≤ am_sz sh') ∧ ∀ (p : Program) (e : Env) (R : Room) (s : State) (m : MethodId) (args : Array Value) (below : List Frame) (meth : Method) (c : Code) (H : Heap) (locs : List Loc) (cells slots : Nat) (Q : State → Prop) (ls : Array Slot) (ws : va_W) (tys : List (ClassId × FieldType)),
    am_F P X mi p R s m args meth c → am_E P X ra A s s.heap → am_Wo D cl ra A s H locs ws tys sh M → am_L ra ws (P.2.2.2.2.2.1 mi) L ls → (∀ v ∈ st, am_ok ws.length v) → cells + (sh'.length - sh.length) ≤ R.cells → slots + (am_sz sh' - am_sz sh) ≤ R.slots →
    (∀ (ws' : va_W) (tys' : List (ClassId × FieldType)) (H' : Heap) (locs' : List Loc) (pc' : Nat) (ls' : Array Slot), am_Wo D cl ra A s H' locs' ws' tys' sh' M' → am_ex ra ws ws' → (∀ v ∈ r.toList, am_ok ws'.length v) → am_Rt X mi meth r pc' →
      W p l e R s m args below meth c H' locs' (cells + (sh'.length - sh.length)) (slots + (am_sz sh' - am_sz sh)) Q (F0 m pc' ls' (r.toList.map (am_tv ra ws')))) →
    W p l e R s m args below meth c H locs cells slots Q (F0 m pc ls (st.map (am_tv ra ws)))
def am_Sd (P : am_T) (X : am_X) (D : va_G) (cl : List vw_C) (ra : Nat → Nat) (A : Nat → Prop) (l : Launch) (K : am_K) : Prop :=
  ∀ (mi pc : Nat) (L : List (Option Value)) (st : List Value) (sh : List am_C) (M : am_M) (r : Option Value) (sh' : List am_C) (M' : am_M), K mi pc L st sh M = some (r, sh', M') → am_Go P X D cl ra A l mi pc L st sh M r sh' M'
theorem am_Go.nx {mi pc pc' : Nat} {L L' : List (Option Value)} {st st' : List Value} {sh sh1 sh' : List am_C} {M M1 M' : am_M} {r : Option Value} (hN : am_Nx P X D cl ra A l mi pc L st sh M pc' L' st' sh1 M1) (hG : am_Go P X D cl ra A l mi pc' L' st' sh1 M1 r sh' M') : am_Go P X D cl ra A l mi pc L st sh M r sh' M' := by
  obtain ⟨⟨n1, n2⟩, hN⟩ := hN
  obtain ⟨⟨m1, m2⟩, hG⟩ := hG
  refine ⟨⟨Nat.le_trans n1 m1, Nat.le_trans n2 m2⟩, fun p e R s m args below meth c H locs cells slots Q ls ws tys hF hE hO hL hst hc hs kk => ?_⟩
  refine hN p e R s m args below meth c H locs cells slots Q ls ws tys hF hE hO hL hst (by omega) (by omega) (fun ws1 tys1 H1 locs1 ls1 hO1 hx1 hL1 hst1 => ?_)
  refine hG p e R s m args below meth c H1 locs1 (cells + (sh1.length - sh.length)) (slots + (am_sz sh1 - am_sz sh)) Q ls1 ws1 tys1 hF hE hO1 hL1 hst1 (by omega) (by omega) (fun ws' tys' H' locs' pc2 ls' hO' hx' hok hrt => ?_)
  have := kk ws' tys' H' locs' pc2 ls' hO' (hx1.tr hx') hok hrt
  rwa [show cells + (sh'.length - sh.length) = cells + (sh1.length - sh.length) + (sh'.length - sh1.length) by omega, show slots + (am_sz sh' - am_sz sh) = slots + (am_sz sh1 - am_sz sh) + (am_sz sh' - am_sz sh1) by omega] at this
theorem am_Go.ret {mi pc : Nat} {L : List (Option Value)} {sh : List am_C} {M : am_M} {r : Option Value} (hr : ∀ meth : Method, meth.sig.returnType = P.2.2.2.2.1 mi → am_Rt X mi meth r pc) : am_Go P X D cl ra A l mi pc L r.toList sh M r sh M := by
  refine ⟨⟨Nat.le_refl _, Nat.le_refl _⟩, fun p e R s m args below meth c H locs cells slots Q ls ws tys hF hE hO hL hst hc hs kk => ?_⟩
  have := kk ws tys H locs pc ls hO (am_ex.rf (by rw [hO.1.1]; exact hO.1.2.1)) hst (hr meth hF.2.2.2.1)
  rwa [Nat.sub_self, Nat.sub_self, Nat.add_zero, Nat.add_zero] at this
theorem am_E.moved (G : am_G P X cl) {u U : State} {H H' : Heap} (h : am_E P X ra A u H) (hW : u.WarmedH U.vm) (hs : H.size ≤ H'.size) (hq : ∀ q : Nat, q < H.size → ¬ A q → H'[q]? = H[q]?) : am_E P X ra A U H' := by
  obtain ⟨h1, h2, h3, h4⟩ := h
  refine ⟨fun w hw => ?_, fun j hj C n d e1 e2 => ((h2 j hj C n d e1 e2).moved hW.alike).kept hq, fun k n f hk => ((h3 k n f hk).moved hW.alike).kept hq, fun C hC => (h4 C hC).moved hW.alike⟩
  · have h5 := h1 w hw
    rcases G.2.2.2.2.2.2.1 w hw with ⟨a, i, b, n, d, hh, rfl⟩ | ⟨a, i, x, hh, rfl⟩
    · exact h5.warmF hW
    · exact h5.warmM hW
theorem am_E.same (G : am_G P X cl) {u U : State} {H : Heap} (h : am_E P X ra A u H) (hv : u.vm = U.vm) : am_E P X ra A U H := by
  obtain ⟨h1, h2, h3, h4⟩ := h
  have ha : u.vm.Alike U.vm := by rw [hv]; exact Vm.Alike.refl _
  refine ⟨fun w hw => ?_, fun j hj C n d e1 e2 => (h2 j hj C n d e1 e2).moved ha, fun k n f hk => (h3 k n f hk).moved ha, fun C hC => (h4 C hC).moved ha⟩
  · have h5 := h1 w hw
    rcases G.2.2.2.2.2.2.1 w hw with ⟨a, i, b, n, d, hh, rfl⟩ | ⟨a, i, x, hh, rfl⟩
    · exact h5.same rfl hv
    · exact h5.same rfl hv
/-- a callee's start and end -/
def am_Pc (P : am_T) (X : am_X) (D : va_G) (cl : List vw_C) (ra : Nat → Nat) (A : Nat → Prop) (ws : va_W) (tys : List (ClassId × FieldType)) (H : Heap) (as : List Value) : Array Value → State → Prop := fun v U => v = (as.map (am_tv ra ws)).toArray ∧ U.heap = H ∧ va_K D cl tys U ∧ am_E P X ra A U H
def am_Qc (D : va_G) (cl : List vw_C) (ra : Nat → Nat) (A : Nat → Prop) (ws : va_W) (H : Heap) (r : Option Value) (sh : List am_C) (M : am_M) : Array Value → State → Outcome → State → Prop := fun _ _ oc t =>
  ∃ (ws1 : va_W) (tys1 : List (ClassId × FieldType)), oc = .returned (r.map (am_tv ra ws1)) ∧ am_W cl ra ws1 tys1 sh M ∧ am_ex ra ws ws1 ∧ va_P D cl ws1 t.heap ∧ va_D A ws1 ∧ va_K D cl tys1 t ∧ H.size ≤ t.heap.size ∧ (∀ q : Nat, q < H.size → ¬ A q → t.heap[q]? = H[q]?) ∧ ∀ v ∈ r.toList, am_ok ws1.length v
theorem am_met (G : am_G P X cl) {mj : Nat} {as : List Value} {sh sh1 : List am_C} {M M1 : am_M} {rv : Option Value} {H : Heap} {ws : va_W} {tys : List (ClassId × FieldType)} (hy : plainName (X.2.2.2.1 mj).cls = true) (hn : ¬ P.2.2.2.2.2.1 mj < as.length)
    (hG : am_Go P X D cl ra A l mj 0 (am_ent (P.2.2.2.2.2.1 mj) as) [] sh M rv sh1 M1) (hW : am_W cl ra ws tys sh M) (hP : va_P D cl ws H) (hD : va_D A ws) (hA : ∀ q, H.size ≤ q → A q) (hok : ∀ v ∈ as, am_ok ws.length v) :
    Met l (X.2.2.2.1 mj) (Cond.code (X.2.2.2.1 mj) (X.2.2.1 mj) (P.2.2.2.2.2.1 mj) (P.2.2.2.2.1 mj) :: X.1) { frames := X.2.2.2.2.2.2.1 mj, cells := sh1.length - sh.length, slots := am_sz sh1 - am_sz sh, locals := X.2.2.2.2.2.2.2 mj } (am_Pc P X D cl ra A ws tys H as) (am_Qc D cl ra A ws H rv sh1 M1) (sh1.length - sh.length) (am_sz sh1 - am_sz sh) A := by
  refine Met.ofW (cc := X.2.2.1 mj) (maxL := P.2.2.2.2.2.1 mj) (ret := P.2.2.2.2.1 mj) hy rfl ?_
  intro p e s m args below meth c s₁ B hml hv
  obtain ⟨rfl, rfl, hK, hE⟩ := hv
  have hts := atoms_spec (ws := Cond.code (X.2.2.2.1 mj) (X.2.2.1 mj) (P.2.2.2.2.2.1 mj) (P.2.2.2.2.1 mj) :: X.1) B.pre
  have hF : am_F P X mj p { frames := X.2.2.2.2.2.2.1 mj, cells := sh1.length - sh.length, slots := am_sz sh1 - am_sz sh, locals := X.2.2.2.2.2.2.2 mj } s m (as.map (am_tv ra ws)).toArray meth c :=
    ⟨B.exec, B.bytes, hml, B.returns, B.notSynchronized, fun w hw => hts w (List.mem_cons_of_mem _ hw), findClass_of_methodNamed B.named, fun h => (name_of_methodNamed B.named B.method).1.trans h, Nat.le_refl _, Nat.le_refl _⟩
  have hcat : ∀ v ∈ as.map (am_tv ra ws), v.category = 1 := fun v hv => by
    obtain ⟨u, hu, rfl⟩ := List.mem_map.mp hv
    rw [am_tv_cat]
    exact (hok u hu).cat
  have hl := lv_entry (as.map (am_tv ra ws)) (n := P.2.2.2.2.2.1 mj) (by rw [am_sl_len _ hcat, List.length_map]; omega)
  rw [lg_entry_eq]
  generalize (lg_sl (as.map (am_tv ra ws)) ++ List.replicate (P.2.2.2.2.2.1 mj - (lg_sl (as.map (am_tv ra ws))).length) Slot.unset).toArray = ls at hl ⊢
  have hL : am_L ra ws (P.2.2.2.2.2.1 mj) (am_ent (P.2.2.2.2.2.1 mj) as) ls := am_L.entry hn hok hl
  have hO : am_Wo D cl ra A s s.heap [] ws tys sh M := ⟨hW, hP, hD, hK, va_S.rf, hA⟩
  refine hG.2 p e { frames := X.2.2.2.2.2.2.1 mj, cells := sh1.length - sh.length, slots := am_sz sh1 - am_sz sh, locals := X.2.2.2.2.2.2.2 mj } s m (as.map (am_tv ra ws)).toArray below meth c s.heap [] 0 0 (MQ below (am_Qc D cl ra A ws s.heap rv sh1 M1) (as.map (am_tv ra ws)).toArray s (sh1.length - sh.length) (am_sz sh1 - am_sz sh) A) ls ws tys hF hE hO hL (fun v hv => by cases hv) (by rw [Nat.zero_add]; exact Nat.le_refl _) (by rw [Nat.zero_add]; exact Nat.le_refl _) (fun ws' tys' H' locs' pc' ls' hO' hx' hok' hrt => ?_)
  rw [Nat.zero_add, Nat.zero_add]
  obtain ⟨w1, w2, w3, w4, w5, w6⟩ := hO'
  have fin : ∀ t : State, t.heap = H' → s.WarmedH t.vm → am_Qc D cl ra A ws s.heap rv sh1 M1 (as.map (am_tv ra ws)).toArray s (.returned (rv.map (am_tv ra ws'))) t := fun t ht hWm =>
    ⟨ws', tys', rfl, w1, hx', by rw [ht]; exact w2, w3, va_K.moved hWm.alike w4, by rw [ht]; exact w5.1, fun q q1 q2 => by rw [ht]; exact w5.2.1 q q1 q2, hok'⟩
  rcases hrt with ⟨rfl, r1, r2⟩ | ⟨x, ty, rfl, r1, r2, r3⟩ | ⟨a, nm, rfl, r1, r2⟩
  · exact W.vret hF.1 hF.2.1 r1 fin w5.2.2 r2 hF.2.2.2.2.1
  · exact W.zret hF.1 hF.2.1 r1 (am_fit_n r2).1 fin w5.2.2 r3 hF.2.2.2.2.1
  · exact W.aret (v := .ref (am_ad ra ws' a)) hF.1 hF.2.1 r1 (Or.inl ⟨nm, rfl⟩) (Or.inr ⟨_, rfl⟩) fin w5.2.2 r2 hF.2.2.2.2.1
/-- behind a call -/
theorem am_Go.back {mi pc : Nat} {L : List (Option Value)} {rest : List Value} {sh sh1 sh' : List am_C} {M1 M' : am_M} {rv r : Option Value} (hG : am_Go P X D cl ra A l mi (pc + 3) L (rv.toList ++ rest) sh1 M1 r sh' M') (hm : sh.length ≤ sh1.length ∧ am_sz sh ≤ am_sz sh1)
    {p : Program} {e : Env} {R : Room} {s : State} {m : MethodId} {args : Array Value} {below : List Frame} {meth : Method} {c : Code} {H : Heap} {locs : List Loc} {cells slots : Nat} {Q : State → Prop} {ls : Array Slot} {ws : va_W} {tys : List (ClassId × FieldType)} {a : Array Value} {st0 : List Value}
    (hF : am_F P X mi p R s m args meth c) (hE : am_E P X ra A s s.heap) (hlw : ws.length ≤ 1048576) (hS : va_S A s.heap H locs) (hA : ∀ q, s.heap.size ≤ q → A q) (hL : am_L ra ws (P.2.2.2.2.2.1 mi) L ls) (hst : ∀ v ∈ rest, am_ok ws.length v) (hc : cells + (sh'.length - sh.length) ≤ R.cells) (hs : slots + (am_sz sh' - am_sz sh) ≤ R.slots)
    (kk : ∀ (ws' : va_W) (tys' : List (ClassId × FieldType)) (H' : Heap) (locs' : List Loc) (pc' : Nat) (ls' : Array Slot), am_Wo D cl ra A s H' locs' ws' tys' sh' M' → am_ex ra ws ws' → (∀ v ∈ r.toList, am_ok ws'.length v) → am_Rt X mi meth r pc' →
      W p l e R s m args below meth c H' locs' (cells + (sh'.length - sh.length)) (slots + (am_sz sh' - am_sz sh)) Q (F0 m pc' ls' (r.toList.map (am_tv ra ws'))))
    (run : va_Run p l e R s m args below meth c H locs cells slots (sh1.length - sh.length) (am_sz sh1 - am_sz sh) (F0 m pc ls st0) (rest.map (am_tv ra ws)) (am_Qc D cl ra A ws H rv sh1 M1 a) A) : W p l e R s m args below meth c H locs cells slots Q (F0 m pc ls st0) := by
  intro T hT XS
  obtain ⟨v, st0, t, T', Ls, h0, X', hLs, e1, e2, ⟨ws1, tys1, hv, hW1, hx1, hP1, hD1, hK1, f1, f2, hok1⟩, goes⟩ := run T hT XS
  obtain ⟨⟨m1, m2⟩, hG⟩ := hG
  have hv : v = rv.map (am_tv ra ws1) := Outcome.returned.inj hv
  subst hv
  have hO1 : am_Wo D cl ra A s T'.heap (locs ++ Ls) ws1 tys1 sh1 M1 := by
    refine ⟨hW1, by rw [e1]; exact hP1, hD1, va_K.moved (by rw [← e2]; exact X'.warmed.alike.symm) hK1, ⟨?_, fun q q1 q2 => ?_, fun x hx => ?_⟩, hA⟩
    · rw [e1]; exact Nat.le_trans hS.1 f1
    · rw [e1, f2 q (Nat.lt_of_lt_of_le q1 hS.1) q2]
      exact hS.2.1 q q1 q2
    · rcases List.mem_append.mp hx with hx | hx
      · exact hS.2.2 x hx
      · exact hLs x hx
  have hst1 : ∀ v ∈ rv.toList ++ rest, am_ok ws1.length v := fun v hv => by
    rcases List.mem_append.mp hv with hv | hv
    · exact hok1 v hv
    · exact (hst v hv).mono hx1.1
  have key := hG p e R s m args below meth c T'.heap (locs ++ Ls) (cells + (sh1.length - sh.length)) (slots + (am_sz sh1 - am_sz sh)) Q ls ws1 tys1 hF hE hO1 (hL.ex hx1) hst1 (by omega) (by omega) (fun ws' tys' H' locs' pc2 ls' hO' hx' hok hrt => by
    have := kk ws' tys' H' locs' pc2 ls' hO' (hx1.tr hx') hok hrt
    rwa [show cells + (sh'.length - sh.length) = cells + (sh1.length - sh.length) + (sh'.length - sh1.length) by omega, show slots + (am_sz sh' - am_sz sh) = slots + (am_sz sh1 - am_sz sh) + (am_sz sh' - am_sz sh1) by omega] at this)
  obtain ⟨t2, a1, b1⟩ := key T' rfl X'
  refine ⟨t2, goes t2 ?_, b1⟩
  have hgf : (rv.map (am_tv ra ws1)).toList ++ rest.map (am_tv ra ws) = (rv.toList ++ rest).map (am_tv ra ws1) := by
    rw [List.map_append, hx1.tvs hst]
    cases rv <;> rfl
  rw [hgf]
  exact a1
theorem am_take (f : Value → Value) (st : List Value) (na : Nat) : st.map f = ((st.take na).reverse.map f).reverse ++ (st.drop na).map f := by
  rw [← List.map_reverse, List.reverse_reverse, ← List.map_append, List.take_append_drop]
/-- a call -/
theorem am_Go.call (G : am_G P X cl) {mi pc ix ik mj : Nat} {i : am_I} {L : List (Option Value)} {st as rest : List Value} {sh sh1 sh' : List am_C} {M M1 M' : am_M} {rv r : Option Value} (hi : (ik = 0 ∧ i = .invokevirtual ix) ∨ (ik = 1 ∧ i = .invokestatic ix) ∨ (ik = 2 ∧ i = .invokespecial ix)) (h : am_cal P mi pc ix ik L st sh M = some (.inr (.inr (mj, as, rest)))) (hdg : decode (X.2.2.1 mi) pc = .ok (i, 3))
    (h1 : am_Go P X D cl ra A l mj 0 (am_ent (P.2.2.2.2.2.1 mj) as) [] sh M rv sh1 M1) (h2 : am_Go P X D cl ra A l mi (pc + 3) L (rv.toList ++ rest) sh1 M1 r sh' M') : am_Go P X D cl ra A l mi pc L st sh M r sh' M' := by
  unfold am_cal at h
  split at h
  case h_7 => cases h
  case h_4 =>
    exfalso
    unfold am_nx at h
    repeat' (split at h)
    all_goals cases h
  case h_5 =>
    exfalso
    unfold am_nx at h
    repeat' (split at h)
    all_goals cases h
  case h_6 =>
    exfalso
    unfold am_nx at h
    repeat' (split at h)
    all_goals cases h
  case h_2 =>
    exfalso
    split at h
    · cases h
    split at h
    case h_2 => cases h
    case h_1 =>
    split at h
    · cases h
    · unfold am_nx at h; cases h
  case h_3 =>
    exfalso
    split at h
    · cases h
    split at h
    case h_2 => cases h
    case h_1 =>
    split at h
    case h_2 => cases h
    case h_1 =>
    split at h
    · cases h
    · unfold am_nx at h; cases h
  case h_1 q1 mj' na kd ci hlk =>
  split at h
  · cases h
  rename_i hc0
  simp only [not_or, Classical.not_not] at hc0
  obtain ⟨hna, hkd⟩ := hc0
  split at h
  case h_2 => cases h
  case h_1 q2 as' r' hr =>
  split at h
  · cases h
  rename_i hc1
  simp only [not_or] at hc1
  obtain ⟨hr8, hml⟩ := hc1
  have hh := Option.some.inj h
  have hh := Sum.inr.inj (Sum.inr.inj hh)
  simp only [Prod.mk.injEq] at hh
  obtain ⟨rfl, rfl, rfl⟩ := hh
  obtain ⟨gcode, gpl, gfr, glo, gini, gd, glink, gV, gS, gI⟩ := G.2.2.2.2.2.2.2.1 mi ix mj' na kd ci hlk
  have hmono := h1.1
  refine ⟨⟨Nat.le_trans h1.1.1 h2.1.1, Nat.le_trans h1.1.2 h2.1.2⟩, fun p e R s m args below meth c H locs cells slots Q ls ws tys hF hE hO hL hst hc hs kk => ?_⟩
  have hlw : ws.length ≤ 1048576 := by rw [hO.1.1]; exact hO.1.2.1
  have hin1 : ∀ v ∈ st.take na, v ∈ st := fun v hv => List.mem_of_mem_take hv
  have hin2 : ∀ v ∈ st.drop na, v ∈ st := fun v hv => List.mem_of_mem_drop hv
  have hHs : ∀ q, H.size ≤ q → A q := fun q hq => hO.2.2.2.2.2 q (Nat.le_trans hO.2.2.2.2.1.1 hq)
  have hEm : ∀ U : State, U.heap = H → s.WarmedH U.vm → am_E P X ra A U H := fun U hU hW => am_E.moved G hE hW hO.2.2.2.2.1.1 (fun q q1 q2 => hO.2.2.2.2.1.2.1 q q1 q2)
  have hgood : GoodIn X.1 (Cond.code (X.2.2.2.1 mj') (X.2.2.1 mj') (P.2.2.2.2.2.1 mj') (P.2.2.2.2.1 mj') :: X.1) := by
    intro w hw
    have hw : w ∈ X.1 := by
      rcases List.mem_cons.mp hw with rfl | hw
      · exact gcode
      · exact hw
    exact ⟨hw, G.2.2.2.2.2.1 w hw⟩
  have hblind : ∀ as0 : List Value, FrameBlind (am_Pc P X D cl ra A ws tys H as0) := fun as0 a U g mk q => ⟨q.1, q.2.1, va_K.moved (u := U) (U := U.calling g mk a) (Vm.Alike.refl U.vm) q.2.2.1, am_E.same G q.2.2.2 rfl⟩
  have hroom : (X.2.2.2.2.2.2.1 mj' + 1 ≤ R.frames) ∧ 8 + (P.2.2.2.2.2.1 mj' + 11) + X.2.2.2.2.2.2.2 mj' ≤ R.locals := ⟨Nat.le_trans gfr hF.2.2.2.2.2.2.2.2.1, Nat.le_trans glo hF.2.2.2.2.2.2.2.2.2⟩
  have hcs : cells + (sh1.length - sh.length) ≤ R.cells ∧ slots + (am_sz sh1 - am_sz sh) ≤ R.slots := by
    have e1 := h1.1
    have e2 := h2.1
    omega
  have hS0 : CallFix p m c (X.2.2.1 mi) (P.2.2.2.2.2.1 mi) s args X.1 (X.2.2.2.1 mi).cls := ⟨hF.1, hF.2.1, hF.2.2.1, hF.2.2.2.2.2.2.1, hF.2.2.2.2.2.1⟩
  have hts := hF.2.2.2.2.2.1
  rcases hi with ⟨rfl, rfl⟩ | ⟨rfl, rfl⟩ | ⟨rfl, rfl⟩
  · -- virtual
    rw [if_neg (by decide)] at hr
    split at hr
    case h_2 => cases hr
    case h_1 q3 b r2 hdrop =>
    rw [if_pos rfl] at hr
    split at hr
    case h_2 => cases hr
    case h_1 q4 cj fs hsh =>
    rw [am_nth_eq] at hsh
    by_cases hcj : cj = ci
    case neg => rw [if_neg hcj] at hr; cases hr
    subst hcj
    rw [if_pos rfl] at hr
    cases hr
    obtain ⟨gV1, gV2, T, N, gV3⟩ := gV hkd
    have hst1 : ∀ v ∈ r', am_ok ws.length v := fun v hv => hst v (hin2 v (by rw [hdrop]; exact List.mem_cons_of_mem _ hv))
    have hob : am_ok ws.length (.ref b) := hst _ (hin2 _ (by rw [hdrop]; exact List.mem_cons_self))
    have hoks : ∀ v ∈ Value.ref b :: (st.take na).reverse, am_ok ws.length v := fun v hv => by
      rcases List.mem_cons.mp hv with rfl | hv
      · exact hob
      · exact hst v (hin1 v (List.mem_reverse.mp hv))
    have hM := am_met G gpl hml h1 hO.1 hO.2.1 hO.2.2.1 hHs hoks (tys := tys)
    have hstk : st.map (am_tv ra ws) = ((st.take na).reverse.map (am_tv ra ws)).reverse ++ .ref (am_ad ra ws b) :: r'.map (am_tv ra ws) := by
      rw [am_take (am_tv ra ws) st na, hdrop]
      rfl
    obtain ⟨b', eb, hb1, vs, rfl, -⟩ := hO.1.2.2 b _ hsh
    have hrec := va_recv hO.2.2.2.1 hO.2.1 gV3 hb1
    rw [← am_ad_at (ra := ra) hb1] at hrec
    have hPre : PreV s H (X.2.2.2.1 mj').cls (am_ad ra ws b) (am_Pc P X D cl ra A ws tys H (.ref b :: (st.take na).reverse)) ((st.take na).reverse.map (am_tv ra ws)) :=
      ⟨hblind _, hrec, fun U hU hW => ⟨rfl, hU, va_K.moved hW.alike hO.2.2.2.1, hEm U hU hW⟩⟩
    have hlen : ((st.take na).reverse.map (am_tv ra ws)).length = na := by simp; omega
    have h8 : 2 * (F0 m pc ls (st.map (am_tv ra ws))).monitorRoom + ((r'.map (am_tv ra ws)).map fun v => v.category).sum ≤ 8 := lv_room (by rw [am_cat_sum r' hst1]; omega)
    refine am_Go.back h2 hmono hF hE hlw hO.2.2.2.2.1 hO.2.2.2.2.2 hL hst1 hc hs kk (tys := tys) (a := (Value.ref (am_ad ra ws b) :: (st.take na).reverse.map (am_tv ra ws)).toArray) ?_
    rcases glink with gl | ⟨host, gl⟩
    · exact va_runV hS0 hM ⟨callB_of na hts hgood rfl rfl rfl (hts _ gini) (hts _ gl) gd hroom, hts _ gV1, hts _ gV2⟩ hPre rfl hlen hL.1 hstk h8 hdg hcs
    · exact va_runVN hS0 hM ⟨va_cnB na hts hgood rfl rfl rfl (hE.1 _ gl) (hts _ gini) gd hroom, hts _ gV1, hts _ gV2⟩ hPre rfl hlen hL.1 hstk h8 hdg hcs
  · -- static
    rw [if_pos rfl] at hr
    cases hr
    have hst1 : ∀ v ∈ st.drop na, am_ok ws.length v := fun v hv => hst v (hin2 v hv)
    have hoks : ∀ v ∈ (st.take na).reverse, am_ok ws.length v := fun v hv => hst v (hin1 v (List.mem_reverse.mp hv))
    have hM := am_met G gpl hml h1 hO.1 hO.2.1 hO.2.2.1 hHs hoks (tys := tys)
    have hPre : PreS s H (am_Pc P X D cl ra A ws tys H ((st.take na).reverse)) ((st.take na).reverse.map (am_tv ra ws)) :=
      ⟨hblind _, fun U hU hW => ⟨rfl, hU, va_K.moved hW.alike hO.2.2.2.1, hEm U hU hW⟩⟩
    have hlen : ((st.take na).reverse.map (am_tv ra ws)).length = na := by simp; omega
    have h8 : 2 * (F0 m pc ls (st.map (am_tv ra ws))).monitorRoom + (((st.drop na).map (am_tv ra ws)).map fun v => v.category).sum ≤ 8 := lv_room (by rw [am_cat_sum _ hst1]; omega)
    refine am_Go.back h2 hmono hF hE hlw hO.2.2.2.2.1 hO.2.2.2.2.2 hL hst1 hc hs kk (tys := tys) (a := ((st.take na).reverse.map (am_tv ra ws)).toArray) ?_
    rcases glink with gl | ⟨host, gl⟩
    · exact va_runS hS0 hM ⟨callB_of na hts hgood rfl rfl rfl (hts _ gini) (hts _ gl) gd hroom, hts _ (gS hkd)⟩ hPre rfl hlen hL.1 (am_take (am_tv ra ws) st na) h8 hdg hcs
    · exact va_runSN hS0 hM ⟨va_cnB na hts hgood rfl rfl rfl (hE.1 _ gl) (hts _ gini) gd hroom, hts _ (gS hkd), trivial⟩ hPre rfl hlen hL.1 (am_take (am_tv ra ws) st na) h8 hdg hcs
  · -- constructor
    rw [if_neg (by decide)] at hr
    split at hr
    case h_2 => cases hr
    case h_1 q3 b r2 hdrop =>
    rw [if_neg (by decide)] at hr
    cases hr
    obtain ⟨gI1, gI2, gI3⟩ := gI hkd
    have hst1 : ∀ v ∈ r', am_ok ws.length v := fun v hv => hst v (hin2 v (by rw [hdrop]; exact List.mem_cons_of_mem _ hv))
    have hob : am_ok ws.length (.ref b) := hst _ (hin2 _ (by rw [hdrop]; exact List.mem_cons_self))
    have hoks : ∀ v ∈ Value.ref b :: (st.take na).reverse, am_ok ws.length v := fun v hv => by
      rcases List.mem_cons.mp hv with rfl | hv
      · exact hob
      · exact hst v (hin1 v (List.mem_reverse.mp hv))
    have hM := am_met G gpl hml h1 hO.1 hO.2.1 hO.2.2.1 hHs hoks (tys := tys)
    rw [gI3] at hM hgood
    have hstk : st.map (am_tv ra ws) = ((st.take na).reverse.map (am_tv ra ws)).reverse ++ .ref (am_ad ra ws b) :: r'.map (am_tv ra ws) := by
      rw [am_take (am_tv ra ws) st na, hdrop]
      rfl
    have hPre : PreS s H (am_Pc P X D cl ra A ws tys H (.ref b :: (st.take na).reverse)) (.ref (am_ad ra ws b) :: (st.take na).reverse.map (am_tv ra ws)) :=
      ⟨hblind _, fun U hU hW => ⟨rfl, hU, va_K.moved hW.alike hO.2.2.2.1, hEm U hU hW⟩⟩
    have hlen : ((st.take na).reverse.map (am_tv ra ws)).length = na := by simp; omega
    have h8 : 2 * (F0 m pc ls (st.map (am_tv ra ws))).monitorRoom + ((r'.map (am_tv ra ws)).map fun v => v.category).sum ≤ 8 := lv_room (by rw [am_cat_sum r' hst1]; omega)
    refine am_Go.back h2 hmono hF hE hlw hO.2.2.2.2.1 hO.2.2.2.2.2 hL hst1 hc hs kk (tys := tys) (a := (Value.ref (am_ad ra ws b) :: (st.take na).reverse.map (am_tv ra ws)).toArray) ?_
    rcases glink with gl | ⟨host, gl⟩
    · exact va_runI hS0 hM ⟨callB_of na hts hgood rfl rfl rfl (hts _ gini) (hts _ gl) gd hroom, gI2, hts _ gI1⟩ hPre rfl hlen hL.1 hstk h8 hdg hcs
    · exact va_runIN hS0 hM ⟨va_cnB na hts hgood rfl rfl rfl (hE.1 _ gl) (hts _ gini) gd hroom, gI2, hts _ gI1⟩ hPre rfl hlen hL.1 hstk h8 hdg hcs
theorem am_oth_ret {mi pc n : Nat} {i : am_I} {L : List (Option Value)} {st : List Value} {sh sh' : List am_C} {M M' : am_M} {r : Option Value} (h : am_oth P mi pc i L st sh M = some (.inl (r, sh', M'))) (hdg : decode (X.2.2.1 mi) pc = .ok (i, n)) (hn : am_len i = 0 ∨ n = am_len i) : st = r.toList ∧ sh' = sh ∧ M' = M ∧ ∀ meth : Method, meth.sig.returnType = P.2.2.2.2.1 mi → am_Rt X mi meth r pc := by
  have hcal : ∀ ix ik, am_cal P mi pc ix ik L st sh M ≠ some (.inl (r, sh', M')) := by
    intro ix ik h
    unfold am_cal am_nx at h
    repeat' (split at h)
    all_goals cases h
  cases i
  case ireturn =>
    have hn : n = 1 := am_len1 (k := 1) (by decide) hn
    subst hn
    simp only [am_oth] at h
    split at h
    case h_2 => cases h
    case h_1 q1 q2 x ty hty =>
    by_cases hf : am_fit ty x = true
    case neg => rw [if_neg hf] at h; cases h
    rw [if_pos hf] at h
    cases h
    exact ⟨rfl, rfl, rfl, fun meth hm => Or.inr (Or.inl ⟨x, ty, rfl, by rw [hm]; exact hty, hf, hdg⟩)⟩
  case areturn =>
    have hn : n = 1 := am_len1 (k := 1) (by decide) hn
    subst hn
    simp only [am_oth] at h
    split at h
    case h_2 => cases h
    case h_1 q1 q2 a nm hty =>
    cases h
    exact ⟨rfl, rfl, rfl, fun meth hm => Or.inr (Or.inr ⟨a, nm, rfl, by rw [hm]; exact hty, hdg⟩)⟩
  case return_ =>
    have hn : n = 1 := am_len1 (k := 1) (by decide) hn
    subst hn
    simp only [am_oth] at h
    split at h
    case h_2 => cases h
    case h_1 q1 q2 hty =>
    cases h
    exact ⟨rfl, rfl, rfl, fun meth hm => Or.inl ⟨rfl, by rw [hm]; exact hty, hdg⟩⟩
  case invokevirtual ix => exact absurd h (hcal ix 0)
  case invokestatic ix => exact absurd h (hcal ix 1)
  case invokespecial ix => exact absurd h (hcal ix 2)
  all_goals (simp only [am_oth, am_nx, reduceCtorEq] at h)
  all_goals (repeat' (split at h))
  all_goals cases h
theorem am_oth_call {mi pc n : Nat} {i : am_I} {L : List (Option Value)} {st : List Value} {sh : List am_C} {M : am_M} {q : Nat × List Value × List Value} (h : am_oth P mi pc i L st sh M = some (.inr (.inr q))) (hn : am_len i = 0 ∨ n = am_len i) : n = 3 ∧ ∃ ix ik, ((ik = 0 ∧ i = .invokevirtual ix) ∨ (ik = 1 ∧ i = .invokestatic ix) ∨ (ik = 2 ∧ i = .invokespecial ix)) ∧ am_cal P mi pc ix ik L st sh M = some (.inr (.inr q)) := by
  cases i
  case invokevirtual ix => exact ⟨am_len1 (k := 3) (by decide) hn, ix, 0, Or.inl ⟨rfl, rfl⟩, h⟩
  case invokestatic ix => exact ⟨am_len1 (k := 3) (by decide) hn, ix, 1, Or.inr (Or.inl ⟨rfl, rfl⟩), h⟩
  case invokespecial ix => exact ⟨am_len1 (k := 3) (by decide) hn, ix, 2, Or.inr (Or.inr ⟨rfl, rfl⟩), h⟩
  all_goals (simp only [am_oth, am_nx, reduceCtorEq] at h)
  all_goals (repeat' (split at h))
  all_goals cases h
/-- what isn't 'go on' comes of jumps, calls, returns -/
theorem am_ins_oth {mi pc n : Nat} {i : am_I} {L : List (Option Value)} {st : List Value} {sh : List am_C} {M : am_M} {a : am_A} (h : am_ins P mi pc i n L st sh M = some a) (ha : ∀ q, a ≠ .inr (.inl q)) : am_oth P mi pc i L st sh M = some a := by
  have hnx : ∀ pc L st sh M, am_nx pc L st sh M ≠ some a := fun pc L st sh M q => ha _ (Option.some.inj q).symm
  unfold am_ins at h
  repeat' (split at h)
  all_goals first
    | exact h
    | exact absurd h (hnx _ _ _ _ _)
    | cases h
theorem am_sound_step (G : am_G P X cl) {K : am_K} (hK : am_Sd P X D cl ra A l K) : am_Sd P X D cl ra A l (am_step P K) := by
  intro mi pc L st sh M r sh' M' h
  unfold am_step am_act at h
  cases hco : P.1 mi pc with
  | none => rw [hco] at h; cases h
  | some q =>
    obtain ⟨i, n⟩ := q
    rw [hco] at h
    obtain ⟨hdg, hn⟩ := G.1 mi pc i n hco
    cases hins : am_ins P mi pc i n L st sh M with
    | none => simp only [hins, reduceCtorEq] at h
    | some a =>
      simp only [hins] at h
      rcases a with r0 | ⟨pc', L', st', sh1, M1⟩ | ⟨mj, as, rest⟩
      · cases h
        have ho := am_ins_oth hins (fun q e => by cases e)
        obtain ⟨rfl, rfl, rfl, hr⟩ := am_oth_ret (X := X) ho hdg hn
        exact am_Go.ret hr
      · exact am_Go.nx (am_ins_nx G hins hdg hn) (hK _ _ _ _ _ _ _ _ _ h)
      · have ho := am_ins_oth hins (fun q e => by cases e)
        obtain ⟨rfl, ix, ik, hi, hcal⟩ := am_oth_call ho hn
        dsimp only at h
        cases hk : K mj 0 (am_ent (P.2.2.2.2.2.1 mj) as) [] sh M with
        | none => rw [hk] at h; cases h
        | some w =>
          obtain ⟨rv, sh1, M1⟩ := w
          rw [hk] at h
          exact am_Go.call G hi hcal hdg (hK _ _ _ _ _ _ _ _ _ hk) (hK _ _ _ _ _ _ _ _ _ h)
theorem am_sound_run (G : am_G P X cl) : ∀ f, am_Sd P X D cl ra A l (am_run P f)
  | 0 => fun _ _ _ _ _ _ _ _ _ h => by cases h
  | f + 1 => am_sound_step G (am_sound_run G f)
/-- THE SMALL MACHINE IS SOUND -/
theorem am_sound (G : am_G P X cl) {mi pc : Nat} {L : List (Option Value)} {st : List Value} {sh sh' : List am_C} {M M' : am_M} {r : Option Value} (h : am_ev P mi pc L st sh M (r, sh', M')) : am_Go P X D cl ra A l mi pc L st sh M r sh' M' := by
  obtain ⟨f, h⟩ := h
  exact am_sound_run G f mi pc L st sh M r sh' M' h
end AMU
