/-! The small machine is sound: one instruction -/
section AMS
variable {P : am_T} {X : am_X} {D : va_G} {cl : List vw_C} {ra : Nat → Nat} {A : Nat → Prop} {l : Launch}
/-- a step from (pc, L, st, sh, M) to (pc', L', st', sh', M') of the small machine is one of the real machine -/
def am_Nx (P : am_T) (X : am_X) (D : va_G) (cl : List vw_C) (ra : Nat → Nat) (A : Nat → Prop) (l : Launch) (mi pc : Nat) (L : List (Option Value)) (st : List Value) (sh : List am_C) (M : am_M) (pc' : Nat) (L' : List (Option Value)) (st' : List Value) (sh' : List am_C) (M' : am_M) : Prop :=
  (sh.length ≤ sh'.length ∧ am_sz sh ≤ am_sz sh') ∧
  ∀ (p : Program) (e : Env) (R : Room) (s : State) (m : MethodId) (args : Array Value) (below : List Frame) (meth : Method) (c : Code) (H : Heap) (locs : List Loc) (cells slots : Nat) (Q : State → Prop) (ls : Array Slot) (ws : va_W) (tys : List (ClassId × FieldType)),
    am_F P X mi p R s m args meth c → am_E P X ra A s s.heap → am_Wo D cl ra A s H locs ws tys sh M → am_L ra ws (P.2.2.2.2.2.1 mi) L ls → (∀ v ∈ st, am_ok ws.length v) → cells + (sh'.length - sh.length) ≤ R.cells → slots + (am_sz sh' - am_sz sh) ≤ R.slots →
    (∀ (ws' : va_W) (tys' : List (ClassId × FieldType)) (H' : Heap) (locs' : List Loc) (ls' : Array Slot), am_Wo D cl ra A s H' locs' ws' tys' sh' M' → am_ex ra ws ws' → am_L ra ws' (P.2.2.2.2.2.1 mi) L' ls' → (∀ v ∈ st', am_ok ws'.length v) → W p l e R s m args below meth c H' locs' (cells + (sh'.length - sh.length)) (slots + (am_sz sh' - am_sz sh)) Q (F0 m pc' ls' (st'.map (am_tv ra ws')))) →
    W p l e R s m args below meth c H locs cells slots Q (F0 m pc ls (st.map (am_tv ra ws)))
theorem am_len1 {n k : Nat} (hk : k ≠ 0) (hn : k = 0 ∨ n = k) : n = k := by omega
/-- an instruction that changes neither cells nor memory -/
theorem am_Nx.same {mi pc pc' : Nat} {L L' : List (Option Value)} {st st' : List Value} {sh : List am_C} {M : am_M}
    (h : ∀ (p : Program) (e : Env) (R : Room) (s : State) (m : MethodId) (args : Array Value) (below : List Frame) (meth : Method) (c : Code) (H : Heap) (locs : List Loc) (cells slots : Nat) (Q : State → Prop) (ls : Array Slot) (ws : va_W) (tys : List (ClassId × FieldType)),
      am_F P X mi p R s m args meth c → am_E P X ra A s s.heap → am_Wo D cl ra A s H locs ws tys sh M → am_L ra ws (P.2.2.2.2.2.1 mi) L ls → (∀ v ∈ st, am_ok ws.length v) →
      (∀ ls' : Array Slot, am_L ra ws (P.2.2.2.2.2.1 mi) L' ls' → (∀ v ∈ st', am_ok ws.length v) → W p l e R s m args below meth c H locs cells slots Q (F0 m pc' ls' (st'.map (am_tv ra ws)))) → W p l e R s m args below meth c H locs cells slots Q (F0 m pc ls (st.map (am_tv ra ws)))) : am_Nx P X D cl ra A l mi pc L st sh M pc' L' st' sh M := by
  refine ⟨⟨Nat.le_refl _, Nat.le_refl _⟩, fun p e R s m args below meth c H locs cells slots Q ls ws tys hF hE hO hL hst _ _ kk => ?_⟩
  refine h p e R s m args below meth c H locs cells slots Q ls ws tys hF hE hO hL hst (fun ls' hL' hst' => ?_)
  have := kk ws tys H locs ls' hO (am_ex.rf (by rw [hO.1.1]; exact hO.1.2.1)) hL' hst'
  rwa [Nat.sub_self, Nat.sub_self, Nat.add_zero, Nat.add_zero] at this
/-- an instruction that changes the memory, or a cell, but makes none -/
theorem am_Nx.wr {mi pc pc' : Nat} {L : List (Option Value)} {st st' : List Value} {sh sh' : List am_C} {M M' : am_M} (hlen : sh'.length = sh.length) (hsz : am_sz sh' = am_sz sh)
    (h : ∀ (p : Program) (e : Env) (R : Room) (s : State) (m : MethodId) (args : Array Value) (below : List Frame) (meth : Method) (c : Code) (H : Heap) (locs : List Loc) (cells slots : Nat) (Q : State → Prop) (ls : Array Slot) (ws : va_W) (tys : List (ClassId × FieldType)),
      am_F P X mi p R s m args meth c → am_E P X ra A s s.heap → am_Wo D cl ra A s H locs ws tys sh M → am_L ra ws (P.2.2.2.2.2.1 mi) L ls → (∀ v ∈ st, am_ok ws.length v) →
      (∀ (ws' : va_W) (H' : Heap) (locs' : List Loc), am_Wo D cl ra A s H' locs' ws' tys sh' M' → am_ex ra ws ws' → (∀ v ∈ st', am_ok ws.length v) ∧ W p l e R s m args below meth c H' locs' cells slots Q (F0 m pc' ls (st'.map (am_tv ra ws)))) → W p l e R s m args below meth c H locs cells slots Q (F0 m pc ls (st.map (am_tv ra ws)))) : True := trivial
theorem am_hp_get (G : am_G P X cl) {mi pc n ix : Nat} {L : List (Option Value)} {st st' : List Value} {sh sh' : List am_C} {M M' : am_M} (h : am_hp P mi (.getfield ix) st sh M = some (st', sh', M')) (hdg : decode (X.2.2.1 mi) pc = .ok (.getfield ix, n)) (hn : am_len (.getfield ix) = 0 ∨ n = am_len (.getfield ix)) : am_Nx P X D cl ra A l mi pc L st sh M (pc + n) L st' sh' M' := by
  have hn : n = 3 := am_len1 (k := 3) (by decide) hn
  subst hn
  simp only [am_hp] at h
  split at h
  case h_2 => cases h
  case h_1 q1 q2 ci k z u a r hlk =>
  split at h
  case h_2 => cases h
  case h_1 q3 cj fs hsh =>
  rw [am_nth_eq] at hsh
  by_cases hc : cj = ci
  case neg => rw [if_neg hc] at h; cases h
  subst hc
  rw [if_pos rfl] at h
  split at h
  case h_3 => cases h
  case h_1 hfs =>
    rw [am_nth_eq] at hfs
    cases h
    refine am_Nx.same (fun p e R s m args below meth c H locs cells slots Q ls ws tys hF hE hO hL hst kk => ?_)
    exact (am_h_get G hF hE hO hlk hsh hfs hdg (kk ls hL (fun v hv => by
      rcases List.mem_cons.mp hv with rfl | hv
      · trivial
      · exact hst v (List.mem_cons_of_mem _ hv)))).2
  case h_2 v hfs =>
    rw [am_nth_eq] at hfs
    cases h
    refine am_Nx.same (fun p e R s m args below meth c H locs cells slots Q ls ws tys hF hE hO hL hst kk => ?_)
    have hv : am_ok ws.length v := by
      obtain ⟨a', e', h1, vs, -, -, -, h5⟩ := hO.1.2.2 a _ hsh
      exact (h5 k v hfs).2
    exact (am_h_get G hF hE hO hlk hsh hfs hdg (kk ls hL (fun w hw => by
      rcases List.mem_cons.mp hw with rfl | hw
      · exact hv
      · exact hst w (List.mem_cons_of_mem _ hw)))).2
end AMS
