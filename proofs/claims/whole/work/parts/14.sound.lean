/-! The small machine is sound: one instruction -/
section AMS
variable {P : am_T} {X : am_X} {D : va_G} {cl : List vw_C} {ra : Nat → Nat} {A : Nat → Prop} {l : Launch}
/-- a step from (pc, L, st, sh, M) to (pc', L', st', sh', M') of the small machine is one of the real machine -/
def am_Nx (P : am_T) (X : am_X) (D : va_G) (cl : List vw_C) (ra : Nat → Nat) (A : Nat → Prop) (l : Launch) (mi pc : Nat) (L : List (Option Value)) (st : List Value) (sh : List am_C) (M : am_M) (pc' : Nat) (L' : List (Option Value)) (st' : List Value) (sh' : List am_C) (M' : am_M) : Prop :=
  (sh.length ≤ sh'.length ∧ am_sz sh ≤ am_sz sh') ∧
  ∀ (p : Program) (e : Env) (R : Room) (s : State) (m : MethodId) (args : Array Value) (below : List Frame) (meth : Method) (c : Code) (H : Heap) (locs : List Loc) (cells slots : Nat) (Q : State → Prop) (ls : Array Slot) (ws : va_W) (tys : List (ClassId × FieldType)),
    am_F P X mi p R s m args meth c → am_E P X ra A s s.heap → am_Wo D cl ra A s H locs ws tys sh M → am_L ra ws (P.2.2.2.2.2.1 mi) L ls → (∀ v ∈ st, am_ok ws.length v) → cells + (sh'.length - sh.length) ≤ R.cells → slots + (am_sz sh' - am_sz sh) ≤ R.slots →
    (∀ (ws' : va_W) (tys' : List (ClassId × FieldType)) (H' : Heap) (locs' : List Loc) (ls' : Array Slot), am_Wo D cl ra A s H' locs' ws' tys' sh' M' → am_ex ra ws ws' → am_L ra ws' (P.2.2.2.2.2.1 mi) L' ls' → (∀ v ∈ st', am_ok ws'.length v) → W p l e R s m args below meth c H' locs' (cells + (sh'.length - sh.length)) (slots + (am_sz sh' - am_sz sh)) Q (F0 m pc' ls' (st'.map (am_tv ra ws')))) →
    W p l e R s m args below meth c H locs cells slots Q (F0 m pc ls (st.map (am_tv ra ws)))
theorem am_len1 {n k : Nat} (hk : k ≠ 0) (hn : k = 0 ∨ n = k) : n = k := by omega
/-- an instruction that changes neither cells nor memory -/
theorem am_Nx.same {mi pc pc' : Nat} {L L' : List (Option Value)} {st st' : List Value} {sh : List am_C} {M : am_M}
    (h : ∀ (p : Program) (e : Env) (R : Room) (s : State) (m : MethodId) (args : Array Value) (below : List Frame) (meth : Method) (c : Code) (H : Heap) (locs : List Loc) (cells slots : Nat) (Q : State → Prop) (ls : Array Slot) (ws : va_W) (tys : List (ClassId × FieldType)),
      am_F P X mi p R s m args meth c → am_E P X ra A s s.heap → am_Wo D cl ra A s H locs ws tys sh M → am_L ra ws (P.2.2.2.2.2.1 mi) L ls → (∀ v ∈ st, am_ok ws.length v) →
      (∀ ls' : Array Slot, am_L ra ws (P.2.2.2.2.2.1 mi) L' ls' → (∀ v ∈ st', am_ok ws.length v) → W p l e R s m args below meth c H locs cells slots Q (F0 m pc' ls' (st'.map (am_tv ra ws)))) → W p l e R s m args below meth c H locs cells slots Q (F0 m pc ls (st.map (am_tv ra ws)))) : am_Nx P X D cl ra A l mi pc L st sh M pc' L' st' sh M := by
  refine ⟨⟨Nat.le_refl _, Nat.le_refl _⟩, fun p e R s m args below meth c H locs cells slots Q ls ws tys hF hE hO hL hst _ _ kk => ?_⟩
  refine h p e R s m args below meth c H locs cells slots Q ls ws tys hF hE hO hL hst (fun ls' hL' hst' => ?_)
  have := kk ws tys H locs ls' hO (am_ex.rf (by rw [hO.1.1]; exact hO.1.2.1)) hL' hst'
  rwa [Nat.sub_self, Nat.sub_self, Nat.add_zero, Nat.add_zero] at this
/-- an instruction that changes the memory, or a cell, but makes none -/
theorem am_Nx.wr {mi pc pc' : Nat} {L : List (Option Value)} {st st' : List Value} {sh sh' : List am_C} {M M' : am_M} (hlen : sh'.length = sh.length) (hsz : am_sz sh' = am_sz sh) (hsub : ∀ v ∈ st', v ∈ st)
    (h : ∀ (p : Program) (e : Env) (R : Room) (s : State) (m : MethodId) (args : Array Value) (below : List Frame) (meth : Method) (c : Code) (H : Heap) (locs : List Loc) (cells slots : Nat) (Q : State → Prop) (ls : Array Slot) (ws : va_W) (tys : List (ClassId × FieldType)),
      am_F P X mi p R s m args meth c → am_E P X ra A s s.heap → am_Wo D cl ra A s H locs ws tys sh M → (∀ v ∈ st, am_ok ws.length v) →
      (∀ (ws' : va_W) (H' : Heap) (locs' : List Loc), am_Wo D cl ra A s H' locs' ws' tys sh' M' → am_ex ra ws ws' → W p l e R s m args below meth c H' locs' cells slots Q (F0 m pc' ls (st'.map (am_tv ra ws)))) → W p l e R s m args below meth c H locs cells slots Q (F0 m pc ls (st.map (am_tv ra ws)))) : am_Nx P X D cl ra A l mi pc L st sh M pc' L st' sh' M' := by
  refine ⟨⟨by rw [hlen]; exact Nat.le_refl _, by rw [hsz]; exact Nat.le_refl _⟩, fun p e R s m args below meth c H locs cells slots Q ls ws tys hF hE hO hL hst _ _ kk => ?_⟩
  refine h p e R s m args below meth c H locs cells slots Q ls ws tys hF hE hO hst (fun ws' H' locs' hO' hx => ?_)
  have hst1 : ∀ v ∈ st', am_ok ws.length v := fun v hv => hst v (hsub v hv)
  have := kk ws' tys H' locs' ls hO' hx (hL.ex hx) (fun v hv => (hst1 v hv).mono hx.1)
  rwa [hlen, hsz, Nat.sub_self, Nat.sub_self, Nat.add_zero, Nat.add_zero, hx.tvs hst1] at this
/-- an instruction that makes a cell -/
theorem am_Nx.mk {mi pc pc' : Nat} {L : List (Option Value)} {st st' : List Value} {sh : List am_C} {c0 : am_C} {M M' : am_M} (hsub : ∀ v ∈ st', v ∈ st)
    (h : ∀ (p : Program) (e : Env) (R : Room) (s : State) (m : MethodId) (args : Array Value) (below : List Frame) (meth : Method) (c : Code) (H : Heap) (locs : List Loc) (cells slots : Nat) (Q : State → Prop) (ls : Array Slot) (ws : va_W) (tys : List (ClassId × FieldType)),
      am_F P X mi p R s m args meth c → am_E P X ra A s s.heap → am_Wo D cl ra A s H locs ws tys sh M → (∀ v ∈ st, am_ok ws.length v) → cells + 1 ≤ R.cells → slots + am_sc c0 ≤ R.slots →
      (∀ (ws' : va_W) (tys' : List (ClassId × FieldType)) (H' : Heap) (locs' : List Loc), am_Wo D cl ra A s H' locs' ws' tys' (sh ++ [c0]) M' → am_ex ra ws ws' → W p l e R s m args below meth c H' locs' (cells + 1) (slots + am_sc c0) Q (F0 m pc' ls (.ref (am_ad ra ws' sh.length) :: st'.map (am_tv ra ws)))) → W p l e R s m args below meth c H locs cells slots Q (F0 m pc ls (st.map (am_tv ra ws)))) : am_Nx P X D cl ra A l mi pc L st sh M pc' L (.ref sh.length :: st') (sh ++ [c0]) M' := by
  have hlen : (sh ++ [c0]).length - sh.length = 1 := by rw [List.length_append]; show sh.length + 1 - sh.length = 1; omega
  have hsz : am_sz (sh ++ [c0]) - am_sz sh = am_sc c0 := by rw [am_sz_push]; omega
  refine ⟨⟨by rw [List.length_append]; omega, by rw [am_sz_push]; omega⟩, fun p e R s m args below meth c H locs cells slots Q ls ws tys hF hE hO hL hst hc hs kk => ?_⟩
  rw [hlen] at hc
  rw [hsz] at hs
  refine h p e R s m args below meth c H locs cells slots Q ls ws tys hF hE hO hst hc hs (fun ws' tys' H' locs' hO' hx => ?_)
  have hst1 : ∀ v ∈ st', am_ok ws.length v := fun v hv => hst v (hsub v hv)
  have := kk ws' tys' H' locs' ls hO' hx (hL.ex hx) (fun v hv => by
    rcases List.mem_cons.mp hv with rfl | hv
    · refine Or.inl ?_
      rw [hO'.1.1, List.length_append]
      exact Nat.lt_succ_self _
    · exact (hst1 v hv).mono hx.1)
  rw [hlen, hsz, List.map_cons, hx.tvs hst1] at this
  exact this
theorem am_hp_get (G : am_G P X cl) {mi pc n ix : Nat} {L : List (Option Value)} {st st' : List Value} {sh sh' : List am_C} {M M' : am_M} (h : am_hp P mi (.getfield ix) st sh M = some (st', sh', M')) (hdg : decode (X.2.2.1 mi) pc = .ok (.getfield ix, n)) (hn : am_len (.getfield ix) = 0 ∨ n = am_len (.getfield ix)) : am_Nx P X D cl ra A l mi pc L st sh M (pc + n) L st' sh' M' := by
  have hn : n = 3 := am_len1 (k := 3) (by decide) hn
  subst hn
  simp only [am_hp] at h
  split at h
  case h_2 => cases h
  case h_1 q1 q2 ci k z u a r hlk =>
  split at h
  case h_2 => cases h
  case h_1 q3 cj fs hsh =>
  rw [am_nth_eq] at hsh
  by_cases hc : cj = ci
  case neg => rw [if_neg hc] at h; cases h
  subst hc
  rw [if_pos rfl] at h
  split at h
  case h_3 => cases h
  case h_1 hfs =>
    rw [am_nth_eq] at hfs
    cases h
    refine am_Nx.same (fun p e R s m args below meth c H locs cells slots Q ls ws tys hF hE hO hL hst kk => ?_)
    exact (am_h_get G hF hE hO hlk hsh hfs hdg (kk ls hL (fun v hv => by
      rcases List.mem_cons.mp hv with rfl | hv
      · trivial
      · exact hst v (List.mem_cons_of_mem _ hv)))).2
  case h_2 v hfs =>
    rw [am_nth_eq] at hfs
    cases h
    refine am_Nx.same (fun p e R s m args below meth c H locs cells slots Q ls ws tys hF hE hO hL hst kk => ?_)
    have hv : am_ok ws.length v := by
      obtain ⟨a', e', h1, vs, -, -, -, h5⟩ := hO.1.2.2 a _ hsh
      exact (h5 k v hfs).2
    exact (am_h_get G hF hE hO hlk hsh hfs hdg (kk ls hL (fun w hw => by
      rcases List.mem_cons.mp hw with rfl | hw
      · exact hv
      · exact hst w (List.mem_cons_of_mem _ hw)))).2
theorem am_hp_put (G : am_G P X cl) {mi pc n ix : Nat} {L : List (Option Value)} {st st' : List Value} {sh sh' : List am_C} {M M' : am_M} (h : am_hp P mi (.putfield ix) st sh M = some (st', sh', M')) (hdg : decode (X.2.2.1 mi) pc = .ok (.putfield ix, n)) (hn : am_len (.putfield ix) = 0 ∨ n = am_len (.putfield ix)) : am_Nx P X D cl ra A l mi pc L st sh M (pc + n) L st' sh' M' := by
  have hn : n = 3 := am_len1 (k := 3) (by decide) hn
  subst hn
  simp only [am_hp] at h
  split at h
  case h_2 => cases h
  case h_1 q1 q2 ci k z v a r hlk =>
  split at h
  case h_2 => cases h
  case h_1 q3 cj fs hsh =>
  rw [am_nth_eq] at hsh
  by_cases hc : cj = ci
  case neg => rw [if_neg hc] at h; cases h
  subst hc
  rw [if_pos rfl] at h
  split at h
  case h_3 => cases h
  case h_1 q4 q5 x hfs =>
    rw [am_nth_eq] at hfs
    split at h
    case h_2 => cases h
    case h_1 q6 ty hty =>
    rw [am_nth_eq] at hty
    by_cases hft : am_fit ty x = true
    case neg => rw [if_neg hft] at h; cases h
    rw [if_pos hft] at h
    cases h
    refine am_Nx.wr rfl rfl (fun v hv => List.mem_cons_of_mem _ (List.mem_cons_of_mem _ hv)) (fun p e R s m args below meth c H locs cells slots Q ls ws tys hF hE hO hst kk => ?_)
    exact am_h_putI G hF hE hO hlk hsh hfs hty hft hdg kk
  case h_2 q4 q5 v0 b hfs =>
    rw [am_nth_eq] at hfs
    split at h
    case h_2 => cases h
    case h_1 q6 ty hty =>
    rw [am_nth_eq] at hty
    by_cases hft : am_rty ty = true
    case neg => rw [if_neg hft] at h; cases h
    rw [if_pos hft] at h
    cases h
    refine am_Nx.wr (List.length_set ..) (am_sz_set sh a _ _ hsh (List.length_set ..)) (fun v hv => List.mem_cons_of_mem _ (List.mem_cons_of_mem _ hv)) (fun p e R s m args below meth c H locs cells slots Q ls ws tys hF hE hO hst kk => ?_)
    exact am_h_putR G hF hE hO hlk hsh hfs hty hft (hst _ List.mem_cons_self) hdg kk
theorem am_hp_gets (G : am_G P X cl) {mi pc n ix : Nat} {L : List (Option Value)} {st st' : List Value} {sh sh' : List am_C} {M M' : am_M} (h : am_hp P mi (.getstatic ix) st sh M = some (st', sh', M')) (hdg : decode (X.2.2.1 mi) pc = .ok (.getstatic ix, n)) (hn : am_len (.getstatic ix) = 0 ∨ n = am_len (.getstatic ix)) : am_Nx P X D cl ra A l mi pc L st sh M (pc + n) L st' sh' M' := by
  have hn : n = 3 := am_len1 (k := 3) (by decide) hn
  subst hn
  simp only [am_hp] at h
  split at h
  case h_2 => cases h
  case h_1 q1 j z u v hlk =>
  cases h
  refine am_Nx.same (fun p e R s m args below meth c H locs cells slots Q ls ws tys hF hE hO hL hst kk => ?_)
  refine am_h_gets G hF hE hO hlk hdg (kk ls hL (fun v hv => ?_))
  rcases List.mem_cons.mp hv with rfl | hv
  · exact Or.inr (Nat.le_add_right _ _)
  · exact hst v hv
theorem am_hp_iald (G : am_G P X cl) {mi pc n ix : Nat} {L : List (Option Value)} {st st' : List Value} {sh sh' : List am_C} {M M' : am_M} (h : am_hp P mi (.iaload) st sh M = some (st', sh', M')) (hdg : decode (X.2.2.1 mi) pc = .ok (.iaload, n)) (hn : am_len (.iaload) = 0 ∨ n = am_len (.iaload)) : am_Nx P X D cl ra A l mi pc L st sh M (pc + n) L st' sh' M' := by
  have hn : n = 1 := am_len1 (k := 1) (by decide) hn
  subst hn
  simp only [am_hp] at h
  split at h
  case h_2 => cases h
  case h_1 q1 x a r =>
  split at h
  case h_2 => cases h
  case h_1 q2 t N g hsh =>
    rw [am_nth_eq] at hsh
    by_cases ht : t = 0
    case neg => rw [if_neg ht] at h; cases h
    rw [if_pos ht] at h
    by_cases hin : x < 0 ∨ N ≤ x.toNatClampNeg
    case pos => rw [if_pos hin] at h; cases h
    rw [if_neg hin] at h
    cases h
    refine am_Nx.same (fun p e R s m args below meth c H locs cells slots Q ls ws tys hF hE hO hL hst kk => ?_)
    exact am_h_iald hF hO hsh ht hin hdg (kk ls hL (fun v hv => by
      rcases List.mem_cons.mp hv with rfl | hv
      · trivial
      · exact hst v (List.mem_cons_of_mem _ (List.mem_cons_of_mem _ hv))))
  case h_3 q2 hsh =>
    rw [am_nth_eq] at hsh
    split at h
    case h_2 => cases h
    case h_1 q3 N f hro =>
    by_cases hin : x < 0 ∨ N ≤ x.toNatClampNeg
    case pos => rw [if_pos hin] at h; cases h
    rw [if_neg hin] at h
    cases h
    refine am_Nx.same (fun p e R s m args below meth c H locs cells slots Q ls ws tys hF hE hO hL hst kk => ?_)
    exact am_h_sld hF hE hO hsh hro hin hdg (kk ls hL (fun v hv => by
      rcases List.mem_cons.mp hv with rfl | hv
      · trivial
      · exact hst v (List.mem_cons_of_mem _ (List.mem_cons_of_mem _ hv))))
theorem am_hp_bald (G : am_G P X cl) {mi pc n ix : Nat} {L : List (Option Value)} {st st' : List Value} {sh sh' : List am_C} {M M' : am_M} (h : am_hp P mi (.baload) st sh M = some (st', sh', M')) (hdg : decode (X.2.2.1 mi) pc = .ok (.baload, n)) (hn : am_len (.baload) = 0 ∨ n = am_len (.baload)) : am_Nx P X D cl ra A l mi pc L st sh M (pc + n) L st' sh' M' := by
  have hn : n = 1 := am_len1 (k := 1) (by decide) hn
  subst hn
  simp only [am_hp] at h
  split at h
  case h_2 => cases h
  case h_1 q1 x a r =>
  split at h
  case h_2 => cases h
  case h_1 q2 t N g hsh =>
  rw [am_nth_eq] at hsh
  by_cases ht : t = 1
  case neg => rw [if_neg ht] at h; cases h
  rw [if_pos ht] at h
  by_cases hin : x < 0 ∨ N ≤ x.toNatClampNeg
  case pos => rw [if_pos hin] at h; cases h
  rw [if_neg hin] at h
  cases h
  refine am_Nx.same (fun p e R s m args below meth c H locs cells slots Q ls ws tys hF hE hO hL hst kk => ?_)
  exact am_h_bald hF hO hsh ht hin hdg (kk ls hL (fun v hv => by
      rcases List.mem_cons.mp hv with rfl | hv
      · trivial
      · exact hst v (List.mem_cons_of_mem _ (List.mem_cons_of_mem _ hv))))
theorem am_hp_aald (G : am_G P X cl) {mi pc n ix : Nat} {L : List (Option Value)} {st st' : List Value} {sh sh' : List am_C} {M M' : am_M} (h : am_hp P mi (.aaload) st sh M = some (st', sh', M')) (hdg : decode (X.2.2.1 mi) pc = .ok (.aaload, n)) (hn : am_len (.aaload) = 0 ∨ n = am_len (.aaload)) : am_Nx P X D cl ra A l mi pc L st sh M (pc + n) L st' sh' M' := by
  have hn : n = 1 := am_len1 (k := 1) (by decide) hn
  subst hn
  simp only [am_hp] at h
  split at h
  case h_2 => cases h
  case h_1 q1 x a r =>
  split at h
  case h_2 => cases h
  case h_1 q2 t N g hsh =>
  rw [am_nth_eq] at hsh
  by_cases ht : 2 ≤ t
  case neg => rw [if_neg ht] at h; cases h
  rw [if_pos ht] at h
  by_cases hin : x < 0 ∨ N ≤ x.toNatClampNeg
  case pos => rw [if_pos hin] at h; cases h
  rw [if_neg hin] at h
  split at h
  case h_2 => cases h
  case h_1 q3 b hg =>
  cases h
  refine am_Nx.same (fun p e R s m args below meth c H locs cells slots Q ls ws tys hF hE hO hL hst kk => ?_)
  have hb : am_ok ws.length (.ref b) := by
    obtain ⟨a', e', h1, cA, t0, h2⟩ := hO.1.2.2 a _ hsh
    rcases h2 with ⟨h2, -, -⟩ | ⟨h2, -, -⟩ | ⟨ci, r, h2, h3, h4, -, h5⟩
    · dsimp only at h2; omega
    · dsimp only at h2; omega
    · exact Or.inl (h5 _ b hg)
  exact (am_h_aald hF hO hsh ht hin hg hdg (kk ls hL (fun v hv => by
    rcases List.mem_cons.mp hv with rfl | hv
    · exact hb
    · exact hst v (List.mem_cons_of_mem _ (List.mem_cons_of_mem _ hv))))).2
theorem am_hp_iast (G : am_G P X cl) {mi pc n ix : Nat} {L : List (Option Value)} {st st' : List Value} {sh sh' : List am_C} {M M' : am_M} (h : am_hp P mi (.iastore) st sh M = some (st', sh', M')) (hdg : decode (X.2.2.1 mi) pc = .ok (.iastore, n)) (hn : am_len (.iastore) = 0 ∨ n = am_len (.iastore)) : am_Nx P X D cl ra A l mi pc L st sh M (pc + n) L st' sh' M' := by
  have hn : n = 1 := am_len1 (k := 1) (by decide) hn
  subst hn
  simp only [am_hp] at h
  split at h
  case h_2 => cases h
  case h_1 q1 v x a r =>
  split at h
  case h_2 => cases h
  case h_1 q2 t N g hsh =>
  rw [am_nth_eq] at hsh
  by_cases ht : t = 0
  case neg => rw [if_neg ht] at h; cases h
  rw [if_pos ht] at h
  by_cases hin : x < 0 ∨ N ≤ x.toNatClampNeg
  case pos => rw [if_pos hin] at h; cases h
  rw [if_neg hin] at h
  cases h
  refine am_Nx.wr rfl rfl (fun v hv => List.mem_cons_of_mem _ (List.mem_cons_of_mem _ (List.mem_cons_of_mem _ hv))) (fun p e R s m args below meth c H locs cells slots Q ls ws tys hF hE hO hst kk => ?_)
  exact am_h_iast hF hO hsh ht hin hdg kk
theorem am_hp_bast (G : am_G P X cl) {mi pc n ix : Nat} {L : List (Option Value)} {st st' : List Value} {sh sh' : List am_C} {M M' : am_M} (h : am_hp P mi (.bastore) st sh M = some (st', sh', M')) (hdg : decode (X.2.2.1 mi) pc = .ok (.bastore, n)) (hn : am_len (.bastore) = 0 ∨ n = am_len (.bastore)) : am_Nx P X D cl ra A l mi pc L st sh M (pc + n) L st' sh' M' := by
  have hn : n = 1 := am_len1 (k := 1) (by decide) hn
  subst hn
  simp only [am_hp] at h
  split at h
  case h_2 => cases h
  case h_1 q1 v x a r =>
  split at h
  case h_2 => cases h
  case h_1 q2 t N g hsh =>
  rw [am_nth_eq] at hsh
  by_cases ht : t = 1
  case neg => rw [if_neg ht] at h; cases h
  rw [if_pos ht] at h
  by_cases hin : x < 0 ∨ N ≤ x.toNatClampNeg
  case pos => rw [if_pos hin] at h; cases h
  rw [if_neg hin] at h
  cases h
  refine am_Nx.wr rfl rfl (fun v hv => List.mem_cons_of_mem _ (List.mem_cons_of_mem _ (List.mem_cons_of_mem _ hv))) (fun p e R s m args below meth c H locs cells slots Q ls ws tys hF hE hO hst kk => ?_)
  exact am_h_bast hF hO hsh ht hin hdg kk
theorem am_hp_aast (G : am_G P X cl) {mi pc n ix : Nat} {L : List (Option Value)} {st st' : List Value} {sh sh' : List am_C} {M M' : am_M} (h : am_hp P mi (.aastore) st sh M = some (st', sh', M')) (hdg : decode (X.2.2.1 mi) pc = .ok (.aastore, n)) (hn : am_len (.aastore) = 0 ∨ n = am_len (.aastore)) : am_Nx P X D cl ra A l mi pc L st sh M (pc + n) L st' sh' M' := by
  have hn : n = 1 := am_len1 (k := 1) (by decide) hn
  subst hn
  simp only [am_hp] at h
  split at h
  case h_2 => cases h
  case h_1 q1 b x a r =>
  split at h
  case h_2 => cases h
  case h_1 q2 q3 t N g ci fs hsh hsb =>
  rw [am_nth_eq] at hsh hsb
  by_cases ht : t = ci + 2
  case neg => rw [if_neg ht] at h; cases h
  rw [if_pos ht] at h
  by_cases hin : x < 0 ∨ N ≤ x.toNatClampNeg
  case pos => rw [if_pos hin] at h; cases h
  rw [if_neg hin] at h
  cases h
  refine am_Nx.wr (List.length_set ..) (am_sz_set sh a _ _ hsh rfl) (fun v hv => List.mem_cons_of_mem _ (List.mem_cons_of_mem _ (List.mem_cons_of_mem _ hv))) (fun p e R s m args below meth c H locs cells slots Q ls ws tys hF hE hO hst kk => ?_)
  exact am_h_aast hF hO hsh hsb ht hin hdg kk
theorem am_hp_alen (G : am_G P X cl) {mi pc n ix : Nat} {L : List (Option Value)} {st st' : List Value} {sh sh' : List am_C} {M M' : am_M} (h : am_hp P mi (.arraylength) st sh M = some (st', sh', M')) (hdg : decode (X.2.2.1 mi) pc = .ok (.arraylength, n)) (hn : am_len (.arraylength) = 0 ∨ n = am_len (.arraylength)) : am_Nx P X D cl ra A l mi pc L st sh M (pc + n) L st' sh' M' := by
  have hn : n = 1 := am_len1 (k := 1) (by decide) hn
  subst hn
  simp only [am_hp] at h
  split at h
  case h_2 => cases h
  case h_1 q1 a r =>
  split at h
  case h_2 => cases h
  case h_1 q2 t N g hsh =>
    rw [am_nth_eq] at hsh
    cases h
    refine am_Nx.same (fun p e R s m args below meth c H locs cells slots Q ls ws tys hF hE hO hL hst kk => ?_)
    exact am_h_alen hF hO hsh hdg (kk ls hL (fun v hv => by
      rcases List.mem_cons.mp hv with rfl | hv
      · trivial
      · exact hst v (List.mem_cons_of_mem _ hv)))
  case h_3 q2 hsh =>
    rw [am_nth_eq] at hsh
    split at h
    case h_2 => cases h
    case h_1 q3 N f hro =>
    cases h
    refine am_Nx.same (fun p e R s m args below meth c H locs cells slots Q ls ws tys hF hE hO hL hst kk => ?_)
    exact am_h_slen hF hE hO hsh hro hdg (kk ls hL (fun v hv => by
      rcases List.mem_cons.mp hv with rfl | hv
      · trivial
      · exact hst v (List.mem_cons_of_mem _ hv)))
theorem am_hp_newa (G : am_G P X cl) {at_ : Jvm.ClassFile.ArrayType} {mi pc n ix : Nat} {L : List (Option Value)} {st st' : List Value} {sh sh' : List am_C} {M M' : am_M} (h : am_hp P mi (.newarray at_) st sh M = some (st', sh', M')) (hdg : decode (X.2.2.1 mi) pc = .ok (.newarray at_, n)) (hn : am_len (.newarray at_) = 0 ∨ n = am_len (.newarray at_)) : am_Nx P X D cl ra A l mi pc L st sh M (pc + n) L st' sh' M' := by
  have hn : n = 2 := am_len1 (k := 2) (by decide) hn
  subst hn
  simp only [am_hp] at h
  split at h
  case h_3 => cases h
  case h_1 q1 x r =>
    by_cases hin : x < 0 ∨ 100000 ≤ x.toNatClampNeg ∨ 1048576 ≤ sh.length + 1
    case pos => rw [if_pos hin] at h; cases h
    rw [if_neg hin] at h
    cases h
    refine am_Nx.mk (fun v hv => List.mem_cons_of_mem _ hv) (fun p e R s m args below meth c H locs cells slots Q ls ws tys hF hE hO hst hc hs kk => ?_)
    exact am_h_newI (Or.inl ⟨rfl, rfl⟩) G hF hO hin hc hs hdg kk
  case h_2 q1 x r =>
    by_cases hin : x < 0 ∨ 100000 ≤ x.toNatClampNeg ∨ 1048576 ≤ sh.length + 1
    case pos => rw [if_pos hin] at h; cases h
    rw [if_neg hin] at h
    cases h
    refine am_Nx.mk (fun v hv => List.mem_cons_of_mem _ hv) (fun p e R s m args below meth c H locs cells slots Q ls ws tys hF hE hO hst hc hs kk => ?_)
    exact am_h_newI (Or.inr ⟨rfl, rfl⟩) G hF hO hin hc hs hdg kk
theorem am_hp_newr (G : am_G P X cl) {mi pc n ix : Nat} {L : List (Option Value)} {st st' : List Value} {sh sh' : List am_C} {M M' : am_M} (h : am_hp P mi (.anewarray ix) st sh M = some (st', sh', M')) (hdg : decode (X.2.2.1 mi) pc = .ok (.anewarray ix, n)) (hn : am_len (.anewarray ix) = 0 ∨ n = am_len (.anewarray ix)) : am_Nx P X D cl ra A l mi pc L st sh M (pc + n) L st' sh' M' := by
  have hn : n = 3 := am_len1 (k := 3) (by decide) hn
  subst hn
  simp only [am_hp] at h
  split at h
  case h_2 => cases h
  case h_1 q1 q2 x r ci z u v hlk =>
  by_cases hin : x < 0 ∨ 100000 ≤ x.toNatClampNeg ∨ 1048576 ≤ sh.length + 1
  case pos => rw [if_pos hin] at h; cases h
  rw [if_neg hin] at h
  cases h
  refine am_Nx.mk (fun v hv => List.mem_cons_of_mem _ hv) (fun p e R s m args below meth c H locs cells slots Q ls ws tys hF hE hO hst hc hs kk => ?_)
  exact am_h_newR G hF hE hO hlk hin hc hs hdg kk
theorem am_hp_newo (G : am_G P X cl) {mi pc n ix : Nat} {L : List (Option Value)} {st st' : List Value} {sh sh' : List am_C} {M M' : am_M} (h : am_hp P mi (.new ix) st sh M = some (st', sh', M')) (hdg : decode (X.2.2.1 mi) pc = .ok (.new ix, n)) (hn : am_len (.new ix) = 0 ∨ n = am_len (.new ix)) : am_Nx P X D cl ra A l mi pc L st sh M (pc + n) L st' sh' M' := by
  have hn : n = 3 := am_len1 (k := 3) (by decide) hn
  subst hn
  simp only [am_hp] at h
  split at h
  case h_2 => cases h
  case h_1 q1 ci z u v hlk =>
  by_cases hin : 1048576 ≤ sh.length + 1
  case pos => rw [if_pos hin] at h; cases h
  rw [if_neg hin] at h
  cases h
  refine am_Nx.mk (fun v hv => hv) (fun p e R s m args below meth c H locs cells slots Q ls ws tys hF hE hO hst hc hs kk => ?_)
  have hcs : am_sc (.inl (ci, (P.2.2.2.1 ci).map am_new)) = (P.2.2.2.1 ci).length := by simp [am_sc]
  rw [hcs] at hs kk
  exact am_h_newO G hF hO hlk hin hc hs hdg (fun ws' H' locs' => kk ws' tys H' locs')
theorem am_hp_ok (G : am_G P X cl) {i : am_I} {mi pc n ix : Nat} {L : List (Option Value)} {st st' : List Value} {sh sh' : List am_C} {M M' : am_M} (h : am_hp P mi i st sh M = some (st', sh', M')) (hdg : decode (X.2.2.1 mi) pc = .ok (i, n)) (hn : am_len i = 0 ∨ n = am_len i) : am_Nx P X D cl ra A l mi pc L st sh M (pc + n) L st' sh' M' := by
  cases i
  case getfield ix => exact am_hp_get G h hdg hn
  case putfield ix => exact am_hp_put G h hdg hn
  case getstatic ix => exact am_hp_gets G h hdg hn
  case iaload => exact am_hp_iald (ix := 0) G h hdg hn
  case baload => exact am_hp_bald (ix := 0) G h hdg hn
  case aaload => exact am_hp_aald (ix := 0) G h hdg hn
  case iastore => exact am_hp_iast (ix := 0) G h hdg hn
  case bastore => exact am_hp_bast (ix := 0) G h hdg hn
  case aastore => exact am_hp_aast (ix := 0) G h hdg hn
  case arraylength => exact am_hp_alen (ix := 0) G h hdg hn
  case newarray at_ => exact am_hp_newa (ix := 0) G h hdg hn
  case anewarray ix => exact am_hp_newr G h hdg hn
  case new ix => exact am_hp_newo G h hdg hn
  all_goals (simp only [am_hp, reduceCtorEq] at h)
end AMS
