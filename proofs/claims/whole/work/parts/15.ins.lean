/-! The small machine is sound: the other instructions -/
section AMT
variable {P : am_T} {X : am_X} {D : va_G} {cl : List vw_C} {ra : Nat → Nat} {A : Nat → Prop} {l : Launch}
theorem am_br_ap {α β : Type} (f : α → β) (c : Jvm.ClassFile.Cond) (x y : Int32) (a b : α) : am_br c x y (f a) (f b) = f (am_br c x y a b) := by
  cases c <;> simp only [am_br] <;> split <;> rfl
theorem am_br_pr {α : Type} (f : α → Prop) (c : Jvm.ClassFile.Cond) (x y : Int32) (a b : α) (h : f (am_br c x y a b)) : am_br c x y (f a) (f b) := by
  rw [am_br_ap f]
  exact h
theorem am_cat_sum {ra : Nat → Nat} {ws : va_W} : ∀ (r : List Value), (∀ v ∈ r, am_ok ws.length v) → ((r.map (am_tv ra ws)).map fun v => v.category).sum = r.length
  | [], _ => rfl
  | v :: r, h => by
    rw [List.map_cons, List.map_cons, List.sum_cons, am_cat_sum r (fun w hw => h w (List.mem_cons_of_mem _ hw)), am_tv_cat, (h v List.mem_cons_self).cat, List.length_cons]
    omega
theorem am_cal_nx (G : am_G P X cl) {mi pc ix ik : Nat} {i : am_I} {L L' : List (Option Value)} {st st' : List Value} {sh sh' : List am_C} {M M' : am_M} {pc' : Nat} (hi : (ik = 0 ∧ i = .invokevirtual ix) ∨ (ik = 1 ∧ i = .invokestatic ix) ∨ (ik = 2 ∧ i = .invokespecial ix)) (h : am_cal P mi pc ix ik L st sh M = some (.inr (.inl (pc', L', st', sh', M')))) (hdg : decode (X.2.2.1 mi) pc = .ok (i, 3)) : am_Nx P X D cl ra A l mi pc L st sh M pc' L' st' sh' M' := by
  unfold am_cal at h
  split at h
  case h_7 => cases h
  case h_1 q1 mj na kd ci hlk =>
    exfalso
    split at h
    · cases h
    split at h
    case h_2 => cases h
    case h_1 q2 as r hr =>
    split at h
    · cases h
    · cases h
  case h_2 q1 z u v w hlk =>
    by_cases hk : ik = 2
    case neg => rw [if_pos hk] at h; cases h
    rw [if_neg (fun q => q hk)] at h
    split at h
    case h_2 => cases h
    case h_1 q2 a r =>
    by_cases hr : 8 < r.length
    case pos => rw [if_pos hr] at h; cases h
    rw [if_neg hr] at h
    unfold am_nx at h
    cases h
    obtain ⟨g1, g2, g3, g4, g5⟩ := G.2.2.2.2.2.2.2.2.1 mi ix z u v w hlk
    have hi : i = .invokespecial ix := by
      rcases hi with ⟨e, -⟩ | ⟨e, -⟩ | ⟨-, e⟩
      · omega
      · omega
      · exact e
    subst hi
    refine am_Nx.same (fun p e R s m args below meth c H locs cells slots Q ls ws tys hF hE hO hL hst kk => ?_)
    obtain ⟨hx, hb, hml, -, -, hts, hown, -, hfr, hlo⟩ := hF
    have hst1 : ∀ v ∈ st', am_ok ws.length v := fun v hv => hst v (List.mem_cons_of_mem _ hv)
    refine W.objInit hx hb hown (hts _ g1) (hts _ g2) (hts _ g3) rfl (by rw [hml]; exact hL.1) rfl hdg (Nat.le_trans g4 hfr) ?_ (kk ls hL hst1)
    have h8 : 2 * (F0 m pc ls (st'.map (am_tv ra ws))).monitorRoom + ((st'.map (am_tv ra ws)).map fun v => v.category).sum ≤ 8 := lv_room (by rw [am_cat_sum st' hst1]; omega)
    exact Nat.le_trans (Nat.add_le_add_right h8 12) (Nat.le_trans g5 hlo)
  case h_3 q1 z u v w hlk =>
    by_cases hk : ik = 1
    case neg => rw [if_pos hk] at h; cases h
    rw [if_neg (fun q => q hk)] at h
    split at h
    case h_2 => cases h
    case h_1 q2 n dp a sp b r =>
    split at h
    case h_2 => cases h
    case h_1 q3 q4 ta na ga tb nb gb ha hb0 =>
    rw [am_nth_eq] at ha hb0
    split at h
    · cases h
    rename_i hcond
    simp only [not_or, Classical.not_not] at hcond
    obtain ⟨k1, k2, k3, k4, k5, k6, k7, k8⟩ := hcond
    unfold am_nx at h
    cases h
    obtain ⟨g1, g2, g3, g4, g5, g6⟩ := G.2.2.2.2.2.2.2.2.2.1 mi ix z u v w hlk
    have hi : i = .invokestatic ix := by
      rcases hi with ⟨e, -⟩ | ⟨-, e⟩ | ⟨e, -⟩
      · omega
      · exact e
      · omega
    subst hi
    subst k2
    subst k3
    refine ⟨⟨Nat.le_refl _, Nat.le_refl _⟩, fun p e R s m args below meth c H locs cells slots Q ls ws tys hF hE hO hL hst _ _ kk => ?_⟩
    have hst1 : ∀ v ∈ st', am_ok ws.length v := fun v hv => hst v (by simp [hv])
    obtain ⟨hx, hb, hml, -, -, hts, hown, -, hfr, hlo⟩ := hF
    obtain ⟨hW, hP, hD, hK, hS, hA⟩ := hO
    obtain ⟨a', ea, a1, cA, t0, a2⟩ := hW.2.2 a _ ha
    obtain ⟨b', eb, b1, cB, t1, b2⟩ := hW.2.2 b _ hb0
    rcases a2 with ⟨-, a3, rfl⟩ | ⟨a2, -, -⟩ | ⟨ci, r9, a2, -⟩
    rotate_left
    · dsimp only at a2; omega
    · dsimp only at a2; omega
    rcases b2 with ⟨-, b3, rfl⟩ | ⟨b2, -, -⟩ | ⟨ci, r9, b2, -⟩
    rotate_left
    · dsimp only at b2; omega
    · dsimp only at b2; omega
    show W p l e R s m args below meth c H locs cells slots Q (F0 m pc ls (.int n :: .int dp :: .ref (am_ad ra ws a) :: .int sp :: .ref (am_ad ra ws b) :: st'.map (am_tv ra ws)))
    rw [am_ad_at a1, am_ad_at b1]
    refine va_copyi (D := D) hx hb (by rw [hml]; exact hL.1.symm) hown (hts _ g1) (hts _ g2) (hts _ g3) (hts _ g4) hK hP hD hS b a t1 t0 b1 a1 b3 a3 rfl k4 k5 k6 (Nat.not_lt.mp k7) (Nat.not_lt.mp k8) (fun _ _ => rfl) (Nat.le_trans g5 hfr) ?_ hdg (fun H' locs' q1 q2 q3 => ?_)
    · rw [am_cat_sum st' hst1]
      omega
    obtain ⟨w1, w2⟩ := hW.put (M' := am_set M a (va_cpy (M b) (M a) sp.toNatClampNeg dp.toNatClampNeg n.toNatClampNeg)) (e := .inl (cA, na, .inl (va_cpy (M b) (M a) sp.toNatClampNeg dp.toNatClampNeg n.toNatClampNeg))) ha a1 (by
      rw [am_set_s]
      exact ⟨cA, t0, Or.inl ⟨rfl, a3, rfl⟩⟩) (fun q hq => am_set_n M _ hq)
    have := kk _ tys H' locs' ls ⟨w1, q1, q2, hK, q3, hA⟩ w2 (hL.ex w2) (fun v hv => (hst1 v hv).mono w2.1)
    rwa [Nat.sub_self, Nat.sub_self, Nat.add_zero, Nat.add_zero, w2.tvs hst1] at this
  case h_4 q1 z u v w hlk =>
    by_cases hk : ik = 1
    case neg => rw [if_pos hk] at h; cases h
    rw [if_neg (fun q => q hk)] at h
    split at h
    case h_2 => cases h
    case h_1 q2 y x r =>
    by_cases hr : 8 < r.length
    case pos => rw [if_pos hr] at h; cases h
    rw [if_neg hr] at h
    unfold am_nx at h
    cases h
    obtain ⟨g1, g2, g3, g7, g8, g9⟩ := G.2.2.2.2.2.2.2.2.2.2 mi ix 7 z u v w hlk (by decide) (by decide)
    obtain ⟨k1, k2, k3⟩ := g7 rfl
    have hi : i = .invokestatic ix := by
      rcases hi with ⟨e, -⟩ | ⟨-, e⟩ | ⟨e, -⟩
      · omega
      · exact e
      · omega
    subst hi
    refine ⟨⟨Nat.le_refl _, Nat.le_refl _⟩, fun p e R s m args below meth c H locs cells slots Q ls ws tys hF hE hO hL hst hcc hss kk => ?_⟩
    obtain ⟨hx, hb, hml, -, -, hts, hown, -, hfr, hlo⟩ := hF
    have hst1 : ∀ v ∈ r, am_ok ws.length v := fun v hv => hst v (List.mem_cons_of_mem _ (List.mem_cons_of_mem _ hv))
    rw [Nat.sub_self, Nat.add_zero] at hcc hss
    have key := kk ws tys H locs ls hO (am_ex.rf (by rw [hO.1.1]; exact hO.1.2.1)) hL (fun v hv => by
      rcases List.mem_cons.mp hv with rfl | hv
      · trivial
      · exact hst1 v hv)
    rw [Nat.sub_self, Nat.sub_self, Nat.add_zero, Nat.add_zero] at key
    have h8 : ((r.map (am_tv ra ws)).map fun v => v.category).sum ≤ 8 := by
      rw [am_cat_sum r hst1]
      omega
    exact va_mmax hx hb (by rw [hml]; exact hL.1.symm) hown (hts _ k1) (hts _ k2) (hts _ g1) (hts _ k3) (Nat.le_trans g2 hfr) (by omega) hcc hss hdg key
  case h_5 q1 z u v w hlk =>
    by_cases hk : ik = 1
    case neg => rw [if_pos hk] at h; cases h
    rw [if_neg (fun q => q hk)] at h
    split at h
    case h_2 => cases h
    case h_1 q2 y x r =>
    by_cases hr : 8 < r.length
    case pos => rw [if_pos hr] at h; cases h
    rw [if_neg hr] at h
    unfold am_nx at h
    cases h
    obtain ⟨g1, g2, g3, g7, g8, g9⟩ := G.2.2.2.2.2.2.2.2.2.2 mi ix 8 z u v w hlk (by decide) (by decide)
    obtain ⟨k1, k2, k3⟩ := g8 rfl
    have hi : i = .invokestatic ix := by
      rcases hi with ⟨e, -⟩ | ⟨-, e⟩ | ⟨e, -⟩
      · omega
      · exact e
      · omega
    subst hi
    refine ⟨⟨Nat.le_refl _, Nat.le_refl _⟩, fun p e R s m args below meth c H locs cells slots Q ls ws tys hF hE hO hL hst hcc hss kk => ?_⟩
    obtain ⟨hx, hb, hml, -, -, hts, hown, -, hfr, hlo⟩ := hF
    have hst1 : ∀ v ∈ r, am_ok ws.length v := fun v hv => hst v (List.mem_cons_of_mem _ (List.mem_cons_of_mem _ hv))
    rw [Nat.sub_self, Nat.add_zero] at hcc hss
    have key := kk ws tys H locs ls hO (am_ex.rf (by rw [hO.1.1]; exact hO.1.2.1)) hL (fun v hv => by
      rcases List.mem_cons.mp hv with rfl | hv
      · trivial
      · exact hst1 v hv)
    rw [Nat.sub_self, Nat.sub_self, Nat.add_zero, Nat.add_zero] at key
    have h8 : ((r.map (am_tv ra ws)).map fun v => v.category).sum ≤ 8 := by
      rw [am_cat_sum r hst1]
      omega
    exact va_mmin hx hb (by rw [hml]; exact hL.1.symm) hown (hts _ k1) (hts _ k2) (hts _ g1) (hts _ k3) (Nat.le_trans g2 hfr) (by omega) hcc hss hdg key
  case h_6 q1 z u v w hlk =>
    by_cases hk : ik = 1
    case neg => rw [if_pos hk] at h; cases h
    rw [if_neg (fun q => q hk)] at h
    split at h
    case h_2 => cases h
    case h_1 q2 y x r =>
    by_cases hr : 8 < r.length ∨ ¬ y = 16 ∨ x < 0
    case pos => rw [if_pos hr] at h; cases h
    rw [if_neg hr] at h
    unfold am_nx at h
    cases h
    obtain ⟨g1, g2, g3, g7, g8, g9⟩ := G.2.2.2.2.2.2.2.2.2.2 mi ix 9 z u v w hlk (by decide) (by decide)
    obtain ⟨k1, k2, k3⟩ := g9 rfl
    have hi : i = .invokestatic ix := by
      rcases hi with ⟨e, -⟩ | ⟨-, e⟩ | ⟨e, -⟩
      · omega
      · exact e
      · omega
    subst hi
    refine ⟨⟨Nat.le_refl _, Nat.le_refl _⟩, fun p e R s m args below meth c H locs cells slots Q ls ws tys hF hE hO hL hst hcc hss kk => ?_⟩
    obtain ⟨hx, hb, hml, -, -, hts, hown, -, hfr, hlo⟩ := hF
    have hst1 : ∀ v ∈ r, am_ok ws.length v := fun v hv => hst v (List.mem_cons_of_mem _ (List.mem_cons_of_mem _ hv))
    rw [Nat.sub_self, Nat.add_zero] at hcc hss
    have key := kk ws tys H locs ls hO (am_ex.rf (by rw [hO.1.1]; exact hO.1.2.1)) hL (fun v hv => by
      rcases List.mem_cons.mp hv with rfl | hv
      · trivial
      · exact hst1 v hv)
    rw [Nat.sub_self, Nat.sub_self, Nat.add_zero, Nat.add_zero] at key
    have h8 : ((r.map (am_tv ra ws)).map fun v => v.category).sum ≤ 8 := by
      rw [am_cat_sum r hst1]
      omega
    have hy : y = 16 := Classical.not_not.mp (fun q => hr (Or.inr (Or.inl q)))
    subst hy
    have hx0 : 0 ≤ x := Int32.not_lt.mp (fun q => hr (Or.inr (Or.inr q)))
    exact fm_call hx hb (by rw [hml]; exact hL.1.symm) hown (hts _ k1) (hts _ k2) (hts _ g1) (hts _ k3) (Nat.le_trans g2 hfr) (by omega) hcc hss hx0 hdg key
theorem am_oth_nx (G : am_G P X cl) {mi pc n : Nat} {i : am_I} {L L' : List (Option Value)} {st st' : List Value} {sh sh' : List am_C} {M M' : am_M} {pc' : Nat} (h : am_oth P mi pc i L st sh M = some (.inr (.inl (pc', L', st', sh', M')))) (hdg : decode (X.2.2.1 mi) pc = .ok (i, n)) (hn : am_len i = 0 ∨ n = am_len i) : am_Nx P X D cl ra A l mi pc L st sh M pc' L' st' sh' M' := by
  cases i
  case ifCond cn off =>
    have hn : n = 3 := am_len1 (k := 3) (by decide) hn
    subst hn
    simp only [am_oth] at h
    split at h
    case h_2 => cases h
    case h_1 q1 q2 x r t ht =>
    unfold am_nx at h
    cases h
    refine am_Nx.same (fun p e R s m args below meth c H locs cells slots Q ls ws tys hF hE hO hL hst kk => ?_)
    exact am_w_if1 hF.1 hF.2.1 ht hdg (am_br_pr (fun pc1 => W p l e R s m args below meth c H locs cells slots Q (F0 m pc1 ls (st'.map (am_tv ra ws)))) cn x 0 t (pc + 3) (kk ls hL (fun v hv => hst v (List.mem_cons_of_mem _ hv))))
  case if_icmp cn off =>
    have hn : n = 3 := am_len1 (k := 3) (by decide) hn
    subst hn
    simp only [am_oth] at h
    split at h
    case h_2 => cases h
    case h_1 q1 q2 y x r t ht =>
    unfold am_nx at h
    cases h
    refine am_Nx.same (fun p e R s m args below meth c H locs cells slots Q ls ws tys hF hE hO hL hst kk => ?_)
    exact am_w_if2 hF.1 hF.2.1 ht hdg (am_br_pr (fun pc1 => W p l e R s m args below meth c H locs cells slots Q (F0 m pc1 ls (st'.map (am_tv ra ws)))) cn x y t (pc + 3) (kk ls hL (fun v hv => hst v (List.mem_cons_of_mem _ (List.mem_cons_of_mem _ hv)))))
  case goto off =>
    have hn : n = 3 := am_len1 (k := 3) (by decide) hn
    subst hn
    simp only [am_oth] at h
    split at h
    case h_2 => cases h
    case h_1 q1 t ht =>
    unfold am_nx at h
    cases h
    refine am_Nx.same (fun p e R s m args below meth c H locs cells slots Q ls ws tys hF hE hO hL hst kk => ?_)
    exact lv_goto hF.1 hF.2.1 hdg (am_tg_eq ht) (kk ls hL hst)
  case ineg =>
    have hn : n = 1 := am_len1 (k := 1) (by decide) hn
    subst hn
    simp only [am_oth] at h
    split at h
    case h_2 => cases h
    case h_1 q1 x r =>
    unfold am_nx at h
    cases h
    refine am_Nx.same (fun p e R s m args below meth c H locs cells slots Q ls ws tys hF hE hO hL hst kk => ?_)
    exact lv_ineg hF.1 hF.2.1 hdg (kk ls hL (fun v hv => by
      rcases List.mem_cons.mp hv with rfl | hv
      · trivial
      · exact hst v (List.mem_cons_of_mem _ hv)))
  case iinc j z =>
    have hn : n = 3 := am_len1 (k := 3) (by decide) hn
    subst hn
    simp only [am_oth] at h
    split at h
    case h_2 => cases h
    case h_1 q1 x hg =>
    by_cases hj : j < L.length
    case neg => rw [if_neg hj] at h; cases h
    rw [if_pos hj] at h
    unfold am_nx at h
    cases h
    refine am_Nx.same (fun p e R s m args below meth c H locs cells slots Q ls ws tys hF hE hO hL hst kk => ?_)
    have hmem : (j, Value.int x) ∈ am_pr ra ws 0 L := (am_pr_mem L 0 _).mpr ⟨j, .int x, by
      unfold am_get at hg
      rw [am_nth_eq] at hg
      cases hLj : L[j]? with
      | none => rw [hLj] at hg; cases hg
      | some o => rw [hLj] at hg; cases hg; rfl, by rw [Nat.zero_add]; rfl⟩
    obtain ⟨k, hk⟩ := List.getElem?_of_mem hmem
    exact lv_iinc hF.1 hF.2.1 hdg hL.has hk rfl (by rw [← hL.2.2.1]; exact hj) rfl (fun ls' hl' => kk ls' (hL.store (x := .int (x + Int32.ofInt z)) trivial hl') hst)
  case tableswitch dflt lo hi offs =>
    simp only [am_oth] at h
    split at h
    case h_2 => cases h
    case h_1 q1 x r =>
    split at h
    case h_2 => cases h
    case h_1 q2 t ht =>
    unfold am_nx at h
    cases h
    refine am_Nx.same (fun p e R s m args below meth c H locs cells slots Q ls ws tys hF hE hO hL hst kk => ?_)
    exact am_w_sw hF.1 hF.2.1 ht hdg (kk ls hL (fun v hv => hst v (List.mem_cons_of_mem _ hv)))
  case lookupswitch dflt ps =>
    simp only [am_oth] at h
    split at h
    case h_2 => cases h
    case h_1 q1 x r =>
    split at h
    case h_2 => cases h
    case h_1 q2 t ht =>
    unfold am_nx at h
    cases h
    refine am_Nx.same (fun p e R s m args below meth c H locs cells slots Q ls ws tys hF hE hO hL hst kk => ?_)
    exact am_w_sw hF.1 hF.2.1 ht hdg (kk ls hL (fun v hv => hst v (List.mem_cons_of_mem _ hv)))
  case invokevirtual ix =>
    have hn : n = 3 := am_len1 (k := 3) (by decide) hn
    subst hn
    exact am_cal_nx G (Or.inl ⟨rfl, rfl⟩) h hdg
  case invokestatic ix =>
    have hn : n = 3 := am_len1 (k := 3) (by decide) hn
    subst hn
    exact am_cal_nx G (Or.inr (Or.inl ⟨rfl, rfl⟩)) h hdg
  case invokespecial ix =>
    have hn : n = 3 := am_len1 (k := 3) (by decide) hn
    subst hn
    exact am_cal_nx G (Or.inr (Or.inr ⟨rfl, rfl⟩)) h hdg
  case ireturn =>
    simp only [am_oth] at h
    split at h
    case h_2 => cases h
    case h_1 =>
    split at h
    · cases h
    · cases h
  case areturn =>
    simp only [am_oth] at h
    split at h
    case h_2 => cases h
    case h_1 => cases h
  case return_ =>
    simp only [am_oth] at h
    split at h
    case h_2 => cases h
    case h_1 => cases h
  all_goals (simp only [am_oth, reduceCtorEq] at h)
theorem am_dup_sub {i : am_I} {st st' : List Value} (hg : am_dup i st = some st') : ∀ v ∈ st', v ∈ st := by
  cases i <;> simp only [am_dup, reduceCtorEq] at hg
  case dup =>
    match st, hg with
    | v :: r, hg => cases hg; intro u hu; simp at hu ⊢; exact hu
  case pop =>
    match st, hg with
    | v :: r, hg => cases hg; intro u hu; exact List.mem_cons_of_mem _ hu
  case dup_x1 =>
    match st, hg with
    | v :: w :: r, hg => cases hg; intro u hu; simp at hu ⊢; rcases hu with h | h | h | h <;> simp [h]
  case dup_x2 =>
    match st, hg with
    | v :: w :: x :: r, hg => cases hg; intro u hu; simp at hu ⊢; rcases hu with h | h | h | h | h <;> simp [h]
  case dup2 =>
    match st, hg with
    | v :: w :: r, hg => cases hg; intro u hu; simp at hu ⊢; rcases hu with h | h | h | h | h <;> simp [h]
theorem am_ins_nx (G : am_G P X cl) {mi pc n : Nat} {i : am_I} {L L' : List (Option Value)} {st st' : List Value} {sh sh' : List am_C} {M M' : am_M} {pc' : Nat} (h : am_ins P mi pc i n L st sh M = some (.inr (.inl (pc', L', st', sh', M')))) (hdg : decode (X.2.2.1 mi) pc = .ok (i, n)) (hn : am_len i = 0 ∨ n = am_len i) : am_Nx P X D cl ra A l mi pc L st sh M pc' L' st' sh' M' := by
  unfold am_ins at h
  split at h
  case h_1 q1 g hg =>
    split at h
    case h_2 => cases h
    case h_1 q2 y x r =>
    split at h
    case h_2 => cases h
    case h_1 q3 z hz =>
    unfold am_nx at h
    cases h
    refine am_Nx.same (fun p e R s m args below meth c H locs cells slots Q ls ws tys hF hE hO hL hst kk => ?_)
    exact am_w_bin hF.1 hF.2.1 hg hz hdg hn (kk ls hL (fun v hv => by
      rcases List.mem_cons.mp hv with rfl | hv
      · trivial
      · exact hst v (List.mem_cons_of_mem _ (List.mem_cons_of_mem _ hv))))
  split at h
  case h_1 q2 v hg =>
    unfold am_nx at h
    cases h
    refine am_Nx.same (fun p e R s m args below meth c H locs cells slots Q ls ws tys hF hE hO hL hst kk => ?_)
    have hint : ∃ z, v = .int z := by
      cases i <;> simp only [am_psh, reduceCtorEq, Option.some.injEq] at hg
      · exact ⟨_, hg.symm⟩
      · exact ⟨_, hg.symm⟩
      · split at hg
        · cases hg; exact ⟨_, rfl⟩
        · cases hg
      · exact ⟨_, hg.symm⟩
    obtain ⟨z, rfl⟩ := hint
    exact (am_w_psh hF.1 hF.2.1 hF.2.2.2.2.2.2.1 (fun ix z hz => hF.2.2.2.2.2.1 _ (G.2.2.2.2.1.2.2.2.2 mi ix z hz)) hg hdg hn (kk ls hL (fun v hv => by
      rcases List.mem_cons.mp hv with rfl | hv
      · trivial
      · exact hst v hv))).2
  split at h
  case h_1 q3 j hg =>
    split at h
    case h_2 => cases h
    case h_1 q4 x hx =>
    unfold am_nx at h
    cases h
    refine am_Nx.same (fun p e R s m args below meth c H locs cells slots Q ls ws tys hF hE hO hL hst kk => ?_)
    exact am_w_ldi hF.1 hF.2.1 hg (hL.get hx).1 hdg hn (kk ls hL (fun v hv => by
      rcases List.mem_cons.mp hv with rfl | hv
      · trivial
      · exact hst v hv))
  split at h
  case h_1 q4 j hg =>
    split at h
    case h_2 => cases h
    case h_1 q5 a hx =>
    unfold am_nx at h
    cases h
    refine am_Nx.same (fun p e R s m args below meth c H locs cells slots Q ls ws tys hF hE hO hL hst kk => ?_)
    exact am_w_lda hF.1 hF.2.1 hg (hL.get hx).1 hdg hn (kk ls hL (fun v hv => by
      rcases List.mem_cons.mp hv with rfl | hv
      · exact (hL.get hx).2
      · exact hst v hv))
  split at h
  case h_1 q5 j hg =>
    split at h
    case h_2 => cases h
    case h_1 q6 x r =>
    by_cases hj : j < L.length
    case neg => rw [if_neg hj] at h; cases h
    rw [if_pos hj] at h
    unfold am_nx at h
    cases h
    refine am_Nx.same (fun p e R s m args below meth c H locs cells slots Q ls ws tys hF hE hO hL hst kk => ?_)
    exact am_w_sti hF.1 hF.2.1 hg hL.has (by rw [← hL.2.2.1]; exact hj) hdg hn (fun ls' hl' => kk ls' (hL.store (x := .int x) trivial hl') (fun v hv => hst v (List.mem_cons_of_mem _ hv)))
  split at h
  case h_1 q6 j hg =>
    split at h
    case h_2 => cases h
    case h_1 q7 a r =>
    by_cases hj : j < L.length
    case neg => rw [if_neg hj] at h; cases h
    rw [if_pos hj] at h
    unfold am_nx at h
    cases h
    refine am_Nx.same (fun p e R s m args below meth c H locs cells slots Q ls ws tys hF hE hO hL hst kk => ?_)
    exact am_w_sta hF.1 hF.2.1 hg hL.has (by rw [← hL.2.2.1]; exact hj) hdg hn (fun ls' hl' => kk ls' (hL.store (x := .ref a) (hst _ List.mem_cons_self) hl') (fun v hv => hst v (List.mem_cons_of_mem _ hv)))
  split at h
  case h_1 q7 st1 hg =>
    unfold am_nx at h
    cases h
    refine am_Nx.same (fun p e R s m args below meth c H locs cells slots Q ls ws tys hF hE hO hL hst kk => ?_)
    have hok : ∀ v ∈ st', am_ok ws.length v := fun v hv => hst v (am_dup_sub hg v hv)
    exact (am_w_dup hF.1 hF.2.1 hg hst hdg hn (kk ls hL hok)).2
  split at h
  case h_1 q8 st1 sh1 M1 hg =>
    unfold am_nx at h
    cases h
    exact am_hp_ok (ix := 0) G hg hdg hn
  exact am_oth_nx G h hdg hn
end AMT
