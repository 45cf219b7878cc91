/-! The small machine's rows on the heap -/
section AMH
variable {P : am_T} {X : am_X} {D : va_G} {cl : List vw_C} {ra : Nat → Nat} {A : Nat → Prop}
variable {p : Program} {l : Launch} {e : Env} {R : Room} {s : State} {m : MethodId} {args : Array Value} {below : List Frame} {meth : Method} {c : Code} {H : Heap} {locs : List Loc} {cells slots : Nat} {Q : State → Prop}
variable {mi pc n : Nat} {ls : Array Slot} {rest : List Value} {ws : va_W} {tys : List (ClassId × FieldType)} {sh : List am_C} {M : am_M} {i : am_I}
/-- what lies in a field: an int of the memory, or a reference -/
def am_rd (ra : Nat → Nat) (ws : va_W) (x : Int32) (o : Option Value) : Value := match o with
  | none => .int x
  | some v => am_tv ra ws v
theorem am_h_get {ix ci k z u a : Nat} {fs : List (Option Value)} {o : Option Value} (G : am_G P X cl) (F : am_F P X mi p R s m args meth c) (E : am_E P X ra A s s.heap) (O : am_Wo D cl ra A s H locs ws tys sh M) (hlk : P.2.1 mi ix = some (0, ci, k, z, u)) (hsh : sh[a]? = some (.inl (ci, fs))) (hfs : fs[k]? = some o) (hdg : decode (X.2.2.1 mi) pc = .ok (.getfield ix, 3))
    (kk : W p l e R s m args below meth c H locs cells slots Q (F0 m (pc + 3) ls (am_rd ra ws (M a k) o :: rest))) : (∀ v, o = some v → am_ok ws.length v) ∧ W p l e R s m args below meth c H locs cells slots Q (F0 m pc ls (.ref (am_ad ra ws a) :: rest)) := by
  obtain ⟨hx, hb, -, -, -, hts, hown, -⟩ := F
  obtain ⟨hW, hP, hD, hK, hS, hA⟩ := O
  obtain ⟨a', e', h1, vs, rfl, h3, h4, h5⟩ := hW.2.2 a _ hsh
  obtain ⟨C, T, N, hr, hk, hl, -⟩ := G.2.2.1 mi ix ci k z u hlk
  have hin := (G.2.1 ci C T N hr).2.2.2.1
  rw [am_ad_at h1]
  have hv : vs[k]? = some (am_rd ra ws (M a k) o) := by
    cases o with
    | none => exact h4 k hfs
    | some v => exact (h5 k v hfs).1
  refine ⟨fun v hv => (h5 k v (by rw [hfs, hv])).2, ?_⟩
  rcases hl with hl | ⟨host, hl⟩
  · exact va_get (D := D) hx hb hts hin hown hK hP a h1 hr k hk (hts _ hl) (fun _ h => h) hv hdg kk
  · exact va_getN (D := D) hx hb hts hin hown hK hP a h1 hr k hk (va_Nw.use rfl (E.1 _ hl)) (fun _ h => h) hv hdg kk
theorem am_fit_n {ty : FieldType} {x : Int32} (h : am_fit ty x = true) : narrow ty (.int x) = .int x ∧ fits ty (.int x) = true := by
  cases ty <;> simp only [am_fit, Bool.false_eq_true] at h
  · exact ⟨rfl, rfl⟩
  · have : x = 0 ∨ x = 1 := by simpa using h
    rcases this with rfl | rfl <;> exact ⟨by decide, by decide⟩
theorem am_h_put {ix ci k z a : Nat} {fs : List (Option Value)} {o : Option Value} {v : Value} {ty : FieldType} (G : am_G P X cl) (F : am_F P X mi p R s m args meth c) (E : am_E P X ra A s s.heap) (O : am_Wo D cl ra A s H locs ws tys sh M) (hlk : P.2.1 mi ix = some (0, ci, k, z, 0)) (hsh : sh[a]? = some (.inl (ci, fs))) (hfs : fs[k]? = some o) (hty : (P.2.2.2.1 ci)[k]? = some ty)
    (hn : narrow ty v = v) (hf : fits ty v = true) (hdg : decode (X.2.2.1 mi) pc = .ok (.putfield ix, 3))
    (kk : ∀ (vs : List Value) (H' : Heap) (locs' : List Loc), ws[a]? = some (am_ad ra ws a, .inr (ci, vs)) → am_ce cl ra ws tys (M a) (.inl (ci, fs)) (.inr (ci, vs)) → va_P D cl (ws.set a (am_ad ra ws a, .inr (ci, vs.set k v))) H' → va_D A (ws.set a (am_ad ra ws a, .inr (ci, vs.set k v))) → va_S A s.heap H' locs' → W p l e R s m args below meth c H' locs' cells slots Q (F0 m (pc + 3) ls rest)) :
    W p l e R s m args below meth c H locs cells slots Q (F0 m pc ls (v :: .ref (am_ad ra ws a) :: rest)) := by
  obtain ⟨hx, hb, -, -, -, hts, hown, hnm, -⟩ := F
  obtain ⟨hW, hP, hD, hK, hS, hA⟩ := O
  obtain ⟨a', e', h1, hce⟩ := hW.2.2 a _ hsh
  obtain ⟨vs, rfl, h3, h4, h5⟩ := id hce
  obtain ⟨C, T, N, hr, hk, hl, hu⟩ := G.2.2.1 mi ix ci k z 0 hlk
  obtain ⟨g1, g2, g3, hin, -⟩ := G.2.1 ci C T N hr
  have hpd : parseFieldDescriptor (T k).2.2.1 = some ty := by
    rw [g2 k hk, List.getD_eq_getElem?_getD, hty]
    rfl
  have hkl : k < vs.length := by rw [h3]; exact (List.getElem?_eq_some_iff.mp hfs).1
  rw [am_ad_at h1] at kk ⊢
  rcases hu rfl with hfin | ⟨hfin, hl2, hnn, hdecl⟩
  · rcases hl with hl | ⟨host, hl⟩
    · exact va_put (D := D) hx hb hts hin (fun k => (P.2.2.2.1 ci).getD k .int) g2 g3 hown hK hP hD hS a h1 hr k hk (hts _ hl) (fun _ h => h) hfin hpd hn hf hkl hdg (fun H' locs' q1 q2 q3 => kk vs H' locs' h1 hce q1 q2 q3)
    · exact va_putN (D := D) hx hb hts hin (fun k => (P.2.2.2.1 ci).getD k .int) g2 g3 hown hK hP hD hS a h1 hr k hk (va_Nw.use rfl (E.1 _ hl)) (fun _ h => h) hfin hpd hn hf hkl hdg (fun H' locs' q1 q2 q3 => kk vs H' locs' h1 hce q1 q2 q3)
  · exact va_putF (D := D) hx hb hts hin (fun k => (P.2.2.2.1 ci).getD k .int) g2 g3 hown hK hP hD hS a h1 hr k hk (hts _ hl2) (fun _ h => h) hfin (hnm hnn) hdecl hpd hn hf hkl hdg (fun H' locs' q1 q2 q3 => kk vs H' locs' h1 hce q1 q2 q3)
theorem am_h_putI {ix ci k z a : Nat} {fs : List (Option Value)} {x : Int32} {ty : FieldType} (G : am_G P X cl) (F : am_F P X mi p R s m args meth c) (E : am_E P X ra A s s.heap) (O : am_Wo D cl ra A s H locs ws tys sh M) (hlk : P.2.1 mi ix = some (0, ci, k, z, 0)) (hsh : sh[a]? = some (.inl (ci, fs))) (hfs : fs[k]? = some none) (hty : (P.2.2.2.1 ci)[k]? = some ty)
    (hft : am_fit ty x = true) (hdg : decode (X.2.2.1 mi) pc = .ok (.putfield ix, 3))
    (kk : ∀ (ws' : va_W) (H' : Heap) (locs' : List Loc), am_Wo D cl ra A s H' locs' ws' tys sh (am_set M a (upd (M a) k x)) → am_ex ra ws ws' → W p l e R s m args below meth c H' locs' cells slots Q (F0 m (pc + 3) ls rest)) :
    W p l e R s m args below meth c H locs cells slots Q (F0 m pc ls (.int x :: .ref (am_ad ra ws a) :: rest)) := by
  refine am_h_put G F E O hlk hsh hfs hty (am_fit_n hft).1 (am_fit_n hft).2 hdg (fun vs H' locs' h1 hce q1 q2 q3 => ?_)
  obtain ⟨hW, hP, hD, hK, hS, hA⟩ := O
  obtain ⟨vs', he, h3, h4, h5⟩ := hce
  cases he
  have hkl : k < vs.length := by rw [h3]; exact (List.getElem?_eq_some_iff.mp hfs).1
  obtain ⟨w1, w2⟩ := hW.put (M' := am_set M a (upd (M a) k x)) (e := .inr (ci, vs.set k (.int x))) hsh h1 (by
    rw [am_set_s]
    refine ⟨vs.set k (.int x), rfl, by rw [List.length_set]; exact h3, fun j hj => ?_, fun j v hj => ?_⟩
    · by_cases hjk : k = j
      · subst hjk
        rw [List.getElem?_set_self hkl]
        simp [upd]
      · rw [List.getElem?_set_ne hjk, h4 j hj]
        simp [upd, Ne.symm hjk]
    · have hjk : ¬ k = j := fun q => by subst q; rw [hfs] at hj; cases hj
      rw [List.getElem?_set_ne hjk]
      exact h5 j v hj) (fun q hq => am_set_n M _ hq)
  exact kk _ H' locs' ⟨w1, q1, q2, hK, q3, hA⟩ w2
theorem am_h_putR {ix ci k z a b : Nat} {fs : List (Option Value)} {v0 : Value} {ty : FieldType} (G : am_G P X cl) (F : am_F P X mi p R s m args meth c) (E : am_E P X ra A s s.heap) (O : am_Wo D cl ra A s H locs ws tys sh M) (hlk : P.2.1 mi ix = some (0, ci, k, z, 0)) (hsh : sh[a]? = some (.inl (ci, fs))) (hfs : fs[k]? = some (some v0)) (hty : (P.2.2.2.1 ci)[k]? = some ty)
    (hft : am_rty ty = true) (hob : am_ok ws.length (.ref b)) (hdg : decode (X.2.2.1 mi) pc = .ok (.putfield ix, 3))
    (kk : ∀ (ws' : va_W) (H' : Heap) (locs' : List Loc), am_Wo D cl ra A s H' locs' ws' tys (sh.set a (.inl (ci, fs.set k (some (.ref b))))) M → am_ex ra ws ws' → W p l e R s m args below meth c H' locs' cells slots Q (F0 m (pc + 3) ls rest)) :
    W p l e R s m args below meth c H locs cells slots Q (F0 m pc ls (.ref (am_ad ra ws b) :: .ref (am_ad ra ws a) :: rest)) := by
  have hnf : narrow ty (.ref (am_ad ra ws b)) = .ref (am_ad ra ws b) ∧ fits ty (.ref (am_ad ra ws b)) = true := by
    cases ty <;> simp only [am_rty, Bool.false_eq_true] at hft <;> exact ⟨rfl, rfl⟩
  refine am_h_put G F E O hlk hsh hfs hty hnf.1 hnf.2 hdg (fun vs H' locs' h1 hce q1 q2 q3 => ?_)
  obtain ⟨hW, hP, hD, hK, hS, hA⟩ := O
  obtain ⟨vs', he, h3, h4, h5⟩ := hce
  cases he
  have hkl : k < fs.length := (List.getElem?_eq_some_iff.mp hfs).1
  obtain ⟨w1, w2⟩ := hW.set (M' := M) (c := .inl (ci, fs.set k (some (.ref b)))) (e := .inr (ci, vs.set k (.ref (am_ad ra ws b)))) h1 (by
    refine ⟨vs.set k (.ref (am_ad ra ws b)), rfl, by rw [List.length_set, List.length_set]; exact h3, fun j hj => ?_, fun j v hj => ?_⟩
    · by_cases hjk : k = j
      · subst hjk
        rw [List.getElem?_set_self hkl] at hj
        cases hj
      · rw [List.getElem?_set_ne hjk] at hj
        rw [List.getElem?_set_ne hjk]
        exact h4 j hj
    · by_cases hjk : k = j
      · subst hjk
        rw [List.getElem?_set_self hkl] at hj
        cases hj
        rw [List.getElem?_set_self (by rw [h3]; exact hkl)]
        exact ⟨rfl, hob⟩
      · rw [List.getElem?_set_ne hjk] at hj
        rw [List.getElem?_set_ne hjk]
        exact h5 j v hj) (fun q hq => rfl)
  exact kk _ H' locs' ⟨w1, q1, q2, hK, q3, hA⟩ w2
theorem am_h_gets {ix j z u v : Nat} (G : am_G P X cl) (F : am_F P X mi p R s m args meth c) (E : am_E P X ra A s s.heap) (O : am_Wo D cl ra A s H locs ws tys sh M) (hlk : P.2.1 mi ix = some (1, j, z, u, v)) (hdg : decode (X.2.2.1 mi) pc = .ok (.getstatic ix, 3))
    (kk : W p l e R s m args below meth c H locs cells slots Q (F0 m (pc + 3) ls (.ref (am_ad ra ws (1048576 + j)) :: rest))) : W p l e R s m args below meth c H locs cells slots Q (F0 m pc ls rest) := by
  obtain ⟨hx, hb, -, -, -, hts, hown, -⟩ := F
  obtain ⟨hW, hP, hD, hK, hS, hA⟩ := O
  obtain ⟨g1, g2, g3⟩ := G.2.2.2.1 mi ix j z u v hlk
  rw [am_ad_big (by rw [hW.1]; exact Nat.le_trans hW.2.1 (Nat.le_add_right _ _))] at kk
  have hZ := E.2.1 j g1 _ _ _ rfl g2
  rcases g3 with hl | ⟨host, hl⟩
  · exact va_gets hx hb hZ hS hown (hts _ hl) (fun _ h => h) hdg kk
  · exact va_getsN hx hb hZ hS hown (va_Nw.use rfl (E.1 _ hl)) (fun _ h => h) hdg kk
theorem am_h_iald {a t N : Nat} {g : Nat → Option Nat} {x : Int32} (F : am_F P X mi p R s m args meth c) (O : am_Wo D cl ra A s H locs ws tys sh M) (hsh : sh[a]? = some (.inr (t, N, g))) (ht : t = 0) (hin : ¬ (x < 0 ∨ N ≤ x.toNatClampNeg)) (hdg : decode (X.2.2.1 mi) pc = .ok (.iaload, 1))
    (kk : W p l e R s m args below meth c H locs cells slots Q (F0 m (pc + 1) ls (.int (M a x.toNatClampNeg) :: rest))) : W p l e R s m args below meth c H locs cells slots Q (F0 m pc ls (.int x :: .ref (am_ad ra ws a) :: rest)) := by
  obtain ⟨hx, hb, -⟩ := F
  obtain ⟨hW, hP, hD, hK, hS, hA⟩ := O
  obtain ⟨a', e', h1, cA, t0, h2⟩ := hW.2.2 a _ hsh
  rw [am_ad_at h1]
  rcases h2 with ⟨-, h3, rfl⟩ | ⟨h2, -, -⟩ | ⟨ci, r, h2, -⟩
  · exact va_iald (D := D) hx hb hK hP a t0 h1 h3 hin hdg kk
  · dsimp only at h2; omega
  · dsimp only at h2; omega
theorem am_h_bald {a t N : Nat} {g : Nat → Option Nat} {x : Int32} (F : am_F P X mi p R s m args meth c) (O : am_Wo D cl ra A s H locs ws tys sh M) (hsh : sh[a]? = some (.inr (t, N, g))) (ht : t = 1) (hin : ¬ (x < 0 ∨ N ≤ x.toNatClampNeg)) (hdg : decode (X.2.2.1 mi) pc = .ok (.baload, 1))
    (kk : W p l e R s m args below meth c H locs cells slots Q (F0 m (pc + 1) ls (.int (M a x.toNatClampNeg) :: rest))) : W p l e R s m args below meth c H locs cells slots Q (F0 m pc ls (.int x :: .ref (am_ad ra ws a) :: rest)) := by
  obtain ⟨hx, hb, -⟩ := F
  obtain ⟨hW, hP, hD, hK, hS, hA⟩ := O
  obtain ⟨a', e', h1, cA, t0, h2⟩ := hW.2.2 a _ hsh
  rw [am_ad_at h1]
  rcases h2 with ⟨h2, -, -⟩ | ⟨-, h3, rfl⟩ | ⟨ci, r, h2, -⟩
  · dsimp only at h2; omega
  · exact va_zald (D := D) hx hb hK hP a t0 h1 h3 hin hdg kk
  · dsimp only at h2; omega
theorem am_h_aald {a t N b : Nat} {g : Nat → Option Nat} {x : Int32} (F : am_F P X mi p R s m args meth c) (O : am_Wo D cl ra A s H locs ws tys sh M) (hsh : sh[a]? = some (.inr (t, N, g))) (ht : 2 ≤ t) (hin : ¬ (x < 0 ∨ N ≤ x.toNatClampNeg)) (hg : g x.toNatClampNeg = some b) (hdg : decode (X.2.2.1 mi) pc = .ok (.aaload, 1))
    (kk : W p l e R s m args below meth c H locs cells slots Q (F0 m (pc + 1) ls (.ref (am_ad ra ws b) :: rest))) : am_ok ws.length (.ref b) ∧ W p l e R s m args below meth c H locs cells slots Q (F0 m pc ls (.int x :: .ref (am_ad ra ws a) :: rest)) := by
  obtain ⟨hx, hb, -⟩ := F
  obtain ⟨hW, hP, hD, hK, hS, hA⟩ := O
  obtain ⟨a', e', h1, cA, t0, h2⟩ := hW.2.2 a _ hsh
  rw [am_ad_at h1]
  rcases h2 with ⟨h2, -, -⟩ | ⟨h2, -, -⟩ | ⟨ci, r, h2, h3, h4, rfl, h5⟩
  · dsimp only at h2; omega
  · dsimp only at h2; omega
  · refine ⟨Or.inl (h5 _ b hg), va_aldq (D := D) hx hb hK hP a t0 h1 h4 hin hdg ?_⟩
    show W p l e R s m args below meth c H locs cells slots Q (F0 m (pc + 1) ls (va_rf ((g x.toNatClampNeg).map (am_ad ra ws)) :: rest))
    rw [hg]
    exact kk
theorem am_h_iast {a t N : Nat} {g : Nat → Option Nat} {x v : Int32} (F : am_F P X mi p R s m args meth c) (O : am_Wo D cl ra A s H locs ws tys sh M) (hsh : sh[a]? = some (.inr (t, N, g))) (ht : t = 0) (hin : ¬ (x < 0 ∨ N ≤ x.toNatClampNeg)) (hdg : decode (X.2.2.1 mi) pc = .ok (.iastore, 1))
    (kk : ∀ (ws' : va_W) (H' : Heap) (locs' : List Loc), am_Wo D cl ra A s H' locs' ws' tys sh (am_set M a (upd (M a) x.toNatClampNeg v)) → am_ex ra ws ws' → W p l e R s m args below meth c H' locs' cells slots Q (F0 m (pc + 1) ls rest)) : W p l e R s m args below meth c H locs cells slots Q (F0 m pc ls (.int v :: .int x :: .ref (am_ad ra ws a) :: rest)) := by
  obtain ⟨hx, hb, -⟩ := F
  obtain ⟨hW, hP, hD, hK, hS, hA⟩ := O
  obtain ⟨a', e', h1, cA, t0, h2⟩ := hW.2.2 a _ hsh
  rw [am_ad_at h1]
  rcases h2 with ⟨-, h3, rfl⟩ | ⟨h2, -, -⟩ | ⟨ci, r, h2, -⟩
  · refine va_iast (D := D) hx hb hK hP hD hS a t0 h1 h3 hin hdg (fun H' locs' q1 q2 q3 => ?_)
    obtain ⟨w1, w2⟩ := hW.put (M' := am_set M a (upd (M a) x.toNatClampNeg v)) (e := .inl (cA, N, .inl (upd (M a) x.toNatClampNeg v))) hsh h1 (by
      rw [am_set_s]
      exact ⟨cA, t0, Or.inl ⟨ht, h3, rfl⟩⟩) (fun q hq => am_set_n M _ hq)
    exact kk _ H' locs' ⟨w1, q1, q2, hK, q3, hA⟩ w2
  · dsimp only at h2; omega
  · dsimp only at h2; omega
theorem am_h_bast {a t N : Nat} {g : Nat → Option Nat} {x v : Int32} (F : am_F P X mi p R s m args meth c) (O : am_Wo D cl ra A s H locs ws tys sh M) (hsh : sh[a]? = some (.inr (t, N, g))) (ht : t = 1) (hin : ¬ (x < 0 ∨ N ≤ x.toNatClampNeg)) (hdg : decode (X.2.2.1 mi) pc = .ok (.bastore, 1))
    (kk : ∀ (ws' : va_W) (H' : Heap) (locs' : List Loc), am_Wo D cl ra A s H' locs' ws' tys sh (am_set M a (upd (M a) x.toNatClampNeg (v &&& 1))) → am_ex ra ws ws' → W p l e R s m args below meth c H' locs' cells slots Q (F0 m (pc + 1) ls rest)) : W p l e R s m args below meth c H locs cells slots Q (F0 m pc ls (.int v :: .int x :: .ref (am_ad ra ws a) :: rest)) := by
  obtain ⟨hx, hb, -⟩ := F
  obtain ⟨hW, hP, hD, hK, hS, hA⟩ := O
  obtain ⟨a', e', h1, cA, t0, h2⟩ := hW.2.2 a _ hsh
  rw [am_ad_at h1]
  rcases h2 with ⟨h2, -, -⟩ | ⟨-, h3, rfl⟩ | ⟨ci, r, h2, -⟩
  · dsimp only at h2; omega
  · refine va_zast (D := D) hx hb hK hP hD hS a t0 h1 h3 hin hdg (fun H' locs' q1 q2 q3 => ?_)
    obtain ⟨w1, w2⟩ := hW.put (M' := am_set M a (upd (M a) x.toNatClampNeg (v &&& 1))) (e := .inl (cA, N, .inl (upd (M a) x.toNatClampNeg (v &&& 1)))) hsh h1 (by
      rw [am_set_s]
      exact ⟨cA, t0, Or.inr (Or.inl ⟨ht, h3, rfl⟩)⟩) (fun q hq => am_set_n M _ hq)
    exact kk _ H' locs' ⟨w1, q1, q2, hK, q3, hA⟩ w2
  · dsimp only at h2; omega
theorem am_h_aast {a t N b ci : Nat} {g : Nat → Option Nat} {fs : List (Option Value)} {x : Int32} (F : am_F P X mi p R s m args meth c) (O : am_Wo D cl ra A s H locs ws tys sh M) (hsh : sh[a]? = some (.inr (t, N, g))) (hsb : sh[b]? = some (.inl (ci, fs))) (ht : t = ci + 2) (hin : ¬ (x < 0 ∨ N ≤ x.toNatClampNeg)) (hdg : decode (X.2.2.1 mi) pc = .ok (.aastore, 1))
    (kk : ∀ (ws' : va_W) (H' : Heap) (locs' : List Loc), am_Wo D cl ra A s H' locs' ws' tys (sh.set a (.inr (t, N, va_up g x.toNatClampNeg (some b)))) M → am_ex ra ws ws' → W p l e R s m args below meth c H' locs' cells slots Q (F0 m (pc + 1) ls rest)) : W p l e R s m args below meth c H locs cells slots Q (F0 m pc ls (.ref (am_ad ra ws b) :: .int x :: .ref (am_ad ra ws a) :: rest)) := by
  obtain ⟨hx, hb, -⟩ := F
  obtain ⟨hW, hP, hD, hK, hS, hA⟩ := O
  obtain ⟨a', e', h1, cA, t0, h2⟩ := hW.2.2 a _ hsh
  obtain ⟨b', e2, g1, vs, rfl, g3⟩ := hW.2.2 b _ hsb
  rw [am_ad_at h1, am_ad_at g1]
  rcases h2 with ⟨h2, -, -⟩ | ⟨h2, -, -⟩ | ⟨cj, r, h2, h3, h4, rfl, h5⟩
  · dsimp only at h2; omega
  · dsimp only at h2; omega
  · have hcj : cj = ci := by dsimp only at h2; omega
    subst hcj
    refine va_astq (D := D) hx hb hK hP hD hS a t0 b cj h1 h4 g1 h3 hin hdg (fun H' locs' q1 q2 q3 => ?_)
    have hfe : va_up (fun j => (g j).map (am_ad ra ws)) x.toNatClampNeg (some b') = fun j => ((va_up g x.toNatClampNeg (some b)) j).map (am_ad ra ws) := by
      funext j
      by_cases hj : j = x.toNatClampNeg
      · simp [va_up, hj, am_ad_at g1]
      · simp [va_up, hj]
    have hbl : b < ws.length := (List.getElem?_eq_some_iff.mp g1).1
    obtain ⟨w1, w2⟩ := hW.set (M' := M) (c := .inr (t, N, va_up g x.toNatClampNeg (some b))) (e := .inl (cA, N, .inr (.inr (.inr (.inr (va_up (fun j => (g j).map (am_ad ra ws)) x.toNatClampNeg (some b'))))))) h1 (by
      refine ⟨cA, t0, Or.inr (Or.inr ⟨cj, r, h2, h3, h4, by rw [hfe], fun j b2 hb2 => ?_⟩)⟩
      by_cases hj : j = x.toNatClampNeg
      · simp only [va_up, hj, if_true, Option.some.injEq] at hb2
        omega
      · simp only [va_up, hj, if_false] at hb2
        exact h5 j b2 hb2) (fun q hq => rfl)
    exact kk _ H' locs' ⟨w1, q1, q2, hK, q3, hA⟩ w2
theorem am_h_alen {a t N : Nat} {g : Nat → Option Nat} (F : am_F P X mi p R s m args meth c) (O : am_Wo D cl ra A s H locs ws tys sh M) (hsh : sh[a]? = some (.inr (t, N, g))) (hdg : decode (X.2.2.1 mi) pc = .ok (.arraylength, 1))
    (kk : W p l e R s m args below meth c H locs cells slots Q (F0 m (pc + 1) ls (.int (Int32.ofNat N) :: rest))) : W p l e R s m args below meth c H locs cells slots Q (F0 m pc ls (.ref (am_ad ra ws a) :: rest)) := by
  obtain ⟨hx, hb, -⟩ := F
  obtain ⟨hW, hP, hD, hK, hS, hA⟩ := O
  obtain ⟨a', e', h1, cA, t0, h2⟩ := hW.2.2 a _ hsh
  rw [am_ad_at h1]
  rcases h2 with ⟨-, h3, rfl⟩ | ⟨-, h3, rfl⟩ | ⟨cj, r, -, -, h3, rfl, -⟩
  · exact va_alen (D := D) hx hb hK hP a t0 h1 h3 rfl hdg kk
  · exact va_alen (D := D) hx hb hK hP a t0 h1 h3 rfl hdg kk
  · exact va_alen (D := D) hx hb hK hP a t0 h1 h3 rfl hdg kk
theorem am_h_slen {a N : Nat} {f : Nat → Int32} (F : am_F P X mi p R s m args meth c) (E : am_E P X ra A s s.heap) (O : am_Wo D cl ra A s H locs ws tys sh M) (hsh : sh[a]? = none) (hro : P.2.2.2.2.2.2 a = some (N, f)) (hdg : decode (X.2.2.1 mi) pc = .ok (.arraylength, 1))
    (kk : W p l e R s m args below meth c H locs cells slots Q (F0 m (pc + 1) ls (.int (Int32.ofNat N) :: rest))) : W p l e R s m args below meth c H locs cells slots Q (F0 m pc ls (.ref (am_ad ra ws a) :: rest)) := by
  obtain ⟨hx, hb, -⟩ := F
  obtain ⟨hW, hP, hD, hK, hS, hA⟩ := O
  rw [am_ad_big (by rw [hW.1]; exact List.getElem?_eq_none_iff.mp hsh)]
  exact va_tlen hx hb (E.2.2.1 a N f hro) hS rfl hdg kk
theorem am_h_sld {a N : Nat} {f : Nat → Int32} {x : Int32} (F : am_F P X mi p R s m args meth c) (E : am_E P X ra A s s.heap) (O : am_Wo D cl ra A s H locs ws tys sh M) (hsh : sh[a]? = none) (hro : P.2.2.2.2.2.2 a = some (N, f)) (hin : ¬ (x < 0 ∨ N ≤ x.toNatClampNeg)) (hdg : decode (X.2.2.1 mi) pc = .ok (.iaload, 1))
    (kk : W p l e R s m args below meth c H locs cells slots Q (F0 m (pc + 1) ls (.int (f x.toNatClampNeg) :: rest))) : W p l e R s m args below meth c H locs cells slots Q (F0 m pc ls (.int x :: .ref (am_ad ra ws a) :: rest)) := by
  obtain ⟨hx, hb, -⟩ := F
  obtain ⟨hW, hP, hD, hK, hS, hA⟩ := O
  rw [am_ad_big (by rw [hW.1]; exact List.getElem?_eq_none_iff.mp hsh)]
  exact va_ti hx hb (E.2.2.1 a N f hro) hS hin rfl hdg kk
theorem am_h_newI {at_ : Jvm.ClassFile.ArrayType} {x : Int32} {t : Nat} (hat : (at_ = .int ∧ t = 0) ∨ (at_ = .boolean ∧ t = 1)) (G : am_G P X cl) (F : am_F P X mi p R s m args meth c) (O : am_Wo D cl ra A s H locs ws tys sh M) (hin : ¬ (x < 0 ∨ 100000 ≤ x.toNatClampNeg ∨ 1048576 ≤ sh.length + 1)) (hc : cells + 1 ≤ R.cells) (hs : slots + x.toNatClampNeg ≤ R.slots) (hdg : decode (X.2.2.1 mi) pc = .ok (.newarray at_, 2))
    (kk : ∀ (ws' : va_W) (tys' : List (ClassId × FieldType)) (H' : Heap) (locs' : List Loc), am_Wo D cl ra A s H' locs' ws' tys' (sh ++ [.inr (t, x.toNatClampNeg, fun _ => none)]) (am_set M sh.length (fun _ => 0)) → am_ex ra ws ws' → W p l e R s m args below meth c H' locs' (cells + 1) (slots + x.toNatClampNeg) Q (F0 m (pc + 2) ls (.ref (am_ad ra ws' sh.length) :: rest))) : W p l e R s m args below meth c H locs cells slots Q (F0 m pc ls (.int x :: rest)) := by
  obtain ⟨hx, hb, -, -, -, hts, -⟩ := F
  obtain ⟨hW, hP, hD, hK, hS, hA⟩ := O
  have h0 : ¬ x < 0 := fun q => hin (Or.inl q)
  have h1 : ¬ 100000 ≤ x.toNatClampNeg := fun q => hin (Or.inr (Or.inl q))
  have h2 : ¬ 1048576 ≤ sh.length + 1 := fun q => hin (Or.inr (Or.inr q))
  have fin : ∀ (q : Nat) (cA : ClassId) (H1 : Heap) (ty : FieldType), ((t = 0 ∧ ty = .int) ∨ (t = 1 ∧ ty = .boolean)) → va_K D cl (tys ++ [(cA, ty)]) s → va_P D cl (ws ++ [(q, .inl (cA, x.toNatClampNeg, .inl (fun _ => 0)))]) H1 → va_D A (ws ++ [(q, .inl (cA, x.toNatClampNeg, .inl (fun _ => 0)))]) → va_S A s.heap H1 locs →
      W p l e R s m args below meth c H1 locs (cells + 1) (slots + x.toNatClampNeg) Q (F0 m (pc + 2) ls (.ref q :: rest)) := by
    intro q cA H1 ty hty q1 q2 q3 q4
    obtain ⟨w1, w2⟩ := hW.push (M' := am_set M sh.length (fun _ => 0)) (tl := [(cA, ty)]) (a := q) (e := .inl (cA, x.toNatClampNeg, .inl (fun _ => 0))) (c := .inr (t, x.toNatClampNeg, fun _ => none)) h2 (fun k hk => am_set_n M _ hk) (fun _ => by
      rw [am_set_s]
      refine ⟨cA, tys.length, ?_⟩
      have ht : (tys ++ [(cA, ty)])[tys.length]? = some (cA, ty) := by
        rw [List.getElem?_append_right (Nat.le_refl _), Nat.sub_self]
        rfl
      rcases hty with ⟨e1, rfl⟩ | ⟨e1, rfl⟩
      · exact Or.inl ⟨e1, ht, rfl⟩
      · exact Or.inr (Or.inl ⟨e1, ht, rfl⟩))
    have := kk _ _ H1 locs ⟨w1, q2, q3, q1, q4, hA⟩ w2
    rw [← hW.1, am_ad_new] at this
    exact this
  rcases hat with ⟨rfl, ht⟩ | ⟨rfl, ht⟩
  · refine va_newa (D := D) (atype := .int) (ty := .int) hx hb (hts _ G.2.2.2.2.1.2.2.1) rfl hK hP hD hS hA (a0 := (x.toNatClampNeg, .inl (fun _ => 0))) (fun cA => rfl) h0 rfl (by show _ * 4 ≤ _; omega) hc hs hdg (fun q cA H1 q1 q2 q3 q4 => fin q cA H1 .int (Or.inl ⟨ht, rfl⟩) q1 q2 q3 q4)
  · refine va_newa (D := D) (atype := .boolean) (ty := .boolean) hx hb (hts _ G.2.2.2.2.1.2.2.2.1) rfl hK hP hD hS hA (a0 := (x.toNatClampNeg, .inl (fun _ => 0))) (fun cA => rfl) h0 rfl (by show _ * 1 ≤ _; omega) hc hs hdg (fun q cA H1 q1 q2 q3 q4 => fin q cA H1 .boolean (Or.inr ⟨ht, rfl⟩) q1 q2 q3 q4)
theorem am_h_newR {x : Int32} {ix ci z u v : Nat} (G : am_G P X cl) (F : am_F P X mi p R s m args meth c) (E : am_E P X ra A s s.heap) (O : am_Wo D cl ra A s H locs ws tys sh M) (hlk : P.2.1 mi (ix + 100000) = some (6, ci, z, u, v)) (hin : ¬ (x < 0 ∨ 100000 ≤ x.toNatClampNeg ∨ 1048576 ≤ sh.length + 1)) (hc : cells + 1 ≤ R.cells) (hs : slots + x.toNatClampNeg ≤ R.slots) (hdg : decode (X.2.2.1 mi) pc = .ok (.anewarray ix, 3))
    (kk : ∀ (ws' : va_W) (tys' : List (ClassId × FieldType)) (H' : Heap) (locs' : List Loc), am_Wo D cl ra A s H' locs' ws' tys' (sh ++ [.inr (ci + 2, x.toNatClampNeg, fun _ => none)]) (am_set M sh.length (fun _ => 0)) → am_ex ra ws ws' → W p l e R s m args below meth c H' locs' (cells + 1) (slots + x.toNatClampNeg) Q (F0 m (pc + 3) ls (.ref (am_ad ra ws' sh.length) :: rest))) : W p l e R s m args below meth c H locs cells slots Q (F0 m pc ls (.int x :: rest)) := by
  obtain ⟨hx, hb, -, -, -, hts, hown, -⟩ := F
  obtain ⟨hW, hP, hD, hK, hS, hA⟩ := O
  have h0 : ¬ x < 0 := fun q => hin (Or.inl q)
  have h1 : ¬ 100000 ≤ x.toNatClampNeg := fun q => hin (Or.inr (Or.inl q))
  have h2 : ¬ 1048576 ≤ sh.length + 1 := fun q => hin (Or.inr (Or.inr q))
  obtain ⟨C, T, N, hr, hcl, hAO⟩ := G.2.2.2.2.1.2.1 mi ix ci z u v hlk
  refine va_newq (D := D) hx hb hown (hts _ hcl) (E.2.2.2 C hAO) hK hP hD hS hA h0 rfl (by omega) hc hs hdg (fun q cA H1 q1 q2 q3 q4 => ?_)
  obtain ⟨w1, w2⟩ := hW.push (M' := am_set M sh.length (fun _ => 0)) (tl := [(cA, .object C)]) (a := q) (e := .inl (cA, x.toNatClampNeg, .inr (.inr (.inr (.inr (fun _ => none)))))) (c := .inr (ci + 2, x.toNatClampNeg, fun _ => none)) h2 (fun k hk => am_set_n M _ hk) (fun _ => by
    refine ⟨cA, tys.length, Or.inr (Or.inr ⟨ci, (C, T, N), rfl, hr, ?_, rfl, fun j b hb => by cases hb⟩)⟩
    rw [List.getElem?_append_right (Nat.le_refl _), Nat.sub_self]
    rfl)
  have := kk _ _ H1 locs ⟨w1, q2, q3, q1, q4, hA⟩ w2
  rw [← hW.1, am_ad_new] at this
  exact this
theorem am_h_newO {ix ci z u v : Nat} (G : am_G P X cl) (F : am_F P X mi p R s m args meth c) (O : am_Wo D cl ra A s H locs ws tys sh M) (hlk : P.2.1 mi ix = some (5, ci, z, u, v)) (hin : ¬ 1048576 ≤ sh.length + 1) (hc : cells + 1 ≤ R.cells) (hs : slots + (P.2.2.2.1 ci).length ≤ R.slots) (hdg : decode (X.2.2.1 mi) pc = .ok (.new ix, 3))
    (kk : ∀ (ws' : va_W) (H' : Heap) (locs' : List Loc), am_Wo D cl ra A s H' locs' ws' tys (sh ++ [.inl (ci, (P.2.2.2.1 ci).map am_new)]) (am_set M sh.length (fun _ => 0)) → am_ex ra ws ws' → W p l e R s m args below meth c H' locs' (cells + 1) (slots + (P.2.2.2.1 ci).length) Q (F0 m (pc + 3) ls (.ref (am_ad ra ws' sh.length) :: rest))) : W p l e R s m args below meth c H locs cells slots Q (F0 m pc ls rest) := by
  obtain ⟨hx, hb, -, -, -, hts, hown, -⟩ := F
  obtain ⟨hW, hP, hD, hK, hS, hA⟩ := O
  obtain ⟨C, T, N, hr, hcl, hins, hini⟩ := G.2.2.2.2.1.1 mi ix ci z u v hlk
  obtain ⟨g1, g2, g3, hin2, hty0⟩ := G.2.1 ci C T N hr
  subst g1
  have hall : ∀ ty ∈ P.2.2.2.1 ci, (am_new ty = none ∧ defaultValue ty = .int 0) ∨ (am_new ty = some .null ∧ defaultValue ty = .null) := by
    intro ty hty
    rcases hty0 ty hty with rfl | rfl | h
    · exact Or.inl ⟨rfl, rfl⟩
    · exact Or.inl ⟨rfl, rfl⟩
    · cases ty <;> simp only [am_rty, Bool.false_eq_true] at h <;> exact Or.inr ⟨rfl, rfl⟩
  refine va_new (D := D) hx hb hts hin2 (fun k => (P.2.2.2.1 ci).getD k .int) g2 hown (hts _ hcl) (hts _ hins) (hts _ hini) hK hP hD hS hA hr (fs := (P.2.2.2.1 ci).map defaultValue) (fun j hj => ?_) hc hs hdg (fun q H1 q2 q3 q4 => ?_)
  · show defaultValue ((P.2.2.2.1 ci).getD j .int) = ((P.2.2.2.1 ci).map defaultValue).getD j .null
    rw [List.getD_eq_getElem?_getD, List.getD_eq_getElem?_getD, List.getElem?_map, List.getElem?_eq_getElem hj]
    rfl
  obtain ⟨w1, w2⟩ := hW.push (M' := am_set M sh.length (fun _ => 0)) (tl := []) (a := q) (e := .inr (ci, (P.2.2.2.1 ci).map defaultValue)) (c := .inl (ci, (P.2.2.2.1 ci).map am_new)) hin (fun k hk => am_set_n M _ hk) (fun _ => by
    rw [am_set_s]
    refine ⟨_, rfl, by simp, fun j hj => ?_, fun j v hj => ?_⟩
    · rw [List.getElem?_map] at hj ⊢
      cases hty : (P.2.2.2.1 ci)[j]? with
      | none => rw [hty] at hj; cases hj
      | some ty =>
        rw [hty] at hj
        have hj : am_new ty = none := Option.some.inj hj
        rcases hall ty (List.mem_of_getElem? hty) with ⟨-, h2⟩ | ⟨h1, -⟩
        · show some (defaultValue ty) = _
          rw [h2]
        · rw [hj] at h1; cases h1
    · rw [List.getElem?_map] at hj ⊢
      cases hty : (P.2.2.2.1 ci)[j]? with
      | none => rw [hty] at hj; cases hj
      | some ty =>
        rw [hty] at hj
        have hj : am_new ty = some v := Option.some.inj hj
        rcases hall ty (List.mem_of_getElem? hty) with ⟨h1, -⟩ | ⟨h1, h2⟩
        · rw [hj] at h1; cases h1
        · rw [hj] at h1
          cases h1
          show some (defaultValue ty) = _ ∧ _
          rw [h2]
          exact ⟨rfl, trivial⟩)
  rw [List.append_nil] at w1
  have := kk _ H1 locs ⟨w1, q2, q3, hK, q4, hA⟩ w2
  rw [← hW.1, am_ad_new] at this
  exact this
end AMH
