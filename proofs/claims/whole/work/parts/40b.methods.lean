/-- CountedActors$Behaviour.parameter()I -/
def fd_44 (h0 : Nat) (M : am_M) : Option (Int32 × am_M) := some ((M h0 1), M)
theorem te_44 {L : Nat} {xs : Nat → Int32} (h0 : Nat) (M : am_M) (q : Int32 × am_M) (hy_h0 : sh_bh h0) (h : fd_44 h0 M = some q) : am_ev (tb_P L xs) 44 0 [some (.ref h0)] [] sh_A M (some (.int q.1), sh_A, q.2) := by
  unfold fd_44 at h
  refine am_ev_go (pc' := 1) (L' := [some (.ref h0)]) (st' := [.ref h0]) (sh' := sh_A) (M' := M) 1 rfl ?_
  refine ev_getI rfl rfl hy_h0.1 rfl ?_
  cases h
  exact am_ev_ret rfl
/-- CountedActors$Program.parameterOf(I)I -/
def fd_43 (a1 : Int32) (M : am_M) : Option (Int32 × am_M) := if a1 < 0 ∨ 6 ≤ a1.toNatClampNeg then none else (fd_44 (7 + 12 * a1.toNatClampNeg) M).bind fun q3 => some (q3.1, q3.2)
theorem te_43 {L : Nat} {xs : Nat → Int32} (a1 : Int32) (M : am_M) (q : Int32 × am_M) (h : fd_43 a1 M = some q) : am_ev (tb_P L xs) 43 0 [some (.ref 1), some (.int a1)] [] sh_A M (some (.int q.1), sh_A, q.2) := by
  unfold fd_43 at h
  refine am_ev_go (pc' := 5) (L' := [some (.ref 1), some (.int a1)]) (st' := [.int a1, .ref 2]) (sh' := sh_A) (M' := M) 3 rfl ?_
  by_cases hg1 : a1 < 0 ∨ 6 ≤ a1.toNatClampNeg
  case pos => rw [if_pos hg1] at h; cases h
  rw [if_neg hg1] at h
  obtain ⟨hb2, hy__7___12___a1_toNatClampNeg_⟩ := sh_beh hg1
  refine ev_aald (ta := 4) (g := sh_gB) rfl rfl (by decide) hg1 hb2 ?_
  obtain ⟨q3, hq4, h⟩ := Option.bind_eq_some_iff.mp h
  refine am_ev_call (mj := 44) (as := [.ref (7 + 12 * a1.toNatClampNeg)]) (rest := []) (rv := some (.int q3.1)) (sh' := sh_A) (M' := q3.2) (ev_calV (na := 0) rfl rfl rfl rfl rfl hy__7___12___a1_toNatClampNeg_.1 rfl rfl rfl) (te_44 _ _ _ hy__7___12___a1_toNatClampNeg_ hq4) ?_
  show am_ev _ 43 9 [some (.ref 1), some (.int a1)] [.int q3.1] sh_A q3.2 _
  cases h
  exact am_ev_ret rfl
/-- CountedActors$Program.refusal(LCountedActors$Statement;)I -/
def fd_27 (h1 : Nat) (M : am_M) : Option (Int32 × am_M) := (fd_28 h1 (M 1 2) M).bind fun q1 => if q1.1 = (0 : Int32) then (some ((3 : Int32), q1.2)) else ((fd_32 h1 q1.2).bind fun q4 => if q4.1 = (0 : Int32) then (if (q4.2 h1 0) = (8 : Int32) then ((fd_42 (q4.2 h1 4) q4.2).bind fun q8 => (fd_43 (q8.2 h1 2) q8.2).bind fun q10 => (fd_41 q8.1 q10.1 q10.2).bind fun q12 => if q12.1 = (0 : Int32) then (some ((9 : Int32), q12.2)) else (some ((0 : Int32), q12.2))) else (some (q4.1, q4.2))) else (some (q4.1, q4.2)))
theorem te_27 {L : Nat} {xs : Nat → Int32} (h1 : Nat) (M : am_M) (q : Int32 × am_M) (hy_h1 : sh_st h1) (h : fd_27 h1 M = some q) : am_ev (tb_P L xs) 27 0 [some (.ref 1), some (.ref h1), none] [] sh_A M (some (.int q.1), sh_A, q.2) := by
  unfold fd_27 at h
  refine am_ev_go (pc' := 5) (L' := [some (.ref 1), some (.ref h1), none]) (st' := [.int (M 1 2), .ref h1]) (sh' := sh_A) (M' := M) 3 rfl ?_
  obtain ⟨q1, hq2, h⟩ := Option.bind_eq_some_iff.mp h
  refine am_ev_call (mj := 28) (as := [.ref h1, .int (M 1 2)]) (rest := []) (rv := some (.int q1.1)) (sh' := sh_A) (M' := q1.2) (ev_calV (na := 1) rfl rfl rfl rfl rfl hy_h1 rfl rfl rfl) (te_28 _ _ _ _ hy_h1 hq2) ?_
  show am_ev _ 27 8 [some (.ref 1), some (.ref h1), none] [.int q1.1] sh_A q1.2 _
  refine am_ev_go (pc' := (am_br .ne q1.1 0 13 11)) (L' := [some (.ref 1), some (.ref h1), none]) (st' := []) (sh' := sh_A) (M' := q1.2) 1 rfl ?_
  refine ev_ne (fun hc3 => ?_) (fun hc3 => ?_)
  · rw [if_neg hc3] at h
    refine am_ev_go (pc' := 18) (L' := [some (.ref 1), some (.ref h1), none]) (st' := [.ref h1, .ref 3]) (sh' := sh_A) (M' := q1.2) 3 rfl ?_
    obtain ⟨q4, hq5, h⟩ := Option.bind_eq_some_iff.mp h
    refine am_ev_call (mj := 32) (as := [.ref 3, .ref h1]) (rest := []) (rv := some (.int q4.1)) (sh' := sh_A) (M' := q4.2) rfl (te_32 _ _ _ hy_h1 hq5) ?_
    show am_ev _ 27 21 [some (.ref 1), some (.ref h1), none] [.int q4.1] sh_A q4.2 _
    refine am_ev_go (pc' := (am_br .ne q4.1 0 35 26)) (L' := [some (.ref 1), some (.ref h1), some (.int q4.1)]) (st' := []) (sh' := sh_A) (M' := q4.2) 3 rfl ?_
    refine ev_ne (fun hc6 => ?_) (fun hc6 => ?_)
    · rw [if_neg hc6] at h
      refine am_ev_go (pc' := 36) (L' := [some (.ref 1), some (.ref h1), some (.int q4.1)]) (st' := [.int q4.1]) (sh' := sh_A) (M' := q4.2) 1 rfl ?_
      cases h
      exact am_ev_ret rfl
    · rw [if_pos hc6] at h
      refine am_ev_go (pc' := 27) (L' := [some (.ref 1), some (.ref h1), some (.int q4.1)]) (st' := [.ref h1]) (sh' := sh_A) (M' := q4.2) 1 rfl ?_
      refine ev_getI rfl rfl hy_h1 rfl ?_
      refine am_ev_go (pc' := (am_br .eq (q4.2 h1 0) (8 : Int32) 37 35)) (L' := [some (.ref 1), some (.ref h1), some (.int q4.1)]) (st' := []) (sh' := sh_A) (M' := q4.2) 2 rfl ?_
      refine ev_eq (fun hc7 => ?_) (fun hc7 => ?_)
      · rw [if_pos hc7] at h
        refine am_ev_go (pc' := 42) (L' := [some (.ref 1), some (.ref h1), some (.int q4.1)]) (st' := [.ref h1, .ref 3]) (sh' := sh_A) (M' := q4.2) 3 rfl ?_
        refine ev_getI rfl rfl hy_h1 rfl ?_
        obtain ⟨q8, hq9, h⟩ := Option.bind_eq_some_iff.mp h
        refine am_ev_call (mj := 42) (as := [.ref 3, .int (q4.2 h1 4)]) (rest := []) (rv := some (.int q8.1)) (sh' := sh_A) (M' := q8.2) rfl (te_42 _ _ _ hq9) ?_
        show am_ev _ 27 48 [some (.ref 1), some (.ref h1), some (.int q4.1)] [.int q8.1] sh_A q8.2 _
        refine am_ev_go (pc' := 50) (L' := [some (.ref 1), some (.ref h1), some (.int q4.1)]) (st' := [.ref h1, .ref 1, .int q8.1]) (sh' := sh_A) (M' := q8.2) 2 rfl ?_
        refine ev_getI rfl rfl hy_h1 rfl ?_
        obtain ⟨q10, hq11, h⟩ := Option.bind_eq_some_iff.mp h
        refine am_ev_call (mj := 43) (as := [.ref 1, .int (q8.2 h1 2)]) (rest := [.int q8.1]) (rv := some (.int q10.1)) (sh' := sh_A) (M' := q10.2) rfl (te_43 _ _ _ hq11) ?_
        show am_ev _ 27 56 [some (.ref 1), some (.ref h1), some (.int q4.1)] [.int q10.1, .int q8.1] sh_A q10.2 _
        obtain ⟨q12, hq13, h⟩ := Option.bind_eq_some_iff.mp h
        refine am_ev_call (mj := 41) (as := [.int q8.1, .int q10.1]) (rest := []) (rv := some (.int q12.1)) (sh' := sh_A) (M' := q12.2) rfl (te_41 _ _ _ _ hq13) ?_
        show am_ev _ 27 59 [some (.ref 1), some (.ref h1), some (.int q4.1)] [.int q12.1] sh_A q12.2 _
        refine am_ev_go (pc' := (am_br .eq q12.1 0 66 62)) (L' := [some (.ref 1), some (.ref h1), some (.int q4.1)]) (st' := []) (sh' := sh_A) (M' := q12.2) 1 rfl ?_
        refine ev_eq (fun hc14 => ?_) (fun hc14 => ?_)
        · rw [if_pos hc14] at h
          refine am_ev_go (pc' := 68) (L' := [some (.ref 1), some (.ref h1), some (.int q4.1)]) (st' := [.int (9 : Int32)]) (sh' := sh_A) (M' := q12.2) 1 rfl ?_
          cases h
          exact am_ev_ret rfl
        · rw [if_neg hc14] at h
          refine am_ev_go (pc' := 68) (L' := [some (.ref 1), some (.ref h1), some (.int q4.1)]) (st' := [.int (0 : Int32)]) (sh' := sh_A) (M' := q12.2) 2 rfl ?_
          cases h
          exact am_ev_ret rfl
      · rw [if_neg hc7] at h
        refine am_ev_go (pc' := 36) (L' := [some (.ref 1), some (.ref h1), some (.int q4.1)]) (st' := [.int q4.1]) (sh' := sh_A) (M' := q4.2) 1 rfl ?_
        cases h
        exact am_ev_ret rfl
  · rw [if_pos hc3] at h
    refine am_ev_go (pc' := 12) (L' := [some (.ref 1), some (.ref h1), none]) (st' := [.int (3 : Int32)]) (sh' := sh_A) (M' := q1.2) 1 rfl ?_
    cases h
    exact am_ev_ret rfl
/-- CountedActors$Draft.become(II)V -/
def fd_46 (a1 : Int32) (a2 : Int32) (M : am_M) : Option (am_M) := if a1 < 0 ∨ 7 ≤ a1.toNatClampNeg then none else if a1 < 0 ∨ 7 ≤ a1.toNatClampNeg then none else if a1 < 0 ∨ 6 ≤ a1.toNatClampNeg then none else some (ds_w (ds_w (ds_w M 4 a1.toNatClampNeg a2) 5 a1.toNatClampNeg ((0 : Int32) &&& 1)) 6 a1.toNatClampNeg ((M 3 3) &&& 1))
theorem te_46 {L : Nat} {xs : Nat → Int32} (a1 : Int32) (a2 : Int32) (M : am_M) (q : am_M) (h : fd_46 a1 a2 M = some q) : am_ev (tb_P L xs) 46 0 [some (.ref 3), some (.int a1), some (.int a2)] [] sh_A M (none, sh_A, q) := by
  unfold fd_46 at h
  refine am_ev_go (pc' := 6) (L' := [some (.ref 3), some (.int a1), some (.int a2)]) (st' := [.int a2, .int a1, .ref 4]) (sh' := sh_A) (M' := M) 4 rfl ?_
  by_cases hg1 : a1 < 0 ∨ 7 ≤ a1.toNatClampNeg
  case pos => rw [if_pos hg1] at h; cases h
  rw [if_neg hg1] at h
  refine ev_iast rfl rfl hg1 ?_
  refine am_ev_go (pc' := 13) (L' := [some (.ref 3), some (.int a1), some (.int a2)]) (st' := [.int (0 : Int32), .int a1, .ref 5]) (sh' := sh_A) (M' := (ds_w M 4 a1.toNatClampNeg a2)) 4 rfl ?_
  by_cases hg2 : a1 < 0 ∨ 7 ≤ a1.toNatClampNeg
  case pos => rw [if_pos hg2] at h; cases h
  rw [if_neg hg2] at h
  refine ev_bast rfl rfl hg2 ?_
  refine am_ev_go (pc' := 23) (L' := [some (.ref 3), some (.int a1), some (.int a2)]) (st' := [.int (M 3 3), .int a1, .ref 6]) (sh' := sh_A) (M' := (ds_w (ds_w M 4 a1.toNatClampNeg a2) 5 a1.toNatClampNeg ((0 : Int32) &&& 1))) 5 rfl ?_
  by_cases hg3 : a1 < 0 ∨ 6 ≤ a1.toNatClampNeg
  case pos => rw [if_pos hg3] at h; cases h
  rw [if_neg hg3] at h
  refine ev_bast rfl rfl hg3 ?_
  cases h
  exact am_ev_ret rfl
/-- CountedActors$Draft.emptied(I)I -/
def fd_47 (a1 : Int32) (M : am_M) : Option (Int32 × am_M) := if a1 < 0 ∨ 7 ≤ a1.toNatClampNeg then none else if a1 < 0 ∨ 7 ≤ a1.toNatClampNeg then none else some ((M 4 a1.toNatClampNeg), (ds_w M 4 a1.toNatClampNeg (-1 : Int32)))
theorem te_47 {L : Nat} {xs : Nat → Int32} (a1 : Int32) (M : am_M) (q : Int32 × am_M) (h : fd_47 a1 M = some q) : am_ev (tb_P L xs) 47 0 [some (.ref 3), some (.int a1), none] [] sh_A M (some (.int q.1), sh_A, q.2) := by
  unfold fd_47 at h
  refine am_ev_go (pc' := 5) (L' := [some (.ref 3), some (.int a1), none]) (st' := [.int a1, .ref 4]) (sh' := sh_A) (M' := M) 3 rfl ?_
  by_cases hg1 : a1 < 0 ∨ 7 ≤ a1.toNatClampNeg
  case pos => rw [if_pos hg1] at h; cases h
  rw [if_neg hg1] at h
  refine ev_iald rfl rfl hg1 ?_
  refine am_ev_go (pc' := 13) (L' := [some (.ref 3), some (.int a1), some (.int (M 4 a1.toNatClampNeg))]) (st' := [.int (-1 : Int32), .int a1, .ref 4]) (sh' := sh_A) (M' := M) 5 rfl ?_
  by_cases hg2 : a1 < 0 ∨ 7 ≤ a1.toNatClampNeg
  case pos => rw [if_pos hg2] at h; cases h
  rw [if_neg hg2] at h
  refine ev_iast rfl rfl hg2 ?_
  refine am_ev_go (pc' := 15) (L' := [some (.ref 3), some (.int a1), some (.int (M 4 a1.toNatClampNeg))]) (st' := [.int (M 4 a1.toNatClampNeg)]) (sh' := sh_A) (M' := (ds_w M 4 a1.toNatClampNeg (-1 : Int32))) 1 rfl ?_
  cases h
  exact am_ev_ret rfl
/-- CountedActors$Capability.view(II)I -/
def fd_48 (a0 : Int32) (a1 : Int32) (M : am_M) : Option (Int32 × am_M) := if ((a0 * (6 : Int32)) + a1) < 0 ∨ 30 ≤ ((a0 * (6 : Int32)) + a1).toNatClampNeg then none else some ((tb_a3.getD ((a0 * (6 : Int32)) + a1).toNatClampNeg 0), M)
theorem te_48 {L : Nat} {xs : Nat → Int32} (a0 : Int32) (a1 : Int32) (M : am_M) (q : Int32 × am_M) (h : fd_48 a0 a1 M = some q) : am_ev (tb_P L xs) 48 0 [some (.int a0), some (.int a1)] [] sh_A M (some (.int q.1), sh_A, q.2) := by
  unfold fd_48 at h
  refine am_ev_go (pc' := 9) (L' := [some (.int a0), some (.int a1)]) (st' := [.int ((a0 * (6 : Int32)) + a1), .ref 1048579]) (sh' := sh_A) (M' := M) 6 rfl ?_
  by_cases hg1 : ((a0 * (6 : Int32)) + a1) < 0 ∨ 30 ≤ ((a0 * (6 : Int32)) + a1).toNatClampNeg
  case pos => rw [if_pos hg1] at h; cases h
  rw [if_neg hg1] at h
  refine ev_sld rfl rfl rfl hg1 ?_
  cases h
  exact am_ev_ret rfl
/-- CountedActors$Capability.drawn(II)I -/
def fd_49 (a0 : Int32) (a1 : Int32) (M : am_M) : Option (Int32 × am_M) := if ((a0 * (6 : Int32)) + a1) < 0 ∨ 18 ≤ ((a0 * (6 : Int32)) + a1).toNatClampNeg then none else some ((tb_a4.getD ((a0 * (6 : Int32)) + a1).toNatClampNeg 0), M)
theorem te_49 {L : Nat} {xs : Nat → Int32} (a0 : Int32) (a1 : Int32) (M : am_M) (q : Int32 × am_M) (h : fd_49 a0 a1 M = some q) : am_ev (tb_P L xs) 49 0 [some (.int a0), some (.int a1)] [] sh_A M (some (.int q.1), sh_A, q.2) := by
  unfold fd_49 at h
  refine am_ev_go (pc' := 9) (L' := [some (.int a0), some (.int a1)]) (st' := [.int ((a0 * (6 : Int32)) + a1), .ref 1048580]) (sh' := sh_A) (M' := M) 6 rfl ?_
  by_cases hg1 : ((a0 * (6 : Int32)) + a1) < 0 ∨ 18 ≤ ((a0 * (6 : Int32)) + a1).toNatClampNeg
  case pos => rw [if_pos hg1] at h; cases h
  rw [if_neg hg1] at h
  refine ev_sld rfl rfl rfl hg1 ?_
  cases h
  exact am_ev_ret rfl
def fd_50_43 (k7 : Int32 → am_M → Option (am_M)) (x1 : Int32) (y1 : Int32) (y2 : Int32) (M : am_M) : Option (am_M) := if y1 < 0 ∨ 7 ≤ y1.toNatClampNeg then none else k7 (x1 + (1 : Int32)) (ds_w M 5 y1.toNatClampNeg (y2 &&& 1))
theorem te_50_43 {L : Nat} {xs : Nat → Int32} {k7 : Int32 → am_M → Option (am_M)} (hk7 : ∀ (x1 : Int32) (M : am_M) (q : am_M), k7 x1 M = some q → am_ev (tb_P L xs) 50 7 [some (.ref 3), some (.int x1)] [] sh_A M (none, sh_A, q)) (x1 : Int32) (y1 : Int32) (y2 : Int32) (M : am_M) (q : am_M) (h : fd_50_43 k7 x1 y1 y2 M = some q) : am_ev (tb_P L xs) 50 43 [some (.ref 3), some (.int x1)] [.int y2, .int y1, .ref 5] sh_A M (none, sh_A, q) := by
  unfold fd_50_43 at h
  by_cases hg1 : y1 < 0 ∨ 7 ≤ y1.toNatClampNeg
  case pos => rw [if_pos hg1] at h; cases h
  rw [if_neg hg1] at h
  refine ev_bast rfl rfl hg1 ?_
  refine am_ev_go (pc' := 7) (L' := [some (.ref 3), some (.int (x1 + (1 : Int32)))]) (st' := []) (sh' := sh_A) (M' := (ds_w M 5 y1.toNatClampNeg (y2 &&& 1))) 2 rfl ?_
  exact hk7 _ _ _ h
def fd_50_42 (k7 : Int32 → am_M → Option (am_M)) (x1 : Int32) (y1 : Int32) (M : am_M) : Option (am_M) := fd_50_43 k7 x1 y1 (0 : Int32) M
theorem te_50_42 {L : Nat} {xs : Nat → Int32} {k7 : Int32 → am_M → Option (am_M)} (hk7 : ∀ (x1 : Int32) (M : am_M) (q : am_M), k7 x1 M = some q → am_ev (tb_P L xs) 50 7 [some (.ref 3), some (.int x1)] [] sh_A M (none, sh_A, q)) (x1 : Int32) (y1 : Int32) (M : am_M) (q : am_M) (h : fd_50_42 k7 x1 y1 M = some q) : am_ev (tb_P L xs) 50 42 [some (.ref 3), some (.int x1)] [.int y1, .ref 5] sh_A M (none, sh_A, q) := by
  unfold fd_50_42 at h
  refine am_ev_go (pc' := 43) (L' := [some (.ref 3), some (.int x1)]) (st' := [.int (0 : Int32), .int y1, .ref 5]) (sh' := sh_A) (M' := M) 1 rfl ?_
  exact te_50_43 hk7 _ _ _ _ _ h
def fd_50_7 (f : Nat) : Int32 → am_M → Option (am_M) := Nat.rec (motive := fun _ => Int32 → am_M → Option (am_M)) (fun _ _ => none) (fun _ k7 => fun x1 M => if (6 : Int32) ≤ x1 then (if (6 : Int32) < 0 ∨ 7 ≤ (6 : Int32).toNatClampNeg then none else some (ds_w M 5 (6 : Int32).toNatClampNeg ((1 : Int32) &&& 1))) else ((fd_35 x1 M).bind fun q3 => if q3.1 = (0 : Int32) then (if x1 < 0 ∨ 7 ≤ x1.toNatClampNeg then none else (fd_16 (q3.2 4 x1.toNatClampNeg) q3.2).bind fun q7 => if q7.1 = (0 : Int32) then (fd_50_43 k7 x1 x1 (1 : Int32) q7.2) else (fd_50_42 k7 x1 x1 q7.2)) else (fd_50_42 k7 x1 x1 q3.2))) f
theorem te_50_7 {L : Nat} {xs : Nat → Int32} : ∀ (f : Nat) (x1 : Int32) (M : am_M) (q : am_M), fd_50_7 f x1 M = some q → am_ev (tb_P L xs) 50 7 [some (.ref 3), some (.int x1)] [] sh_A M (none, sh_A, q) := by
  intro f
  induction f with
  | zero => intro x1 M q h; cases h
  | succ f hk7 =>
    intro x1 M q h
    change (if (6 : Int32) ≤ x1 then (if (6 : Int32) < 0 ∨ 7 ≤ (6 : Int32).toNatClampNeg then none else some (ds_w M 5 (6 : Int32).toNatClampNeg ((1 : Int32) &&& 1))) else ((fd_35 x1 M).bind fun q3 => if q3.1 = (0 : Int32) then (if x1 < 0 ∨ 7 ≤ x1.toNatClampNeg then none else (fd_16 (q3.2 4 x1.toNatClampNeg) q3.2).bind fun q7 => if q7.1 = (0 : Int32) then (fd_50_43 (fd_50_7 f) x1 x1 (1 : Int32) q7.2) else (fd_50_42 (fd_50_7 f) x1 x1 q7.2)) else (fd_50_42 (fd_50_7 f) x1 x1 q3.2))) = some q at h
    refine am_ev_go (pc' := (am_br .ge x1 (6 : Int32) 50 13)) (L' := [some (.ref 3), some (.int x1)]) (st' := []) (sh' := sh_A) (M' := M) 3 rfl ?_
    refine ev_ge (fun hc1 => ?_) (fun hc1 => ?_)
    · rw [if_pos hc1] at h
      refine am_ev_go (pc' := 57) (L' := [some (.ref 3), some (.int x1)]) (st' := [.int (1 : Int32), .int (6 : Int32), .ref 5]) (sh' := sh_A) (M' := M) 4 rfl ?_
      by_cases hg2 : (6 : Int32) < 0 ∨ 7 ≤ (6 : Int32).toNatClampNeg
      case pos => rw [if_pos hg2] at h; cases h
      rw [if_neg hg2] at h
      refine ev_bast rfl rfl hg2 ?_
      cases h
      exact am_ev_ret rfl
    · rw [if_neg hc1] at h
      refine am_ev_go (pc' := 20) (L' := [some (.ref 3), some (.int x1)]) (st' := [.int x1, .ref 3, .int x1, .ref 5]) (sh' := sh_A) (M' := M) 5 rfl ?_
      obtain ⟨q3, hq4, h⟩ := Option.bind_eq_some_iff.mp h
      refine am_ev_call (mj := 35) (as := [.ref 3, .int x1]) (rest := [.int x1, .ref 5]) (rv := some (.int q3.1)) (sh' := sh_A) (M' := q3.2) rfl (te_35 _ _ _ hq4) ?_
      show am_ev _ 50 23 [some (.ref 3), some (.int x1)] [.int q3.1, .int x1, .ref 5] sh_A q3.2 _
      refine am_ev_go (pc' := (am_br .ne q3.1 0 42 26)) (L' := [some (.ref 3), some (.int x1)]) (st' := [.int x1, .ref 5]) (sh' := sh_A) (M' := q3.2) 1 rfl ?_
      refine ev_ne (fun hc5 => ?_) (fun hc5 => ?_)
      · rw [if_neg hc5] at h
        exact te_50_42 hk7 _ _ _ _ h
      · rw [if_pos hc5] at h
        refine am_ev_go (pc' := 31) (L' := [some (.ref 3), some (.int x1)]) (st' := [.int x1, .ref 4, .int x1, .ref 5]) (sh' := sh_A) (M' := q3.2) 3 rfl ?_
        by_cases hg6 : x1 < 0 ∨ 7 ≤ x1.toNatClampNeg
        case pos => rw [if_pos hg6] at h; cases h
        rw [if_neg hg6] at h
        refine ev_iald rfl rfl hg6 ?_
        obtain ⟨q7, hq8, h⟩ := Option.bind_eq_some_iff.mp h
        refine am_ev_call (mj := 16) (as := [.int (q3.2 4 x1.toNatClampNeg)]) (rest := [.int x1, .ref 5]) (rv := some (.int q7.1)) (sh' := sh_A) (M' := q7.2) rfl (te_16 _ _ _ hq8) ?_
        show am_ev _ 50 35 [some (.ref 3), some (.int x1)] [.int q7.1, .int x1, .ref 5] sh_A q7.2 _
        refine am_ev_go (pc' := (am_br .ne q7.1 0 42 38)) (L' := [some (.ref 3), some (.int x1)]) (st' := [.int x1, .ref 5]) (sh' := sh_A) (M' := q7.2) 1 rfl ?_
        refine ev_ne (fun hc9 => ?_) (fun hc9 => ?_)
        · rw [if_neg hc9] at h
          exact te_50_42 hk7 _ _ _ _ h
        · rw [if_pos hc9] at h
          refine am_ev_go (pc' := 43) (L' := [some (.ref 3), some (.int x1)]) (st' := [.int (1 : Int32), .int x1, .ref 5]) (sh' := sh_A) (M' := q7.2) 2 rfl ?_
          exact te_50_43 hk7 _ _ _ _ _ h
/-- CountedActors$Draft.enterBlock()V -/
def fd_50 (M : am_M) : Option (am_M) := fd_50_7 1000 (0 : Int32) (ds_w M 3 3 (1 : Int32))
theorem te_50 {L : Nat} {xs : Nat → Int32} (M : am_M) (q : am_M) (h : fd_50  M = some q) : am_ev (tb_P L xs) 50 0 [some (.ref 3), none] [] sh_A M (none, sh_A, q) := by
  unfold fd_50 at h
  refine am_ev_go (pc' := 7) (L' := [some (.ref 3), some (.int (0 : Int32))]) (st' := []) (sh' := sh_A) (M' := (ds_w M 3 3 (1 : Int32))) 5 rfl ?_
  exact te_50_7 1000 _ _ _ h
/-- CountedActors$Capability.outOfBlock(I)I -/
def fd_52 (a0 : Int32) (M : am_M) : Option (Int32 × am_M) := if a0 < 0 ∨ 6 ≤ a0.toNatClampNeg then none else some ((tb_a5.getD a0.toNatClampNeg 0), M)
theorem te_52 {L : Nat} {xs : Nat → Int32} (a0 : Int32) (M : am_M) (q : Int32 × am_M) (h : fd_52 a0 M = some q) : am_ev (tb_P L xs) 52 0 [some (.int a0)] [] sh_A M (some (.int q.1), sh_A, q.2) := by
  unfold fd_52 at h
  refine am_ev_go (pc' := 4) (L' := [some (.int a0)]) (st' := [.int a0, .ref 1048581]) (sh' := sh_A) (M' := M) 2 rfl ?_
  by_cases hg1 : a0 < 0 ∨ 6 ≤ a0.toNatClampNeg
  case pos => rw [if_pos hg1] at h; cases h
  rw [if_neg hg1] at h
  refine ev_sld rfl rfl rfl hg1 ?_
  cases h
  exact am_ev_ret rfl
def fd_51_36 (k12 : Int32 → Int32 → Int32 → am_M → Option (am_M)) (x1 : Int32) (x3 : Int32) (x4 : Int32) (M : am_M) : Option (am_M) := k12 x1 x3 (x4 + (1 : Int32)) M
theorem te_51_36 {L : Nat} {xs : Nat → Int32} {k12 : Int32 → Int32 → Int32 → am_M → Option (am_M)} (hk12 : ∀ (x1 : Int32) (x3 : Int32) (x4 : Int32) (M : am_M) (q : am_M) (e2 : Option Value), k12 x1 x3 x4 M = some q → am_ev (tb_P L xs) 51 12 [some (.ref 3), some (.int x1), e2, some (.int x3), some (.int x4)] [] sh_A M (none, sh_A, q)) (x1 : Int32) (x3 : Int32) (x4 : Int32) (M : am_M) (q : am_M) (d2 : Option Value) (h : fd_51_36 k12 x1 x3 x4 M = some q) : am_ev (tb_P L xs) 51 36 [some (.ref 3), some (.int x1), d2, some (.int x3), some (.int x4)] [] sh_A M (none, sh_A, q) := by
  unfold fd_51_36 at h
  refine am_ev_go (pc' := 12) (L' := [some (.ref 3), some (.int x1), d2, some (.int x3), some (.int (x4 + (1 : Int32)))]) (st' := []) (sh' := sh_A) (M' := M) 2 rfl ?_
  exact hk12 _ _ _ _ _ _ h
def fd_51_12 (f : Nat) : Int32 → Int32 → Int32 → am_M → Option (am_M) := Nat.rec (motive := fun _ => Int32 → Int32 → Int32 → am_M → Option (am_M)) (fun _ _ _ _ => none) (fun _ k12 => fun x1 x3 x4 M => if (6 : Int32) ≤ x4 then ((fd_20 M).bind fun q2 => (fd_46 x1 x3 q2).bind fun q4 => some q4) else (if x4 < 0 ∨ 6 ≤ x4.toNatClampNeg then none else if (M 6 x4.toNatClampNeg) = (0 : Int32) then (fd_51_36 k12 x1 x3 x4 M) else ((fd_47 x4 M).bind fun q8 => fd_51_36 k12 x1 x3 x4 q8.2))) f
theorem te_51_12 {L : Nat} {xs : Nat → Int32} : ∀ (f : Nat) (x1 : Int32) (x3 : Int32) (x4 : Int32) (M : am_M) (q : am_M) (d2 : Option Value), fd_51_12 f x1 x3 x4 M = some q → am_ev (tb_P L xs) 51 12 [some (.ref 3), some (.int x1), d2, some (.int x3), some (.int x4)] [] sh_A M (none, sh_A, q) := by
  intro f
  induction f with
  | zero => intro x1 x3 x4 M q d2 h; cases h
  | succ f hk12 =>
    intro x1 x3 x4 M q d2 h
    change (if (6 : Int32) ≤ x4 then ((fd_20 M).bind fun q2 => (fd_46 x1 x3 q2).bind fun q4 => some q4) else (if x4 < 0 ∨ 6 ≤ x4.toNatClampNeg then none else if (M 6 x4.toNatClampNeg) = (0 : Int32) then (fd_51_36 (fd_51_12 f) x1 x3 x4 M) else ((fd_47 x4 M).bind fun q8 => fd_51_36 (fd_51_12 f) x1 x3 x4 q8.2))) = some q at h
    refine am_ev_go (pc' := (am_br .ge x4 (6 : Int32) 42 19)) (L' := [some (.ref 3), some (.int x1), d2, some (.int x3), some (.int x4)]) (st' := []) (sh' := sh_A) (M' := M) 3 rfl ?_
    refine ev_ge (fun hc1 => ?_) (fun hc1 => ?_)
    · rw [if_pos hc1] at h
      refine am_ev_go (pc' := 43) (L' := [some (.ref 3), some (.int x1), d2, some (.int x3), some (.int x4)]) (st' := [.ref 3]) (sh' := sh_A) (M' := M) 1 rfl ?_
      obtain ⟨q2, hq3, h⟩ := Option.bind_eq_some_iff.mp h
      refine am_ev_call (mj := 20) (as := [.ref 3]) (rest := []) (rv := none) (sh' := sh_A) (M' := q2) rfl (te_20 _ _ hq3) ?_
      show am_ev _ 51 46 [some (.ref 3), some (.int x1), d2, some (.int x3), some (.int x4)] [] sh_A q2 _
      refine am_ev_go (pc' := 49) (L' := [some (.ref 3), some (.int x1), d2, some (.int x3), some (.int x4)]) (st' := [.int x3, .int x1, .ref 3]) (sh' := sh_A) (M' := q2) 3 rfl ?_
      obtain ⟨q4, hq5, h⟩ := Option.bind_eq_some_iff.mp h
      refine am_ev_call (mj := 46) (as := [.ref 3, .int x1, .int x3]) (rest := []) (rv := none) (sh' := sh_A) (M' := q4) rfl (te_46 _ _ _ _ hq5) ?_
      show am_ev _ 51 52 [some (.ref 3), some (.int x1), d2, some (.int x3), some (.int x4)] [] sh_A q4 _
      cases h
      exact am_ev_ret rfl
    · rw [if_neg hc1] at h
      refine am_ev_go (pc' := 25) (L' := [some (.ref 3), some (.int x1), d2, some (.int x3), some (.int x4)]) (st' := [.int x4, .ref 6]) (sh' := sh_A) (M' := M) 3 rfl ?_
      by_cases hg6 : x4 < 0 ∨ 6 ≤ x4.toNatClampNeg
      case pos => rw [if_pos hg6] at h; cases h
      rw [if_neg hg6] at h
      refine ev_bald rfl rfl hg6 ?_
      refine am_ev_go (pc' := (am_br .eq (M 6 x4.toNatClampNeg) 0 36 29)) (L' := [some (.ref 3), some (.int x1), d2, some (.int x3), some (.int x4)]) (st' := []) (sh' := sh_A) (M' := M) 1 rfl ?_
      refine ev_eq (fun hc7 => ?_) (fun hc7 => ?_)
      · rw [if_pos hc7] at h
        exact te_51_36 hk12 _ _ _ _ _ _ h
      · rw [if_neg hc7] at h
        refine am_ev_go (pc' := 32) (L' := [some (.ref 3), some (.int x1), d2, some (.int x3), some (.int x4)]) (st' := [.int x4, .ref 3]) (sh' := sh_A) (M' := M) 2 rfl ?_
        obtain ⟨q8, hq9, h⟩ := Option.bind_eq_some_iff.mp h
        refine am_ev_call (mj := 47) (as := [.ref 3, .int x4]) (rest := []) (rv := some (.int q8.1)) (sh' := sh_A) (M' := q8.2) rfl (te_47 _ _ _ hq9) ?_
        show am_ev _ 51 35 [some (.ref 3), some (.int x1), d2, some (.int x3), some (.int x4)] [.int q8.1] sh_A q8.2 _
        refine am_ev_go (pc' := 36) (L' := [some (.ref 3), some (.int x1), d2, some (.int x3), some (.int x4)]) (st' := []) (sh' := sh_A) (M' := q8.2) 1 rfl ?_
        exact te_51_36 hk12 _ _ _ _ _ _ h
/-- CountedActors$Draft.shut(II)V -/
def fd_51 (a1 : Int32) (a2 : Int32) (M : am_M) : Option (am_M) := (fd_47 a2 M).bind fun q1 => (fd_52 q1.1 q1.2).bind fun q3 => fd_51_12 1000 a1 q3.1 (0 : Int32) q3.2
theorem te_51 {L : Nat} {xs : Nat → Int32} (a1 : Int32) (a2 : Int32) (M : am_M) (q : am_M) (h : fd_51 a1 a2 M = some q) : am_ev (tb_P L xs) 51 0 [some (.ref 3), some (.int a1), some (.int a2), none, none] [] sh_A M (none, sh_A, q) := by
  unfold fd_51 at h
  refine am_ev_go (pc' := 2) (L' := [some (.ref 3), some (.int a1), some (.int a2), none, none]) (st' := [.int a2, .ref 3]) (sh' := sh_A) (M' := M) 2 rfl ?_
  obtain ⟨q1, hq2, h⟩ := Option.bind_eq_some_iff.mp h
  refine am_ev_call (mj := 47) (as := [.ref 3, .int a2]) (rest := []) (rv := some (.int q1.1)) (sh' := sh_A) (M' := q1.2) rfl (te_47 _ _ _ hq2) ?_
  show am_ev _ 51 5 [some (.ref 3), some (.int a1), some (.int a2), none, none] [.int q1.1] sh_A q1.2 _
  obtain ⟨q3, hq4, h⟩ := Option.bind_eq_some_iff.mp h
  refine am_ev_call (mj := 52) (as := [.int q1.1]) (rest := []) (rv := some (.int q3.1)) (sh' := sh_A) (M' := q3.2) rfl (te_52 _ _ _ hq4) ?_
  show am_ev _ 51 8 [some (.ref 3), some (.int a1), some (.int a2), none, none] [.int q3.1] sh_A q3.2 _
  refine am_ev_go (pc' := 12) (L' := [some (.ref 3), some (.int a1), some (.int a2), some (.int q3.1), some (.int (0 : Int32))]) (st' := []) (sh' := sh_A) (M' := q3.2) 3 rfl ?_
  exact te_51_12 1000 _ _ _ _ _ _ h
/-- CountedActors$Draft.follow(LCountedActors$Statement;)V -/
def fd_45 (h1 : Nat) (M : am_M) : Option (am_M) := if (M h1 0) = (0 : Int32) then ((fd_46 (M h1 1) (M h1 3) M).bind fun q2 => some q2) else if (M h1 0) = (1 : Int32) then (if (M h1 2) < 0 ∨ 7 ≤ (M h1 2).toNatClampNeg then none else (fd_38 (M 4 (M h1 2).toNatClampNeg) M).bind fun q6 => (fd_46 (M h1 1) q6.1 q6.2).bind fun q8 => some q8) else if (M h1 0) = (2 : Int32) then ((fd_47 (M h1 2) M).bind fun q11 => (fd_46 (M h1 1) q11.1 q11.2).bind fun q13 => some q13) else if (M h1 0) = (3 : Int32) then (if (M h1 2) < 0 ∨ 7 ≤ (M h1 2).toNatClampNeg then none else (fd_48 (M 4 (M h1 2).toNatClampNeg) (M h1 3) M).bind fun q17 => (fd_38 q17.1 q17.2).bind fun q19 => (fd_46 (M h1 1) q19.1 q19.2).bind fun q21 => some q21) else if (M h1 0) = (4 : Int32) then (some M) else if (M h1 0) = (5 : Int32) then ((fd_47 (M h1 4) M).bind fun q25 => if (q25.2 h1 2) < 0 ∨ 7 ≤ (q25.2 h1 2).toNatClampNeg then none else (fd_49 (q25.2 4 (q25.2 h1 2).toNatClampNeg) (q25.2 h1 3) q25.2).bind fun q28 => (fd_46 (q25.2 h1 1) q28.1 q28.2).bind fun q30 => some q30) else if (M h1 0) = (6 : Int32) then (some M) else if (M h1 0) = (7 : Int32) then (some M) else if (M h1 0) = (8 : Int32) then ((fd_47 (M h1 4) M).bind fun q35 => some q35.2) else if (M h1 0) = (9 : Int32) then ((fd_50 M).bind fun q38 => some q38) else if (M h1 0) = (10 : Int32) then ((fd_51 (M h1 1) (M h1 2) M).bind fun q41 => some q41) else (some M)
theorem te_45 {L : Nat} {xs : Nat → Int32} (h1 : Nat) (M : am_M) (q : am_M) (hy_h1 : sh_st h1) (h : fd_45 h1 M = some q) : am_ev (tb_P L xs) 45 0 [some (.ref 3), some (.ref h1)] [] sh_A M (none, sh_A, q) := by
  unfold fd_45 at h
  refine am_ev_go (pc' := 1) (L' := [some (.ref 3), some (.ref h1)]) (st' := [.ref h1]) (sh' := sh_A) (M' := M) 1 rfl ?_
  refine ev_getI rfl rfl hy_h1 rfl ?_
  by_cases hc1 : (M h1 0) = (0 : Int32)
  · rw [if_pos hc1] at h
    refine ev_swi hc1 rfl (t := 64) rfl ?_
    refine am_ev_go (pc' := 66) (L' := [some (.ref 3), some (.ref h1)]) (st' := [.ref h1, .ref 3]) (sh' := sh_A) (M' := M) 2 rfl ?_
    refine ev_getI rfl rfl hy_h1 rfl ?_
    refine am_ev_go (pc' := 70) (L' := [some (.ref 3), some (.ref h1)]) (st' := [.ref h1, .int (M h1 1), .ref 3]) (sh' := sh_A) (M' := M) 1 rfl ?_
    refine ev_getI rfl rfl hy_h1 rfl ?_
    obtain ⟨q2, hq3, h⟩ := Option.bind_eq_some_iff.mp h
    refine am_ev_call (mj := 46) (as := [.ref 3, .int (M h1 1), .int (M h1 3)]) (rest := []) (rv := none) (sh' := sh_A) (M' := q2) rfl (te_46 _ _ _ _ hq3) ?_
    show am_ev _ 45 76 [some (.ref 3), some (.ref h1)] [] sh_A q2 _
    refine am_ev_go (pc' := 221) (L' := [some (.ref 3), some (.ref h1)]) (st' := []) (sh' := sh_A) (M' := q2) 1 rfl ?_
    cases h
    exact am_ev_ret rfl
  rw [if_neg hc1] at h
  by_cases hc4 : (M h1 0) = (1 : Int32)
  · rw [if_pos hc4] at h
    refine ev_swi hc4 rfl (t := 79) rfl ?_
    refine am_ev_go (pc' := 81) (L' := [some (.ref 3), some (.ref h1)]) (st' := [.ref h1, .ref 3]) (sh' := sh_A) (M' := M) 2 rfl ?_
    refine ev_getI rfl rfl hy_h1 rfl ?_
    refine am_ev_go (pc' := 89) (L' := [some (.ref 3), some (.ref h1)]) (st' := [.ref h1, .ref 4, .int (M h1 1), .ref 3]) (sh' := sh_A) (M' := M) 3 rfl ?_
    refine ev_getI rfl rfl hy_h1 rfl ?_
    by_cases hg5 : (M h1 2) < 0 ∨ 7 ≤ (M h1 2).toNatClampNeg
    case pos => rw [if_pos hg5] at h; cases h
    rw [if_neg hg5] at h
    refine ev_iald rfl rfl hg5 ?_
    obtain ⟨q6, hq7, h⟩ := Option.bind_eq_some_iff.mp h
    refine am_ev_call (mj := 38) (as := [.int (M 4 (M h1 2).toNatClampNeg)]) (rest := [.int (M h1 1), .ref 3]) (rv := some (.int q6.1)) (sh' := sh_A) (M' := q6.2) rfl (te_38 _ _ _ hq7) ?_
    show am_ev _ 45 96 [some (.ref 3), some (.ref h1)] [.int q6.1, .int (M h1 1), .ref 3] sh_A q6.2 _
    obtain ⟨q8, hq9, h⟩ := Option.bind_eq_some_iff.mp h
    refine am_ev_call (mj := 46) (as := [.ref 3, .int (M h1 1), .int q6.1]) (rest := []) (rv := none) (sh' := sh_A) (M' := q8) rfl (te_46 _ _ _ _ hq9) ?_
    show am_ev _ 45 99 [some (.ref 3), some (.ref h1)] [] sh_A q8 _
    refine am_ev_go (pc' := 221) (L' := [some (.ref 3), some (.ref h1)]) (st' := []) (sh' := sh_A) (M' := q8) 1 rfl ?_
    cases h
    exact am_ev_ret rfl
  rw [if_neg hc4] at h
  by_cases hc10 : (M h1 0) = (2 : Int32)
  · rw [if_pos hc10] at h
    refine ev_swi hc10 rfl (t := 102) rfl ?_
    refine am_ev_go (pc' := 104) (L' := [some (.ref 3), some (.ref h1)]) (st' := [.ref h1, .ref 3]) (sh' := sh_A) (M' := M) 2 rfl ?_
    refine ev_getI rfl rfl hy_h1 rfl ?_
    refine am_ev_go (pc' := 109) (L' := [some (.ref 3), some (.ref h1)]) (st' := [.ref h1, .ref 3, .int (M h1 1), .ref 3]) (sh' := sh_A) (M' := M) 2 rfl ?_
    refine ev_getI rfl rfl hy_h1 rfl ?_
    obtain ⟨q11, hq12, h⟩ := Option.bind_eq_some_iff.mp h
    refine am_ev_call (mj := 47) (as := [.ref 3, .int (M h1 2)]) (rest := [.int (M h1 1), .ref 3]) (rv := some (.int q11.1)) (sh' := sh_A) (M' := q11.2) rfl (te_47 _ _ _ hq12) ?_
    show am_ev _ 45 115 [some (.ref 3), some (.ref h1)] [.int q11.1, .int (M h1 1), .ref 3] sh_A q11.2 _
    obtain ⟨q13, hq14, h⟩ := Option.bind_eq_some_iff.mp h
    refine am_ev_call (mj := 46) (as := [.ref 3, .int (M h1 1), .int q11.1]) (rest := []) (rv := none) (sh' := sh_A) (M' := q13) rfl (te_46 _ _ _ _ hq14) ?_
    show am_ev _ 45 118 [some (.ref 3), some (.ref h1)] [] sh_A q13 _
    refine am_ev_go (pc' := 221) (L' := [some (.ref 3), some (.ref h1)]) (st' := []) (sh' := sh_A) (M' := q13) 1 rfl ?_
    cases h
    exact am_ev_ret rfl
  rw [if_neg hc10] at h
  by_cases hc15 : (M h1 0) = (3 : Int32)
  · rw [if_pos hc15] at h
    refine ev_swi hc15 rfl (t := 121) rfl ?_
    refine am_ev_go (pc' := 123) (L' := [some (.ref 3), some (.ref h1)]) (st' := [.ref h1, .ref 3]) (sh' := sh_A) (M' := M) 2 rfl ?_
    refine ev_getI rfl rfl hy_h1 rfl ?_
    refine am_ev_go (pc' := 131) (L' := [some (.ref 3), some (.ref h1)]) (st' := [.ref h1, .ref 4, .int (M h1 1), .ref 3]) (sh' := sh_A) (M' := M) 3 rfl ?_
    refine ev_getI rfl rfl hy_h1 rfl ?_
    by_cases hg16 : (M h1 2) < 0 ∨ 7 ≤ (M h1 2).toNatClampNeg
    case pos => rw [if_pos hg16] at h; cases h
    rw [if_neg hg16] at h
    refine ev_iald rfl rfl hg16 ?_
    refine am_ev_go (pc' := 136) (L' := [some (.ref 3), some (.ref h1)]) (st' := [.ref h1, .int (M 4 (M h1 2).toNatClampNeg), .int (M h1 1), .ref 3]) (sh' := sh_A) (M' := M) 1 rfl ?_
    refine ev_getI rfl rfl hy_h1 rfl ?_
    obtain ⟨q17, hq18, h⟩ := Option.bind_eq_some_iff.mp h
    refine am_ev_call (mj := 48) (as := [.int (M 4 (M h1 2).toNatClampNeg), .int (M h1 3)]) (rest := [.int (M h1 1), .ref 3]) (rv := some (.int q17.1)) (sh' := sh_A) (M' := q17.2) rfl (te_48 _ _ _ _ hq18) ?_
    show am_ev _ 45 142 [some (.ref 3), some (.ref h1)] [.int q17.1, .int (M h1 1), .ref 3] sh_A q17.2 _
    obtain ⟨q19, hq20, h⟩ := Option.bind_eq_some_iff.mp h
    refine am_ev_call (mj := 38) (as := [.int q17.1]) (rest := [.int (M h1 1), .ref 3]) (rv := some (.int q19.1)) (sh' := sh_A) (M' := q19.2) rfl (te_38 _ _ _ hq20) ?_
    show am_ev _ 45 145 [some (.ref 3), some (.ref h1)] [.int q19.1, .int (M h1 1), .ref 3] sh_A q19.2 _
    obtain ⟨q21, hq22, h⟩ := Option.bind_eq_some_iff.mp h
    refine am_ev_call (mj := 46) (as := [.ref 3, .int (M h1 1), .int q19.1]) (rest := []) (rv := none) (sh' := sh_A) (M' := q21) rfl (te_46 _ _ _ _ hq22) ?_
    show am_ev _ 45 148 [some (.ref 3), some (.ref h1)] [] sh_A q21 _
    refine am_ev_go (pc' := 221) (L' := [some (.ref 3), some (.ref h1)]) (st' := []) (sh' := sh_A) (M' := q21) 1 rfl ?_
    cases h
    exact am_ev_ret rfl
  rw [if_neg hc15] at h
  by_cases hc23 : (M h1 0) = (4 : Int32)
  · rw [if_pos hc23] at h
    refine ev_swi hc23 rfl (t := 221) rfl ?_
    cases h
    exact am_ev_ret rfl
  rw [if_neg hc23] at h
  by_cases hc24 : (M h1 0) = (5 : Int32)
  · rw [if_pos hc24] at h
    refine ev_swi hc24 rfl (t := 151) rfl ?_
    refine am_ev_go (pc' := 153) (L' := [some (.ref 3), some (.ref h1)]) (st' := [.ref h1, .ref 3]) (sh' := sh_A) (M' := M) 2 rfl ?_
    refine ev_getI rfl rfl hy_h1 rfl ?_
    obtain ⟨q25, hq26, h⟩ := Option.bind_eq_some_iff.mp h
    refine am_ev_call (mj := 47) (as := [.ref 3, .int (M h1 4)]) (rest := []) (rv := some (.int q25.1)) (sh' := sh_A) (M' := q25.2) rfl (te_47 _ _ _ hq26) ?_
    show am_ev _ 45 159 [some (.ref 3), some (.ref h1)] [.int q25.1] sh_A q25.2 _
    refine am_ev_go (pc' := 162) (L' := [some (.ref 3), some (.ref h1)]) (st' := [.ref h1, .ref 3]) (sh' := sh_A) (M' := q25.2) 3 rfl ?_
    refine ev_getI rfl rfl hy_h1 rfl ?_
    refine am_ev_go (pc' := 170) (L' := [some (.ref 3), some (.ref h1)]) (st' := [.ref h1, .ref 4, .int (q25.2 h1 1), .ref 3]) (sh' := sh_A) (M' := q25.2) 3 rfl ?_
    refine ev_getI rfl rfl hy_h1 rfl ?_
    by_cases hg27 : (q25.2 h1 2) < 0 ∨ 7 ≤ (q25.2 h1 2).toNatClampNeg
    case pos => rw [if_pos hg27] at h; cases h
    rw [if_neg hg27] at h
    refine ev_iald rfl rfl hg27 ?_
    refine am_ev_go (pc' := 175) (L' := [some (.ref 3), some (.ref h1)]) (st' := [.ref h1, .int (q25.2 4 (q25.2 h1 2).toNatClampNeg), .int (q25.2 h1 1), .ref 3]) (sh' := sh_A) (M' := q25.2) 1 rfl ?_
    refine ev_getI rfl rfl hy_h1 rfl ?_
    obtain ⟨q28, hq29, h⟩ := Option.bind_eq_some_iff.mp h
    refine am_ev_call (mj := 49) (as := [.int (q25.2 4 (q25.2 h1 2).toNatClampNeg), .int (q25.2 h1 3)]) (rest := [.int (q25.2 h1 1), .ref 3]) (rv := some (.int q28.1)) (sh' := sh_A) (M' := q28.2) rfl (te_49 _ _ _ _ hq29) ?_
    show am_ev _ 45 181 [some (.ref 3), some (.ref h1)] [.int q28.1, .int (q25.2 h1 1), .ref 3] sh_A q28.2 _
    obtain ⟨q30, hq31, h⟩ := Option.bind_eq_some_iff.mp h
    refine am_ev_call (mj := 46) (as := [.ref 3, .int (q25.2 h1 1), .int q28.1]) (rest := []) (rv := none) (sh' := sh_A) (M' := q30) rfl (te_46 _ _ _ _ hq31) ?_
    show am_ev _ 45 184 [some (.ref 3), some (.ref h1)] [] sh_A q30 _
    refine am_ev_go (pc' := 221) (L' := [some (.ref 3), some (.ref h1)]) (st' := []) (sh' := sh_A) (M' := q30) 1 rfl ?_
    cases h
    exact am_ev_ret rfl
  rw [if_neg hc24] at h
  by_cases hc32 : (M h1 0) = (6 : Int32)
  · rw [if_pos hc32] at h
    refine ev_swi hc32 rfl (t := 221) rfl ?_
    cases h
    exact am_ev_ret rfl
  rw [if_neg hc32] at h
  by_cases hc33 : (M h1 0) = (7 : Int32)
  · rw [if_pos hc33] at h
    refine ev_swi hc33 rfl (t := 221) rfl ?_
    cases h
    exact am_ev_ret rfl
  rw [if_neg hc33] at h
  by_cases hc34 : (M h1 0) = (8 : Int32)
  · rw [if_pos hc34] at h
    refine ev_swi hc34 rfl (t := 187) rfl ?_
    refine am_ev_go (pc' := 189) (L' := [some (.ref 3), some (.ref h1)]) (st' := [.ref h1, .ref 3]) (sh' := sh_A) (M' := M) 2 rfl ?_
    refine ev_getI rfl rfl hy_h1 rfl ?_
    obtain ⟨q35, hq36, h⟩ := Option.bind_eq_some_iff.mp h
    refine am_ev_call (mj := 47) (as := [.ref 3, .int (M h1 4)]) (rest := []) (rv := some (.int q35.1)) (sh' := sh_A) (M' := q35.2) rfl (te_47 _ _ _ hq36) ?_
    show am_ev _ 45 195 [some (.ref 3), some (.ref h1)] [.int q35.1] sh_A q35.2 _
    refine am_ev_go (pc' := 221) (L' := [some (.ref 3), some (.ref h1)]) (st' := []) (sh' := sh_A) (M' := q35.2) 2 rfl ?_
    cases h
    exact am_ev_ret rfl
  rw [if_neg hc34] at h
  by_cases hc37 : (M h1 0) = (9 : Int32)
  · rw [if_pos hc37] at h
    refine ev_swi hc37 rfl (t := 199) rfl ?_
    refine am_ev_go (pc' := 200) (L' := [some (.ref 3), some (.ref h1)]) (st' := [.ref 3]) (sh' := sh_A) (M' := M) 1 rfl ?_
    obtain ⟨q38, hq39, h⟩ := Option.bind_eq_some_iff.mp h
    refine am_ev_call (mj := 50) (as := [.ref 3]) (rest := []) (rv := none) (sh' := sh_A) (M' := q38) rfl (te_50 _ _ hq39) ?_
    show am_ev _ 45 203 [some (.ref 3), some (.ref h1)] [] sh_A q38 _
    refine am_ev_go (pc' := 221) (L' := [some (.ref 3), some (.ref h1)]) (st' := []) (sh' := sh_A) (M' := q38) 1 rfl ?_
    cases h
    exact am_ev_ret rfl
  rw [if_neg hc37] at h
  by_cases hc40 : (M h1 0) = (10 : Int32)
  · rw [if_pos hc40] at h
    refine ev_swi hc40 rfl (t := 206) rfl ?_
    refine am_ev_go (pc' := 208) (L' := [some (.ref 3), some (.ref h1)]) (st' := [.ref h1, .ref 3]) (sh' := sh_A) (M' := M) 2 rfl ?_
    refine ev_getI rfl rfl hy_h1 rfl ?_
    refine am_ev_go (pc' := 212) (L' := [some (.ref 3), some (.ref h1)]) (st' := [.ref h1, .int (M h1 1), .ref 3]) (sh' := sh_A) (M' := M) 1 rfl ?_
    refine ev_getI rfl rfl hy_h1 rfl ?_
    obtain ⟨q41, hq42, h⟩ := Option.bind_eq_some_iff.mp h
    refine am_ev_call (mj := 51) (as := [.ref 3, .int (M h1 1), .int (M h1 2)]) (rest := []) (rv := none) (sh' := sh_A) (M' := q41) rfl (te_51 _ _ _ _ hq42) ?_
    show am_ev _ 45 218 [some (.ref 3), some (.ref h1)] [] sh_A q41 _
    refine am_ev_go (pc' := 221) (L' := [some (.ref 3), some (.ref h1)]) (st' := []) (sh' := sh_A) (M' := q41) 1 rfl ?_
    cases h
    exact am_ev_ret rfl
  rw [if_neg hc40] at h
  refine ev_swo (sw_0_10 hc1 hc4 hc10 hc15 hc23 hc24 hc32 hc33 hc34 hc37 hc40) rfl (t := 221) rfl ?_
  cases h
  exact am_ev_ret rfl
/-- CountedActors$Behaviour.keepNext()V -/
def fd_53 (h0 : Nat) (M : am_M) : Option (am_M) := some (ds_w M h0 2 ((M h0 2) + (1 : Int32)))
theorem te_53 {L : Nat} {xs : Nat → Int32} (h0 : Nat) (M : am_M) (q : am_M) (hy_h0 : sh_bh h0) (h : fd_53 h0 M = some q) : am_ev (tb_P L xs) 53 0 [some (.ref h0)] [] sh_A M (none, sh_A, q) := by
  unfold fd_53 at h
  refine am_ev_go (pc' := 2) (L' := [some (.ref h0)]) (st' := [.ref h0, .ref h0]) (sh' := sh_A) (M' := M) 2 rfl ?_
  refine ev_getI rfl rfl hy_h0.1 rfl ?_
  refine am_ev_go (pc' := 7) (L' := [some (.ref h0)]) (st' := [.int ((M h0 2) + (1 : Int32)), .ref h0]) (sh' := sh_A) (M' := M) 2 rfl ?_
  refine ev_putI rfl rfl hy_h0.1 rfl rfl rfl ?_
  cases h
  exact am_ev_ret rfl
/-- CountedActors$Program.write(IIIII)I -/
def fd_22 (a1 : Int32) (a2 : Int32) (a3 : Int32) (a4 : Int32) (a5 : Int32) (M : am_M) : Option (Int32 × am_M) := if (M 1 3) = (0 : Int32) then (some ((1 : Int32), M)) else (if ((M 1 2) - (1 : Int32)) < 0 ∨ 6 ≤ ((M 1 2) - (1 : Int32)).toNatClampNeg then none else (fd_23 (7 + 12 * ((M 1 2) - (1 : Int32)).toNatClampNeg) M).bind fun q4 => if q4.1 = (0 : Int32) then ((fd_24 (7 + 12 * ((M 1 2) - (1 : Int32)).toNatClampNeg) q4.2).bind fun q7 => (fd_25 (7 + 12 * ((M 1 2) - (1 : Int32)).toNatClampNeg) q7.1 q7.2).bind fun q9 => (fd_26 q9.1 a1 a2 a3 a4 a5 q9.2).bind fun q11 => (fd_27 q9.1 q11).bind fun q13 => if q13.1 = (0 : Int32) then ((fd_45 q9.1 q13.2).bind fun q16 => (fd_53 (7 + 12 * ((M 1 2) - (1 : Int32)).toNatClampNeg) q16).bind fun q18 => some (q13.1, q18)) else (some (q13.1, q13.2))) else (some ((2 : Int32), q4.2)))
theorem te_22 {L : Nat} {xs : Nat → Int32} (a1 : Int32) (a2 : Int32) (a3 : Int32) (a4 : Int32) (a5 : Int32) (M : am_M) (q : Int32 × am_M) (h : fd_22 a1 a2 a3 a4 a5 M = some q) : am_ev (tb_P L xs) 22 0 [some (.ref 1), some (.int a1), some (.int a2), some (.int a3), some (.int a4), some (.int a5), none, none, none] [] sh_A M (some (.int q.1), sh_A, q.2) := by
  unfold fd_22 at h
  refine am_ev_go (pc' := (am_br .ne (M 1 3) 0 9 7)) (L' := [some (.ref 1), some (.int a1), some (.int a2), some (.int a3), some (.int a4), some (.int a5), none, none, none]) (st' := []) (sh' := sh_A) (M' := M) 3 rfl ?_
  refine ev_ne (fun hc1 => ?_) (fun hc1 => ?_)
  · rw [if_neg hc1] at h
    refine am_ev_go (pc' := 19) (L' := [some (.ref 1), some (.int a1), some (.int a2), some (.int a3), some (.int a4), some (.int a5), none, none, none]) (st' := [.int ((M 1 2) - (1 : Int32)), .ref 2]) (sh' := sh_A) (M' := M) 6 rfl ?_
    by_cases hg2 : ((M 1 2) - (1 : Int32)) < 0 ∨ 6 ≤ ((M 1 2) - (1 : Int32)).toNatClampNeg
    case pos => rw [if_pos hg2] at h; cases h
    rw [if_neg hg2] at h
    obtain ⟨hb3, hy__7___12_____M_1_2_____1___Int32___toNatClampNeg_⟩ := sh_beh hg2
    refine ev_aald (ta := 4) (g := sh_gB) rfl rfl (by decide) hg2 hb3 ?_
    refine am_ev_go (pc' := 24) (L' := [some (.ref 1), some (.int a1), some (.int a2), some (.int a3), some (.int a4), some (.int a5), some (.ref (7 + 12 * ((M 1 2) - (1 : Int32)).toNatClampNeg)), none, none]) (st' := [.ref (7 + 12 * ((M 1 2) - (1 : Int32)).toNatClampNeg)]) (sh' := sh_A) (M' := M) 2 rfl ?_
    obtain ⟨q4, hq5, h⟩ := Option.bind_eq_some_iff.mp h
    refine am_ev_call (mj := 23) (as := [.ref (7 + 12 * ((M 1 2) - (1 : Int32)).toNatClampNeg)]) (rest := []) (rv := some (.int q4.1)) (sh' := sh_A) (M' := q4.2) (ev_calV (na := 0) rfl rfl rfl rfl rfl hy__7___12_____M_1_2_____1___Int32___toNatClampNeg_.1 rfl rfl rfl) (te_23 _ _ _ hy__7___12_____M_1_2_____1___Int32___toNatClampNeg_ hq5) ?_
    show am_ev _ 22 27 [some (.ref 1), some (.int a1), some (.int a2), some (.int a3), some (.int a4), some (.int a5), some (.ref (7 + 12 * ((M 1 2) - (1 : Int32)).toNatClampNeg)), none, none] [.int q4.1] sh_A q4.2 _
    refine am_ev_go (pc' := (am_br .eq q4.1 0 32 30)) (L' := [some (.ref 1), some (.int a1), some (.int a2), some (.int a3), some (.int a4), some (.int a5), some (.ref (7 + 12 * ((M 1 2) - (1 : Int32)).toNatClampNeg)), none, none]) (st' := []) (sh' := sh_A) (M' := q4.2) 1 rfl ?_
    refine ev_eq (fun hc6 => ?_) (fun hc6 => ?_)
    · rw [if_pos hc6] at h
      refine am_ev_go (pc' := 36) (L' := [some (.ref 1), some (.int a1), some (.int a2), some (.int a3), some (.int a4), some (.int a5), some (.ref (7 + 12 * ((M 1 2) - (1 : Int32)).toNatClampNeg)), none, none]) (st' := [.ref (7 + 12 * ((M 1 2) - (1 : Int32)).toNatClampNeg), .ref (7 + 12 * ((M 1 2) - (1 : Int32)).toNatClampNeg)]) (sh' := sh_A) (M' := q4.2) 2 rfl ?_
      obtain ⟨q7, hq8, h⟩ := Option.bind_eq_some_iff.mp h
      refine am_ev_call (mj := 24) (as := [.ref (7 + 12 * ((M 1 2) - (1 : Int32)).toNatClampNeg)]) (rest := [.ref (7 + 12 * ((M 1 2) - (1 : Int32)).toNatClampNeg)]) (rv := some (.int q7.1)) (sh' := sh_A) (M' := q7.2) (ev_calV (na := 0) rfl rfl rfl rfl rfl hy__7___12_____M_1_2_____1___Int32___toNatClampNeg_.1 rfl rfl rfl) (te_24 _ _ _ hy__7___12_____M_1_2_____1___Int32___toNatClampNeg_ hq8) ?_
      show am_ev _ 22 39 [some (.ref 1), some (.int a1), some (.int a2), some (.int a3), some (.int a4), some (.int a5), some (.ref (7 + 12 * ((M 1 2) - (1 : Int32)).toNatClampNeg)), none, none] [.int q7.1, .ref (7 + 12 * ((M 1 2) - (1 : Int32)).toNatClampNeg)] sh_A q7.2 _
      obtain ⟨q9, hq10, h⟩ := Option.bind_eq_some_iff.mp h
      refine am_ev_call (mj := 25) (as := [.ref (7 + 12 * ((M 1 2) - (1 : Int32)).toNatClampNeg), .int q7.1]) (rest := []) (rv := some (.ref q9.1)) (sh' := sh_A) (M' := q9.2) (ev_calV (na := 1) rfl rfl rfl rfl rfl hy__7___12_____M_1_2_____1___Int32___toNatClampNeg_.1 rfl rfl rfl) (te_25 _ _ _ _ hy__7___12_____M_1_2_____1___Int32___toNatClampNeg_ hq10) ?_
      have hy_q9_1 := tr_25 hy__7___12_____M_1_2_____1___Int32___toNatClampNeg_ hq10
      show am_ev _ 22 42 [some (.ref 1), some (.int a1), some (.int a2), some (.int a3), some (.int a4), some (.int a5), some (.ref (7 + 12 * ((M 1 2) - (1 : Int32)).toNatClampNeg)), none, none] [.ref q9.1] sh_A q9.2 _
      refine am_ev_go (pc' := 53) (L' := [some (.ref 1), some (.int a1), some (.int a2), some (.int a3), some (.int a4), some (.int a5), some (.ref (7 + 12 * ((M 1 2) - (1 : Int32)).toNatClampNeg)), some (.ref q9.1), none]) (st' := [.int a5, .int a4, .int a3, .int a2, .int a1, .ref q9.1]) (sh' := sh_A) (M' := q9.2) 7 rfl ?_
      obtain ⟨q11, hq12, h⟩ := Option.bind_eq_some_iff.mp h
      refine am_ev_call (mj := 26) (as := [.ref q9.1, .int a1, .int a2, .int a3, .int a4, .int a5]) (rest := []) (rv := none) (sh' := sh_A) (M' := q11) (ev_calV (na := 5) rfl rfl rfl rfl rfl hy_q9_1 rfl rfl rfl) (te_26 _ _ _ _ _ _ _ _ hy_q9_1 hq12) ?_
      show am_ev _ 22 56 [some (.ref 1), some (.int a1), some (.int a2), some (.int a3), some (.int a4), some (.int a5), some (.ref (7 + 12 * ((M 1 2) - (1 : Int32)).toNatClampNeg)), some (.ref q9.1), none] [] sh_A q11 _
      refine am_ev_go (pc' := 59) (L' := [some (.ref 1), some (.int a1), some (.int a2), some (.int a3), some (.int a4), some (.int a5), some (.ref (7 + 12 * ((M 1 2) - (1 : Int32)).toNatClampNeg)), some (.ref q9.1), none]) (st' := [.ref q9.1, .ref 1]) (sh' := sh_A) (M' := q11) 2 rfl ?_
      obtain ⟨q13, hq14, h⟩ := Option.bind_eq_some_iff.mp h
      refine am_ev_call (mj := 27) (as := [.ref 1, .ref q9.1]) (rest := []) (rv := some (.int q13.1)) (sh' := sh_A) (M' := q13.2) rfl (te_27 _ _ _ hy_q9_1 hq14) ?_
      show am_ev _ 22 62 [some (.ref 1), some (.int a1), some (.int a2), some (.int a3), some (.int a4), some (.int a5), some (.ref (7 + 12 * ((M 1 2) - (1 : Int32)).toNatClampNeg)), some (.ref q9.1), none] [.int q13.1] sh_A q13.2 _
      refine am_ev_go (pc' := (am_br .ne q13.1 0 83 69)) (L' := [some (.ref 1), some (.int a1), some (.int a2), some (.int a3), some (.int a4), some (.int a5), some (.ref (7 + 12 * ((M 1 2) - (1 : Int32)).toNatClampNeg)), some (.ref q9.1), some (.int q13.1)]) (st' := []) (sh' := sh_A) (M' := q13.2) 3 rfl ?_
      refine ev_ne (fun hc15 => ?_) (fun hc15 => ?_)
      · rw [if_neg hc15] at h
        refine am_ev_go (pc' := 85) (L' := [some (.ref 1), some (.int a1), some (.int a2), some (.int a3), some (.int a4), some (.int a5), some (.ref (7 + 12 * ((M 1 2) - (1 : Int32)).toNatClampNeg)), some (.ref q9.1), some (.int q13.1)]) (st' := [.int q13.1]) (sh' := sh_A) (M' := q13.2) 1 rfl ?_
        cases h
        exact am_ev_ret rfl
      · rw [if_pos hc15] at h
        refine am_ev_go (pc' := 75) (L' := [some (.ref 1), some (.int a1), some (.int a2), some (.int a3), some (.int a4), some (.int a5), some (.ref (7 + 12 * ((M 1 2) - (1 : Int32)).toNatClampNeg)), some (.ref q9.1), some (.int q13.1)]) (st' := [.ref q9.1, .ref 3]) (sh' := sh_A) (M' := q13.2) 3 rfl ?_
        obtain ⟨q16, hq17, h⟩ := Option.bind_eq_some_iff.mp h
        refine am_ev_call (mj := 45) (as := [.ref 3, .ref q9.1]) (rest := []) (rv := none) (sh' := sh_A) (M' := q16) rfl (te_45 _ _ _ hy_q9_1 hq17) ?_
        show am_ev _ 22 78 [some (.ref 1), some (.int a1), some (.int a2), some (.int a3), some (.int a4), some (.int a5), some (.ref (7 + 12 * ((M 1 2) - (1 : Int32)).toNatClampNeg)), some (.ref q9.1), some (.int q13.1)] [] sh_A q16 _
        refine am_ev_go (pc' := 80) (L' := [some (.ref 1), some (.int a1), some (.int a2), some (.int a3), some (.int a4), some (.int a5), some (.ref (7 + 12 * ((M 1 2) - (1 : Int32)).toNatClampNeg)), some (.ref q9.1), some (.int q13.1)]) (st' := [.ref (7 + 12 * ((M 1 2) - (1 : Int32)).toNatClampNeg)]) (sh' := sh_A) (M' := q16) 1 rfl ?_
        obtain ⟨q18, hq19, h⟩ := Option.bind_eq_some_iff.mp h
        refine am_ev_call (mj := 53) (as := [.ref (7 + 12 * ((M 1 2) - (1 : Int32)).toNatClampNeg)]) (rest := []) (rv := none) (sh' := sh_A) (M' := q18) (ev_calV (na := 0) rfl rfl rfl rfl rfl hy__7___12_____M_1_2_____1___Int32___toNatClampNeg_.1 rfl rfl rfl) (te_53 _ _ _ hy__7___12_____M_1_2_____1___Int32___toNatClampNeg_ hq19) ?_
        show am_ev _ 22 83 [some (.ref 1), some (.int a1), some (.int a2), some (.int a3), some (.int a4), some (.int a5), some (.ref (7 + 12 * ((M 1 2) - (1 : Int32)).toNatClampNeg)), some (.ref q9.1), some (.int q13.1)] [] sh_A q18 _
        refine am_ev_go (pc' := 85) (L' := [some (.ref 1), some (.int a1), some (.int a2), some (.int a3), some (.int a4), some (.int a5), some (.ref (7 + 12 * ((M 1 2) - (1 : Int32)).toNatClampNeg)), some (.ref q9.1), some (.int q13.1)]) (st' := [.int q13.1]) (sh' := sh_A) (M' := q18) 1 rfl ?_
        cases h
        exact am_ev_ret rfl
    · rw [if_neg hc6] at h
      refine am_ev_go (pc' := 31) (L' := [some (.ref 1), some (.int a1), some (.int a2), some (.int a3), some (.int a4), some (.int a5), some (.ref (7 + 12 * ((M 1 2) - (1 : Int32)).toNatClampNeg)), none, none]) (st' := [.int (2 : Int32)]) (sh' := sh_A) (M' := q4.2) 1 rfl ?_
      cases h
      exact am_ev_ret rfl
  · rw [if_pos hc1] at h
    refine am_ev_go (pc' := 8) (L' := [some (.ref 1), some (.int a1), some (.int a2), some (.int a3), some (.int a4), some (.int a5), none, none, none]) (st' := [.int (1 : Int32)]) (sh' := sh_A) (M' := M) 1 rfl ?_
    cases h
    exact am_ev_ret rfl
/-- CountedActors.add(IIIII)I -/
def fd_21 (a1 : Int32) (a2 : Int32) (a3 : Int32) (a4 : Int32) (a5 : Int32) (M : am_M) : Option (Int32 × am_M) := (fd_22 a1 a2 a3 a4 a5 M).bind fun q1 => some (q1.1, q1.2)
theorem te_21 {L : Nat} {xs : Nat → Int32} (a1 : Int32) (a2 : Int32) (a3 : Int32) (a4 : Int32) (a5 : Int32) (M : am_M) (q : Int32 × am_M) (h : fd_21 a1 a2 a3 a4 a5 M = some q) : am_ev (tb_P L xs) 21 0 [some (.ref 0), some (.int a1), some (.int a2), some (.int a3), some (.int a4), some (.int a5)] [] sh_A M (some (.int q.1), sh_A, q.2) := by
  unfold fd_21 at h
  refine am_ev_go (pc' := 11) (L' := [some (.ref 0), some (.int a1), some (.int a2), some (.int a3), some (.int a4), some (.int a5)]) (st' := [.int a5, .int a4, .int a3, .int a2, .int a1, .ref 1]) (sh' := sh_A) (M' := M) 7 rfl ?_
  obtain ⟨q1, hq2, h⟩ := Option.bind_eq_some_iff.mp h
  refine am_ev_call (mj := 22) (as := [.ref 1, .int a1, .int a2, .int a3, .int a4, .int a5]) (rest := []) (rv := some (.int q1.1)) (sh' := sh_A) (M' := q1.2) rfl (te_22 _ _ _ _ _ _ _ hq2) ?_
  show am_ev _ 21 14 [some (.ref 0), some (.int a1), some (.int a2), some (.int a3), some (.int a4), some (.int a5)] [.int q1.1] sh_A q1.2 _
  cases h
  exact am_ev_ret rfl
/-- CountedActors$Draft.isInBlock()Z -/
def fd_56 (M : am_M) : Option (Int32 × am_M) := if am_fit .boolean (M 3 3) = true then some ((M 3 3), M) else none
theorem te_56 {L : Nat} {xs : Nat → Int32} (M : am_M) (q : Int32 × am_M) (h : fd_56  M = some q) : am_ev (tb_P L xs) 56 0 [some (.ref 3)] [] sh_A M (some (.int q.1), sh_A, q.2) := by
  unfold fd_56 at h
  refine am_ev_go (pc' := 4) (L' := [some (.ref 3)]) (st' := [.int (M 3 3)]) (sh' := sh_A) (M' := M) 2 rfl ?_
  by_cases hg1 : am_fit .boolean (M 3 3) = true
  case neg => rw [if_neg hg1] at h; cases h
  rw [if_pos hg1] at h
  cases h
  exact ev_ret rfl rfl hg1
/-- CountedActors$Program.finish()Z -/
def fd_55 (M : am_M) : Option (Int32 × am_M) := if (M 1 3) = (0 : Int32) then (some ((0 : Int32), M)) else ((fd_56 M).bind fun q2 => if q2.1 = (0 : Int32) then (some ((1 : Int32), (ds_w q2.2 1 3 (0 : Int32)))) else (some ((0 : Int32), q2.2)))
theorem te_55 {L : Nat} {xs : Nat → Int32} (M : am_M) (q : Int32 × am_M) (h : fd_55  M = some q) : am_ev (tb_P L xs) 55 0 [some (.ref 1)] [] sh_A M (some (.int q.1), sh_A, q.2) := by
  unfold fd_55 at h
  refine am_ev_go (pc' := (am_br .eq (M 1 3) 0 17 7)) (L' := [some (.ref 1)]) (st' := []) (sh' := sh_A) (M' := M) 3 rfl ?_
  refine ev_eq (fun hc1 => ?_) (fun hc1 => ?_)
  · rw [if_pos hc1] at h
    refine am_ev_go (pc' := 18) (L' := [some (.ref 1)]) (st' := [.int (0 : Int32)]) (sh' := sh_A) (M' := M) 1 rfl ?_
    cases h
    exact am_ev_ret rfl
  · rw [if_neg hc1] at h
    refine am_ev_go (pc' := 11) (L' := [some (.ref 1)]) (st' := [.ref 3]) (sh' := sh_A) (M' := M) 2 rfl ?_
    obtain ⟨q2, hq3, h⟩ := Option.bind_eq_some_iff.mp h
    refine am_ev_call (mj := 56) (as := [.ref 3]) (rest := []) (rv := some (.int q2.1)) (sh' := sh_A) (M' := q2.2) rfl (te_56 _ _ hq3) ?_
    show am_ev _ 55 14 [some (.ref 1)] [.int q2.1] sh_A q2.2 _
    refine am_ev_go (pc' := (am_br .eq q2.1 0 19 17)) (L' := [some (.ref 1)]) (st' := []) (sh' := sh_A) (M' := q2.2) 1 rfl ?_
    refine ev_eq (fun hc4 => ?_) (fun hc4 => ?_)
    · rw [if_pos hc4] at h
      refine am_ev_go (pc' := 25) (L' := [some (.ref 1)]) (st' := [.int (1 : Int32)]) (sh' := sh_A) (M' := (ds_w q2.2 1 3 (0 : Int32))) 4 rfl ?_
      cases h
      exact am_ev_ret rfl
    · rw [if_neg hc4] at h
      refine am_ev_go (pc' := 18) (L' := [some (.ref 1)]) (st' := [.int (0 : Int32)]) (sh' := sh_A) (M' := q2.2) 1 rfl ?_
      cases h
      exact am_ev_ret rfl
/-- CountedActors.end()Z -/
def fd_54 (M : am_M) : Option (Int32 × am_M) := (fd_55 M).bind fun q1 => if am_fit .boolean q1.1 = true then some (q1.1, q1.2) else none
theorem te_54 {L : Nat} {xs : Nat → Int32} (M : am_M) (q : Int32 × am_M) (h : fd_54  M = some q) : am_ev (tb_P L xs) 54 0 [some (.ref 0)] [] sh_A M (some (.int q.1), sh_A, q.2) := by
  unfold fd_54 at h
  refine am_ev_go (pc' := 4) (L' := [some (.ref 0)]) (st' := [.ref 1]) (sh' := sh_A) (M' := M) 2 rfl ?_
  obtain ⟨q1, hq2, h⟩ := Option.bind_eq_some_iff.mp h
  refine am_ev_call (mj := 55) (as := [.ref 1]) (rest := []) (rv := some (.int q1.1)) (sh' := sh_A) (M' := q1.2) rfl (te_55 _ _ hq2) ?_
  show am_ev _ 54 7 [some (.ref 0)] [.int q1.1] sh_A q1.2 _
  by_cases hg3 : am_fit .boolean q1.1 = true
  case neg => rw [if_neg hg3] at h; cases h
  rw [if_pos hg3] at h
  cases h
  exact ev_ret rfl rfl hg3
/-- CountedActors$Program.giveUp()Z -/
def fd_58 (M : am_M) : Option (Int32 × am_M) := if (M 1 3) = (0 : Int32) then (some ((0 : Int32), M)) else (some ((1 : Int32), (ds_w (ds_w M 1 3 (0 : Int32)) 1 2 (((ds_w M 1 3 (0 : Int32)) 1 2) - (1 : Int32)))))
theorem te_58 {L : Nat} {xs : Nat → Int32} (M : am_M) (q : Int32 × am_M) (h : fd_58  M = some q) : am_ev (tb_P L xs) 58 0 [some (.ref 1)] [] sh_A M (some (.int q.1), sh_A, q.2) := by
  unfold fd_58 at h
  refine am_ev_go (pc' := (am_br .ne (M 1 3) 0 9 7)) (L' := [some (.ref 1)]) (st' := []) (sh' := sh_A) (M' := M) 3 rfl ?_
  refine ev_ne (fun hc1 => ?_) (fun hc1 => ?_)
  · rw [if_neg hc1] at h
    refine am_ev_go (pc' := 25) (L' := [some (.ref 1)]) (st' := [.int (1 : Int32)]) (sh' := sh_A) (M' := (ds_w (ds_w M 1 3 (0 : Int32)) 1 2 (((ds_w M 1 3 (0 : Int32)) 1 2) - (1 : Int32)))) 10 rfl ?_
    cases h
    exact am_ev_ret rfl
  · rw [if_pos hc1] at h
    refine am_ev_go (pc' := 8) (L' := [some (.ref 1)]) (st' := [.int (0 : Int32)]) (sh' := sh_A) (M' := M) 1 rfl ?_
    cases h
    exact am_ev_ret rfl
/-- CountedActors.drop()Z -/
def fd_57 (M : am_M) : Option (Int32 × am_M) := (fd_58 M).bind fun q1 => if am_fit .boolean q1.1 = true then some (q1.1, q1.2) else none
theorem te_57 {L : Nat} {xs : Nat → Int32} (M : am_M) (q : Int32 × am_M) (h : fd_57  M = some q) : am_ev (tb_P L xs) 57 0 [some (.ref 0)] [] sh_A M (some (.int q.1), sh_A, q.2) := by
  unfold fd_57 at h
  refine am_ev_go (pc' := 4) (L' := [some (.ref 0)]) (st' := [.ref 1]) (sh' := sh_A) (M' := M) 2 rfl ?_
  obtain ⟨q1, hq2, h⟩ := Option.bind_eq_some_iff.mp h
  refine am_ev_call (mj := 58) (as := [.ref 1]) (rest := []) (rv := some (.int q1.1)) (sh' := sh_A) (M' := q1.2) rfl (te_58 _ _ hq2) ?_
  show am_ev _ 57 7 [some (.ref 0)] [.int q1.1] sh_A q1.2 _
  by_cases hg3 : am_fit .boolean q1.1 = true
  case neg => rw [if_neg hg3] at h; cases h
  rw [if_pos hg3] at h
  cases h
  exact ev_ret rfl rfl hg3
/-- CountedActors$Draft.isHidden(I)Z -/
def fd_61 (a1 : Int32) (M : am_M) : Option (Int32 × am_M) := if a1 < 0 ∨ 7 ≤ a1.toNatClampNeg then none else if am_fit .boolean (M 5 a1.toNatClampNeg) = true then some ((M 5 a1.toNatClampNeg), M) else none
theorem te_61 {L : Nat} {xs : Nat → Int32} (a1 : Int32) (M : am_M) (q : Int32 × am_M) (h : fd_61 a1 M = some q) : am_ev (tb_P L xs) 61 0 [some (.ref 3), some (.int a1)] [] sh_A M (some (.int q.1), sh_A, q.2) := by
  unfold fd_61 at h
  refine am_ev_go (pc' := 5) (L' := [some (.ref 3), some (.int a1)]) (st' := [.int a1, .ref 5]) (sh' := sh_A) (M' := M) 3 rfl ?_
  by_cases hg1 : a1 < 0 ∨ 7 ≤ a1.toNatClampNeg
  case pos => rw [if_pos hg1] at h; cases h
  rw [if_neg hg1] at h
  refine ev_bald rfl rfl hg1 ?_
  by_cases hg2 : am_fit .boolean (M 5 a1.toNatClampNeg) = true
  case neg => rw [if_neg hg2] at h; cases h
  rw [if_pos hg2] at h
  cases h
  exact ev_ret rfl rfl hg2
/-- CountedActors$Program.capabilityShown(I)I -/
def fd_60 (a1 : Int32) (M : am_M) : Option (Int32 × am_M) := if (M 1 3) = (0 : Int32) then (some ((-1 : Int32), M)) else ((fd_29 a1 M).bind fun q2 => if q2.1 = (0 : Int32) then (some ((-1 : Int32), q2.2)) else ((fd_61 a1 q2.2).bind fun q5 => if q5.1 = (0 : Int32) then ((fd_42 a1 q5.2).bind fun q8 => some (q8.1, q8.2)) else (some ((-2 : Int32), q5.2))))
theorem te_60 {L : Nat} {xs : Nat → Int32} (a1 : Int32) (M : am_M) (q : Int32 × am_M) (h : fd_60 a1 M = some q) : am_ev (tb_P L xs) 60 0 [some (.ref 1), some (.int a1)] [] sh_A M (some (.int q.1), sh_A, q.2) := by
  unfold fd_60 at h
  refine am_ev_go (pc' := (am_br .eq (M 1 3) 0 14 7)) (L' := [some (.ref 1), some (.int a1)]) (st' := []) (sh' := sh_A) (M' := M) 3 rfl ?_
  refine ev_eq (fun hc1 => ?_) (fun hc1 => ?_)
  · rw [if_pos hc1] at h
    refine am_ev_go (pc' := 15) (L' := [some (.ref 1), some (.int a1)]) (st' := [.int (-1 : Int32)]) (sh' := sh_A) (M' := M) 1 rfl ?_
    cases h
    exact am_ev_ret rfl
  · rw [if_neg hc1] at h
    refine am_ev_go (pc' := 8) (L' := [some (.ref 1), some (.int a1)]) (st' := [.int a1]) (sh' := sh_A) (M' := M) 1 rfl ?_
    obtain ⟨q2, hq3, h⟩ := Option.bind_eq_some_iff.mp h
    refine am_ev_call (mj := 29) (as := [.int a1]) (rest := []) (rv := some (.int q2.1)) (sh' := sh_A) (M' := q2.2) rfl (te_29 _ _ _ hq3) ?_
    show am_ev _ 60 11 [some (.ref 1), some (.int a1)] [.int q2.1] sh_A q2.2 _
    refine am_ev_go (pc' := (am_br .ne q2.1 0 16 14)) (L' := [some (.ref 1), some (.int a1)]) (st' := []) (sh' := sh_A) (M' := q2.2) 1 rfl ?_
    refine ev_ne (fun hc4 => ?_) (fun hc4 => ?_)
    · rw [if_neg hc4] at h
      refine am_ev_go (pc' := 21) (L' := [some (.ref 1), some (.int a1)]) (st' := [.int a1, .ref 3]) (sh' := sh_A) (M' := q2.2) 3 rfl ?_
      obtain ⟨q5, hq6, h⟩ := Option.bind_eq_some_iff.mp h
      refine am_ev_call (mj := 61) (as := [.ref 3, .int a1]) (rest := []) (rv := some (.int q5.1)) (sh' := sh_A) (M' := q5.2) rfl (te_61 _ _ _ hq6) ?_
      show am_ev _ 60 24 [some (.ref 1), some (.int a1)] [.int q5.1] sh_A q5.2 _
      refine am_ev_go (pc' := (am_br .eq q5.1 0 32 27)) (L' := [some (.ref 1), some (.int a1)]) (st' := []) (sh' := sh_A) (M' := q5.2) 1 rfl ?_
      refine ev_eq (fun hc7 => ?_) (fun hc7 => ?_)
      · rw [if_pos hc7] at h
        refine am_ev_go (pc' := 37) (L' := [some (.ref 1), some (.int a1)]) (st' := [.int a1, .ref 3]) (sh' := sh_A) (M' := q5.2) 3 rfl ?_
        obtain ⟨q8, hq9, h⟩ := Option.bind_eq_some_iff.mp h
        refine am_ev_call (mj := 42) (as := [.ref 3, .int a1]) (rest := []) (rv := some (.int q8.1)) (sh' := sh_A) (M' := q8.2) rfl (te_42 _ _ _ hq9) ?_
        show am_ev _ 60 40 [some (.ref 1), some (.int a1)] [.int q8.1] sh_A q8.2 _
        cases h
        exact am_ev_ret rfl
      · rw [if_neg hc7] at h
        refine am_ev_go (pc' := 40) (L' := [some (.ref 1), some (.int a1)]) (st' := [.int (-2 : Int32)]) (sh' := sh_A) (M' := q5.2) 2 rfl ?_
        cases h
        exact am_ev_ret rfl
    · rw [if_pos hc4] at h
      refine am_ev_go (pc' := 15) (L' := [some (.ref 1), some (.int a1)]) (st' := [.int (-1 : Int32)]) (sh' := sh_A) (M' := q2.2) 1 rfl ?_
      cases h
      exact am_ev_ret rfl
/-- CountedActors.holds(I)I -/
def fd_59 (a1 : Int32) (M : am_M) : Option (Int32 × am_M) := (fd_60 a1 M).bind fun q1 => some (q1.1, q1.2)
theorem te_59 {L : Nat} {xs : Nat → Int32} (a1 : Int32) (M : am_M) (q : Int32 × am_M) (h : fd_59 a1 M = some q) : am_ev (tb_P L xs) 59 0 [some (.ref 0), some (.int a1)] [] sh_A M (some (.int q.1), sh_A, q.2) := by
  unfold fd_59 at h
  refine am_ev_go (pc' := 5) (L' := [some (.ref 0), some (.int a1)]) (st' := [.int a1, .ref 1]) (sh' := sh_A) (M' := M) 3 rfl ?_
  obtain ⟨q1, hq2, h⟩ := Option.bind_eq_some_iff.mp h
  refine am_ev_call (mj := 60) (as := [.ref 1, .int a1]) (rest := []) (rv := some (.int q1.1)) (sh' := sh_A) (M' := q1.2) rfl (te_60 _ _ _ hq2) ?_
  show am_ev _ 59 8 [some (.ref 0), some (.int a1)] [.int q1.1] sh_A q1.2 _
  cases h
  exact am_ev_ret rfl
/-- CountedActors.isActor(I)Z -/
def fd_63 (a1 : Int32) (M : am_M) : Option (Int32 × am_M) := if a1 < (0 : Int32) then (some ((0 : Int32), M)) else (if (M 0 0) ≤ a1 then (some ((0 : Int32), M)) else (some ((1 : Int32), M)))
theorem te_63 {L : Nat} {xs : Nat → Int32} (a1 : Int32) (M : am_M) (q : Int32 × am_M) (h : fd_63 a1 M = some q) : am_ev (tb_P L xs) 63 0 [some (.ref 0), some (.int a1)] [] sh_A M (some (.int q.1), sh_A, q.2) := by
  unfold fd_63 at h
  refine am_ev_go (pc' := (am_br .lt a1 0 16 4)) (L' := [some (.ref 0), some (.int a1)]) (st' := []) (sh' := sh_A) (M' := M) 2 rfl ?_
  refine ev_lt (fun hc1 => ?_) (fun hc1 => ?_)
  · rw [if_pos hc1] at h
    refine am_ev_go (pc' := 17) (L' := [some (.ref 0), some (.int a1)]) (st' := [.int (0 : Int32)]) (sh' := sh_A) (M' := M) 1 rfl ?_
    cases h
    exact am_ev_ret rfl
  · rw [if_neg hc1] at h
    refine am_ev_go (pc' := (am_br .ge a1 (M 0 0) 16 12)) (L' := [some (.ref 0), some (.int a1)]) (st' := []) (sh' := sh_A) (M' := M) 4 rfl ?_
    refine ev_ge (fun hc2 => ?_) (fun hc2 => ?_)
    · rw [if_pos hc2] at h
      refine am_ev_go (pc' := 17) (L' := [some (.ref 0), some (.int a1)]) (st' := [.int (0 : Int32)]) (sh' := sh_A) (M' := M) 1 rfl ?_
      cases h
      exact am_ev_ret rfl
    · rw [if_neg hc2] at h
      refine am_ev_go (pc' := 17) (L' := [some (.ref 0), some (.int a1)]) (st' := [.int (1 : Int32)]) (sh' := sh_A) (M' := M) 2 rfl ?_
      cases h
      exact am_ev_ret rfl
def fd_64_25 (y0 : Int32) (y1 : Int32) (M : am_M) : Option (Int32 × am_M) := if y1 ≤ y0 then (some ((0 : Int32), M)) else (some ((1 : Int32), M))
theorem te_64_25 {L : Nat} {xs : Nat → Int32} (y0 : Int32) (y1 : Int32) (M : am_M) (q : Int32 × am_M) (d0 d1 : Option Value) (h : fd_64_25 y0 y1 M = some q) : am_ev (tb_P L xs) 64 25 [d0, d1] [.int y1, .int y0] sh_A M (some (.int q.1), sh_A, q.2) := by
  unfold fd_64_25 at h
  refine am_ev_go (pc' := (am_br .ge y0 y1 32 28)) (L' := [d0, d1]) (st' := []) (sh' := sh_A) (M' := M) 1 rfl ?_
  refine ev_ge (fun hc1 => ?_) (fun hc1 => ?_)
  · rw [if_pos hc1] at h
    refine am_ev_go (pc' := 33) (L' := [d0, d1]) (st' := [.int (0 : Int32)]) (sh' := sh_A) (M' := M) 1 rfl ?_
    cases h
    exact am_ev_ret rfl
  · rw [if_neg hc1] at h
    refine am_ev_go (pc' := 33) (L' := [d0, d1]) (st' := [.int (1 : Int32)]) (sh' := sh_A) (M' := M) 2 rfl ?_
    cases h
    exact am_ev_ret rfl
/-- CountedActors$Program.isFinished(I)Z -/
def fd_64 (a1 : Int32) (M : am_M) : Option (Int32 × am_M) := if a1 < (0 : Int32) then (some ((0 : Int32), M)) else (if (M 1 3) = (0 : Int32) then (fd_64_25 a1 (M 1 2) M) else (fd_64_25 a1 ((M 1 2) - (1 : Int32)) M))
theorem te_64 {L : Nat} {xs : Nat → Int32} (a1 : Int32) (M : am_M) (q : Int32 × am_M) (h : fd_64 a1 M = some q) : am_ev (tb_P L xs) 64 0 [some (.ref 1), some (.int a1)] [] sh_A M (some (.int q.1), sh_A, q.2) := by
  unfold fd_64 at h
  refine am_ev_go (pc' := (am_br .lt a1 0 32 4)) (L' := [some (.ref 1), some (.int a1)]) (st' := []) (sh' := sh_A) (M' := M) 2 rfl ?_
  refine ev_lt (fun hc1 => ?_) (fun hc1 => ?_)
  · rw [if_pos hc1] at h
    refine am_ev_go (pc' := 33) (L' := [some (.ref 1), some (.int a1)]) (st' := [.int (0 : Int32)]) (sh' := sh_A) (M' := M) 1 rfl ?_
    cases h
    exact am_ev_ret rfl
  · rw [if_neg hc1] at h
    refine am_ev_go (pc' := (am_br .eq (M 1 3) 0 21 12)) (L' := [some (.ref 1), some (.int a1)]) (st' := [.int a1]) (sh' := sh_A) (M' := M) 4 rfl ?_
    refine ev_eq (fun hc2 => ?_) (fun hc2 => ?_)
    · rw [if_pos hc2] at h
      refine am_ev_go (pc' := 25) (L' := [some (.ref 1), some (.int a1)]) (st' := [.int (M 1 2), .int a1]) (sh' := sh_A) (M' := M) 2 rfl ?_
      exact te_64_25 _ _ _ _ _ _ h
    · rw [if_neg hc2] at h
      refine am_ev_go (pc' := 25) (L' := [some (.ref 1), some (.int a1)]) (st' := [.int ((M 1 2) - (1 : Int32)), .int a1]) (sh' := sh_A) (M' := M) 5 rfl ?_
      exact te_64_25 _ _ _ _ _ _ h
/-- CountedActors$Mail.room()I -/
def fd_65 (M : am_M) : Option (Int32 × am_M) := some (((20 : Int32) - (M 84 4)), M)
theorem te_65 {L : Nat} {xs : Nat → Int32} (M : am_M) (q : Int32 × am_M) (h : fd_65  M = some q) : am_ev (tb_P L xs) 65 0 [some (.ref 84)] [] sh_A M (some (.int q.1), sh_A, q.2) := by
  unfold fd_65 at h
  refine am_ev_go (pc' := 7) (L' := [some (.ref 84)]) (st' := [.int ((20 : Int32) - (M 84 4))]) (sh' := sh_A) (M' := M) 4 rfl ?_
  cases h
  exact am_ev_ret rfl
/-- CountedActors$Mail.put(IIII)V -/
def fd_66 (a1 : Int32) (a2 : Int32) (a3 : Int32) (a4 : Int32) (M : am_M) : Option (am_M) := if (M 84 4) < 0 ∨ 20 ≤ (M 84 4).toNatClampNeg then none else if (M 84 4) < 0 ∨ 20 ≤ (M 84 4).toNatClampNeg then none else if (M 84 4) < 0 ∨ 20 ≤ (M 84 4).toNatClampNeg then none else if (M 84 4) < 0 ∨ 20 ≤ (M 84 4).toNatClampNeg then none else some (ds_w (ds_w (ds_w (ds_w (ds_w M 85 (M 84 4).toNatClampNeg a1) 86 (M 84 4).toNatClampNeg a2) 87 (M 84 4).toNatClampNeg a3) 88 (M 84 4).toNatClampNeg a4) 84 4 ((M 84 4) + (1 : Int32)))
theorem te_66 {L : Nat} {xs : Nat → Int32} (a1 : Int32) (a2 : Int32) (a3 : Int32) (a4 : Int32) (M : am_M) (q : am_M) (h : fd_66 a1 a2 a3 a4 M = some q) : am_ev (tb_P L xs) 66 0 [some (.ref 84), some (.int a1), some (.int a2), some (.int a3), some (.int a4)] [] sh_A M (none, sh_A, q) := by
  unfold fd_66 at h
  refine am_ev_go (pc' := 9) (L' := [some (.ref 84), some (.int a1), some (.int a2), some (.int a3), some (.int a4)]) (st' := [.int a1, .int (M 84 4), .ref 85]) (sh' := sh_A) (M' := M) 5 rfl ?_
  by_cases hg1 : (M 84 4) < 0 ∨ 20 ≤ (M 84 4).toNatClampNeg
  case pos => rw [if_pos hg1] at h; cases h
  rw [if_neg hg1] at h
  refine ev_iast rfl rfl hg1 ?_
  refine am_ev_go (pc' := 19) (L' := [some (.ref 84), some (.int a1), some (.int a2), some (.int a3), some (.int a4)]) (st' := [.int a2, .int (M 84 4), .ref 86]) (sh' := sh_A) (M' := (ds_w M 85 (M 84 4).toNatClampNeg a1)) 5 rfl ?_
  by_cases hg2 : (M 84 4) < 0 ∨ 20 ≤ (M 84 4).toNatClampNeg
  case pos => rw [if_pos hg2] at h; cases h
  rw [if_neg hg2] at h
  refine ev_iast rfl rfl hg2 ?_
  refine am_ev_go (pc' := 29) (L' := [some (.ref 84), some (.int a1), some (.int a2), some (.int a3), some (.int a4)]) (st' := [.int a3, .int (M 84 4), .ref 87]) (sh' := sh_A) (M' := (ds_w (ds_w M 85 (M 84 4).toNatClampNeg a1) 86 (M 84 4).toNatClampNeg a2)) 5 rfl ?_
  by_cases hg3 : (M 84 4) < 0 ∨ 20 ≤ (M 84 4).toNatClampNeg
  case pos => rw [if_pos hg3] at h; cases h
  rw [if_neg hg3] at h
  refine ev_iast rfl rfl hg3 ?_
  refine am_ev_go (pc' := 40) (L' := [some (.ref 84), some (.int a1), some (.int a2), some (.int a3), some (.int a4)]) (st' := [.int a4, .int (M 84 4), .ref 88]) (sh' := sh_A) (M' := (ds_w (ds_w (ds_w M 85 (M 84 4).toNatClampNeg a1) 86 (M 84 4).toNatClampNeg a2) 87 (M 84 4).toNatClampNeg a3)) 5 rfl ?_
  by_cases hg4 : (M 84 4) < 0 ∨ 20 ≤ (M 84 4).toNatClampNeg
  case pos => rw [if_pos hg4] at h; cases h
  rw [if_neg hg4] at h
  refine ev_iast rfl rfl hg4 ?_
  refine am_ev_go (pc' := 51) (L' := [some (.ref 84), some (.int a1), some (.int a2), some (.int a3), some (.int a4)]) (st' := []) (sh' := sh_A) (M' := (ds_w (ds_w (ds_w (ds_w (ds_w M 85 (M 84 4).toNatClampNeg a1) 86 (M 84 4).toNatClampNeg a2) 87 (M 84 4).toNatClampNeg a3) 88 (M 84 4).toNatClampNeg a4) 84 4 ((M 84 4) + (1 : Int32)))) 6 rfl ?_
  cases h
  exact am_ev_ret rfl
/-- CountedActors.post(II)Z -/
def fd_62 (a1 : Int32) (a2 : Int32) (M : am_M) : Option (Int32 × am_M) := (fd_63 a1 M).bind fun q1 => if q1.1 = (0 : Int32) then (some ((0 : Int32), q1.2)) else ((fd_64 a2 q1.2).bind fun q4 => if q4.1 = (0 : Int32) then (some ((0 : Int32), q4.2)) else ((fd_65 q4.2).bind fun q7 => if (1 : Int32) ≤ q7.1 then ((fd_66 (0 : Int32) a1 (-1 : Int32) a2 q7.2).bind fun q10 => some ((1 : Int32), q10)) else (some ((0 : Int32), q7.2))))
theorem te_62 {L : Nat} {xs : Nat → Int32} (a1 : Int32) (a2 : Int32) (M : am_M) (q : Int32 × am_M) (h : fd_62 a1 a2 M = some q) : am_ev (tb_P L xs) 62 0 [some (.ref 0), some (.int a1), some (.int a2)] [] sh_A M (some (.int q.1), sh_A, q.2) := by
  unfold fd_62 at h
  refine am_ev_go (pc' := 2) (L' := [some (.ref 0), some (.int a1), some (.int a2)]) (st' := [.int a1, .ref 0]) (sh' := sh_A) (M' := M) 2 rfl ?_
  obtain ⟨q1, hq2, h⟩ := Option.bind_eq_some_iff.mp h
  refine am_ev_call (mj := 63) (as := [.ref 0, .int a1]) (rest := []) (rv := some (.int q1.1)) (sh' := sh_A) (M' := q1.2) rfl (te_63 _ _ _ hq2) ?_
  show am_ev _ 62 5 [some (.ref 0), some (.int a1), some (.int a2)] [.int q1.1] sh_A q1.2 _
  refine am_ev_go (pc' := (am_br .eq q1.1 0 30 8)) (L' := [some (.ref 0), some (.int a1), some (.int a2)]) (st' := []) (sh' := sh_A) (M' := q1.2) 1 rfl ?_
  refine ev_eq (fun hc3 => ?_) (fun hc3 => ?_)
  · rw [if_pos hc3] at h
    refine am_ev_go (pc' := 31) (L' := [some (.ref 0), some (.int a1), some (.int a2)]) (st' := [.int (0 : Int32)]) (sh' := sh_A) (M' := q1.2) 1 rfl ?_
    cases h
    exact am_ev_ret rfl
  · rw [if_neg hc3] at h
    refine am_ev_go (pc' := 13) (L' := [some (.ref 0), some (.int a1), some (.int a2)]) (st' := [.int a2, .ref 1]) (sh' := sh_A) (M' := q1.2) 3 rfl ?_
    obtain ⟨q4, hq5, h⟩ := Option.bind_eq_some_iff.mp h
    refine am_ev_call (mj := 64) (as := [.ref 1, .int a2]) (rest := []) (rv := some (.int q4.1)) (sh' := sh_A) (M' := q4.2) rfl (te_64 _ _ _ hq5) ?_
    show am_ev _ 62 16 [some (.ref 0), some (.int a1), some (.int a2)] [.int q4.1] sh_A q4.2 _
    refine am_ev_go (pc' := (am_br .eq q4.1 0 30 19)) (L' := [some (.ref 0), some (.int a1), some (.int a2)]) (st' := []) (sh' := sh_A) (M' := q4.2) 1 rfl ?_
    refine ev_eq (fun hc6 => ?_) (fun hc6 => ?_)
    · rw [if_pos hc6] at h
      refine am_ev_go (pc' := 31) (L' := [some (.ref 0), some (.int a1), some (.int a2)]) (st' := [.int (0 : Int32)]) (sh' := sh_A) (M' := q4.2) 1 rfl ?_
      cases h
      exact am_ev_ret rfl
    · rw [if_neg hc6] at h
      refine am_ev_go (pc' := 23) (L' := [some (.ref 0), some (.int a1), some (.int a2)]) (st' := [.ref 84]) (sh' := sh_A) (M' := q4.2) 2 rfl ?_
      obtain ⟨q7, hq8, h⟩ := Option.bind_eq_some_iff.mp h
      refine am_ev_call (mj := 65) (as := [.ref 84]) (rest := []) (rv := some (.int q7.1)) (sh' := sh_A) (M' := q7.2) rfl (te_65 _ _ hq8) ?_
      show am_ev _ 62 26 [some (.ref 0), some (.int a1), some (.int a2)] [.int q7.1] sh_A q7.2 _
      refine am_ev_go (pc' := (am_br .ge q7.1 (1 : Int32) 32 30)) (L' := [some (.ref 0), some (.int a1), some (.int a2)]) (st' := []) (sh' := sh_A) (M' := q7.2) 2 rfl ?_
      refine ev_ge (fun hc9 => ?_) (fun hc9 => ?_)
      · rw [if_pos hc9] at h
        refine am_ev_go (pc' := 40) (L' := [some (.ref 0), some (.int a1), some (.int a2)]) (st' := [.int a2, .int (-1 : Int32), .int a1, .int (0 : Int32), .ref 84]) (sh' := sh_A) (M' := q7.2) 6 rfl ?_
        obtain ⟨q10, hq11, h⟩ := Option.bind_eq_some_iff.mp h
        refine am_ev_call (mj := 66) (as := [.ref 84, .int (0 : Int32), .int a1, .int (-1 : Int32), .int a2]) (rest := []) (rv := none) (sh' := sh_A) (M' := q10) rfl (te_66 _ _ _ _ _ _ hq11) ?_
        show am_ev _ 62 43 [some (.ref 0), some (.int a1), some (.int a2)] [] sh_A q10 _
        refine am_ev_go (pc' := 44) (L' := [some (.ref 0), some (.int a1), some (.int a2)]) (st' := [.int (1 : Int32)]) (sh' := sh_A) (M' := q10) 1 rfl ?_
        cases h
        exact am_ev_ret rfl
      · rw [if_neg hc9] at h
        refine am_ev_go (pc' := 31) (L' := [some (.ref 0), some (.int a1), some (.int a2)]) (st' := [.int (0 : Int32)]) (sh' := sh_A) (M' := q7.2) 1 rfl ?_
        cases h
        exact am_ev_ret rfl
def fd_69_2 (f : Nat) : Int32 → Int32 → am_M → Option (Int32 × am_M) := Nat.rec (motive := fun _ => Int32 → Int32 → am_M → Option (Int32 × am_M)) (fun _ _ _ => none) (fun _ k2 => fun x1 x2 M => if (M 84 4) ≤ x2 then (some ((-1 : Int32), M)) else (if x2 < 0 ∨ 20 ≤ x2.toNatClampNeg then none else if (M 86 x2.toNatClampNeg) = x1 then (some (x2, M)) else (k2 x1 (x2 + (1 : Int32)) M))) f
theorem te_69_2 {L : Nat} {xs : Nat → Int32} : ∀ (f : Nat) (x1 : Int32) (x2 : Int32) (M : am_M) (q : Int32 × am_M), fd_69_2 f x1 x2 M = some q → am_ev (tb_P L xs) 69 2 [some (.ref 84), some (.int x1), some (.int x2)] [] sh_A M (some (.int q.1), sh_A, q.2) := by
  intro f
  induction f with
  | zero => intro x1 x2 M q h; cases h
  | succ f hk2 =>
    intro x1 x2 M q h
    change (if (M 84 4) ≤ x2 then (some ((-1 : Int32), M)) else (if x2 < 0 ∨ 20 ≤ x2.toNatClampNeg then none else if (M 86 x2.toNatClampNeg) = x1 then (some (x2, M)) else ((fd_69_2 f) x1 (x2 + (1 : Int32)) M))) = some q at h
    refine am_ev_go (pc' := (am_br .ge x2 (M 84 4) 28 10)) (L' := [some (.ref 84), some (.int x1), some (.int x2)]) (st' := []) (sh' := sh_A) (M' := M) 4 rfl ?_
    refine ev_ge (fun hc1 => ?_) (fun hc1 => ?_)
    · rw [if_pos hc1] at h
      refine am_ev_go (pc' := 29) (L' := [some (.ref 84), some (.int x1), some (.int x2)]) (st' := [.int (-1 : Int32)]) (sh' := sh_A) (M' := M) 1 rfl ?_
      cases h
      exact am_ev_ret rfl
    · rw [if_neg hc1] at h
      refine am_ev_go (pc' := 15) (L' := [some (.ref 84), some (.int x1), some (.int x2)]) (st' := [.int x2, .ref 86]) (sh' := sh_A) (M' := M) 3 rfl ?_
      by_cases hg2 : x2 < 0 ∨ 20 ≤ x2.toNatClampNeg
      case pos => rw [if_pos hg2] at h; cases h
      rw [if_neg hg2] at h
      refine ev_iald rfl rfl hg2 ?_
      refine am_ev_go (pc' := (am_br .ne (M 86 x2.toNatClampNeg) x1 22 20)) (L' := [some (.ref 84), some (.int x1), some (.int x2)]) (st' := []) (sh' := sh_A) (M' := M) 2 rfl ?_
      refine ev_ne (fun hc3 => ?_) (fun hc3 => ?_)
      · rw [if_neg hc3] at h
        refine am_ev_go (pc' := 2) (L' := [some (.ref 84), some (.int x1), some (.int (x2 + (1 : Int32)))]) (st' := []) (sh' := sh_A) (M' := M) 2 rfl ?_
        exact hk2 _ _ _ _ h
      · rw [if_pos hc3] at h
        refine am_ev_go (pc' := 21) (L' := [some (.ref 84), some (.int x1), some (.int x2)]) (st' := [.int x2]) (sh' := sh_A) (M' := M) 1 rfl ?_
        cases h
        exact am_ev_ret rfl
/-- CountedActors$Mail.frontOf(I)I -/
def fd_69 (a1 : Int32) (M : am_M) : Option (Int32 × am_M) := fd_69_2 1000 a1 (0 : Int32) M
theorem te_69 {L : Nat} {xs : Nat → Int32} (a1 : Int32) (M : am_M) (q : Int32 × am_M) (h : fd_69 a1 M = some q) : am_ev (tb_P L xs) 69 0 [some (.ref 84), some (.int a1), none] [] sh_A M (some (.int q.1), sh_A, q.2) := by
  unfold fd_69 at h
  refine am_ev_go (pc' := 2) (L' := [some (.ref 84), some (.int a1), some (.int (0 : Int32))]) (st' := []) (sh' := sh_A) (M' := M) 2 rfl ?_
  exact te_69_2 1000 _ _ _ _ h
/-- CountedActors$Mail.kindAt(I)I -/
def fd_70 (a1 : Int32) (M : am_M) : Option (Int32 × am_M) := if a1 < 0 ∨ 20 ≤ a1.toNatClampNeg then none else some ((M 85 a1.toNatClampNeg), M)
theorem te_70 {L : Nat} {xs : Nat → Int32} (a1 : Int32) (M : am_M) (q : Int32 × am_M) (h : fd_70 a1 M = some q) : am_ev (tb_P L xs) 70 0 [some (.ref 84), some (.int a1)] [] sh_A M (some (.int q.1), sh_A, q.2) := by
  unfold fd_70 at h
  refine am_ev_go (pc' := 5) (L' := [some (.ref 84), some (.int a1)]) (st' := [.int a1, .ref 85]) (sh' := sh_A) (M' := M) 3 rfl ?_
  by_cases hg1 : a1 < 0 ∨ 20 ≤ a1.toNatClampNeg
  case pos => rw [if_pos hg1] at h; cases h
  rw [if_neg hg1] at h
  refine ev_iald rfl rfl hg1 ?_
  cases h
  exact am_ev_ret rfl
/-- CountedActors$Mail.objectAt(I)I -/
def fd_71 (a1 : Int32) (M : am_M) : Option (Int32 × am_M) := if a1 < 0 ∨ 20 ≤ a1.toNatClampNeg then none else some ((M 87 a1.toNatClampNeg), M)
theorem te_71 {L : Nat} {xs : Nat → Int32} (a1 : Int32) (M : am_M) (q : Int32 × am_M) (h : fd_71 a1 M = some q) : am_ev (tb_P L xs) 71 0 [some (.ref 84), some (.int a1)] [] sh_A M (some (.int q.1), sh_A, q.2) := by
  unfold fd_71 at h
  refine am_ev_go (pc' := 5) (L' := [some (.ref 84), some (.int a1)]) (st' := [.int a1, .ref 87]) (sh' := sh_A) (M' := M) 3 rfl ?_
  by_cases hg1 : a1 < 0 ∨ 20 ≤ a1.toNatClampNeg
  case pos => rw [if_pos hg1] at h; cases h
  rw [if_neg hg1] at h
  refine ev_iald rfl rfl hg1 ?_
  cases h
  exact am_ev_ret rfl
/-- CountedActors$Mail.numberAt(I)I -/
def fd_72 (a1 : Int32) (M : am_M) : Option (Int32 × am_M) := if a1 < 0 ∨ 20 ≤ a1.toNatClampNeg then none else some ((M 88 a1.toNatClampNeg), M)
theorem te_72 {L : Nat} {xs : Nat → Int32} (a1 : Int32) (M : am_M) (q : Int32 × am_M) (h : fd_72 a1 M = some q) : am_ev (tb_P L xs) 72 0 [some (.ref 84), some (.int a1)] [] sh_A M (some (.int q.1), sh_A, q.2) := by
  unfold fd_72 at h
  refine am_ev_go (pc' := 5) (L' := [some (.ref 84), some (.int a1)]) (st' := [.int a1, .ref 88]) (sh' := sh_A) (M' := M) 3 rfl ?_
  by_cases hg1 : a1 < 0 ∨ 20 ≤ a1.toNatClampNeg
  case pos => rw [if_pos hg1] at h; cases h
  rw [if_neg hg1] at h
  refine ev_iald rfl rfl hg1 ?_
  cases h
  exact am_ev_ret rfl
/-- CountedActors$Mail.removeAt(I)V -/
def fd_73 (a1 : Int32) (M : am_M) : Option (am_M) := if (a1 + (1 : Int32)) < 0 ∨ a1 < 0 ∨ (((ds_w M 84 4 ((M 84 4) - (1 : Int32))) 84 4) - a1) < 0 ∨ 20 < (a1 + (1 : Int32)).toNatClampNeg + (((ds_w M 84 4 ((M 84 4) - (1 : Int32))) 84 4) - a1).toNatClampNeg ∨ 20 < a1.toNatClampNeg + (((ds_w M 84 4 ((M 84 4) - (1 : Int32))) 84 4) - a1).toNatClampNeg then none else if (a1 + (1 : Int32)) < 0 ∨ a1 < 0 ∨ (((ds_c (ds_w M 84 4 ((M 84 4) - (1 : Int32))) 85 85 (a1 + (1 : Int32)).toNatClampNeg a1.toNatClampNeg (((ds_w M 84 4 ((M 84 4) - (1 : Int32))) 84 4) - a1).toNatClampNeg) 84 4) - a1) < 0 ∨ 20 < (a1 + (1 : Int32)).toNatClampNeg + (((ds_c (ds_w M 84 4 ((M 84 4) - (1 : Int32))) 85 85 (a1 + (1 : Int32)).toNatClampNeg a1.toNatClampNeg (((ds_w M 84 4 ((M 84 4) - (1 : Int32))) 84 4) - a1).toNatClampNeg) 84 4) - a1).toNatClampNeg ∨ 20 < a1.toNatClampNeg + (((ds_c (ds_w M 84 4 ((M 84 4) - (1 : Int32))) 85 85 (a1 + (1 : Int32)).toNatClampNeg a1.toNatClampNeg (((ds_w M 84 4 ((M 84 4) - (1 : Int32))) 84 4) - a1).toNatClampNeg) 84 4) - a1).toNatClampNeg then none else if (a1 + (1 : Int32)) < 0 ∨ a1 < 0 ∨ (((ds_c (ds_c (ds_w M 84 4 ((M 84 4) - (1 : Int32))) 85 85 (a1 + (1 : Int32)).toNatClampNeg a1.toNatClampNeg (((ds_w M 84 4 ((M 84 4) - (1 : Int32))) 84 4) - a1).toNatClampNeg) 86 86 (a1 + (1 : Int32)).toNatClampNeg a1.toNatClampNeg (((ds_c (ds_w M 84 4 ((M 84 4) - (1 : Int32))) 85 85 (a1 + (1 : Int32)).toNatClampNeg a1.toNatClampNeg (((ds_w M 84 4 ((M 84 4) - (1 : Int32))) 84 4) - a1).toNatClampNeg) 84 4) - a1).toNatClampNeg) 84 4) - a1) < 0 ∨ 20 < (a1 + (1 : Int32)).toNatClampNeg + (((ds_c (ds_c (ds_w M 84 4 ((M 84 4) - (1 : Int32))) 85 85 (a1 + (1 : Int32)).toNatClampNeg a1.toNatClampNeg (((ds_w M 84 4 ((M 84 4) - (1 : Int32))) 84 4) - a1).toNatClampNeg) 86 86 (a1 + (1 : Int32)).toNatClampNeg a1.toNatClampNeg (((ds_c (ds_w M 84 4 ((M 84 4) - (1 : Int32))) 85 85 (a1 + (1 : Int32)).toNatClampNeg a1.toNatClampNeg (((ds_w M 84 4 ((M 84 4) - (1 : Int32))) 84 4) - a1).toNatClampNeg) 84 4) - a1).toNatClampNeg) 84 4) - a1).toNatClampNeg ∨ 20 < a1.toNatClampNeg + (((ds_c (ds_c (ds_w M 84 4 ((M 84 4) - (1 : Int32))) 85 85 (a1 + (1 : Int32)).toNatClampNeg a1.toNatClampNeg (((ds_w M 84 4 ((M 84 4) - (1 : Int32))) 84 4) - a1).toNatClampNeg) 86 86 (a1 + (1 : Int32)).toNatClampNeg a1.toNatClampNeg (((ds_c (ds_w M 84 4 ((M 84 4) - (1 : Int32))) 85 85 (a1 + (1 : Int32)).toNatClampNeg a1.toNatClampNeg (((ds_w M 84 4 ((M 84 4) - (1 : Int32))) 84 4) - a1).toNatClampNeg) 84 4) - a1).toNatClampNeg) 84 4) - a1).toNatClampNeg then none else if (a1 + (1 : Int32)) < 0 ∨ a1 < 0 ∨ (((ds_c (ds_c (ds_c (ds_w M 84 4 ((M 84 4) - (1 : Int32))) 85 85 (a1 + (1 : Int32)).toNatClampNeg a1.toNatClampNeg (((ds_w M 84 4 ((M 84 4) - (1 : Int32))) 84 4) - a1).toNatClampNeg) 86 86 (a1 + (1 : Int32)).toNatClampNeg a1.toNatClampNeg (((ds_c (ds_w M 84 4 ((M 84 4) - (1 : Int32))) 85 85 (a1 + (1 : Int32)).toNatClampNeg a1.toNatClampNeg (((ds_w M 84 4 ((M 84 4) - (1 : Int32))) 84 4) - a1).toNatClampNeg) 84 4) - a1).toNatClampNeg) 87 87 (a1 + (1 : Int32)).toNatClampNeg a1.toNatClampNeg (((ds_c (ds_c (ds_w M 84 4 ((M 84 4) - (1 : Int32))) 85 85 (a1 + (1 : Int32)).toNatClampNeg a1.toNatClampNeg (((ds_w M 84 4 ((M 84 4) - (1 : Int32))) 84 4) - a1).toNatClampNeg) 86 86 (a1 + (1 : Int32)).toNatClampNeg a1.toNatClampNeg (((ds_c (ds_w M 84 4 ((M 84 4) - (1 : Int32))) 85 85 (a1 + (1 : Int32)).toNatClampNeg a1.toNatClampNeg (((ds_w M 84 4 ((M 84 4) - (1 : Int32))) 84 4) - a1).toNatClampNeg) 84 4) - a1).toNatClampNeg) 84 4) - a1).toNatClampNeg) 84 4) - a1) < 0 ∨ 20 < (a1 + (1 : Int32)).toNatClampNeg + (((ds_c (ds_c (ds_c (ds_w M 84 4 ((M 84 4) - (1 : Int32))) 85 85 (a1 + (1 : Int32)).toNatClampNeg a1.toNatClampNeg (((ds_w M 84 4 ((M 84 4) - (1 : Int32))) 84 4) - a1).toNatClampNeg) 86 86 (a1 + (1 : Int32)).toNatClampNeg a1.toNatClampNeg (((ds_c (ds_w M 84 4 ((M 84 4) - (1 : Int32))) 85 85 (a1 + (1 : Int32)).toNatClampNeg a1.toNatClampNeg (((ds_w M 84 4 ((M 84 4) - (1 : Int32))) 84 4) - a1).toNatClampNeg) 84 4) - a1).toNatClampNeg) 87 87 (a1 + (1 : Int32)).toNatClampNeg a1.toNatClampNeg (((ds_c (ds_c (ds_w M 84 4 ((M 84 4) - (1 : Int32))) 85 85 (a1 + (1 : Int32)).toNatClampNeg a1.toNatClampNeg (((ds_w M 84 4 ((M 84 4) - (1 : Int32))) 84 4) - a1).toNatClampNeg) 86 86 (a1 + (1 : Int32)).toNatClampNeg a1.toNatClampNeg (((ds_c (ds_w M 84 4 ((M 84 4) - (1 : Int32))) 85 85 (a1 + (1 : Int32)).toNatClampNeg a1.toNatClampNeg (((ds_w M 84 4 ((M 84 4) - (1 : Int32))) 84 4) - a1).toNatClampNeg) 84 4) - a1).toNatClampNeg) 84 4) - a1).toNatClampNeg) 84 4) - a1).toNatClampNeg ∨ 20 < a1.toNatClampNeg + (((ds_c (ds_c (ds_c (ds_w M 84 4 ((M 84 4) - (1 : Int32))) 85 85 (a1 + (1 : Int32)).toNatClampNeg a1.toNatClampNeg (((ds_w M 84 4 ((M 84 4) - (1 : Int32))) 84 4) - a1).toNatClampNeg) 86 86 (a1 + (1 : Int32)).toNatClampNeg a1.toNatClampNeg (((ds_c (ds_w M 84 4 ((M 84 4) - (1 : Int32))) 85 85 (a1 + (1 : Int32)).toNatClampNeg a1.toNatClampNeg (((ds_w M 84 4 ((M 84 4) - (1 : Int32))) 84 4) - a1).toNatClampNeg) 84 4) - a1).toNatClampNeg) 87 87 (a1 + (1 : Int32)).toNatClampNeg a1.toNatClampNeg (((ds_c (ds_c (ds_w M 84 4 ((M 84 4) - (1 : Int32))) 85 85 (a1 + (1 : Int32)).toNatClampNeg a1.toNatClampNeg (((ds_w M 84 4 ((M 84 4) - (1 : Int32))) 84 4) - a1).toNatClampNeg) 86 86 (a1 + (1 : Int32)).toNatClampNeg a1.toNatClampNeg (((ds_c (ds_w M 84 4 ((M 84 4) - (1 : Int32))) 85 85 (a1 + (1 : Int32)).toNatClampNeg a1.toNatClampNeg (((ds_w M 84 4 ((M 84 4) - (1 : Int32))) 84 4) - a1).toNatClampNeg) 84 4) - a1).toNatClampNeg) 84 4) - a1).toNatClampNeg) 84 4) - a1).toNatClampNeg then none else some (ds_c (ds_c (ds_c (ds_c (ds_w M 84 4 ((M 84 4) - (1 : Int32))) 85 85 (a1 + (1 : Int32)).toNatClampNeg a1.toNatClampNeg (((ds_w M 84 4 ((M 84 4) - (1 : Int32))) 84 4) - a1).toNatClampNeg) 86 86 (a1 + (1 : Int32)).toNatClampNeg a1.toNatClampNeg (((ds_c (ds_w M 84 4 ((M 84 4) - (1 : Int32))) 85 85 (a1 + (1 : Int32)).toNatClampNeg a1.toNatClampNeg (((ds_w M 84 4 ((M 84 4) - (1 : Int32))) 84 4) - a1).toNatClampNeg) 84 4) - a1).toNatClampNeg) 87 87 (a1 + (1 : Int32)).toNatClampNeg a1.toNatClampNeg (((ds_c (ds_c (ds_w M 84 4 ((M 84 4) - (1 : Int32))) 85 85 (a1 + (1 : Int32)).toNatClampNeg a1.toNatClampNeg (((ds_w M 84 4 ((M 84 4) - (1 : Int32))) 84 4) - a1).toNatClampNeg) 86 86 (a1 + (1 : Int32)).toNatClampNeg a1.toNatClampNeg (((ds_c (ds_w M 84 4 ((M 84 4) - (1 : Int32))) 85 85 (a1 + (1 : Int32)).toNatClampNeg a1.toNatClampNeg (((ds_w M 84 4 ((M 84 4) - (1 : Int32))) 84 4) - a1).toNatClampNeg) 84 4) - a1).toNatClampNeg) 84 4) - a1).toNatClampNeg) 88 88 (a1 + (1 : Int32)).toNatClampNeg a1.toNatClampNeg (((ds_c (ds_c (ds_c (ds_w M 84 4 ((M 84 4) - (1 : Int32))) 85 85 (a1 + (1 : Int32)).toNatClampNeg a1.toNatClampNeg (((ds_w M 84 4 ((M 84 4) - (1 : Int32))) 84 4) - a1).toNatClampNeg) 86 86 (a1 + (1 : Int32)).toNatClampNeg a1.toNatClampNeg (((ds_c (ds_w M 84 4 ((M 84 4) - (1 : Int32))) 85 85 (a1 + (1 : Int32)).toNatClampNeg a1.toNatClampNeg (((ds_w M 84 4 ((M 84 4) - (1 : Int32))) 84 4) - a1).toNatClampNeg) 84 4) - a1).toNatClampNeg) 87 87 (a1 + (1 : Int32)).toNatClampNeg a1.toNatClampNeg (((ds_c (ds_c (ds_w M 84 4 ((M 84 4) - (1 : Int32))) 85 85 (a1 + (1 : Int32)).toNatClampNeg a1.toNatClampNeg (((ds_w M 84 4 ((M 84 4) - (1 : Int32))) 84 4) - a1).toNatClampNeg) 86 86 (a1 + (1 : Int32)).toNatClampNeg a1.toNatClampNeg (((ds_c (ds_w M 84 4 ((M 84 4) - (1 : Int32))) 85 85 (a1 + (1 : Int32)).toNatClampNeg a1.toNatClampNeg (((ds_w M 84 4 ((M 84 4) - (1 : Int32))) 84 4) - a1).toNatClampNeg) 84 4) - a1).toNatClampNeg) 84 4) - a1).toNatClampNeg) 84 4) - a1).toNatClampNeg)
theorem te_73 {L : Nat} {xs : Nat → Int32} (a1 : Int32) (M : am_M) (q : am_M) (h : fd_73 a1 M = some q) : am_ev (tb_P L xs) 73 0 [some (.ref 84), some (.int a1)] [] sh_A M (none, sh_A, q) := by
  unfold fd_73 at h
  refine am_ev_go (pc' := 28) (L' := [some (.ref 84), some (.int a1)]) (st' := [.int (((ds_w M 84 4 ((M 84 4) - (1 : Int32))) 84 4) - a1), .int a1, .ref 85, .int (a1 + (1 : Int32)), .ref 85]) (sh' := sh_A) (M' := (ds_w M 84 4 ((M 84 4) - (1 : Int32)))) 18 rfl ?_
  by_cases hg1 : (a1 + (1 : Int32)) < 0 ∨ a1 < 0 ∨ (((ds_w M 84 4 ((M 84 4) - (1 : Int32))) 84 4) - a1) < 0 ∨ 20 < (a1 + (1 : Int32)).toNatClampNeg + (((ds_w M 84 4 ((M 84 4) - (1 : Int32))) 84 4) - a1).toNatClampNeg ∨ 20 < a1.toNatClampNeg + (((ds_w M 84 4 ((M 84 4) - (1 : Int32))) 84 4) - a1).toNatClampNeg
  case pos => rw [if_pos hg1] at h; cases h
  rw [if_neg hg1] at h
  refine ev_copy rfl rfl rfl rfl (by decide) hg1 ?_
  refine am_ev_go (pc' := 49) (L' := [some (.ref 84), some (.int a1)]) (st' := [.int (((ds_c (ds_w M 84 4 ((M 84 4) - (1 : Int32))) 85 85 (a1 + (1 : Int32)).toNatClampNeg a1.toNatClampNeg (((ds_w M 84 4 ((M 84 4) - (1 : Int32))) 84 4) - a1).toNatClampNeg) 84 4) - a1), .int a1, .ref 86, .int (a1 + (1 : Int32)), .ref 86]) (sh' := sh_A) (M' := (ds_c (ds_w M 84 4 ((M 84 4) - (1 : Int32))) 85 85 (a1 + (1 : Int32)).toNatClampNeg a1.toNatClampNeg (((ds_w M 84 4 ((M 84 4) - (1 : Int32))) 84 4) - a1).toNatClampNeg)) 12 rfl ?_
  by_cases hg3 : (a1 + (1 : Int32)) < 0 ∨ a1 < 0 ∨ (((ds_c (ds_w M 84 4 ((M 84 4) - (1 : Int32))) 85 85 (a1 + (1 : Int32)).toNatClampNeg a1.toNatClampNeg (((ds_w M 84 4 ((M 84 4) - (1 : Int32))) 84 4) - a1).toNatClampNeg) 84 4) - a1) < 0 ∨ 20 < (a1 + (1 : Int32)).toNatClampNeg + (((ds_c (ds_w M 84 4 ((M 84 4) - (1 : Int32))) 85 85 (a1 + (1 : Int32)).toNatClampNeg a1.toNatClampNeg (((ds_w M 84 4 ((M 84 4) - (1 : Int32))) 84 4) - a1).toNatClampNeg) 84 4) - a1).toNatClampNeg ∨ 20 < a1.toNatClampNeg + (((ds_c (ds_w M 84 4 ((M 84 4) - (1 : Int32))) 85 85 (a1 + (1 : Int32)).toNatClampNeg a1.toNatClampNeg (((ds_w M 84 4 ((M 84 4) - (1 : Int32))) 84 4) - a1).toNatClampNeg) 84 4) - a1).toNatClampNeg
  case pos => rw [if_pos hg3] at h; cases h
  rw [if_neg hg3] at h
  refine ev_copy rfl rfl rfl rfl (by decide) hg3 ?_
  refine am_ev_go (pc' := 70) (L' := [some (.ref 84), some (.int a1)]) (st' := [.int (((ds_c (ds_c (ds_w M 84 4 ((M 84 4) - (1 : Int32))) 85 85 (a1 + (1 : Int32)).toNatClampNeg a1.toNatClampNeg (((ds_w M 84 4 ((M 84 4) - (1 : Int32))) 84 4) - a1).toNatClampNeg) 86 86 (a1 + (1 : Int32)).toNatClampNeg a1.toNatClampNeg (((ds_c (ds_w M 84 4 ((M 84 4) - (1 : Int32))) 85 85 (a1 + (1 : Int32)).toNatClampNeg a1.toNatClampNeg (((ds_w M 84 4 ((M 84 4) - (1 : Int32))) 84 4) - a1).toNatClampNeg) 84 4) - a1).toNatClampNeg) 84 4) - a1), .int a1, .ref 87, .int (a1 + (1 : Int32)), .ref 87]) (sh' := sh_A) (M' := (ds_c (ds_c (ds_w M 84 4 ((M 84 4) - (1 : Int32))) 85 85 (a1 + (1 : Int32)).toNatClampNeg a1.toNatClampNeg (((ds_w M 84 4 ((M 84 4) - (1 : Int32))) 84 4) - a1).toNatClampNeg) 86 86 (a1 + (1 : Int32)).toNatClampNeg a1.toNatClampNeg (((ds_c (ds_w M 84 4 ((M 84 4) - (1 : Int32))) 85 85 (a1 + (1 : Int32)).toNatClampNeg a1.toNatClampNeg (((ds_w M 84 4 ((M 84 4) - (1 : Int32))) 84 4) - a1).toNatClampNeg) 84 4) - a1).toNatClampNeg)) 12 rfl ?_
  by_cases hg5 : (a1 + (1 : Int32)) < 0 ∨ a1 < 0 ∨ (((ds_c (ds_c (ds_w M 84 4 ((M 84 4) - (1 : Int32))) 85 85 (a1 + (1 : Int32)).toNatClampNeg a1.toNatClampNeg (((ds_w M 84 4 ((M 84 4) - (1 : Int32))) 84 4) - a1).toNatClampNeg) 86 86 (a1 + (1 : Int32)).toNatClampNeg a1.toNatClampNeg (((ds_c (ds_w M 84 4 ((M 84 4) - (1 : Int32))) 85 85 (a1 + (1 : Int32)).toNatClampNeg a1.toNatClampNeg (((ds_w M 84 4 ((M 84 4) - (1 : Int32))) 84 4) - a1).toNatClampNeg) 84 4) - a1).toNatClampNeg) 84 4) - a1) < 0 ∨ 20 < (a1 + (1 : Int32)).toNatClampNeg + (((ds_c (ds_c (ds_w M 84 4 ((M 84 4) - (1 : Int32))) 85 85 (a1 + (1 : Int32)).toNatClampNeg a1.toNatClampNeg (((ds_w M 84 4 ((M 84 4) - (1 : Int32))) 84 4) - a1).toNatClampNeg) 86 86 (a1 + (1 : Int32)).toNatClampNeg a1.toNatClampNeg (((ds_c (ds_w M 84 4 ((M 84 4) - (1 : Int32))) 85 85 (a1 + (1 : Int32)).toNatClampNeg a1.toNatClampNeg (((ds_w M 84 4 ((M 84 4) - (1 : Int32))) 84 4) - a1).toNatClampNeg) 84 4) - a1).toNatClampNeg) 84 4) - a1).toNatClampNeg ∨ 20 < a1.toNatClampNeg + (((ds_c (ds_c (ds_w M 84 4 ((M 84 4) - (1 : Int32))) 85 85 (a1 + (1 : Int32)).toNatClampNeg a1.toNatClampNeg (((ds_w M 84 4 ((M 84 4) - (1 : Int32))) 84 4) - a1).toNatClampNeg) 86 86 (a1 + (1 : Int32)).toNatClampNeg a1.toNatClampNeg (((ds_c (ds_w M 84 4 ((M 84 4) - (1 : Int32))) 85 85 (a1 + (1 : Int32)).toNatClampNeg a1.toNatClampNeg (((ds_w M 84 4 ((M 84 4) - (1 : Int32))) 84 4) - a1).toNatClampNeg) 84 4) - a1).toNatClampNeg) 84 4) - a1).toNatClampNeg
  case pos => rw [if_pos hg5] at h; cases h
  rw [if_neg hg5] at h
  refine ev_copy rfl rfl rfl rfl (by decide) hg5 ?_
  refine am_ev_go (pc' := 91) (L' := [some (.ref 84), some (.int a1)]) (st' := [.int (((ds_c (ds_c (ds_c (ds_w M 84 4 ((M 84 4) - (1 : Int32))) 85 85 (a1 + (1 : Int32)).toNatClampNeg a1.toNatClampNeg (((ds_w M 84 4 ((M 84 4) - (1 : Int32))) 84 4) - a1).toNatClampNeg) 86 86 (a1 + (1 : Int32)).toNatClampNeg a1.toNatClampNeg (((ds_c (ds_w M 84 4 ((M 84 4) - (1 : Int32))) 85 85 (a1 + (1 : Int32)).toNatClampNeg a1.toNatClampNeg (((ds_w M 84 4 ((M 84 4) - (1 : Int32))) 84 4) - a1).toNatClampNeg) 84 4) - a1).toNatClampNeg) 87 87 (a1 + (1 : Int32)).toNatClampNeg a1.toNatClampNeg (((ds_c (ds_c (ds_w M 84 4 ((M 84 4) - (1 : Int32))) 85 85 (a1 + (1 : Int32)).toNatClampNeg a1.toNatClampNeg (((ds_w M 84 4 ((M 84 4) - (1 : Int32))) 84 4) - a1).toNatClampNeg) 86 86 (a1 + (1 : Int32)).toNatClampNeg a1.toNatClampNeg (((ds_c (ds_w M 84 4 ((M 84 4) - (1 : Int32))) 85 85 (a1 + (1 : Int32)).toNatClampNeg a1.toNatClampNeg (((ds_w M 84 4 ((M 84 4) - (1 : Int32))) 84 4) - a1).toNatClampNeg) 84 4) - a1).toNatClampNeg) 84 4) - a1).toNatClampNeg) 84 4) - a1), .int a1, .ref 88, .int (a1 + (1 : Int32)), .ref 88]) (sh' := sh_A) (M' := (ds_c (ds_c (ds_c (ds_w M 84 4 ((M 84 4) - (1 : Int32))) 85 85 (a1 + (1 : Int32)).toNatClampNeg a1.toNatClampNeg (((ds_w M 84 4 ((M 84 4) - (1 : Int32))) 84 4) - a1).toNatClampNeg) 86 86 (a1 + (1 : Int32)).toNatClampNeg a1.toNatClampNeg (((ds_c (ds_w M 84 4 ((M 84 4) - (1 : Int32))) 85 85 (a1 + (1 : Int32)).toNatClampNeg a1.toNatClampNeg (((ds_w M 84 4 ((M 84 4) - (1 : Int32))) 84 4) - a1).toNatClampNeg) 84 4) - a1).toNatClampNeg) 87 87 (a1 + (1 : Int32)).toNatClampNeg a1.toNatClampNeg (((ds_c (ds_c (ds_w M 84 4 ((M 84 4) - (1 : Int32))) 85 85 (a1 + (1 : Int32)).toNatClampNeg a1.toNatClampNeg (((ds_w M 84 4 ((M 84 4) - (1 : Int32))) 84 4) - a1).toNatClampNeg) 86 86 (a1 + (1 : Int32)).toNatClampNeg a1.toNatClampNeg (((ds_c (ds_w M 84 4 ((M 84 4) - (1 : Int32))) 85 85 (a1 + (1 : Int32)).toNatClampNeg a1.toNatClampNeg (((ds_w M 84 4 ((M 84 4) - (1 : Int32))) 84 4) - a1).toNatClampNeg) 84 4) - a1).toNatClampNeg) 84 4) - a1).toNatClampNeg)) 12 rfl ?_
  by_cases hg7 : (a1 + (1 : Int32)) < 0 ∨ a1 < 0 ∨ (((ds_c (ds_c (ds_c (ds_w M 84 4 ((M 84 4) - (1 : Int32))) 85 85 (a1 + (1 : Int32)).toNatClampNeg a1.toNatClampNeg (((ds_w M 84 4 ((M 84 4) - (1 : Int32))) 84 4) - a1).toNatClampNeg) 86 86 (a1 + (1 : Int32)).toNatClampNeg a1.toNatClampNeg (((ds_c (ds_w M 84 4 ((M 84 4) - (1 : Int32))) 85 85 (a1 + (1 : Int32)).toNatClampNeg a1.toNatClampNeg (((ds_w M 84 4 ((M 84 4) - (1 : Int32))) 84 4) - a1).toNatClampNeg) 84 4) - a1).toNatClampNeg) 87 87 (a1 + (1 : Int32)).toNatClampNeg a1.toNatClampNeg (((ds_c (ds_c (ds_w M 84 4 ((M 84 4) - (1 : Int32))) 85 85 (a1 + (1 : Int32)).toNatClampNeg a1.toNatClampNeg (((ds_w M 84 4 ((M 84 4) - (1 : Int32))) 84 4) - a1).toNatClampNeg) 86 86 (a1 + (1 : Int32)).toNatClampNeg a1.toNatClampNeg (((ds_c (ds_w M 84 4 ((M 84 4) - (1 : Int32))) 85 85 (a1 + (1 : Int32)).toNatClampNeg a1.toNatClampNeg (((ds_w M 84 4 ((M 84 4) - (1 : Int32))) 84 4) - a1).toNatClampNeg) 84 4) - a1).toNatClampNeg) 84 4) - a1).toNatClampNeg) 84 4) - a1) < 0 ∨ 20 < (a1 + (1 : Int32)).toNatClampNeg + (((ds_c (ds_c (ds_c (ds_w M 84 4 ((M 84 4) - (1 : Int32))) 85 85 (a1 + (1 : Int32)).toNatClampNeg a1.toNatClampNeg (((ds_w M 84 4 ((M 84 4) - (1 : Int32))) 84 4) - a1).toNatClampNeg) 86 86 (a1 + (1 : Int32)).toNatClampNeg a1.toNatClampNeg (((ds_c (ds_w M 84 4 ((M 84 4) - (1 : Int32))) 85 85 (a1 + (1 : Int32)).toNatClampNeg a1.toNatClampNeg (((ds_w M 84 4 ((M 84 4) - (1 : Int32))) 84 4) - a1).toNatClampNeg) 84 4) - a1).toNatClampNeg) 87 87 (a1 + (1 : Int32)).toNatClampNeg a1.toNatClampNeg (((ds_c (ds_c (ds_w M 84 4 ((M 84 4) - (1 : Int32))) 85 85 (a1 + (1 : Int32)).toNatClampNeg a1.toNatClampNeg (((ds_w M 84 4 ((M 84 4) - (1 : Int32))) 84 4) - a1).toNatClampNeg) 86 86 (a1 + (1 : Int32)).toNatClampNeg a1.toNatClampNeg (((ds_c (ds_w M 84 4 ((M 84 4) - (1 : Int32))) 85 85 (a1 + (1 : Int32)).toNatClampNeg a1.toNatClampNeg (((ds_w M 84 4 ((M 84 4) - (1 : Int32))) 84 4) - a1).toNatClampNeg) 84 4) - a1).toNatClampNeg) 84 4) - a1).toNatClampNeg) 84 4) - a1).toNatClampNeg ∨ 20 < a1.toNatClampNeg + (((ds_c (ds_c (ds_c (ds_w M 84 4 ((M 84 4) - (1 : Int32))) 85 85 (a1 + (1 : Int32)).toNatClampNeg a1.toNatClampNeg (((ds_w M 84 4 ((M 84 4) - (1 : Int32))) 84 4) - a1).toNatClampNeg) 86 86 (a1 + (1 : Int32)).toNatClampNeg a1.toNatClampNeg (((ds_c (ds_w M 84 4 ((M 84 4) - (1 : Int32))) 85 85 (a1 + (1 : Int32)).toNatClampNeg a1.toNatClampNeg (((ds_w M 84 4 ((M 84 4) - (1 : Int32))) 84 4) - a1).toNatClampNeg) 84 4) - a1).toNatClampNeg) 87 87 (a1 + (1 : Int32)).toNatClampNeg a1.toNatClampNeg (((ds_c (ds_c (ds_w M 84 4 ((M 84 4) - (1 : Int32))) 85 85 (a1 + (1 : Int32)).toNatClampNeg a1.toNatClampNeg (((ds_w M 84 4 ((M 84 4) - (1 : Int32))) 84 4) - a1).toNatClampNeg) 86 86 (a1 + (1 : Int32)).toNatClampNeg a1.toNatClampNeg (((ds_c (ds_w M 84 4 ((M 84 4) - (1 : Int32))) 85 85 (a1 + (1 : Int32)).toNatClampNeg a1.toNatClampNeg (((ds_w M 84 4 ((M 84 4) - (1 : Int32))) 84 4) - a1).toNatClampNeg) 84 4) - a1).toNatClampNeg) 84 4) - a1).toNatClampNeg) 84 4) - a1).toNatClampNeg
  case pos => rw [if_pos hg7] at h; cases h
  rw [if_neg hg7] at h
  refine ev_copy rfl rfl rfl rfl (by decide) hg7 ?_
  cases h
  exact am_ev_ret rfl
/-- CountedActors$Walk.start()V -/
def fd_76 (M : am_M) : Option (am_M) := (fd_7 90 16 (0 : Int32) M).bind fun q1 => some (ds_w q1 89 3 (0 : Int32))
theorem te_76 {L : Nat} {xs : Nat → Int32} (M : am_M) (q : am_M) (h : fd_76  M = some q) : am_ev (tb_P L xs) 76 0 [some (.ref 89)] [] sh_A M (none, sh_A, q) := by
  unfold fd_76 at h
  refine am_ev_go (pc' := 5) (L' := [some (.ref 89)]) (st' := [.int (0 : Int32), .ref 90]) (sh' := sh_A) (M' := M) 3 rfl ?_
  obtain ⟨q1, hq2, h⟩ := Option.bind_eq_some_iff.mp h
  refine am_ev_call (mj := 7) (as := [.ref 90, .int (0 : Int32)]) (rest := []) (rv := none) (sh' := sh_A) (M' := q1) rfl (te_7 rfl (by decide) hq2) ?_
  show am_ev _ 76 8 [some (.ref 89)] [] sh_A q1 _
  refine am_ev_go (pc' := 13) (L' := [some (.ref 89)]) (st' := []) (sh' := sh_A) (M' := (ds_w q1 89 3 (0 : Int32))) 3 rfl ?_
  cases h
  exact am_ev_ret rfl
/-- CountedActors$Walk.meet(II)V -/
def fd_77 (a1 : Int32) (a2 : Int32) (M : am_M) : Option (am_M) := if a1 = (-1 : Int32) then (some M) else (if a1 < 0 ∨ 16 ≤ a1.toNatClampNeg then none else if ((M 90 a1.toNatClampNeg) &&& ((1 : Int32) <<< (a2 &&& 31))) = (0 : Int32) then (if a1 < 0 ∨ 16 ≤ a1.toNatClampNeg then none else if a1 < 0 ∨ 16 ≤ a1.toNatClampNeg then none else if a2 = (5 : Int32) then (some (ds_w M 90 a1.toNatClampNeg ((M 90 a1.toNatClampNeg) ||| ((1 : Int32) <<< (a2 &&& 31))))) else (if (M 89 3) < 0 ∨ 96 ≤ (M 89 3).toNatClampNeg then none else some (ds_w (ds_w (ds_w M 90 a1.toNatClampNeg ((M 90 a1.toNatClampNeg) ||| ((1 : Int32) <<< (a2 &&& 31)))) 91 (M 89 3).toNatClampNeg ((a1 * (6 : Int32)) + a2)) 89 3 ((M 89 3) + (1 : Int32))))) else (some M))
theorem te_77 {L : Nat} {xs : Nat → Int32} (a1 : Int32) (a2 : Int32) (M : am_M) (q : am_M) (h : fd_77 a1 a2 M = some q) : am_ev (tb_P L xs) 77 0 [some (.ref 89), some (.int a1), some (.int a2), none] [] sh_A M (none, sh_A, q) := by
  unfold fd_77 at h
  refine am_ev_go (pc' := (am_br .eq a1 (-1 : Int32) 20 9)) (L' := [some (.ref 89), some (.int a1), some (.int a2), some (.int ((1 : Int32) <<< (a2 &&& 31)))]) (st' := []) (sh' := sh_A) (M' := M) 7 rfl ?_
  refine ev_eq (fun hc1 => ?_) (fun hc1 => ?_)
  · rw [if_pos hc1] at h
    cases h
    exact am_ev_ret rfl
  · rw [if_neg hc1] at h
    refine am_ev_go (pc' := 14) (L' := [some (.ref 89), some (.int a1), some (.int a2), some (.int ((1 : Int32) <<< (a2 &&& 31)))]) (st' := [.int a1, .ref 90]) (sh' := sh_A) (M' := M) 3 rfl ?_
    by_cases hg2 : a1 < 0 ∨ 16 ≤ a1.toNatClampNeg
    case pos => rw [if_pos hg2] at h; cases h
    rw [if_neg hg2] at h
    refine ev_iald rfl rfl hg2 ?_
    refine am_ev_go (pc' := (am_br .eq ((M 90 a1.toNatClampNeg) &&& ((1 : Int32) <<< (a2 &&& 31))) 0 21 20)) (L' := [some (.ref 89), some (.int a1), some (.int a2), some (.int ((1 : Int32) <<< (a2 &&& 31)))]) (st' := []) (sh' := sh_A) (M' := M) 3 rfl ?_
    refine ev_eq (fun hc3 => ?_) (fun hc3 => ?_)
    · rw [if_pos hc3] at h
      refine am_ev_go (pc' := 27) (L' := [some (.ref 89), some (.int a1), some (.int a2), some (.int ((1 : Int32) <<< (a2 &&& 31)))]) (st' := [.int a1, .ref 90, .int a1, .ref 90]) (sh' := sh_A) (M' := M) 4 rfl ?_
      by_cases hg4 : a1 < 0 ∨ 16 ≤ a1.toNatClampNeg
      case pos => rw [if_pos hg4] at h; cases h
      rw [if_neg hg4] at h
      refine ev_iald rfl rfl hg4 ?_
      refine am_ev_go (pc' := 30) (L' := [some (.ref 89), some (.int a1), some (.int a2), some (.int ((1 : Int32) <<< (a2 &&& 31)))]) (st' := [.int ((M 90 a1.toNatClampNeg) ||| ((1 : Int32) <<< (a2 &&& 31))), .int a1, .ref 90]) (sh' := sh_A) (M' := M) 2 rfl ?_
      by_cases hg5 : a1 < 0 ∨ 16 ≤ a1.toNatClampNeg
      case pos => rw [if_pos hg5] at h; cases h
      rw [if_neg hg5] at h
      refine ev_iast rfl rfl hg5 ?_
      refine am_ev_go (pc' := (am_br .eq a2 (5 : Int32) 61 36)) (L' := [some (.ref 89), some (.int a1), some (.int a2), some (.int ((1 : Int32) <<< (a2 &&& 31)))]) (st' := []) (sh' := sh_A) (M' := (ds_w M 90 a1.toNatClampNeg ((M 90 a1.toNatClampNeg) ||| ((1 : Int32) <<< (a2 &&& 31))))) 3 rfl ?_
      refine ev_eq (fun hc6 => ?_) (fun hc6 => ?_)
      · rw [if_pos hc6] at h
        cases h
        exact am_ev_ret rfl
      · rw [if_neg hc6] at h
        refine am_ev_go (pc' := 50) (L' := [some (.ref 89), some (.int a1), some (.int a2), some (.int ((1 : Int32) <<< (a2 &&& 31)))]) (st' := [.int ((a1 * (6 : Int32)) + a2), .int (M 89 3), .ref 91]) (sh' := sh_A) (M' := (ds_w M 90 a1.toNatClampNeg ((M 90 a1.toNatClampNeg) ||| ((1 : Int32) <<< (a2 &&& 31))))) 9 rfl ?_
        by_cases hg7 : (M 89 3) < 0 ∨ 96 ≤ (M 89 3).toNatClampNeg
        case pos => rw [if_pos hg7] at h; cases h
        rw [if_neg hg7] at h
        refine ev_iast rfl rfl hg7 ?_
        refine am_ev_go (pc' := 61) (L' := [some (.ref 89), some (.int a1), some (.int a2), some (.int ((1 : Int32) <<< (a2 &&& 31)))]) (st' := []) (sh' := sh_A) (M' := (ds_w (ds_w (ds_w M 90 a1.toNatClampNeg ((M 90 a1.toNatClampNeg) ||| ((1 : Int32) <<< (a2 &&& 31)))) 91 (M 89 3).toNatClampNeg ((a1 * (6 : Int32)) + a2)) 89 3 ((M 89 3) + (1 : Int32)))) 6 rfl ?_
        cases h
        exact am_ev_ret rfl
    · rw [if_neg hc3] at h
      cases h
      exact am_ev_ret rfl
/-- CountedActors$Walk.startFrom(II)V -/
def fd_75 (a1 : Int32) (a2 : Int32) (M : am_M) : Option (am_M) := (fd_76 M).bind fun q1 => (fd_77 a1 a2 q1).bind fun q3 => some q3
theorem te_75 {L : Nat} {xs : Nat → Int32} (a1 : Int32) (a2 : Int32) (M : am_M) (q : am_M) (h : fd_75 a1 a2 M = some q) : am_ev (tb_P L xs) 75 0 [some (.ref 89), some (.int a1), some (.int a2)] [] sh_A M (none, sh_A, q) := by
  unfold fd_75 at h
  refine am_ev_go (pc' := 1) (L' := [some (.ref 89), some (.int a1), some (.int a2)]) (st' := [.ref 89]) (sh' := sh_A) (M' := M) 1 rfl ?_
  obtain ⟨q1, hq2, h⟩ := Option.bind_eq_some_iff.mp h
  refine am_ev_call (mj := 76) (as := [.ref 89]) (rest := []) (rv := none) (sh' := sh_A) (M' := q1) rfl (te_76 _ _ hq2) ?_
  show am_ev _ 75 4 [some (.ref 89), some (.int a1), some (.int a2)] [] sh_A q1 _
  refine am_ev_go (pc' := 7) (L' := [some (.ref 89), some (.int a1), some (.int a2)]) (st' := [.int a2, .int a1, .ref 89]) (sh' := sh_A) (M' := q1) 3 rfl ?_
  obtain ⟨q3, hq4, h⟩ := Option.bind_eq_some_iff.mp h
  refine am_ev_call (mj := 77) (as := [.ref 89, .int a1, .int a2]) (rest := []) (rv := none) (sh' := sh_A) (M' := q3) rfl (te_77 _ _ _ _ hq4) ?_
  show am_ev _ 75 10 [some (.ref 89), some (.int a1), some (.int a2)] [] sh_A q3 _
  cases h
  exact am_ev_ret rfl
/-- CountedActors$Heap.heldBy(II)I -/
def fd_79 (a1 : Int32) (a2 : Int32) (M : am_M) : Option (Int32 × am_M) := if ((a1 * (6 : Int32)) + a2) < 0 ∨ 120 ≤ ((a1 * (6 : Int32)) + a2).toNatClampNeg then none else some ((M 82 ((a1 * (6 : Int32)) + a2).toNatClampNeg), M)
theorem te_79 {L : Nat} {xs : Nat → Int32} (a1 : Int32) (a2 : Int32) (M : am_M) (q : Int32 × am_M) (h : fd_79 a1 a2 M = some q) : am_ev (tb_P L xs) 79 0 [some (.ref 79), some (.int a1), some (.int a2)] [] sh_A M (some (.int q.1), sh_A, q.2) := by
  unfold fd_79 at h
  refine am_ev_go (pc' := 10) (L' := [some (.ref 79), some (.int a1), some (.int a2)]) (st' := [.int ((a1 * (6 : Int32)) + a2), .ref 82]) (sh' := sh_A) (M' := M) 7 rfl ?_
  by_cases hg1 : ((a1 * (6 : Int32)) + a2) < 0 ∨ 120 ≤ ((a1 * (6 : Int32)) + a2).toNatClampNeg
  case pos => rw [if_pos hg1] at h; cases h
  rw [if_neg hg1] at h
  refine ev_iald rfl rfl hg1 ?_
  cases h
  exact am_ev_ret rfl
def fd_78_31 (k2 : Int32 → am_M → Option (am_M)) (f : Nat) : Int32 → Int32 → Int32 → am_M → Option (am_M) := Nat.rec (motive := fun _ => Int32 → Int32 → Int32 → am_M → Option (am_M)) (fun _ _ _ _ => none) (fun _ k31 => fun x1 x2 x3 M => if (6 : Int32) ≤ x3 then (k2 (x1 + (1 : Int32)) M) else ((fd_79 x2 x3 M).bind fun q2 => (fd_77 q2.1 x3 q2.2).bind fun q4 => k31 x1 x2 (x3 + (1 : Int32)) q4)) f
theorem te_78_31 {L : Nat} {xs : Nat → Int32} {k2 : Int32 → am_M → Option (am_M)} (hk2 : ∀ (x1 : Int32) (M : am_M) (q : am_M) (e2 e3 : Option Value), k2 x1 M = some q → am_ev (tb_P L xs) 78 2 [some (.ref 89), some (.int x1), e2, e3] [] sh_A M (none, sh_A, q)) : ∀ (f : Nat) (x1 : Int32) (x2 : Int32) (x3 : Int32) (M : am_M) (q : am_M), fd_78_31 k2 f x1 x2 x3 M = some q → am_ev (tb_P L xs) 78 31 [some (.ref 89), some (.int x1), some (.int x2), some (.int x3)] [] sh_A M (none, sh_A, q) := by
  intro f
  induction f with
  | zero => intro x1 x2 x3 M q h; cases h
  | succ f hk31 =>
    intro x1 x2 x3 M q h
    change (if (6 : Int32) ≤ x3 then (k2 (x1 + (1 : Int32)) M) else ((fd_79 x2 x3 M).bind fun q2 => (fd_77 q2.1 x3 q2.2).bind fun q4 => (fd_78_31 k2 f) x1 x2 (x3 + (1 : Int32)) q4)) = some q at h
    refine am_ev_go (pc' := (am_br .ge x3 (6 : Int32) 57 37)) (L' := [some (.ref 89), some (.int x1), some (.int x2), some (.int x3)]) (st' := []) (sh' := sh_A) (M' := M) 3 rfl ?_
    refine ev_ge (fun hc1 => ?_) (fun hc1 => ?_)
    · rw [if_pos hc1] at h
      refine am_ev_go (pc' := 2) (L' := [some (.ref 89), some (.int (x1 + (1 : Int32))), some (.int x2), some (.int x3)]) (st' := []) (sh' := sh_A) (M' := M) 2 rfl ?_
      exact hk2 _ _ _ _ _ h
    · rw [if_neg hc1] at h
      refine am_ev_go (pc' := 44) (L' := [some (.ref 89), some (.int x1), some (.int x2), some (.int x3)]) (st' := [.int x3, .int x2, .ref 79, .ref 89]) (sh' := sh_A) (M' := M) 5 rfl ?_
      obtain ⟨q2, hq3, h⟩ := Option.bind_eq_some_iff.mp h
      refine am_ev_call (mj := 79) (as := [.ref 79, .int x2, .int x3]) (rest := [.ref 89]) (rv := some (.int q2.1)) (sh' := sh_A) (M' := q2.2) rfl (te_79 _ _ _ _ hq3) ?_
      show am_ev _ 78 47 [some (.ref 89), some (.int x1), some (.int x2), some (.int x3)] [.int q2.1, .ref 89] sh_A q2.2 _
      refine am_ev_go (pc' := 48) (L' := [some (.ref 89), some (.int x1), some (.int x2), some (.int x3)]) (st' := [.int x3, .int q2.1, .ref 89]) (sh' := sh_A) (M' := q2.2) 1 rfl ?_
      obtain ⟨q4, hq5, h⟩ := Option.bind_eq_some_iff.mp h
      refine am_ev_call (mj := 77) (as := [.ref 89, .int q2.1, .int x3]) (rest := []) (rv := none) (sh' := sh_A) (M' := q4) rfl (te_77 _ _ _ _ hq5) ?_
      show am_ev _ 78 51 [some (.ref 89), some (.int x1), some (.int x2), some (.int x3)] [] sh_A q4 _
      refine am_ev_go (pc' := 31) (L' := [some (.ref 89), some (.int x1), some (.int x2), some (.int (x3 + (1 : Int32)))]) (st' := []) (sh' := sh_A) (M' := q4) 2 rfl ?_
      exact hk31 _ _ _ _ _ h
def fd_78_2 (f : Nat) : Int32 → am_M → Option (am_M) := Nat.rec (motive := fun _ => Int32 → am_M → Option (am_M)) (fun _ _ => none) (fun _ k2 => fun x1 M => if (M 89 3) ≤ x1 then (some M) else (if (96 : Int32) ≤ x1 then (some M) else (if x1 < 0 ∨ 96 ≤ x1.toNatClampNeg then none else fd_78_31 k2 1000 x1 ((M 91 x1.toNatClampNeg) / (6 : Int32)) (0 : Int32) M))) f
theorem te_78_2 {L : Nat} {xs : Nat → Int32} : ∀ (f : Nat) (x1 : Int32) (M : am_M) (q : am_M) (d2 d3 : Option Value), fd_78_2 f x1 M = some q → am_ev (tb_P L xs) 78 2 [some (.ref 89), some (.int x1), d2, d3] [] sh_A M (none, sh_A, q) := by
  intro f
  induction f with
  | zero => intro x1 M q d2 d3 h; cases h
  | succ f hk2 =>
    intro x1 M q d2 d3 h
    change (if (M 89 3) ≤ x1 then (some M) else (if (96 : Int32) ≤ x1 then (some M) else (if x1 < 0 ∨ 96 ≤ x1.toNatClampNeg then none else fd_78_31 (fd_78_2 f) 1000 x1 ((M 91 x1.toNatClampNeg) / (6 : Int32)) (0 : Int32) M))) = some q at h
    refine am_ev_go (pc' := (am_br .ge x1 (M 89 3) 63 10)) (L' := [some (.ref 89), some (.int x1), d2, d3]) (st' := []) (sh' := sh_A) (M' := M) 4 rfl ?_
    refine ev_ge (fun hc1 => ?_) (fun hc1 => ?_)
    · rw [if_pos hc1] at h
      cases h
      exact am_ev_ret rfl
    · rw [if_neg hc1] at h
      refine am_ev_go (pc' := (am_br .ge x1 (96 : Int32) 63 19)) (L' := [some (.ref 89), some (.int x1), d2, d3]) (st' := []) (sh' := sh_A) (M' := M) 5 rfl ?_
      refine ev_ge (fun hc2 => ?_) (fun hc2 => ?_)
      · rw [if_pos hc2] at h
        cases h
        exact am_ev_ret rfl
      · rw [if_neg hc2] at h
        refine am_ev_go (pc' := 24) (L' := [some (.ref 89), some (.int x1), d2, d3]) (st' := [.int x1, .ref 91]) (sh' := sh_A) (M' := M) 3 rfl ?_
        by_cases hg3 : x1 < 0 ∨ 96 ≤ x1.toNatClampNeg
        case pos => rw [if_pos hg3] at h; cases h
        rw [if_neg hg3] at h
        refine ev_iald rfl rfl hg3 ?_
        refine am_ev_go (pc' := 31) (L' := [some (.ref 89), some (.int x1), some (.int ((M 91 x1.toNatClampNeg) / (6 : Int32))), some (.int (0 : Int32))]) (st' := []) (sh' := sh_A) (M' := M) 5 rfl ?_
        exact te_78_31 hk2 1000 _ _ _ _ _ h
/-- CountedActors$Walk.followClosure()V -/
def fd_78 (M : am_M) : Option (am_M) := fd_78_2 1000 (0 : Int32) M
theorem te_78 {L : Nat} {xs : Nat → Int32} (M : am_M) (q : am_M) (h : fd_78  M = some q) : am_ev (tb_P L xs) 78 0 [some (.ref 89), none, none, none] [] sh_A M (none, sh_A, q) := by
  unfold fd_78 at h
  refine am_ev_go (pc' := 2) (L' := [some (.ref 89), some (.int (0 : Int32)), none, none]) (st' := []) (sh' := sh_A) (M' := M) 2 rfl ?_
  exact te_78_2 1000 _ _ _ _ _ h
/-- CountedActors$Walk.hasMet(I)Z -/
def fd_80 (a1 : Int32) (M : am_M) : Option (Int32 × am_M) := if a1 < 0 ∨ 16 ≤ a1.toNatClampNeg then none else if (M 90 a1.toNatClampNeg) = (0 : Int32) then (some ((0 : Int32), M)) else (some ((1 : Int32), M))
theorem te_80 {L : Nat} {xs : Nat → Int32} (a1 : Int32) (M : am_M) (q : Int32 × am_M) (h : fd_80 a1 M = some q) : am_ev (tb_P L xs) 80 0 [some (.ref 89), some (.int a1)] [] sh_A M (some (.int q.1), sh_A, q.2) := by
  unfold fd_80 at h
  refine am_ev_go (pc' := 5) (L' := [some (.ref 89), some (.int a1)]) (st' := [.int a1, .ref 90]) (sh' := sh_A) (M' := M) 3 rfl ?_
  by_cases hg1 : a1 < 0 ∨ 16 ≤ a1.toNatClampNeg
  case pos => rw [if_pos hg1] at h; cases h
  rw [if_neg hg1] at h
  refine ev_iald rfl rfl hg1 ?_
  refine am_ev_go (pc' := (am_br .eq (M 90 a1.toNatClampNeg) 0 13 9)) (L' := [some (.ref 89), some (.int a1)]) (st' := []) (sh' := sh_A) (M' := M) 1 rfl ?_
  refine ev_eq (fun hc2 => ?_) (fun hc2 => ?_)
  · rw [if_pos hc2] at h
    refine am_ev_go (pc' := 14) (L' := [some (.ref 89), some (.int a1)]) (st' := [.int (0 : Int32)]) (sh' := sh_A) (M' := M) 1 rfl ?_
    cases h
    exact am_ev_ret rfl
  · rw [if_neg hc2] at h
    refine am_ev_go (pc' := 14) (L' := [some (.ref 89), some (.int a1)]) (st' := [.int (1 : Int32)]) (sh' := sh_A) (M' := M) 2 rfl ?_
    cases h
    exact am_ev_ret rfl
/-- CountedActors$Heap.ownerOf(I)I -/
def fd_81 (a1 : Int32) (M : am_M) : Option (Int32 × am_M) := if a1 < 0 ∨ 16 ≤ a1.toNatClampNeg then none else some ((M 80 a1.toNatClampNeg), M)
theorem te_81 {L : Nat} {xs : Nat → Int32} (a1 : Int32) (M : am_M) (q : Int32 × am_M) (h : fd_81 a1 M = some q) : am_ev (tb_P L xs) 81 0 [some (.ref 79), some (.int a1)] [] sh_A M (some (.int q.1), sh_A, q.2) := by
  unfold fd_81 at h
  refine am_ev_go (pc' := 5) (L' := [some (.ref 79), some (.int a1)]) (st' := [.int a1, .ref 80]) (sh' := sh_A) (M' := M) 3 rfl ?_
  by_cases hg1 : a1 < 0 ∨ 16 ≤ a1.toNatClampNeg
  case pos => rw [if_pos hg1] at h; cases h
  rw [if_neg hg1] at h
  refine ev_iald rfl rfl hg1 ?_
  cases h
  exact am_ev_ret rfl
/-- CountedActors$Heap.growCount(III)V -/
def fd_82 (a1 : Int32) (a2 : Int32) (a3 : Int32) (M : am_M) : Option (am_M) := if ((a1 * (16 : Int32)) + a2) < 0 ∨ 64 ≤ ((a1 * (16 : Int32)) + a2).toNatClampNeg then none else if ((a1 * (16 : Int32)) + a2) < 0 ∨ 64 ≤ ((a1 * (16 : Int32)) + a2).toNatClampNeg then none else some (ds_w M 83 ((a1 * (16 : Int32)) + a2).toNatClampNeg ((M 83 ((a1 * (16 : Int32)) + a2).toNatClampNeg) + a3))
theorem te_82 {L : Nat} {xs : Nat → Int32} (a1 : Int32) (a2 : Int32) (a3 : Int32) (M : am_M) (q : am_M) (h : fd_82 a1 a2 a3 M = some q) : am_ev (tb_P L xs) 82 0 [some (.ref 79), some (.int a1), some (.int a2), some (.int a3)] [] sh_A M (none, sh_A, q) := by
  unfold fd_82 at h
  refine am_ev_go (pc' := 11) (L' := [some (.ref 79), some (.int a1), some (.int a2), some (.int a3)]) (st' := [.int ((a1 * (16 : Int32)) + a2), .ref 83, .int ((a1 * (16 : Int32)) + a2), .ref 83]) (sh' := sh_A) (M' := M) 8 rfl ?_
  by_cases hg1 : ((a1 * (16 : Int32)) + a2) < 0 ∨ 64 ≤ ((a1 * (16 : Int32)) + a2).toNatClampNeg
  case pos => rw [if_pos hg1] at h; cases h
  rw [if_neg hg1] at h
  refine ev_iald rfl rfl hg1 ?_
  refine am_ev_go (pc' := 14) (L' := [some (.ref 79), some (.int a1), some (.int a2), some (.int a3)]) (st' := [.int ((M 83 ((a1 * (16 : Int32)) + a2).toNatClampNeg) + a3), .int ((a1 * (16 : Int32)) + a2), .ref 83]) (sh' := sh_A) (M' := M) 2 rfl ?_
  by_cases hg2 : ((a1 * (16 : Int32)) + a2) < 0 ∨ 64 ≤ ((a1 * (16 : Int32)) + a2).toNatClampNeg
  case pos => rw [if_pos hg2] at h; cases h
  rw [if_neg hg2] at h
  refine ev_iast rfl rfl hg2 ?_
  cases h
  exact am_ev_ret rfl
def fd_74_73 (k26 : Int32 → Int32 → am_M → Option (am_M)) (x1 : Int32) (x4 : Int32) (M : am_M) : Option (am_M) := k26 x1 (x4 + (1 : Int32)) M
theorem te_74_73 {L : Nat} {xs : Nat → Int32} {k26 : Int32 → Int32 → am_M → Option (am_M)} (hk26 : ∀ (x1 : Int32) (x4 : Int32) (M : am_M) (q : am_M) (e2 e3 : Option Value), k26 x1 x4 M = some q → am_ev (tb_P L xs) 74 26 [some (.ref 94), some (.int x1), e2, e3, some (.int x4)] [] sh_A M (none, sh_A, q)) (x1 : Int32) (x4 : Int32) (M : am_M) (q : am_M) (d2 d3 : Option Value) (h : fd_74_73 k26 x1 x4 M = some q) : am_ev (tb_P L xs) 74 73 [some (.ref 94), some (.int x1), d2, d3, some (.int x4)] [] sh_A M (none, sh_A, q) := by
  unfold fd_74_73 at h
  refine am_ev_go (pc' := 26) (L' := [some (.ref 94), some (.int x1), d2, d3, some (.int (x4 + (1 : Int32)))]) (st' := []) (sh' := sh_A) (M' := M) 2 rfl ?_
  exact hk26 _ _ _ _ _ _ h
def fd_74_70 (k26 : Int32 → Int32 → am_M → Option (am_M)) (x1 : Int32) (x4 : Int32) (y1 : Int32) (y2 : Int32) (y3 : Int32) (M : am_M) : Option (am_M) := (fd_82 y1 y2 y3 M).bind fun q1 => fd_74_73 k26 x1 x4 q1
theorem te_74_70 {L : Nat} {xs : Nat → Int32} {k26 : Int32 → Int32 → am_M → Option (am_M)} (hk26 : ∀ (x1 : Int32) (x4 : Int32) (M : am_M) (q : am_M) (e2 e3 : Option Value), k26 x1 x4 M = some q → am_ev (tb_P L xs) 74 26 [some (.ref 94), some (.int x1), e2, e3, some (.int x4)] [] sh_A M (none, sh_A, q)) (x1 : Int32) (x4 : Int32) (y1 : Int32) (y2 : Int32) (y3 : Int32) (M : am_M) (q : am_M) (d2 d3 : Option Value) (h : fd_74_70 k26 x1 x4 y1 y2 y3 M = some q) : am_ev (tb_P L xs) 74 70 [some (.ref 94), some (.int x1), d2, d3, some (.int x4)] [.int y3, .int y2, .int y1, .ref 79] sh_A M (none, sh_A, q) := by
  unfold fd_74_70 at h
  obtain ⟨q1, hq2, h⟩ := Option.bind_eq_some_iff.mp h
  refine am_ev_call (mj := 82) (as := [.ref 79, .int y1, .int y2, .int y3]) (rest := []) (rv := none) (sh' := sh_A) (M' := q1) rfl (te_82 _ _ _ _ _ hq2) ?_
  show am_ev _ 74 73 [some (.ref 94), some (.int x1), d2, d3, some (.int x4)] [] sh_A q1 _
  exact te_74_73 hk26 _ _ _ _ _ _ h
def fd_74_26 (f : Nat) : Int32 → Int32 → am_M → Option (am_M) := Nat.rec (motive := fun _ => Int32 → Int32 → am_M → Option (am_M)) (fun _ _ _ => none) (fun _ k26 => fun x1 x4 M => if (16 : Int32) ≤ x4 then (some M) else ((fd_80 x4 M).bind fun q2 => if q2.1 = (0 : Int32) then (fd_74_73 k26 x1 x4 q2.2) else ((fd_81 x4 q2.2).bind fun q5 => if q5.1 = x1 then (fd_74_70 k26 x1 x4 x1 x4 (-1 : Int32) q5.2) else (fd_74_70 k26 x1 x4 x1 x4 (1 : Int32) q5.2)))) f
theorem te_74_26 {L : Nat} {xs : Nat → Int32} : ∀ (f : Nat) (x1 : Int32) (x4 : Int32) (M : am_M) (q : am_M) (d2 d3 : Option Value), fd_74_26 f x1 x4 M = some q → am_ev (tb_P L xs) 74 26 [some (.ref 94), some (.int x1), d2, d3, some (.int x4)] [] sh_A M (none, sh_A, q) := by
  intro f
  induction f with
  | zero => intro x1 x4 M q d2 d3 h; cases h
  | succ f hk26 =>
    intro x1 x4 M q d2 d3 h
    change (if (16 : Int32) ≤ x4 then (some M) else ((fd_80 x4 M).bind fun q2 => if q2.1 = (0 : Int32) then (fd_74_73 (fd_74_26 f) x1 x4 q2.2) else ((fd_81 x4 q2.2).bind fun q5 => if q5.1 = x1 then (fd_74_70 (fd_74_26 f) x1 x4 x1 x4 (-1 : Int32) q5.2) else (fd_74_70 (fd_74_26 f) x1 x4 x1 x4 (1 : Int32) q5.2)))) = some q at h
    refine am_ev_go (pc' := (am_br .ge x4 (16 : Int32) 79 33)) (L' := [some (.ref 94), some (.int x1), d2, d3, some (.int x4)]) (st' := []) (sh' := sh_A) (M' := M) 3 rfl ?_
    refine ev_ge (fun hc1 => ?_) (fun hc1 => ?_)
    · rw [if_pos hc1] at h
      cases h
      exact am_ev_ret rfl
    · rw [if_neg hc1] at h
      refine am_ev_go (pc' := 39) (L' := [some (.ref 94), some (.int x1), d2, d3, some (.int x4)]) (st' := [.int x4, .ref 89]) (sh' := sh_A) (M' := M) 3 rfl ?_
      obtain ⟨q2, hq3, h⟩ := Option.bind_eq_some_iff.mp h
      refine am_ev_call (mj := 80) (as := [.ref 89, .int x4]) (rest := []) (rv := some (.int q2.1)) (sh' := sh_A) (M' := q2.2) rfl (te_80 _ _ _ hq3) ?_
      show am_ev _ 74 42 [some (.ref 94), some (.int x1), d2, d3, some (.int x4)] [.int q2.1] sh_A q2.2 _
      refine am_ev_go (pc' := (am_br .eq q2.1 0 73 45)) (L' := [some (.ref 94), some (.int x1), d2, d3, some (.int x4)]) (st' := []) (sh' := sh_A) (M' := q2.2) 1 rfl ?_
      refine ev_eq (fun hc4 => ?_) (fun hc4 => ?_)
      · rw [if_pos hc4] at h
        exact te_74_73 hk26 _ _ _ _ _ _ h
      · rw [if_neg hc4] at h
        refine am_ev_go (pc' := 58) (L' := [some (.ref 94), some (.int x1), d2, d3, some (.int x4)]) (st' := [.int x4, .ref 79, .int x4, .int x1, .ref 79]) (sh' := sh_A) (M' := q2.2) 7 rfl ?_
        obtain ⟨q5, hq6, h⟩ := Option.bind_eq_some_iff.mp h
        refine am_ev_call (mj := 81) (as := [.ref 79, .int x4]) (rest := [.int x4, .int x1, .ref 79]) (rv := some (.int q5.1)) (sh' := sh_A) (M' := q5.2) rfl (te_81 _ _ _ hq6) ?_
        show am_ev _ 74 61 [some (.ref 94), some (.int x1), d2, d3, some (.int x4)] [.int q5.1, .int x4, .int x1, .ref 79] sh_A q5.2 _
        refine am_ev_go (pc' := (am_br .ne q5.1 x1 69 65)) (L' := [some (.ref 94), some (.int x1), d2, d3, some (.int x4)]) (st' := [.int x4, .int x1, .ref 79]) (sh' := sh_A) (M' := q5.2) 2 rfl ?_
        refine ev_ne (fun hc7 => ?_) (fun hc7 => ?_)
        · rw [if_neg hc7] at h
          refine am_ev_go (pc' := 70) (L' := [some (.ref 94), some (.int x1), d2, d3, some (.int x4)]) (st' := [.int (1 : Int32), .int x4, .int x1, .ref 79]) (sh' := sh_A) (M' := q5.2) 1 rfl ?_
          exact te_74_70 hk26 _ _ _ _ _ _ _ _ _ h
        · rw [if_pos hc7] at h
          refine am_ev_go (pc' := 70) (L' := [some (.ref 94), some (.int x1), d2, d3, some (.int x4)]) (st' := [.int (-1 : Int32), .int x4, .int x1, .ref 79]) (sh' := sh_A) (M' := q5.2) 2 rfl ?_
          exact te_74_70 hk26 _ _ _ _ _ _ _ _ _ h
/-- CountedActors$Machine.countTaken(III)V -/
def fd_74 (a1 : Int32) (a2 : Int32) (a3 : Int32) (M : am_M) : Option (am_M) := (fd_43 a3 M).bind fun q1 => (fd_75 a2 q1.1 q1.2).bind fun q3 => (fd_78 q3).bind fun q5 => fd_74_26 1000 a1 (0 : Int32) q5
theorem te_74 {L : Nat} {xs : Nat → Int32} (a1 : Int32) (a2 : Int32) (a3 : Int32) (M : am_M) (q : am_M) (h : fd_74 a1 a2 a3 M = some q) : am_ev (tb_P L xs) 74 0 [some (.ref 94), some (.int a1), some (.int a2), some (.int a3), none] [] sh_A M (none, sh_A, q) := by
  unfold fd_74 at h
  refine am_ev_go (pc' := 10) (L' := [some (.ref 94), some (.int a1), some (.int a2), some (.int a3), none]) (st' := [.int a3, .ref 1, .int a2, .ref 89]) (sh' := sh_A) (M' := M) 6 rfl ?_
  obtain ⟨q1, hq2, h⟩ := Option.bind_eq_some_iff.mp h
  refine am_ev_call (mj := 43) (as := [.ref 1, .int a3]) (rest := [.int a2, .ref 89]) (rv := some (.int q1.1)) (sh' := sh_A) (M' := q1.2) rfl (te_43 _ _ _ hq2) ?_
  show am_ev _ 74 13 [some (.ref 94), some (.int a1), some (.int a2), some (.int a3), none] [.int q1.1, .int a2, .ref 89] sh_A q1.2 _
  obtain ⟨q3, hq4, h⟩ := Option.bind_eq_some_iff.mp h
  refine am_ev_call (mj := 75) (as := [.ref 89, .int a2, .int q1.1]) (rest := []) (rv := none) (sh' := sh_A) (M' := q3) rfl (te_75 _ _ _ _ hq4) ?_
  show am_ev _ 74 16 [some (.ref 94), some (.int a1), some (.int a2), some (.int a3), none] [] sh_A q3 _
  refine am_ev_go (pc' := 20) (L' := [some (.ref 94), some (.int a1), some (.int a2), some (.int a3), none]) (st' := [.ref 89]) (sh' := sh_A) (M' := q3) 2 rfl ?_
  obtain ⟨q5, hq6, h⟩ := Option.bind_eq_some_iff.mp h
  refine am_ev_call (mj := 78) (as := [.ref 89]) (rest := []) (rv := none) (sh' := sh_A) (M' := q5) rfl (te_78 _ _ hq6) ?_
  show am_ev _ 74 23 [some (.ref 94), some (.int a1), some (.int a2), some (.int a3), none] [] sh_A q5 _
  refine am_ev_go (pc' := 26) (L' := [some (.ref 94), some (.int a1), some (.int a2), some (.int a3), some (.int (0 : Int32))]) (st' := []) (sh' := sh_A) (M' := q5) 2 rfl ?_
  exact te_74_26 1000 _ _ _ _ _ _ h
/-- CountedActors$Program.behaviour(I)LCountedActors$Behaviour; -/
def fd_83 (a1 : Int32) (M : am_M) : Option (Nat × am_M) := if a1 < 0 ∨ 6 ≤ a1.toNatClampNeg then none else some ((7 + 12 * a1.toNatClampNeg), M)
theorem te_83 {L : Nat} {xs : Nat → Int32} (a1 : Int32) (M : am_M) (q : Nat × am_M) (h : fd_83 a1 M = some q) : am_ev (tb_P L xs) 83 0 [some (.ref 1), some (.int a1)] [] sh_A M (some (.ref q.1), sh_A, q.2) := by
  unfold fd_83 at h
  refine am_ev_go (pc' := 5) (L' := [some (.ref 1), some (.int a1)]) (st' := [.int a1, .ref 2]) (sh' := sh_A) (M' := M) 3 rfl ?_
  by_cases hg1 : a1 < 0 ∨ 6 ≤ a1.toNatClampNeg
  case pos => rw [if_pos hg1] at h; cases h
  rw [if_neg hg1] at h
  obtain ⟨hb2, hy__7___12___a1_toNatClampNeg_⟩ := sh_beh hg1
  refine ev_aald (ta := 4) (g := sh_gB) rfl rfl (by decide) hg1 hb2 ?_
  cases h
  exact am_ev_ret rfl
theorem tr_83 {a1 : Int32} {M : am_M} {q : Nat × am_M} (h : fd_83 a1 M = some q) : sh_bh q.1 := by
  unfold fd_83 at h
  by_cases hg : a1 < 0 ∨ 6 ≤ a1.toNatClampNeg
  · rw [if_pos hg] at h; cases h
  · rw [if_neg hg] at h; cases h; exact (sh_beh hg).2
/-- CountedActors$Heap.hold(III)V -/
def fd_89 (a1 : Int32) (a2 : Int32) (a3 : Int32) (M : am_M) : Option (am_M) := if ((a1 * (6 : Int32)) + a2) < 0 ∨ 120 ≤ ((a1 * (6 : Int32)) + a2).toNatClampNeg then none else some (ds_w M 82 ((a1 * (6 : Int32)) + a2).toNatClampNeg a3)
theorem te_89 {L : Nat} {xs : Nat → Int32} (a1 : Int32) (a2 : Int32) (a3 : Int32) (M : am_M) (q : am_M) (h : fd_89 a1 a2 a3 M = some q) : am_ev (tb_P L xs) 89 0 [some (.ref 79), some (.int a1), some (.int a2), some (.int a3)] [] sh_A M (none, sh_A, q) := by
  unfold fd_89 at h
  refine am_ev_go (pc' := 11) (L' := [some (.ref 79), some (.int a1), some (.int a2), some (.int a3)]) (st' := [.int a3, .int ((a1 * (6 : Int32)) + a2), .ref 82]) (sh' := sh_A) (M' := M) 8 rfl ?_
  by_cases hg1 : ((a1 * (6 : Int32)) + a2) < 0 ∨ 120 ≤ ((a1 * (6 : Int32)) + a2).toNatClampNeg
  case pos => rw [if_pos hg1] at h; cases h
  rw [if_neg hg1] at h
  refine ev_iast rfl rfl hg1 ?_
  cases h
  exact am_ev_ret rfl
def fd_88_30 (f : Nat) : Int32 → Int32 → am_M → Option (am_M) := Nat.rec (motive := fun _ => Int32 → Int32 → am_M → Option (am_M)) (fun _ _ _ => none) (fun _ k30 => fun x1 x2 M => if (4 : Int32) ≤ x2 then (some M) else (if ((x2 * (16 : Int32)) + x1) < 0 ∨ 64 ≤ ((x2 * (16 : Int32)) + x1).toNatClampNeg then none else k30 x1 (x2 + (1 : Int32)) (ds_w M 83 ((x2 * (16 : Int32)) + x1).toNatClampNeg (0 : Int32)))) f
theorem te_88_30 {L : Nat} {xs : Nat → Int32} : ∀ (f : Nat) (x1 : Int32) (x2 : Int32) (M : am_M) (q : am_M), fd_88_30 f x1 x2 M = some q → am_ev (tb_P L xs) 88 30 [some (.ref 79), some (.int x1), some (.int x2)] [] sh_A M (none, sh_A, q) := by
  intro f
  induction f with
  | zero => intro x1 x2 M q h; cases h
  | succ f hk30 =>
    intro x1 x2 M q h
    change (if (4 : Int32) ≤ x2 then (some M) else (if ((x2 * (16 : Int32)) + x1) < 0 ∨ 64 ≤ ((x2 * (16 : Int32)) + x1).toNatClampNeg then none else (fd_88_30 f) x1 (x2 + (1 : Int32)) (ds_w M 83 ((x2 * (16 : Int32)) + x1).toNatClampNeg (0 : Int32)))) = some q at h
    refine am_ev_go (pc' := (am_br .ge x2 (4 : Int32) 53 35)) (L' := [some (.ref 79), some (.int x1), some (.int x2)]) (st' := []) (sh' := sh_A) (M' := M) 3 rfl ?_
    refine ev_ge (fun hc1 => ?_) (fun hc1 => ?_)
    · rw [if_pos hc1] at h
      cases h
      exact am_ev_ret rfl
    · rw [if_neg hc1] at h
      refine am_ev_go (pc' := 46) (L' := [some (.ref 79), some (.int x1), some (.int x2)]) (st' := [.int (0 : Int32), .int ((x2 * (16 : Int32)) + x1), .ref 83]) (sh' := sh_A) (M' := M) 8 rfl ?_
      by_cases hg2 : ((x2 * (16 : Int32)) + x1) < 0 ∨ 64 ≤ ((x2 * (16 : Int32)) + x1).toNatClampNeg
      case pos => rw [if_pos hg2] at h; cases h
      rw [if_neg hg2] at h
      refine ev_iast rfl rfl hg2 ?_
      refine am_ev_go (pc' := 30) (L' := [some (.ref 79), some (.int x1), some (.int (x2 + (1 : Int32)))]) (st' := []) (sh' := sh_A) (M' := (ds_w M 83 ((x2 * (16 : Int32)) + x1).toNatClampNeg (0 : Int32))) 2 rfl ?_
      exact hk30 _ _ _ _ h
def fd_88_9 (f : Nat) : Int32 → Int32 → am_M → Option (am_M) := Nat.rec (motive := fun _ => Int32 → Int32 → am_M → Option (am_M)) (fun _ _ _ => none) (fun _ k9 => fun x1 x2 M => if (6 : Int32) ≤ x2 then (fd_88_30 1000 x1 (0 : Int32) M) else ((fd_89 x1 x2 (-1 : Int32) M).bind fun q2 => k9 x1 (x2 + (1 : Int32)) q2)) f
theorem te_88_9 {L : Nat} {xs : Nat → Int32} : ∀ (f : Nat) (x1 : Int32) (x2 : Int32) (M : am_M) (q : am_M), fd_88_9 f x1 x2 M = some q → am_ev (tb_P L xs) 88 9 [some (.ref 79), some (.int x1), some (.int x2)] [] sh_A M (none, sh_A, q) := by
  intro f
  induction f with
  | zero => intro x1 x2 M q h; cases h
  | succ f hk9 =>
    intro x1 x2 M q h
    change (if (6 : Int32) ≤ x2 then (fd_88_30 1000 x1 (0 : Int32) M) else ((fd_89 x1 x2 (-1 : Int32) M).bind fun q2 => (fd_88_9 f) x1 (x2 + (1 : Int32)) q2)) = some q at h
    refine am_ev_go (pc' := (am_br .ge x2 (6 : Int32) 28 15)) (L' := [some (.ref 79), some (.int x1), some (.int x2)]) (st' := []) (sh' := sh_A) (M' := M) 3 rfl ?_
    refine ev_ge (fun hc1 => ?_) (fun hc1 => ?_)
    · rw [if_pos hc1] at h
      refine am_ev_go (pc' := 30) (L' := [some (.ref 79), some (.int x1), some (.int (0 : Int32))]) (st' := []) (sh' := sh_A) (M' := M) 2 rfl ?_
      exact te_88_30 1000 _ _ _ _ h
    · rw [if_neg hc1] at h
      refine am_ev_go (pc' := 19) (L' := [some (.ref 79), some (.int x1), some (.int x2)]) (st' := [.int (-1 : Int32), .int x2, .int x1, .ref 79]) (sh' := sh_A) (M' := M) 4 rfl ?_
      obtain ⟨q2, hq3, h⟩ := Option.bind_eq_some_iff.mp h
      refine am_ev_call (mj := 89) (as := [.ref 79, .int x1, .int x2, .int (-1 : Int32)]) (rest := []) (rv := none) (sh' := sh_A) (M' := q2) rfl (te_89 _ _ _ _ _ hq3) ?_
      show am_ev _ 88 22 [some (.ref 79), some (.int x1), some (.int x2)] [] sh_A q2 _
      refine am_ev_go (pc' := 9) (L' := [some (.ref 79), some (.int x1), some (.int (x2 + (1 : Int32)))]) (st' := []) (sh' := sh_A) (M' := q2) 2 rfl ?_
      exact hk9 _ _ _ _ h
/-- CountedActors$Heap.clear(I)V -/
def fd_88 (a1 : Int32) (M : am_M) : Option (am_M) := if a1 < 0 ∨ 16 ≤ a1.toNatClampNeg then none else fd_88_9 1000 a1 (0 : Int32) (ds_w M 81 a1.toNatClampNeg (0 : Int32))
theorem te_88 {L : Nat} {xs : Nat → Int32} (a1 : Int32) (M : am_M) (q : am_M) (h : fd_88 a1 M = some q) : am_ev (tb_P L xs) 88 0 [some (.ref 79), some (.int a1), none] [] sh_A M (none, sh_A, q) := by
  unfold fd_88 at h
  refine am_ev_go (pc' := 6) (L' := [some (.ref 79), some (.int a1), none]) (st' := [.int (0 : Int32), .int a1, .ref 81]) (sh' := sh_A) (M' := M) 4 rfl ?_
  by_cases hg1 : a1 < 0 ∨ 16 ≤ a1.toNatClampNeg
  case pos => rw [if_pos hg1] at h; cases h
  rw [if_neg hg1] at h
  refine ev_iast rfl rfl hg1 ?_
  refine am_ev_go (pc' := 9) (L' := [some (.ref 79), some (.int a1), some (.int (0 : Int32))]) (st' := []) (sh' := sh_A) (M' := (ds_w M 81 a1.toNatClampNeg (0 : Int32))) 2 rfl ?_
  exact te_88_9 1000 _ _ _ _ h
